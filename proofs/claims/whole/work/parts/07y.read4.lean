/-! the whole text read, on both sides -/
theorem hd_m_G {τ τ' : hj_Ob} {D : hp_D} (h : τ'.2 = τ.2) (h7 : τ'.1 7 = τ.1 7) (h8 : τ'.1 8 = τ.1 8) (hm : hd_m τ D) : hd_m τ' D := by
  unfold hd_m
  rw [h, h7, h8]
  exact hm
theorem m_r93 {τ : hj_Ob} {sd : Int64} {tx : hp_T} {D : hp_D} {i : Nat} (hu : hd_u τ tx) (hm : hd_m τ D) (ho : hd_ok D) (hi : i < tx.1) (hat : τ.1 11 = nI i) (hf : τ.1 12 = -9) :
    ∃ τ', fX6_readPart_93 τ sd (nI (tx.2 i)) = some τ' ∧ hr_D τ τ' ∧ (¬ (tx.2 i = 72 ∧ ¬ hp_fs D.1 D.2.2.2.2.2 D.1 = 0) → τ'.1 12 = nI i) ∧ (tx.2 i = 72 → ¬ hp_fs D.1 D.2.2.2.2.2 D.1 = 0 → (¬ hd_b tx (i + 1) (hp_fs D.1 D.2.2.2.2.2 D.1) → τ'.1 12 = nI (i + 1)) ∧ (hd_b tx (i + 1) (hp_fs D.1 D.2.2.2.2.2 D.1) → ¬ hd_b tx (i + 2) (hp_pl D.1 D.2.2.2.2.2 (tx.2 (i + 1) - 48)) → τ'.1 12 = nI (i + 2)) ∧ (hd_b tx (i + 1) (hp_fs D.1 D.2.2.2.2.2 D.1) → hd_b tx (i + 2) (hp_pl D.1 D.2.2.2.2.2 (tx.2 (i + 1) - 48)) → τ'.1 12 = -9 ∧ τ'.1 11 = nI (i + 3) ∧ hd_m τ' (hd_p D (tx.2 (i + 1) - 48) (tx.2 (i + 2) - 48)))) := by
  have h6 := ho.1
  have h56 := hu.2.2.1
  have hc := hu.2.2.2 i hi
  have fs64 : hp_fs D.1 D.2.2.2.2.2 D.1 < 64 := hp_t64 h6 (hp_fs_b (n := D.1) (E := D.2.2.2.2.2) D.1 h6).1
  unfold fX6_readPart_93
  rw [m_fl hm ho, ev_o1]
  simp only [show (nI (tx.2 i) = 72) = (tx.2 i = 72) from ev_eq (b := 72) (by omega) (by omega), show (nI (hp_fs D.1 D.2.2.2.2.2 D.1) = 0) = (hp_fs D.1 D.2.2.2.2.2 D.1 = 0) from ev_eq (b := 0) (by omega) (by omega)]
  by_cases c : tx.2 i = 72
  · rw [if_pos c]
    by_cases c2 : hp_fs D.1 D.2.2.2.2.2 D.1 = 0
    · rw [if_pos c2, ev_nm, hat]
      exact ⟨_, rfl, hr_D_s (by omega), fun _ => rfl, fun _ q => absurd c2 q⟩
    · have n0 : 0 < D.1 := by
        rcases Nat.eq_zero_or_pos D.1 with e | e
        · exfalso; apply c2; rw [e]; rfl
        · exact e
      have u1 : hd_u (hj_s τ 11 (nI (i + 1))) tx := hr_D_u (hr_D_s (by omega)) hu
      have m1 : hd_m (hj_s τ 11 (nI (i + 1))) D := hm
      rw [if_neg c2, hat, nI_1, ev_nm, m_fl m1 ho, ev_o1]
      obtain ⟨r1, τ1, k1, G1, y1, n1⟩ := m_g (sd := sd) u1 (show i + 1 < 1000 by omega) rfl hf (m := hp_fs D.1 D.2.2.2.2.2 D.1) (fun k hk => m_has fs64 (by omega))
      have m2 : hd_m τ1 D := hd_m_G G1.2.1 G1.2.2.1 G1.2.2.2 m1
      have D1 : hr_D τ τ1 := hr_D_tr (hr_D_s (by omega)) G1.1
      rw [k1, ev_o2]
      have noq : ∀ v : Prop, ¬ (tx.2 i = 72 ∧ ¬ hp_fs D.1 D.2.2.2.2.2 D.1 = 0) → v := fun v q => absurd ⟨c, c2⟩ q
      have wr : ∀ (τ3 : hj_Ob) (j f : Nat), hr_D τ τ3 → j < 6 → f < 1000 → τ3.1 12 = nI f → ∃ τ', hj_ck (nI j) 6 (if (τ3.1 12) = (-9) then (hj_ck (nI j) 6 (hj_nm (hj_a τ3 6 (nI j) ((τ3.2 6 (nI j).toNatClampNeg) ||| ((1 : Int32) <<< ((0 : Int32) &&& 31)))) fun τ19 => some τ19)) else (hj_ck (nI j) 6 (hj_nm (hj_a τ3 6 (nI j) ((τ3.2 6 (nI j).toNatClampNeg) ||| 0)) fun τ17 => some τ17))) = some τ' ∧ hr_D τ τ' ∧ τ'.1 12 = nI f := by
        intro τ3 j f hD hj hf3 h12
        rw [ck_k hj (by decide), if_neg (by rw [h12]; exact m_ff_i hf3), ck_k hj (by decide), ev_nm]
        exact ⟨_, rfl, hr_D_tr hD (hr_D_a (by omega)), h12⟩
      by_cases b1 : hd_b tx (i + 1) (hp_fs D.1 D.2.2.2.2.2 D.1)
      · obtain ⟨q1, q2, q3⟩ := y1 b1
        obtain ⟨p1, p2⟩ := hd_first ho b1
        have plt := hp_pl_lt (n := D.1) (E := D.2.2.2.2.2) (j := tx.2 (i + 1) - 48) h6
        obtain ⟨r2, τ3, k3, G3, y3, n3⟩ := m_g (sd := sd) (hr_D_u D1 hu) (show i + 2 < 1000 by omega) q2 q3 (m := hp_pl D.1 D.2.2.2.2.2 (tx.2 (i + 1) - 48)) (fun k hk => m_has plt (by omega))
        rw [q1, m_left m2 ho p1, ev_o1, k3, ev_o2]
        by_cases b2 : hd_b tx (i + 2) (hp_pl D.1 D.2.2.2.2.2 (tx.2 (i + 1) - 48))
        · obtain ⟨s1, s2, s3⟩ := y3 b2
          have k6 := hd_second ho b2
          have m3 : hd_m τ3 D := hd_m_G G3.2.1 G3.2.2.1 G3.2.2.2 m2
          rw [ck_k (by omega) (by decide), s3, if_pos rfl, ck_k (by omega) (by decide), ev_cl (by omega), s1, hp_pw (by omega), (m3.2.2.1 _ p1).2.2.2, hp_or, ev_nm]
          refine ⟨_, rfl, hr_D_tr D1 (hr_D_tr G3.1 (hr_D_a (by omega))), noq _, fun _ _ => ⟨fun w => absurd b1 w, fun _ w => absurd b2 w, fun _ _ => ⟨s3, s2, m3.1, m3.2.1, fun j hj => ?_, fun j h1 h2 => ?_⟩⟩⟩
          · obtain ⟨w1, w2, w3, w4⟩ := m3.2.2.1 j hj
            rw [wx_a_ne (show 5 ≠ 6 by decide)]
            refine ⟨w1, w2, w3, ?_⟩
            rw [wx_a_se, ev_upd, ev_cl (by omega)]
            show _ = nI (va_up D.2.2.2.2.2 (tx.2 (i + 1) - 48) _ j)
            by_cases e : j = tx.2 (i + 1) - 48
            · rw [if_pos e, e, va_up_self]
            · rw [if_neg e, va_up_ne _ _ e]; exact w4
          · have h1 : D.1 ≤ j := h1
            rw [wx_a_se, ev_upd, ev_cl (by omega), if_neg (by omega)]
            exact m3.2.2.2 j h1 h2
        · obtain ⟨s1, s2⟩ := n3 b2
          rw [s1]
          obtain ⟨τ', w1, w2, w3⟩ := wr τ3 (tx.2 (i + 1) - 48) (i + 2) (hr_D_tr D1 G3.1) (by omega) (by omega) s2
          exact ⟨τ', w1, w2, noq _, fun _ _ => ⟨fun w => absurd b1 w, fun _ _ => w3, fun _ w => absurd w b2⟩⟩
      · obtain ⟨q1, q2⟩ := n1 b1
        obtain ⟨τ3, k3, G3, e3⟩ := m_gf (sd := sd) q2 (by omega) (nI (hp_pl D.1 D.2.2.2.2.2 0))
        rw [q1, show fX6_left τ1 sd 0 = _ from m_left m2 ho n0, ev_o1, k3, ev_o2]
        obtain ⟨τ', w1, w2, w3⟩ := wr τ3 0 (i + 1) (hr_D_tr D1 G3.1) (by omega) (by omega) e3
        exact ⟨τ', w1, w2, noq _, fun _ _ => ⟨fun _ => w3, fun w => absurd w b1, fun w => absurd w b1⟩⟩
  · rw [if_neg c, ev_nm, hat]
    exact ⟨_, rfl, hr_D_s (by omega), fun _ => rfl, fun q => absurd q c⟩
def hd_Q (τ0 : hj_Ob) (e : (Int32 × hj_Ob) ⊕ hj_Ob) (e' : hj_Ob) : Prop := (∃ f ρ', f < 1000 ∧ e = .inl (nI f, ρ') ∧ e'.1 12 = nI f ∧ hr_D τ0 e') ∨ (∃ ρ' D, e = .inr ρ' ∧ e'.1 12 = -9 ∧ hr_D τ0 e' ∧ hd_x ρ' D ∧ hd_m e' D ∧ hd_ok D)
theorem b_loop {t ρ τ τ0 : hj_Ob} {sd : Int64} {tx : hp_T} {D : hp_D} (ht : hd_t t tx) (hu : hd_u τ0 tx) (hD : hr_D τ0 τ) (hx : hd_x ρ D) (hm : hd_m τ D) (ho : hd_ok D) (hat : τ.1 11 = nI 2) (hf : τ.1 12 = -9) :
    ∃ e e', hj_lp (fun q : (Int32 × hj_Ob) => fX1_readFrom_51 t q.2 q.1) 100 (2, ρ) = some e ∧ hj_lp (fun q : hj_Ob => fX6_readText_72 q sd) 100 τ = some e' ∧ hd_Q τ0 e e' := by
  have h56 := ht.2.2.1
  refine lp_3 (b := fun q : (Int32 × hj_Ob) => fX1_readFrom_51 t q.2 q.1) (b' := fun q : hj_Ob => fX6_readText_72 q sd)
    (fun i s s' => ∃ p D, 2 + 3 * i ≤ p ∧ p ≤ 2 + 4 * i ∧ s.1 = nI p ∧ hd_x s.2 D ∧ hd_m s' D ∧ hd_ok D ∧ hr_D τ0 s' ∧ s'.1 11 = nI p ∧ s'.1 12 = -9)
    (hd_Q τ0) 19 (fun i s s' hi hI => ?_) 100 100 0 (2, ρ) τ (by omega) (by omega) (by omega) ⟨2, D, by omega, by omega, rfl, hx, hm, ho, hD, hat, hf⟩
  obtain ⟨y, r⟩ := s
  obtain ⟨p, D, hp1, hp2, e1, hx, hm, ho, hD, hat, hf⟩ := hI
  dsimp only at e1 hx ⊢
  subst e1
  have h6 := ho.1
  have u := hr_D_u hD hu
  have ex : ∀ (f : Nat) (ρ' t' : hj_Ob), f < 1000 → hr_D τ0 t' → t'.1 12 = nI f → (∃ e', fX6_readText_72 t' sd = some (.inl e') ∧ hd_Q τ0 (.inl (nI f, ρ')) e') := by
    intro f ρ' t' hf1 hD1 h12
    unfold fX6_readText_72
    rw [if_neg (by rw [h12]; exact m_ff_i hf1)]
    exact ⟨_, rfl, Or.inl ⟨f, ρ', hf1, rfl, h12, hD1⟩⟩
  unfold fX1_readFrom_51
  rw [ht.1]
  have er : fX6_readText_72 s' sd = if tx.1 ≤ p then some (.inl s') else (hj_o1 (fX6_readPart s' sd (nI (tx.2 p))) fun τ19 => some (.inr τ19)) := by
    unfold fX6_readText_72
    rw [if_pos hf, u.1, hat]
    simp only [show (nI tx.1 ≤ nI p) = (tx.1 ≤ p) from ev_le (by omega) (by omega)]
    by_cases c : tx.1 ≤ p
    · rw [if_pos c, if_pos c]
    · rw [if_neg c, if_neg c, ck_k (by omega) (by decide), ev_cl (by omega), u.2.1 p (by omega)]
  rw [er]
  simp only [show (nI tx.1 ≤ nI p) = (tx.1 ≤ p) from ev_le (by omega) (by omega)]
  by_cases c : tx.1 ≤ p
  · rw [if_pos c, if_pos c]
    exact Or.inl ⟨_, _, rfl, rfl, Or.inr ⟨_, D, rfl, hf, hD, hx, hm, ho⟩⟩
  · have hp : p < tx.1 := by omega
    have hcp := ht.2.2.2 p hp
    rw [if_neg c, if_neg c, x_let ht (by omega), ev_o1, if_pos hp]
    simp only [show (nI (tx.2 p) = 80) = (tx.2 p = 80) from ev_eq (b := 80) (by omega) (by omega)]
    have f94 : ∀ (f : Nat) (ρ' : hj_Ob) (z : Int32), f < 1000 → fX1_readFrom_94 t ρ' (nI p) z (nI f) = some (.inl (.inl (nI f, ρ'))) := by
      intro f ρ' z hf1
      unfold fX1_readFrom_94
      rw [if_neg (m_ff_i hf1)]
    -- a fault
    have flt : ∀ (z : Int32) (f : Nat) (t' : hj_Ob), f < 1000 → fX6_readPart s' sd (nI (tx.2 p)) = some t' → hr_D s' t' → t'.1 12 = nI f → fX1_readFrom_74 t r (nI p) z = some (.inl (.inl (nI f, r))) → (∃ e e', fX1_readFrom_74 t r (nI p) z = some (.inl e) ∧ (hj_o1 (fX6_readPart s' sd (nI (tx.2 p))) fun τ19 => (some (.inr τ19) : Option (hj_Ob ⊕ hj_Ob))) = some (.inl e') ∧ hd_Q τ0 e e') ∨ (∃ e t' e', fX1_readFrom_74 t r (nI p) z = some (.inl e) ∧ (hj_o1 (fX6_readPart s' sd (nI (tx.2 p))) fun τ19 => (some (.inr τ19) : Option (hj_Ob ⊕ hj_Ob))) = some (.inr t') ∧ fX6_readText_72 t' sd = some (.inl e') ∧ hd_Q τ0 e e') ∨ (i < 19 ∧ ∃ w w', fX1_readFrom_74 t r (nI p) z = some (.inr w) ∧ (hj_o1 (fX6_readPart s' sd (nI (tx.2 p))) fun τ19 => (some (.inr τ19) : Option (hj_Ob ⊕ hj_Ob))) = some (.inr w') ∧ ∃ p D, 2 + 3 * (i + 1) ≤ p ∧ p ≤ 2 + 4 * (i + 1) ∧ w.1 = nI p ∧ hd_x w.2 D ∧ hd_m w' D ∧ hd_ok D ∧ hr_D τ0 w' ∧ w'.1 11 = nI p ∧ w'.1 12 = -9) := by
      intro z f t' hf1 k1 k2 k3 k4
      obtain ⟨e', j1, j2⟩ := ex f r t' hf1 (hr_D_tr hD k2) k3
      exact Or.inr (Or.inl ⟨_, t', e', k4, by rw [k1, ev_o1], j1, j2⟩)
    by_cases c80 : tx.2 p = 80
    · rw [if_pos c80]
      obtain ⟨x1, x2⟩ := x_rj ht hx ho (i := p) (by omega)
      have e74 : ∀ v ρ', fX1_readJuror t r (nI p) = some (v, ρ') → fX1_readFrom_74 t r (nI p) 1 = fX1_readFrom_94 t ρ' (nI p) 1 v := by
        intro v ρ' q
        unfold fX1_readFrom_74
        rw [if_neg i10, q, ev_o2]
      by_cases n6 : 6 ≤ D.1
      · obtain ⟨t', k1, k2, k3, k4⟩ := m_r93 (sd := sd) u hm ho hp hat hf
        have k1' : fX6_readPart s' sd (nI (tx.2 p)) = some t' := by
          rw [← k1]
          unfold fX6_readPart
          rw [c80, if_pos (show nI 80 = 80 from rfl), hm.1, if_pos (by rw [show (6 : Int32) = nI 6 from rfl, ev_le (by omega) (by omega)]; exact n6)]
        exact flt 1 p t' (by omega) k1' k2 (k3 (fun q => by omega)) (by rw [e74 _ _ (x1 n6)]; exact f94 p r 1 (by omega))
      · obtain ⟨x3, x4, x5, x6⟩ := x2 (by omega)
        obtain ⟨t', k1, k2, k3, k4, k5, k6⟩ := m_rj (sd := sd) u hm ho (i := p) (by omega) (by omega) hat hf
        have k1' : fX6_readPart s' sd (nI (tx.2 p)) = some t' := by rw [c80]; exact k1
        by_cases f1 : hd_f tx (p + 1) 0 1
        · by_cases f2 : hd_f tx (p + 2) 1 9
          · by_cases f3 : hd_f tx (p + 3) 0 3
            · obtain ⟨ρ', j1, j2⟩ := x6 f1 f2 f3
              obtain ⟨q1, q2, q3⟩ := k6 f1 f2 f3
              refine Or.inr (Or.inr ⟨by omega, (nI (p + 4), ρ'), t', ?_, by rw [k1', ev_o1], p + 4, _, by omega, by omega, rfl, j2, q3, hd_j_ok ho (by omega) (by omega) (by omega) (by omega), hr_D_tr hD k2, q2, q1⟩)
              rw [e74 _ _ j1]
              unfold fX1_readFrom_94
              rw [if_pos rfl, if_neg i10, ev_nm, show nI p + 4 = nI (p + 4) from nI_add p 4]
            · exact flt 1 (p + 3) t' (by omega) k1' k2 (k5 f1 f2 f3) (by rw [e74 _ _ (x5 f1 f2 f3)]; exact f94 _ r 1 (by omega))
          · exact flt 1 (p + 2) t' (by omega) k1' k2 (k4 f1 f2) (by rw [e74 _ _ (x4 f1 f2)]; exact f94 _ r 1 (by omega))
        · exact flt 1 (p + 1) t' (by omega) k1' k2 (k3 f1) (by rw [e74 _ _ (x3 f1)]; exact f94 _ r 1 (by omega))
    · rw [if_neg c80]
      obtain ⟨x1, x2⟩ := x_rp ht hx ho hp
      have e74 : ∀ v ρ', fX1_readPair t r (nI p) = some (v, ρ') → fX1_readFrom_74 t r (nI p) 0 = fX1_readFrom_94 t ρ' (nI p) 0 v := by
        intro v ρ' q
        unfold fX1_readFrom_74
        rw [if_pos i00, q, ev_o2]
      obtain ⟨t', k1, k2, k3, k4⟩ := m_r93 (sd := sd) u hm ho hp hat hf
      have k1' : fX6_readPart s' sd (nI (tx.2 p)) = some t' := by
        rw [← k1]
        unfold fX6_readPart
        rw [if_neg (by rw [show (nI (tx.2 p) = 80) = (tx.2 p = 80) from ev_eq (b := 80) (by omega) (by omega)]; exact c80)]
      by_cases g0 : tx.2 p = 72 ∧ ¬ hp_fs D.1 D.2.2.2.2.2 D.1 = 0
      · obtain ⟨k5, k6, k7⟩ := k4 g0.1 g0.2
        obtain ⟨x3, x4, x5⟩ := x2 g0.1 g0.2
        by_cases b1 : hd_b tx (p + 1) (hp_fs D.1 D.2.2.2.2.2 D.1)
        · by_cases b2 : hd_b tx (p + 2) (hp_pl D.1 D.2.2.2.2.2 (tx.2 (p + 1) - 48))
          · obtain ⟨ρ', j1, j2⟩ := x5 b1 b2
            obtain ⟨q1, q2, q3⟩ := k7 b1 b2
            refine Or.inr (Or.inr ⟨by omega, (nI (p + 3), ρ'), t', ?_, by rw [k1', ev_o1], p + 3, _, by omega, by omega, rfl, j2, q3, hd_p_ok ho (hd_first ho b1).1 (hd_second ho b2), hr_D_tr hD k2, q2, q1⟩)
            rw [e74 _ _ j1]
            unfold fX1_readFrom_94
            rw [if_pos rfl, if_pos i00, ev_nm, show nI p + 3 = nI (p + 3) from nI_add p 3]
          · exact flt 0 (p + 2) t' (by omega) k1' k2 (k6 b1 b2) (by rw [e74 _ _ (x4 b1 b2)]; exact f94 _ r 0 (by omega))
        · exact flt 0 (p + 1) t' (by omega) k1' k2 (k5 b1) (by rw [e74 _ _ (x3 b1)]; exact f94 _ r 0 (by omega))
      · exact flt 0 p t' (by omega) k1' k2 (k3 g0) (by rw [e74 _ _ (x1 g0)]; exact f94 _ r 0 (by omega))
