/-! toFeed and strike -/
def hp_dos (P : hp_P) (d s : Nat) (a : hp_R) : Nat → hp_R
  | 0 => a
  | k + 1 => if hp_b s k = 1 then hp_do P d k (hp_dos P d s a k) else hp_dos P d s a k
theorem hp_dos_n {P : hp_P} {d s n : Nat} {a : hp_R} (hs : s < 2 ^ n) : ∀ k, hp_dos P d s a (n + k) = hp_dos P d s a n
  | 0 => rfl
  | k + 1 => by
    show (if hp_b s (n + k) = 1 then hp_do P d (n + k) (hp_dos P d s a (n + k)) else hp_dos P d s a (n + k)) = _
    rw [if_neg (fun e => by have := hp_bn hs e; omega), hp_dos_n hs k]
theorem hp_dos_ok {P : hp_P} {d s n B : Nat} {a : hp_R} (hn : n ≤ 6) (ho : hp_okR n B a) (hB : 0 < B) : ∀ k, k ≤ 6 → hp_okR n (B + k) (hp_dos P d s a k)
  | 0, _ => ho
  | k + 1, hk => by
    have ih := hp_dos_ok (P := P) (d := d) (s := s) hn ho hB k (by omega)
    show hp_okR n (B + (k + 1)) (if hp_b s k = 1 then hp_do P d k (hp_dos P d s a k) else hp_dos P d s a k)
    split
    · exact hp_okR_do (B := B + k) hn ih (by omega) (by omega)
    · exact okR_up ih (by omega)
theorem hp_le_all : hp_all 64 (fun s => hp_all 64 (fun t => decide (hp_n s t = 0 → s ≤ t))) = true := by decide +kernel
theorem hp_le {s t : Nat} (hs : s < 64) (ht : t < 64) (h : hp_n s t = 0) : s ≤ t := (of_decide_eq_true (hp_all_s (hp_all_s hp_le_all hs) ht)) h
theorem x_eAfter {σ : Nat → hj_Ob} {bf : Nat → Nat} {sd : Int64} {P : hp_P} {a : hp_R} {B s d : Nat} (hP : hr_P (σ 3) P) (hoP : hp_okP P) (hX : hr_X P.1 (σ 11) a) (ho : hp_okR P.1 B a) (hB : B < 2 ^ 20) (hs : s < 2 ^ P.1) (hd : d < 100) :
    ∃ σ', fX5_endAfter σ bf sd (nI d) (nI s) = some (nI (hp_ev (hp_e P 20 (hp_dos P d s a P.1))), σ') ∧ ∀ k, k ≠ 14 → σ' k = σ k := by
  have h64 : s < 64 := hp_t64 hoP.1 hs
  have h6 := hoP.1
  have hB0 : 0 < B := by have := ho.2.2.1; omega
  obtain ⟨ρ1, k1, k2⟩ := x_copy (π := σ 3) (ρ := σ 14) hoP.1 hX
  unfold fX5_endAfter
  rw [k1, ev_o1, ev_nm]
  obtain ⟨e, he, q1, q2⟩ := lp_h (b := fun q : (Int32 × (Nat → hj_Ob)) => fX5_endAfter_13 q.2 bf sd (nI d) (nI s) q.1)
    (fun i q => q.1 = nI i ∧ (∀ k, k ≠ 14 → q.2 k = σ k) ∧ hr_X P.1 (q.2 14) (hp_dos P d s a i))
    (fun e => (∀ k, k ≠ 14 → e k = σ k) ∧ hr_X P.1 (e 14) (hp_dos P d s a 6)) 6
    (fun i q hi hI => by
      obtain ⟨y, t⟩ := q
      obtain ⟨e1, e2, e3⟩ := hI
      dsimp only at e1 e2 e3 ⊢
      subst e1
      unfold fX5_endAfter_13
      by_cases c : i < 6
      · have ed : hp_dos P d s a (i + 1) = if hp_b s i = 1 then hp_do P d i (hp_dos P d s a i) else hp_dos P d s a i := rfl
        have c6 : ¬ (6 : Int32) ≤ nI i := by rw [show (6 : Int32) = nI 6 from rfl, ev_le (by omega) (by omega)]; omega
        rw [if_neg c6, hp_has h64 (by omega)]
        by_cases g : hp_b s i = 1
        · obtain ⟨ρ2, j1, j2⟩ := x_do (π := t 3) (ρ := t 14) (by rw [e2 3 (by decide)]; exact hP) hoP (hp_dos_ok (P := P) (d := d) (s := s) h6 ho hB0 i (by omega)) (by omega) e3 hd c (fun _ => hp_bn hs g)
          rw [g, if_pos (show nI 1 = 1 from rfl), j1, ev_o1, ev_nm, ev_nm, nI_1]
          refine Or.inr ⟨c, _, rfl, rfl, fun k hk => ?_, ?_⟩
          · show va_up t 14 ρ2 k = _
            rw [va_up_ne _ _ hk]; exact e2 k hk
          · show hr_X P.1 (va_up t 14 ρ2 14) _
            rw [va_up_self, ed, if_pos g]; exact j2
        · have g0 : hp_b s i = 0 := by have := hp_b2 s i; omega
          rw [g0, if_neg (show ¬ nI 0 = 1 from by decide), ev_nm, nI_1]
          exact Or.inr ⟨c, _, rfl, rfl, e2, by rw [ed, if_neg g]; exact e3⟩
      · have : i = 6 := by omega
        subst this
        rw [if_pos (by decide)]
        exact Or.inl ⟨_, rfl, e2, e3⟩)
    100 0 (0, va_up σ 14 ρ1) (by omega) (by omega) ⟨rfl, fun k hk => va_up_ne _ _ hk, by show hr_X P.1 (va_up σ 14 ρ1 14) _; rw [va_up_self]; exact k2⟩
  have e6 : hp_dos P d s a 6 = hp_dos P d s a P.1 := by
    have := hp_dos_n (P := P) (d := d) (a := a) hs (6 - P.1)
    rw [show P.1 + (6 - P.1) = 6 by omega] at this
    exact this
  rw [e6] at q2
  have ok := hp_dos_ok (P := P) (d := d) (s := s) h6 ho hB0 P.1 h6
  obtain ⟨ρ', a', r1, r2, r3, r4⟩ := x_end (π := e 3) (by rw [q1 3 (by decide)]; exact hP) hoP ok (by omega) q2
  rw [he, ev_o1, r1, ev_o2, ev_nm, va_up_self, va_up_ne _ _ (show 3 ≠ 14 by decide), x_vr (by rw [q1 3 (by decide)]; exact hP) hoP r3 r2, ev_o1, r4]
  exact ⟨_, rfl, fun k hk => by rw [va_up_ne _ _ hk]; exact q1 k hk⟩
theorem x_few {σ : Nat → hj_Ob} {bf : Nat → Nat} {sd : Int64} {P : hp_P} {a : hp_R} {B d i : Nat} {x2 x3 x4 : Int32} (hP : hr_P (σ 3) P) (hoP : hp_okP P) (hX : hr_X P.1 (σ 11) a) (ho : hp_okR P.1 B a) (hB : B < 2 ^ 20) (hi : i < 64) (hd : d = 2 ∨ d = 3) :
    ∃ σ', fX5_fewestFor_10 σ bf sd (nI d) x2 x3 x4 (nI i) = (if hp_n i a.2.1 = 0 ∧ ¬ (d = 3 ∧ i = a.2.1) ∧ ¬ x4 ≤ nI (hp_c i) ∧ nI (hp_ev (hp_e P 20 (hp_dos P d i a P.1))) = x2 then some (.inr (nI i, nI (hp_c i), nI (i + 1), σ')) else some (.inr (x3, x4, nI (i + 1), σ'))) ∧ ∀ k, k ≠ 14 → σ' k = σ k := by
  have ht := hp_t64 hoP.1 ho.2.1
  have c64 : ¬ (64 : Int32) ≤ nI i := by rw [show (64 : Int32) = nI 64 from rfl, ev_le (by omega) (by omega)]; omega
  unfold fX5_fewestFor_10
  rw [if_neg c64, hp_bc hi, ev_o1, hX.2.1]
  simp only [hp_sub hi ht, show (nI d = 3) = (d = 3) from ev_eq (b := 3) (by omega) (by omega), show (nI i = nI a.2.1) = (i = a.2.1) from ev_eq (by omega) (by omega)]
  have z0 : ∀ (z : Prop) [Decidable z], (¬ z) → ∃ σ' : Nat → hj_Ob, fX5_fewestFor_61 σ bf sd (nI d) x2 x3 x4 (nI i) (nI (hp_c i)) 0 = (if hp_n i a.2.1 = 0 ∧ z ∧ ¬ x4 ≤ nI (hp_c i) ∧ nI (hp_ev (hp_e P 20 (hp_dos P d i a P.1))) = x2 then some (.inr (nI i, nI (hp_c i), nI (i + 1), σ')) else some (.inr (x3, x4, nI (i + 1), σ'))) ∧ ∀ k, k ≠ 14 → σ' k = σ k := by
    intro z _ hz
    refine ⟨σ, ?_, fun _ _ => rfl⟩
    unfold fX5_fewestFor_61
    rw [if_pos i00, ev_nm, nI_1, if_neg (fun q => hz q.2.1)]
  by_cases c1 : hp_n i a.2.1 = 0
  · have his : i < 2 ^ P.1 := Nat.lt_of_le_of_lt (hp_le hi ht c1) ho.2.1
    obtain ⟨σ', k1, k2⟩ := x_eAfter (bf := bf) (sd := sd) (s := i) (d := d) hP hoP hX ho hB his (by omega)
    have z1 : ∀ (z : Prop) [Decidable z], z → ∃ σ' : Nat → hj_Ob, fX5_fewestFor_61 σ bf sd (nI d) x2 x3 x4 (nI i) (nI (hp_c i)) 1 = (if hp_n i a.2.1 = 0 ∧ z ∧ ¬ x4 ≤ nI (hp_c i) ∧ nI (hp_ev (hp_e P 20 (hp_dos P d i a P.1))) = x2 then some (.inr (nI i, nI (hp_c i), nI (i + 1), σ')) else some (.inr (x3, x4, nI (i + 1), σ'))) ∧ ∀ k, k ≠ 14 → σ' k = σ k := by
      intro z _ hz
      unfold fX5_fewestFor_61
      rw [if_neg i10]
      by_cases c2 : x4 ≤ nI (hp_c i)
      · refine ⟨σ, ?_, fun _ _ => rfl⟩
        rw [if_pos c2, ev_nm, nI_1, if_neg (fun q => q.2.2.1 c2)]
      · refine ⟨σ', ?_, k2⟩
        rw [if_neg c2, k1, ev_o2]
        by_cases c3 : nI (hp_ev (hp_e P 20 (hp_dos P d i a P.1))) = x2
        · rw [if_pos c3, ev_nm, nI_1, if_pos ⟨c1, hz, c2, c3⟩]
        · rw [if_neg c3, ev_nm, nI_1, if_neg (fun q => c3 q.2.2.2)]
    rw [if_pos c1]
    by_cases c2 : d = 3
    · rw [if_pos c2]
      by_cases c3 : i = a.2.1
      · rw [if_pos c3]
        exact z0 _ (fun q => q ⟨c2, c3⟩)
      · rw [if_neg c3]
        exact z1 _ (fun q => c3 q.2)
    · rw [if_neg c2]
      exact z1 _ (fun q => c2 q.1)
  · rw [if_neg c1]
    refine ⟨σ, ?_, fun _ _ => rfl⟩
    unfold fX5_fewestFor_61
    rw [if_pos i00, ev_nm, nI_1, if_neg (fun q => c1 q.1)]
theorem hp_dos_U {P : hp_P} {s : Nat} {a : hp_R} {j : Nat} : ∀ k, k ≤ j → (hp_dos P 2 s a k).2.2.2.2 j = a.2.2.2.2 j
  | 0, _ => rfl
  | k + 1, hk => by
    have ih := hp_dos_U (P := P) (s := s) (a := a) (j := j) k (by omega)
    show (if hp_b s k = 1 then hp_do P 2 k (hp_dos P 2 s a k) else hp_dos P 2 s a k).2.2.2.2 j = _
    split
    · show va_up (hp_dos P 2 s a k).2.2.2.2 k 0 j = _
      rw [va_up_ne _ _ (by omega)]
      exact ih
    · exact ih
theorem va_up_id {f : Nat → Nat} {k : Nat} : va_up f k (f k) = f := by
  funext j
  by_cases q : j = k
  · rw [q, va_up_self]
  · rw [va_up_ne _ _ q]
theorem m_feed {τ : hj_Ob} {sd : Int64} {P : hp_P} {a : hp_R} {B i : Nat} {x1 x2 : Int32} (hP : hr_MP τ P) (hoP : hp_okP P) (hM : hr_M P.1 0 τ a) (ho : hp_okR P.1 B a) (hB : B < 2 ^ 20) (hi : i < 64) :
    ∃ τ', fX6_toFeed_46 τ sd x1 x2 (nI i) 1 = (if hp_n i a.2.1 = 0 ∧ nI (hp_ev (hp_e P 20 (hp_dos P 2 i a P.1))) = x1 then some (.inr (nI i, nI (i + 1), τ')) else some (.inr (x2, nI (i + 1), τ'))) ∧ hr_T τ τ' := by
  have ht := hp_t64 hoP.1 ho.2.1
  have h6 := hoP.1
  have hB0 : 0 < B := by have := ho.2.2.1; omega
  unfold fX6_toFeed_46
  rw [if_neg i10, show ∀ k : Option ((Int32 × hj_Ob) ⊕ (Int32 × Int32 × hj_Ob)), hj_ck (1 : Int32) 30 k = k from fun k => rfl, show τ.2 4 (1 : Int32).toNatClampNeg = nI a.2.1 from hM.2.1]
  simp only [hp_sub hi ht]
  by_cases c1 : hp_n i a.2.1 = 0
  · have his : i < 2 ^ P.1 := Nat.lt_of_le_of_lt (hp_le hi ht c1) ho.2.1
    obtain ⟨τ1, k1, k2, k3⟩ := m_lay (sd := sd) h6 hM
    rw [if_pos c1, k1, ev_o1]
    obtain ⟨e, he, q1, q2⟩ := lp_h (b := fun q : (Int32 × hj_Ob) => fX6_toFeed_73 q.2 sd x1 x2 (nI i) q.1)
      (fun j q => q.1 = nI j ∧ hr_T τ q.2 ∧ hr_M P.1 1 q.2 (hp_dos P 2 i a j))
      (fun e => hr_T τ e ∧ hr_M P.1 1 e (hp_dos P 2 i a P.1)) P.1
      (fun j q hj hI => by
        obtain ⟨y, t⟩ := q
        obtain ⟨e1, e2, e3⟩ := hI
        dsimp only at e1 e2 e3 ⊢
        subst e1
        unfold fX6_toFeed_73
        have tP := hr_T_P e2 hP
        rw [tP.1]
        by_cases c : P.1 ≤ j
        · have : j = P.1 := by omega
          subst this
          rw [if_pos (by rw [ev_le (by omega) (by omega)]; exact c)]
          exact Or.inl ⟨_, rfl, e2, e3⟩
        · have hjn : j < P.1 := by omega
          have ed : hp_dos P 2 i a (j + 1) = if hp_b i j = 1 then hp_do P 2 j (hp_dos P 2 i a j) else hp_dos P 2 i a j := rfl
          have h0 := hr_T_M e2 h6 hM
          have c' : ¬ nI P.1 ≤ nI j := by rw [ev_le (by omega) (by omega)]; exact c
          rw [if_neg c', m_has hi (by omega), ev_o1]
          by_cases g : hp_b i j = 1
          · rw [g, if_neg (show ¬ nI 1 = 0 from i10), m_24x, ck_k (by omega) (by decide), ev_nm, ev_nm, nI_1]
            refine Or.inr ⟨hjn, _, rfl, rfl, hr_T_tr e2 (hr_T_F (hr_F_a (L := 1) (i := 24 + j) (by omega) (by omega) (by omega))), ?_⟩
            rw [ed, if_pos g]
            exact m_setU (v := 0) e3 (by omega) h6 hjn
          · have g0 : hp_b i j = 0 := by have := hp_b2 i j; omega
            rw [g0, if_pos (show nI 0 = 0 from rfl), m_24x, m_9x, ck_k (by omega) (by decide), ck_k (by omega) (by decide), ev_cl (by omega), ev_nm, ev_nm, nI_1, show t.2 4 (9 + j) = nI (a.2.2.2.2 j) from (congrArg (t.2 4) (by omega)).trans (h0.2.2.2 j hjn).2]
            refine Or.inr ⟨hjn, _, rfl, rfl, hr_T_tr e2 (hr_T_F (hr_F_a (L := 1) (i := 24 + j) (by omega) (by omega) (by omega))), ?_⟩
            have := m_setU (v := a.2.2.2.2 j) e3 (by omega) h6 hjn
            rw [← hp_dos_U (P := P) (s := i) (a := a) (j := j) j (Nat.le_refl _), va_up_id] at this
            rw [ed, if_neg g, ← hp_dos_U (P := P) (s := i) (a := a) (j := j) j (Nat.le_refl _)]
            exact this)
      100 0 (0, τ1) (by omega) (by omega) ⟨rfl, k3, k2⟩
    have ok := hp_dos_ok (P := P) (d := 2) (s := i) h6 ho hB0 P.1 h6
    obtain ⟨τ', r1, r2, r3⟩ := m_run (sd := sd) (hr_T_P q1 hP) hoP ok (by omega) q2
    rw [he, ev_o1, r1, ev_o2]
    refine ⟨τ', ?_, hr_T_tr q1 r3⟩
    by_cases c3 : nI (hp_ev (hp_e P 20 (hp_dos P 2 i a P.1))) = x1
    · rw [if_pos c3, if_pos ⟨c1, c3⟩, ev_nm, nI_1]
    · rw [if_neg c3, if_neg (fun q => c3 q.2), ev_nm, nI_1]
  · refine ⟨τ, ?_, hr_T_rf⟩
    rw [if_neg c1, if_neg (fun q => c1 q.1), ev_nm, nI_1]
theorem m_strike {τ : hj_Ob} {sd : Int64} {P : hp_P} {a : hp_R} {B i : Nat} {x1 x2 : Int32} (hP : hr_MP τ P) (hoP : hp_okP P) (hM : hr_M P.1 0 τ a) (ho : hp_okR P.1 B a) (hB : B < 2 ^ 20) (hi : i < 64) :
    ∃ τ', fX6_strike_46 τ sd x1 x2 (nI i) 1 = (if hp_n i a.2.1 = 0 ∧ ¬ i = a.2.1 ∧ nI (hp_ev (hp_e P 20 (hp_dos P 3 i a P.1))) = x1 then some (.inr (nI i, nI (i + 1), τ')) else some (.inr (x2, nI (i + 1), τ'))) ∧ hr_T τ τ' := by
  have ht := hp_t64 hoP.1 ho.2.1
  have h6 := hoP.1
  have hB0 : 0 < B := by have := ho.2.2.1; omega
  unfold fX6_strike_46
  rw [if_neg i10, show ∀ k : Option ((Int32 × hj_Ob) ⊕ (Int32 × Int32 × hj_Ob)), hj_ck (1 : Int32) 30 k = k from fun k => rfl, show ∀ k : Option ((Int32 × hj_Ob) ⊕ (Int32 × Int32 × hj_Ob)), hj_ck (1 : Int32) 30 k = k from fun k => rfl, show τ.2 4 (1 : Int32).toNatClampNeg = nI a.2.1 from hM.2.1]
  simp only [hp_sub hi ht, show (nI i = nI a.2.1) = (i = a.2.1) from ev_eq (by omega) (by omega)]
  by_cases c1 : hp_n i a.2.1 = 0
  · rw [if_pos c1]
    by_cases c2 : i = a.2.1
    · refine ⟨τ, ?_, hr_T_rf⟩
      rw [if_pos c2, if_neg (fun q => q.2.1 c2), ev_nm, nI_1]
    · have his : i < 2 ^ P.1 := Nat.lt_of_le_of_lt (hp_le hi ht c1) ho.2.1
      obtain ⟨τ1, k1, k2, k3⟩ := m_lay (sd := sd) h6 hM
      rw [if_neg c2, k1, ev_o1]
      obtain ⟨e, he, q1, q2⟩ := lp_h (b := fun q : (Int32 × hj_Ob) => fX6_strike_83 q.2 sd x1 x2 (nI i) q.1)
        (fun j q => q.1 = nI j ∧ hr_T τ q.2 ∧ hr_M P.1 1 q.2 (hp_dos P 3 i a j))
        (fun e => hr_T τ e ∧ hr_M P.1 1 e (hp_dos P 3 i a P.1)) P.1
        (fun j q hj hI => by
          obtain ⟨y, t⟩ := q
          obtain ⟨e1, e2, e3⟩ := hI
          dsimp only at e1 e2 e3 ⊢
          subst e1
          unfold fX6_strike_83
          have tP := hr_T_P e2 hP
          rw [tP.1]
          by_cases c : P.1 ≤ j
          · have : j = P.1 := by omega
            subst this
            rw [if_pos (by rw [ev_le (by omega) (by omega)]; exact c)]
            exact Or.inl ⟨_, rfl, e2, e3⟩
          · have hjn : j < P.1 := by omega
            have ed : hp_dos P 3 i a (j + 1) = if hp_b i j = 1 then hp_do P 3 j (hp_dos P 3 i a j) else hp_dos P 3 i a j := rfl
            have c' : ¬ nI P.1 ≤ nI j := by rw [ev_le (by omega) (by omega)]; exact c
            have okj := hp_dos_ok (P := P) (d := 3) (s := i) h6 ho hB0 j (by omega)
            rw [if_neg c', m_has hi (by omega), ev_o1]
            by_cases g : hp_b i j = 1
            · obtain ⟨τ3, j1, j2, j3⟩ := m_die (sd := sd) (L := 1) e3 (by omega) h6 (hp_t64 h6 okj.2.1) (j := j) (by omega)
              rw [g, if_neg (show ¬ nI 1 = 0 from i10), show fX6_dieOn t sd 1 (nI j) = _ from j1, ev_o1, ev_nm, nI_1]
              refine Or.inr ⟨hjn, _, rfl, rfl, hr_T_tr e2 (hr_T_F j3), ?_⟩
              rw [ed, if_pos g]
              exact j2
            · have g0 : hp_b i j = 0 := by have := hp_b2 i j; omega
              rw [g0, if_pos (show nI 0 = 0 from rfl), ev_nm, nI_1]
              exact Or.inr ⟨hjn, _, rfl, rfl, e2, by rw [ed, if_neg g]; exact e3⟩)
        100 0 (0, τ1) (by omega) (by omega) ⟨rfl, k3, k2⟩
      have ok := hp_dos_ok (P := P) (d := 3) (s := i) h6 ho hB0 P.1 h6
      obtain ⟨τ', r1, r2, r3⟩ := m_run (sd := sd) (hr_T_P q1 hP) hoP ok (by omega) q2
      rw [he, ev_o1, r1, ev_o2]
      refine ⟨τ', ?_, hr_T_tr q1 r3⟩
      by_cases c3 : nI (hp_ev (hp_e P 20 (hp_dos P 3 i a P.1))) = x1
      · rw [if_pos c3, if_pos ⟨c1, c2, c3⟩, ev_nm, nI_1]
      · rw [if_neg c3, if_neg (fun q => c3 q.2.2), ev_nm, nI_1]
  · refine ⟨τ, ?_, hr_T_rf⟩
    rw [if_neg c1, if_neg (fun q => c1 q.1), ev_nm, nI_1]
