/-! fault and jury -/
theorem b_read {t ρ τ : hj_Ob} {sd : Int64} {tx : hp_T} (ht : hd_t t tx) (hu : hd_u τ tx) :
    ∃ r ρ' τ', fX1_readFrom t ρ = some (r, ρ') ∧ fX6_readText τ sd = some (r, τ') ∧ hr_D τ τ' ∧ (r = -9 → ∃ D, hd_x ρ' D ∧ hd_m τ' D ∧ hd_ok D) := by
  have h56 := ht.2.2.1
  unfold fX1_readFrom fX6_readText
  rw [ev_nm, ev_nm, ev_nm, ev_nm, ev_nm, ev_nm]
  generalize hτ3 : hj_s (hj_s (hj_s τ 11 0) 12 (-9)) 7 0 = τ3
  have D3 : hr_D τ τ3 := by rw [← hτ3]; exact hr_D_tr (hr_D_s (by omega)) (hr_D_tr (hr_D_s (by omega)) (hr_D_s (by omega)))
  have e11 : τ3.1 11 = 0 := by rw [← hτ3]; rfl
  have e12 : τ3.1 12 = -9 := by rw [← hτ3]; rfl
  have e7 : τ3.1 7 = 0 := by rw [← hτ3]; rfl
  obtain ⟨τ8, he, q1, q2, q3⟩ := lp_h (b := fun q : (Int32 × hj_Ob) => fX6_readText_18 q.2 sd q.1) (fun i q => q.1 = nI i ∧ hr_D τ3 q.2 ∧ q.2.1 = τ3.1 ∧ ∀ j, j < i → q.2.2 6 j = 0) (fun e => hr_D τ3 e ∧ e.1 = τ3.1 ∧ ∀ j, j < 6 → e.2 6 j = 0) 6
    (fun i q hi hI => by
      obtain ⟨y, s⟩ := q
      obtain ⟨f1, f2, f3, f4⟩ := hI
      dsimp only at f1 f2 f3 f4 ⊢
      subst f1
      unfold fX6_readText_18
      by_cases c : i < 6
      · rw [if_neg (by rw [show (6 : Int32) = nI 6 from rfl, ev_le (by omega) (by omega)]; omega), ck_k c (by decide), ev_nm, ev_nm, nI_1]
        refine Or.inr ⟨c, _, rfl, rfl, hr_D_tr f2 (hr_D_a (by omega)), f3, fun j hj => ?_⟩
        show (hj_a s 6 (nI i) 0).2 6 j = 0
        rw [wx_a_se, ev_upd, ev_cl (by omega)]
        by_cases e : j = i
        · rw [if_pos e]
        · rw [if_neg e]; exact f4 j (by omega)
      · have : i = 6 := by omega
        subst this
        rw [if_pos (by decide)]
        exact Or.inl ⟨_, rfl, f2, f3, f4⟩)
    100 0 (0, τ3) (by omega) (by omega) ⟨rfl, hr_D_rf, rfl, fun j hj => by omega⟩
  have D8 := hr_D_tr D3 q1
  have u8 := hr_D_u D8 hu
  rw [he, ev_o1, u8.1, show fX4_letterAt t 0 = _ from x_let ht (i := 0) (by omega), ev_o1]
  simp only [show (nI tx.1 = 0) = (tx.1 = 0) from ev_eq (b := 0) (by omega) (by omega)]
  by_cases c : tx.1 = 0
  · rw [if_neg (show ¬ 0 < tx.1 by omega), if_pos c, if_neg (show ¬ (-1 : Int32) = 74 by decide)]
    exact ⟨_, _, _, rfl, rfl, D8, fun q => absurd q (by decide)⟩
  · have h0 : 0 < tx.1 := by omega
    have hc0 := ht.2.2.2 0 h0
    rw [if_pos h0, if_neg c, show ∀ k : Option (Int32 × hj_Ob), hj_ck (0 : Int32) 56 k = k from fun k => rfl, show τ8.2 9 (0 : Int32).toNatClampNeg = nI (tx.2 0) from u8.2.1 0 h0]
    simp only [show (nI (tx.2 0) = 74) = (tx.2 0 = 74) from ev_eq (b := 74) (by omega) (by omega)]
    by_cases c74 : tx.2 0 = 74
    · rw [if_pos c74, if_pos c74, ev_nm, show fX4_isFigure t 1 1 6 = _ from x_fig ht (i := 1) (lo := 1) (hi := 6) (by omega) (by omega) (by omega), ev_o1]
      obtain ⟨r1, τ1, k1, G1, y1, n1⟩ := m_g (sd := sd) (τ := hj_s τ8 11 1) (i := 1) (hr_D_u (hr_D_s (by omega)) u8) (by omega) rfl (show τ8.1 12 = -9 by rw [q2]; exact e12) has_126
      have D1 : hr_D τ τ1 := hr_D_tr D8 (hr_D_tr (hr_D_s (by omega)) G1.1)
      rw [show fX6_figureOf (hj_s τ8 11 1) sd 126 = _ from k1, ev_o2, ev_nm]
      by_cases f : hd_f tx 1 1 6
      · obtain ⟨g1, g2, g3⟩ := y1 (hd_b126.mpr f)
        rw [if_pos f, if_neg i10, show fX4_figureAt t 1 = _ from x_fat ht (i := 1) (by omega), ev_o1, if_pos f.1, nI_48 (by omega), ev_nm, g1]
        obtain ⟨e, e', j1, j2, j3⟩ := b_loop (sd := sd) (ρ := hj_s (hj_s (hj_s (hj_s ρ 3 0) 5 0) 4 1) 4 (nI (tx.2 1 - 48))) (τ := hj_s τ1 8 (nI (tx.2 1 - 48))) (D := (0, tx.2 1 - 48, 0, fun _ => 0, fun _ => 0, fun _ => 0)) ht hu (hr_D_tr D1 (hr_D_s (by omega))) ⟨rfl, rfl, rfl, fun j hj => absurd hj (Nat.not_lt_zero j)⟩ ⟨(G1.2.2.1).trans (show τ8.1 7 = 0 by rw [q2]; exact e7), rfl, fun j hj => absurd hj (Nat.not_lt_zero j), fun j _ hj => (congrFun (congrFun G1.2.1 6) j).trans (q3 j hj)⟩ ⟨Nat.zero_le _, show tx.2 1 - 48 ≤ 6 by omega, show 0 < 1 by decide, fun j hj => absurd hj (Nat.not_lt_zero j)⟩ g2 g3
        rw [j1, j2, ev_o1]
        rcases j3 with ⟨f, ρ', w1, rfl, w3, w4⟩ | ⟨ρ', D, rfl, w3, w4, w5, w6, w7⟩
        · rw [ev_oel, w3]
          exact ⟨_, _, _, rfl, rfl, w4, fun q => absurd q (m_ff_i w1)⟩
        · rw [ev_oei, ev_nm, w3]
          exact ⟨_, _, _, rfl, rfl, w4, fun _ => ⟨D, w5, w6, w7⟩⟩
      · obtain ⟨g1, g2⟩ := n1 (fun z => f (hd_b126.mp z))
        have ex : fX6_readText_72 (hj_s τ1 8 r1) sd = some (.inl (hj_s τ1 8 r1)) := by
          unfold fX6_readText_72
          rw [show (hj_s τ1 8 r1).1 12 = nI 1 from g2, if_neg (show ¬ nI 1 = -9 by decide)]
        rw [if_neg f, if_pos i00, lp_l (b := fun q : hj_Ob => fX6_readText_72 q sd) ex, ev_o1, show (hj_s τ1 8 r1).1 12 = nI 1 from g2]
        exact ⟨_, _, _, rfl, rfl, hr_D_tr D1 (hr_D_s (by omega)), fun q => absurd q (by decide)⟩
    · rw [if_neg c74, if_neg c74]
      exact ⟨_, _, _, rfl, rfl, D8, fun q => absurd q (by decide)⟩
theorem lm_D {τ τ' : hj_Ob} {tx : hp_T} {P : hp_P} {a : hp_R} {hi : hp_H} {sl : hp_L} {se : hp_S} (h : lm τ tx P a hi sl se) (hn : P.1 ≤ 6) (hD : hr_D τ τ') : lm τ' tx P a hi sl se :=
  lm_fr h hn (fun k hk => hD.1 k (by omega) (by omega) (by omega) (by omega)) (fun k hk => hD.2 k (by omega) (by omega)) (fun i _ => by rw [hD.2 4 (by decide) (by decide)])
theorem lr_fault {B : Nat} {σ : Nat → hj_Ob} {bf : Nat → Nat} {τ : hj_Ob} {sd : Int64} (h : lr B σ bf τ) : ∃ r σ' τ', fX5_fault σ bf sd = some (r, σ') ∧ fX6_fault τ sd = some (r, τ') ∧ lr B σ' bf τ' := by
  obtain ⟨tx, P, a, hi, sl, se, hx, hm, ho⟩ := h
  obtain ⟨r, ρ', τ', k1, k2, k3, k4⟩ := b_read (t := σ 1) (ρ := σ 7) (sd := sd) (tx := tx) ⟨hx.1.1, hx.1.2, ho.1.1, ho.1.2⟩ ⟨hm.1.1, hm.1.2, ho.1.1, ho.1.2⟩
  unfold fX5_fault fX6_fault
  rw [k1, k2, ev_o2, ev_o2, ev_nm]
  exact ⟨_, _, _, rfl, rfl, tx, P, a, hi, sl, se, lx_fr hx ho.2.2.2.1.1 (fun k hk _ => va_up_ne _ _ hk), lm_D hm ho.2.1.1 k3, ho⟩
theorem x_anew {π ρ : hj_Ob} {D : hp_D} (hx : hd_x π D) (ho : hd_ok D) : ∃ ρ', fX2_beginAnew π ρ = some ρ' ∧ hr_X D.1 ρ' (D.2.2.1, 2 ^ D.1 - 1, 0, D.2.2.2.1, fun _ => 0) := by
  have h6 := ho.1
  unfold fX2_beginAnew
  rw [ev_nm, ev_nm, ev_nm, hx.2.2.1, hx.1, hp_pm (by omega)]
  generalize hρ3 : hj_s (hj_s (hj_s ρ 3 (nI D.2.2.1)) 4 (nI (2 ^ D.1 - 1))) 5 0 = ρ3
  obtain ⟨e, he, q1, q2⟩ := lp_h (b := fun q : (Int32 × hj_Ob) => fX2_beginAnew_33 π q.2 q.1) (fun i q => q.1 = nI i ∧ q.2.1 = ρ3.1 ∧ ∀ j, j < i → q.2.2 1 j = π.2 0 j ∧ q.2.2 2 j = 0) (fun e => e.1 = ρ3.1 ∧ ∀ j, j < 6 → e.2 1 j = π.2 0 j ∧ e.2 2 j = 0) 6
    (fun i q hi hI => by
      obtain ⟨y, s⟩ := q
      obtain ⟨f1, f3, f4⟩ := hI
      dsimp only at f1 f3 f4 ⊢
      subst f1
      unfold fX2_beginAnew_33
      by_cases c : i < 6
      · rw [if_neg (by rw [show (6 : Int32) = nI 6 from rfl, ev_le (by omega) (by omega)]; omega), ck_k c (by decide), ck_k c (by decide), ev_nm, ck_k c (by decide), ev_nm, ev_nm, nI_1, ev_cl (by omega)]
        refine Or.inr ⟨c, _, rfl, rfl, f3, fun j hj => ?_⟩
        show (hj_a (hj_a s 1 (nI i) (π.2 0 i)) 2 (nI i) 0).2 1 j = _ ∧ (hj_a (hj_a s 1 (nI i) (π.2 0 i)) 2 (nI i) 0).2 2 j = 0
        rw [wx_a_ne (show 1 ≠ 2 by decide), wx_a_se, wx_a_se, wx_a_ne (show 2 ≠ 1 by decide), ev_upd, ev_upd, ev_cl (by omega)]
        by_cases e : j = i
        · rw [if_pos e, if_pos e, e]; exact ⟨rfl, rfl⟩
        · rw [if_neg e, if_neg e]; exact f4 j (by omega)
      · have : i = 6 := by omega
        subst this
        rw [if_pos (by decide)]
        exact Or.inl ⟨_, rfl, f3, f4⟩)
    100 0 (0, ρ3) (by omega) (by omega) ⟨rfl, rfl, fun j hj => by omega⟩
  rw [he, ev_o1]
  refine ⟨e, rfl, ?_, ?_, ?_, fun j hj => ?_⟩
  · rw [q1, ← hρ3]; rfl
  · rw [q1, ← hρ3]; rfl
  · rw [q1, ← hρ3]; rfl
  · rw [(q2 j (by omega)).1, (q2 j (by omega)).2]
    exact ⟨(hx.2.2.2 j hj).1, rfl⟩
/-- the reference's jury laid down -/
def hp_yb (Y : Nat) : Nat → Nat
  | 0 => 0
  | k + 1 => hp_yb Y k ||| hp_b Y k * 2 ^ k
theorem hp_yb_all : hp_all 64 (fun Y => hp_all 7 (fun n => decide (Y < 2 ^ n → hp_yb Y n = Y))) = true := by decide +kernel
theorem m_jury30 {τ : hj_Ob} {sd : Int64} : ∃ τ', hj_lp (fun q : (Int32 × hj_Ob) => fX6_jury_30 q.2 sd q.1) 100 (0, τ) = some τ' ∧ τ'.1 = τ.1 ∧ (∀ k, k ≠ 4 → τ'.2 k = τ.2 k) ∧ ∀ j, j < 15 → τ'.2 4 j = 0 := by
  obtain ⟨e, he, q⟩ := lp_h (b := fun q : (Int32 × hj_Ob) => fX6_jury_30 q.2 sd q.1) (fun i q => q.1 = nI i ∧ q.2.1 = τ.1 ∧ (∀ k, k ≠ 4 → q.2.2 k = τ.2 k) ∧ ∀ j, j < i → q.2.2 4 j = 0) (fun e => e.1 = τ.1 ∧ (∀ k, k ≠ 4 → e.2 k = τ.2 k) ∧ ∀ j, j < 15 → e.2 4 j = 0) 15
    (fun i q hi hI => by
      obtain ⟨y, s⟩ := q
      obtain ⟨f1, f2, f3, f4⟩ := hI
      dsimp only at f1 f2 f3 f4 ⊢
      subst f1
      unfold fX6_jury_30
      by_cases c : i < 15
      · rw [if_neg (by rw [show (15 : Int32) = nI 15 from rfl, ev_le (by omega) (by omega)]; omega), ck_k (by omega) (by decide), ev_nm, ev_nm, nI_1]
        refine Or.inr ⟨c, _, rfl, rfl, f2, fun k hk => ?_, fun j hj => ?_⟩
        · show (hj_a s 4 (nI i) 0).2 k = _
          rw [wx_a_ne hk]; exact f3 k hk
        · show (hj_a s 4 (nI i) 0).2 4 j = 0
          rw [wx_a_se, ev_upd, ev_cl (by omega)]
          by_cases e : j = i
          · rw [if_pos e]
          · rw [if_neg e]; exact f4 j (by omega)
      · have : i = 15 := by omega
        subst this
        rw [if_pos (by decide)]
        exact Or.inl ⟨_, rfl, f2, f3, f4⟩)
    100 0 (0, τ) (by omega) (by omega) ⟨rfl, rfl, fun _ _ => rfl, fun j hj => by omega⟩
  exact ⟨e, he, q⟩
theorem m_jury65 {τ : hj_Ob} {sd : Int64} {D : hp_D} (hm : hd_m τ D) (ho : hd_ok D) (h0 : τ.1 0 = nI D.1) (h40 : τ.2 4 0 = 0) :
    ∃ τ', hj_lp (fun q : (Int32 × hj_Ob) => fX6_jury_65 q.2 sd q.1) 100 (0, τ) = some τ' ∧ τ'.1 = τ.1 ∧ (∀ k, k ≠ 2 → k ≠ 3 → k ≠ 4 → τ'.2 k = τ.2 k) ∧ τ'.2 4 0 = nI D.2.2.1 ∧ τ'.2 4 1 = τ.2 4 1 ∧ τ'.2 4 2 = τ.2 4 2 ∧ (∀ j, 9 ≤ j → τ'.2 4 j = τ.2 4 j) ∧ ∀ j, j < D.1 → τ'.2 4 (3 + j) = nI (D.2.2.2.1 j) ∧ τ'.2 2 j = nI (D.2.2.2.2.1 j) ∧ τ'.2 3 j = nI (D.2.2.2.2.2 j) := by
  have h6 := ho.1
  have hY : hp_yb D.2.2.1 D.1 = D.2.2.1 := (of_decide_eq_true (hp_all_s (hp_all_s hp_yb_all (hp_t64 h6 ho.2.2.1)) (by omega : D.1 < 7))) ho.2.2.1
  obtain ⟨e, he, q⟩ := lp_h (b := fun q : (Int32 × hj_Ob) => fX6_jury_65 q.2 sd q.1)
    (fun i q => q.1 = nI i ∧ q.2.1 = τ.1 ∧ (∀ k, k ≠ 2 → k ≠ 3 → k ≠ 4 → q.2.2 k = τ.2 k) ∧ q.2.2 4 0 = nI (hp_yb D.2.2.1 i) ∧ q.2.2 4 1 = τ.2 4 1 ∧ q.2.2 4 2 = τ.2 4 2 ∧ (∀ j, 9 ≤ j → q.2.2 4 j = τ.2 4 j) ∧ ∀ j, j < i → q.2.2 4 (3 + j) = nI (D.2.2.2.1 j) ∧ q.2.2 2 j = nI (D.2.2.2.2.1 j) ∧ q.2.2 3 j = nI (D.2.2.2.2.2 j))
    (fun e => e.1 = τ.1 ∧ (∀ k, k ≠ 2 → k ≠ 3 → k ≠ 4 → e.2 k = τ.2 k) ∧ e.2 4 0 = nI D.2.2.1 ∧ e.2 4 1 = τ.2 4 1 ∧ e.2 4 2 = τ.2 4 2 ∧ (∀ j, 9 ≤ j → e.2 4 j = τ.2 4 j) ∧ ∀ j, j < D.1 → e.2 4 (3 + j) = nI (D.2.2.2.1 j) ∧ e.2 2 j = nI (D.2.2.2.2.1 j) ∧ e.2 3 j = nI (D.2.2.2.2.2 j)) D.1
    (fun i q hi hI => by
      obtain ⟨y, s⟩ := q
      obtain ⟨f1, f2, f3, f4, f5, f6, f7, f8⟩ := hI
      dsimp only at f1 f2 f3 f4 f5 f6 f7 f8 ⊢
      subst f1
      unfold fX6_jury_65
      rw [f2, h0]
      by_cases c : D.1 ≤ i
      · have : i = D.1 := by omega
        subst this
        rw [if_pos (by rw [ev_le (by omega) (by omega)]; exact c)]
        exact Or.inl ⟨_, rfl, f2, f3, by rw [f4, hY], f5, f6, f7, f8⟩
      · have hin : i < D.1 := by omega
        obtain ⟨w1, w2, w3, w4⟩ := hm.2.2.1 i hin
        rw [if_neg (by rw [ev_le (by omega) (by omega)]; exact c)]
        have e3 : (3 : Int32) * nI i = nI (3 * i) := pk_mul 3 i
        have e31 : nI (3 * i) + 1 = nI (3 * i + 1) := nI_1 _
        have e32 : nI (3 * i) + 2 = nI (3 * i + 2) := nI_add _ 2
        have e3i : (3 : Int32) + nI i = nI (3 + i) := m_3x
        have c0 : (0 : Int32).toNatClampNeg = 0 := rfl
        have eb : s.2 4 (0 : Int32).toNatClampNeg ||| s.2 5 (3 * i) <<< (nI i &&& 31) = nI (hp_yb D.2.2.1 (i + 1)) := by
          rw [c0, f4, f3 5 (by decide) (by decide) (by decide), w1]
          show _ = nI (hp_yb D.2.2.1 i ||| hp_b D.2.2.1 i * 2 ^ i)
          rcases hp_b2 D.2.2.1 i with g | g <;> rw [g]
          · rw [Nat.zero_mul, show nI 0 <<< (nI i &&& 31) = nI 0 from Int32.zero_shiftLeft, hp_or]
          · rw [Nat.one_mul, show nI 1 <<< (nI i &&& 31) = nI (2 ^ i) from hp_pw (by omega), hp_or]
        simp only [e3, e31, e32, e3i, show ∀ k : Option (hj_Ob ⊕ (Int32 × hj_Ob)), hj_ck (0 : Int32) 30 k = k from fun k => rfl, ev_nm, nI_1]
        rw [ck_k (by omega) (by decide), ck_k (by omega) (by decide), ck_k (by omega) (by decide), ck_k (by omega) (by decide), ck_k (by omega) (by decide), ck_k (by omega) (by decide), ck_k (by omega) (by decide), ev_cl (by omega), ev_cl (by omega), ev_cl (by omega), ev_cl (by omega), eb]
        refine Or.inr ⟨hin, _, rfl, rfl, f2, ?_⟩
        dsimp only
        generalize hA : hj_a s 4 0 (nI (hp_yb D.2.2.1 (i + 1))) = A
        have A4 : ∀ k, A.2 4 k = if k = 0 then nI (hp_yb D.2.2.1 (i + 1)) else s.2 4 k := fun k => by rw [← hA, wx_a_se, ev_upd]; rfl
        have An : ∀ k, k ≠ 4 → A.2 k = s.2 k := fun k hk => by rw [← hA, wx_a_ne hk]
        rw [An 5 (by decide), f3 5 (by decide) (by decide) (by decide), w2]
        generalize hB : hj_a A 4 (nI (3 + i)) (nI (D.2.2.2.1 i)) = B'
        have B4 : ∀ k, B'.2 4 k = if k = 3 + i then nI (D.2.2.2.1 i) else A.2 4 k := fun k => by rw [← hB, wx_a_se, ev_upd, ev_cl (by omega)]
        have Bn : ∀ k, k ≠ 4 → B'.2 k = s.2 k := fun k hk => by rw [← hB, wx_a_ne hk]; exact An k hk
        rw [Bn 5 (by decide), f3 5 (by decide) (by decide) (by decide), w3]
        generalize hC : hj_a B' 2 (nI i) (nI (D.2.2.2.2.1 i)) = C'
        have C2 : ∀ k, C'.2 2 k = if k = i then nI (D.2.2.2.2.1 i) else s.2 2 k := fun k => by rw [← hC, wx_a_se, ev_upd, ev_cl (by omega), Bn 2 (by decide)]
        have Cn : ∀ k, k ≠ 2 → C'.2 k = B'.2 k := fun k hk => by rw [← hC, wx_a_ne hk]
        rw [Cn 6 (by decide), Bn 6 (by decide), f3 6 (by decide) (by decide) (by decide), w4]
        generalize hE : hj_a C' 3 (nI i) (nI (D.2.2.2.2.2 i)) = E'
        have E3 : ∀ k, E'.2 3 k = if k = i then nI (D.2.2.2.2.2 i) else s.2 3 k := fun k => by rw [← hE, wx_a_se, ev_upd, ev_cl (by omega), Cn 3 (by decide), Bn 3 (by decide)]
        have En : ∀ k, k ≠ 3 → E'.2 k = C'.2 k := fun k hk => by rw [← hE, wx_a_ne hk]
        have E4 : ∀ k, E'.2 4 k = if k = 3 + i then nI (D.2.2.2.1 i) else if k = 0 then nI (hp_yb D.2.2.1 (i + 1)) else s.2 4 k := fun k => by rw [En 4 (by decide), Cn 4 (by decide), B4, A4]
        refine ⟨fun k h1 h2 h3 => ?_, ?_, ?_, ?_, fun j hj => ?_, fun j hj => ?_⟩
        · rw [En k h2, Cn k h1, Bn k h3]; exact f3 k h1 h2 h3
        · rw [E4, if_neg (by omega), if_pos rfl]
        · rw [E4, if_neg (by omega), if_neg (by omega)]; exact f5
        · rw [E4, if_neg (by omega), if_neg (by omega)]; exact f6
        · rw [E4, if_neg (by omega), if_neg (by omega)]; exact f7 j hj
        · rw [E4, E3, En 2 (by decide), C2]
          by_cases e : j = i
          · subst e
            rw [if_pos rfl, if_pos rfl, if_pos rfl]
            exact ⟨rfl, rfl, rfl⟩
          · rw [if_neg (by omega), if_neg (by omega), if_neg e, if_neg e]
            exact f8 j (by omega))
    100 0 (0, τ) (by omega) (by omega) ⟨rfl, rfl, fun _ _ _ _ => rfl, h40, rfl, rfl, fun _ _ => rfl, fun j hj => by omega⟩
  exact ⟨e, he, q⟩
theorem lr_jury {B : Nat} {σ : Nat → hj_Ob} {bf : Nat → Nat} {τ : hj_Ob} {sd : Int64} (h : lr B σ bf τ) (hB0 : 0 < B) : ∃ r σ' τ', fX5_jury σ bf sd = some (r, σ') ∧ fX6_jury τ sd = some (r, τ') ∧ lr B σ' bf τ' := by
  obtain ⟨tx, P, a, hi, sl, se, hx, hm, ho⟩ := h
  have hd : hd_t (σ 1) tx := ⟨hx.1.1, hx.1.2, ho.1.1, ho.1.2⟩
  have hu : hd_u τ tx := ⟨hm.1.1, hm.1.2, ho.1.1, ho.1.2⟩
  obtain ⟨r, ρ1, τ2, k1, k2, k3, k4⟩ := b_read (t := σ 1) (ρ := σ 7) (sd := sd) hd hu
  unfold fX5_jury fX6_jury
  rw [k1, k2, ev_o2, ev_o2, ev_nm]
  by_cases c : r = -9
  · obtain ⟨r2, ρ2, τ2', j1, j2, j3, j4⟩ := b_read (t := σ 1) (ρ := σ 3) (sd := sd) hd hu
    rw [k2] at j2
    obtain ⟨er, et⟩ := Prod.mk.inj (Option.some.inj j2)
    rw [← er] at j1 j4
    rw [← et] at j4
    obtain ⟨D, d1, d2, d3⟩ := j4 c
    have h6 := d3.1
    rw [if_pos c, if_pos c, va_up_ne _ _ (show 1 ≠ 7 by decide), va_up_ne _ _ (show 3 ≠ 7 by decide), j1, ev_o2, ev_nm]
    generalize hσ7 : va_up (va_up σ 7 ρ1) 3 ρ2 = σ7
    have s73 : σ7 3 = ρ2 := by rw [← hσ7, va_up_self]
    have s7n : ∀ k, k ≠ 3 → k ≠ 7 → σ7 k = σ k := fun k h1 h2 => by rw [← hσ7, va_up_ne _ _ h1, va_up_ne _ _ h2]
    obtain ⟨ρ8, a1, a2⟩ := x_anew (π := σ7 3) (ρ := σ7 11) (by rw [s73]; exact d1) d3
    rw [a1, ev_o1, ev_nm]
    unfold fX0_forgetAll
    rw [ev_nm, ev_o1]
    generalize hσ10 : va_up (va_up σ7 11 ρ8) 17 (hj_s (va_up σ7 11 ρ8 17) 1 0) = σ10
    have s17 : (σ10 17).1 1 = 0 := by rw [← hσ10, va_up_self]; rfl
    have s11 : σ10 11 = ρ8 := by rw [← hσ10, va_up_ne _ _ (by decide), va_up_self]
    have s10n : ∀ k, k ≠ 11 → k ≠ 17 → σ10 k = σ7 k := fun k h1 h2 => by rw [← hσ10, va_up_ne _ _ h2, va_up_ne _ _ h1]
    have n0 : vp_nar .boolean 0 = 0 := rfl
    have l47 : hj_lp (fun q : (Int32 × (Nat → hj_Ob)) => fX5_jury_47 q.2 bf sd q.1) 100 (0, σ10) = some (va_up (va_up σ10 0 (hj_a (σ10 0) 7 0 0)) 0 (hj_a (va_up σ10 0 (hj_a (σ10 0) 7 0 0) 0) 7 1 0)) := by
      rw [lp_r (b := fun q : (Int32 × (Nat → hj_Ob)) => fX5_jury_47 q.2 bf sd q.1) (s := (0, σ10)) (s' := (1, va_up σ10 0 (hj_a (σ10 0) 7 0 0))) (by show fX5_jury_47 σ10 bf sd 0 = _; unfold fX5_jury_47; rfl), lp_r (b := fun q : (Int32 × (Nat → hj_Ob)) => fX5_jury_47 q.2 bf sd q.1) (s := (1, va_up σ10 0 (hj_a (σ10 0) 7 0 0))) (s' := (2, va_up (va_up σ10 0 (hj_a (σ10 0) 7 0 0)) 0 (hj_a (va_up σ10 0 (hj_a (σ10 0) 7 0 0) 0) 7 1 0))) (by show fX5_jury_47 _ bf sd 1 = _; unfold fX5_jury_47; rfl)]
      exact lp_l (b := fun q : (Int32 × (Nat → hj_Ob)) => fX5_jury_47 q.2 bf sd q.1) (by show fX5_jury_47 _ bf sd 2 = _; unfold fX5_jury_47; rfl)
    rw [l47, ev_o1]
    generalize hσ15 : va_up (va_up σ10 0 (hj_a (σ10 0) 7 0 0)) 0 (hj_a (va_up σ10 0 (hj_a (σ10 0) 7 0 0) 0) 7 1 0) = σ15
    have s15n : ∀ k, k ≠ 0 → σ15 k = σ10 k := fun k hk => by rw [← hσ15, va_up_ne _ _ hk, va_up_ne _ _ hk]
    have s150 : ∀ k, k < 2 → (σ15 0).2 7 k = 0 := by
      intro k hk
      rw [← hσ15, va_up_self, wx_a_se, va_up_self, wx_a_se, ev_upd, ev_upd, show (1 : Int32).toNatClampNeg = 1 from rfl, show (0 : Int32).toNatClampNeg = 0 from rfl]
      by_cases e : k = 1
      · rw [if_pos e]
      · rw [if_neg e, if_pos (by omega)]
    rw [ev_nm, ev_nm, d2.1, show (hj_s τ2 0 (nI D.1)).1 8 = nI D.2.1 from d2.2.1]
    obtain ⟨τ10, b1, b2, b3, b4⟩ := m_jury30 (τ := hj_s (hj_s τ2 0 (nI D.1)) 1 (nI D.2.1)) (sd := sd)
    rw [b1, ev_o1, show ∀ k : Option (Int32 × hj_Ob), hj_ck (1 : Int32) 30 k = k from fun k => rfl, b2, show (hj_s (hj_s τ2 0 (nI D.1)) 1 (nI D.2.1)).1 0 = nI D.1 from rfl, hp_pm (by omega), ev_nm]
    generalize hτ12 : hj_a τ10 4 1 (nI (2 ^ D.1 - 1)) = τ12
    have t1 : τ12.1 = (hj_s (hj_s τ2 0 (nI D.1)) 1 (nI D.2.1)).1 := by rw [← hτ12]; exact b2
    have t4 : ∀ k, τ12.2 4 k = if k = 1 then nI (2 ^ D.1 - 1) else τ10.2 4 k := fun k => by rw [← hτ12, wx_a_se, ev_upd]; rfl
    have tn : ∀ k, k ≠ 4 → τ12.2 k = τ2.2 k := fun k hk => by rw [← hτ12, wx_a_ne hk]; exact b3 k hk
    have hm12 : hd_m τ12 D := by
      unfold hd_m
      rw [t1, tn 5 (by decide), tn 6 (by decide)]
      exact d2
    obtain ⟨τ28, c1, c2, c3, c4, c5, c6, c7, c8⟩ := m_jury65 (sd := sd) hm12 d3 (by rw [t1]; rfl) (by rw [t4, if_neg (by decide)]; exact b4 0 (by decide))
    rw [c1, ev_o1, ev_nm, show ∀ k : Option (Int32 × hj_Ob), hj_ck (0 : Int32) 2 k = k from fun k => rfl, n0, ev_nm, show ∀ k : Option (Int32 × hj_Ob), hj_ck (1 : Int32) 2 k = k from fun k => rfl, ev_nm]
    generalize hτ33 : hj_a (hj_a (hj_s τ28 13 0) 22 0 0) 22 1 0 = τ33
    have v1 : ∀ k, τ33.1 k = if k = 13 then 0 else τ28.1 k := fun k => by rw [← hτ33]; rfl
    have vn : ∀ k, k ≠ 22 → τ33.2 k = τ28.2 k := fun k hk => by rw [← hτ33, wx_a_ne hk, wx_a_ne hk]; rfl
    have v22 : ∀ k, k < 2 → τ33.2 22 k = 0 := by
      intro k hk
      rw [← hτ33, wx_a_se, wx_a_se, ev_upd, ev_upd, show (1 : Int32).toNatClampNeg = 1 from rfl, show (0 : Int32).toNatClampNeg = 0 from rfl]
      by_cases e : k = 1
      · rw [if_pos e]
      · rw [if_neg e, if_pos (by omega)]
    have u1 : ∀ k, k ≠ 0 → k ≠ 1 → k ≠ 7 → k ≠ 8 → k ≠ 11 → k ≠ 12 → k ≠ 13 → τ33.1 k = τ.1 k := by
      intro k h0 h1 h7 h8 h11 h12 h13
      rw [v1, if_neg h13, c2, t1, ev_s1, if_neg h1, ev_s1, if_neg h0]
      exact k3.1 k h7 h8 h11 h12
    have u2 : ∀ k, k ≠ 2 → k ≠ 3 → k ≠ 4 → k ≠ 5 → k ≠ 6 → k ≠ 22 → τ33.2 k = τ.2 k := by
      intro k h2 h3 h4 h5 h6 h22
      rw [vn k h22, c3 k h2 h3 h4, tn k h4]
      exact k3.2 k h5 h6
    have w33 : τ33.1 0 = nI D.1 := by rw [v1, if_neg (by decide), c2, t1]; rfl
    rw [s15n 3 (by decide), s10n 3 (by decide) (by decide), s73, d1.1, w33]
    have p26 : 2 ^ D.1 - 1 < 2 ^ D.1 := Nat.sub_lt (Nat.pow_pos (by decide)) (by decide)
    refine ⟨_, _, _, rfl, rfl, tx, (D.1, D.2.1, D.2.2.2.2.1, D.2.2.2.2.2), (D.2.2.1, 2 ^ D.1 - 1, 0, D.2.2.2.1, fun _ => 0), (0, hi.2), (fun _ => false, sl.2), se, ⟨?_, ?_, ?_, ⟨?_, hx.2.2.2.1.2.1, hx.2.2.2.1.2.2.1, fun k hk => absurd hk (Nat.not_lt_zero k)⟩, fun k hk => ⟨?_, fun q => absurd (show false = true from q) (by decide)⟩, ?_⟩, ⟨?_, ⟨w33, ?_, fun j hj => ?_⟩, ⟨?_, ?_, ?_, fun j hj => ?_⟩, ⟨?_, ?_⟩, fun k hk => ⟨v22 k hk, fun q => absurd (show false = true from q) (by decide)⟩, ?_⟩, ⟨ho.1, ⟨h6, d3.2.1, fun j hj => ⟨(d3.2.2.2 j hj).2.2.1, (d3.2.2.2 j hj).2.2.2⟩⟩, ⟨hp_t64 h6 d3.2.2.1, p26, hB0, fun j hj => ⟨(d3.2.2.2 j hj).1, (d3.2.2.2 j hj).2.1, Nat.zero_le _⟩⟩, ⟨Nat.zero_le _, fun k hk => absurd hk (Nat.not_lt_zero k)⟩, fun k _ q => absurd (show false = true from q) (by decide), ho.2.2.2.2.2⟩⟩
    · unfold lx_t; rw [s15n 1 (by decide), s10n 1 (by decide) (by decide), s7n 1 (by decide) (by decide)]; exact hx.1
    · rw [s15n 3 (by decide), s10n 3 (by decide) (by decide), s73]
      exact ⟨d1.1, d1.2.1, fun j hj => ⟨(d1.2.2.2 j hj).2.1, (d1.2.2.2 j hj).2.2⟩⟩
    · rw [s15n 11 (by decide), s11]; exact a2
    · rw [s15n 17 (by decide), s17]; rfl
    · exact s150 k hk
    · unfold lx_s; rw [s15n 63 (by decide), s10n 63 (by decide) (by decide), s7n 63 (by decide) (by decide)]; exact hx.2.2.2.2.2
    · unfold lm_t; rw [u1 10 (by decide) (by decide) (by decide) (by decide) (by decide) (by decide) (by decide), u2 9 (by decide) (by decide) (by decide) (by decide) (by decide) (by decide)]; exact hm.1
    · rw [v1, if_neg (by decide), c2, t1]; rfl
    · rw [vn 2 (by decide), vn 3 (by decide)]
      exact (c8 j hj).2
    · rw [vn 4 (by decide)]; exact c4
    · rw [vn 4 (by decide), show 15 * 0 + 1 = 1 from rfl, c5, t4, if_pos rfl]
    · rw [vn 4 (by decide), show 15 * 0 + 2 = 2 from rfl, c6, t4, if_neg (by decide), b4 2 (by decide)]; rfl
    · rw [vn 4 (by decide), show 15 * 0 + 3 + j = 3 + j by omega, show 15 * 0 + 9 + j = 9 + j by omega, c7 (9 + j) (by omega), t4, if_neg (by omega), b4 _ (by have : D.1 ≤ 6 := h6; have hj : j < D.1 := hj; omega)]
      exact ⟨(c8 j hj).1, rfl⟩
    · rw [v1, if_pos rfl]; rfl
    · obtain ⟨nx, n1, n2, n3⟩ := hm.2.2.2.1.2
      exact ⟨nx, n1, by rw [u1 14 (by decide) (by decide) (by decide) (by decide) (by decide) (by decide) (by decide)]; exact n2, fun k hk => absurd hk (Nat.not_lt_zero k)⟩
    · unfold lm_s; rw [u1 17 (by decide) (by decide) (by decide) (by decide) (by decide) (by decide) (by decide), u2 18 (by decide) (by decide) (by decide) (by decide) (by decide) (by decide), u2 19 (by decide) (by decide) (by decide) (by decide) (by decide) (by decide), u2 20 (by decide) (by decide) (by decide) (by decide) (by decide) (by decide)]; exact hm.2.2.2.2.2
  · rw [if_neg c, if_neg c]
    exact ⟨_, _, _, rfl, rfl, tx, P, a, hi, sl, se, lx_fr hx ho.2.2.2.1.1 (fun k hk _ => va_up_ne _ _ hk), lm_D hm ho.2.1.1 k3, ho⟩
theorem lr_seed {B : Nat} {σ : Nat → hj_Ob} {bf : Nat → Nat} {τ : hj_Ob} {sd : Int64} (_ : lr B σ bf τ) (x : Int64) : fX5_seed σ bf sd x = some (sd, x) ∧ fX6_seed τ sd x = some (sd, x) := ⟨rfl, rfl⟩
