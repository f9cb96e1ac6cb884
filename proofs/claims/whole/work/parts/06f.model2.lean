/-! an hour at a level of the reference -/
set_option maxRecDepth 20000 in
theorem hp_cor_all : hp_all 6 (fun i => hp_all 64 (fun m => decide (m < 2 ^ i → hp_c (m ||| 2 ^ i) = hp_c m + 1 ∧ m ||| 2 ^ i < 2 ^ (i + 1)))) = true := by decide +kernel
theorem hp_cor {i m : Nat} (hi : i < 6) (hm : m < 2 ^ i) : hp_c (m ||| 2 ^ i) = hp_c m + 1 ∧ m ||| 2 ^ i < 2 ^ (i + 1) :=
  (of_decide_eq_true (hp_all_s (hp_all_s hp_cor_all hi) (Nat.lt_of_lt_of_le hm (Nat.pow_le_pow_right (by decide) (by omega) : 2 ^ i ≤ 2 ^ 6)))) hm
theorem hp_c0 : nI (hp_c 0) = 0 := by decide
theorem hp_fo_m (P : hp_P) (a : hp_R) : ∀ k, k ≤ 6 → (hp_fo P k (0, a)).1 < 2 ^ k
  | 0, _ => by show 0 < 1; decide
  | k + 1, hk => by
    have ih := hp_fo_m P a k (by omega)
    show (hp_st P k (hp_fo P k (0, a))).1 < 2 ^ (k + 1)
    unfold hp_st
    split
    · exact (hp_cor (by omega) ih).2
    · exact Nat.lt_of_lt_of_le ih (Nat.pow_le_pow_right (by decide) (by omega))
theorem hp_fo_n (P : hp_P) {n : Nat} {q : Nat × hp_R} (ht : q.2.2.1 < 2 ^ n) : ∀ k, hp_fo P (n + k) q = hp_fo P n q
  | 0 => rfl
  | k + 1 => by
    show hp_st P (n + k) (hp_fo P (n + k) q) = _
    rw [hp_fo_n P ht k]
    unfold hp_st
    rw [if_neg]
    intro h
    have h2 := h.1
    rw [show (hp_fo P n q).2.2.1 = q.2.2.1 from congrArg Prod.fst (hp_fo_t P n q)] at h2
    have := hp_bn ht h2
    omega
/-- a room whose first i jurors have grown hungry -/
def hp_gi (P : hp_P) (i : Nat) (a : hp_R) : hp_R := (a.1, a.2.1, a.2.2.1, a.2.2.2.1, fun j => if j < i then (hp_gr P a).2.2.2.2 j else a.2.2.2.2 j)
theorem hp_gi0 (P : hp_P) (a : hp_R) (j : Nat) : (hp_gi P 0 a).2.2.2.2 j = a.2.2.2.2 j := by
  show (if j < 0 then (hp_gr P a).2.2.2.2 j else a.2.2.2.2 j) = _
  rw [if_neg (Nat.not_lt_zero j)]
theorem m_growb {τ : hj_Ob} {sd : Int64} {P : hp_P} {a : hp_R} {L B i : Nat} {x2 : Int32} (hL : L < 2) (hP : hr_MP τ P) (hoP : hp_okP P) (ho : hp_okR P.1 B a) (hB : B < 2 ^ 30) (hM : hr_M P.1 L τ (hp_gi P i a)) (hi : i < P.1) :
    ∃ τ', fX6_passOn_31 τ sd (nI L) x2 (nI i) = some (.inr (nI (i + 1), τ')) ∧ hr_M P.1 L τ' (hp_gi P (i + 1) a) ∧ hr_F L τ τ' := by
  have ht := hp_t64 hoP.1 ho.2.1
  have h6 := hoP.1
  unfold fX6_passOn_31
  rw [hP.1]
  simp only [ev_le (a := P.1) (b := i) (by omega) (by omega)]
  rw [if_neg (by omega), m_there hL hM.2.1 ht (by omega), ev_o1, nI_1]
  have key : ∀ j, j ≠ i → (hp_gi P (i + 1) a).2.2.2.2 j = (hp_gi P i a).2.2.2.2 j := fun j hj => by
    show (if j < i + 1 then _ else _) = (if j < i then _ else _)
    by_cases h : j < i
    · rw [if_pos h, if_pos (by omega)]
    · rw [if_neg h, if_neg (by omega)]
  have ki : (hp_gi P i a).2.2.2.2 i = a.2.2.2.2 i := if_neg (Nat.lt_irrefl i)
  have ki1 : (hp_gi P (i + 1) a).2.2.2.2 i = (if hp_b a.2.1 i = 1 then hp_hu (P.2.2.1 i) a.2.2.1 (a.2.2.2.2 i) else a.2.2.2.2 i) := if_pos (Nat.lt_succ_self i)
  rcases hp_b2 a.2.1 i with e | e
  · rw [show hp_b (hp_gi P i a).2.1 i = 0 from e, if_pos (by rfl), ev_nm]
    refine ⟨τ, rfl, ⟨hM.1, hM.2.1, hM.2.2.1, fun j hj => ⟨(hM.2.2.2 j hj).1, ?_⟩⟩, hr_F_rf⟩
    rw [(hM.2.2.2 j hj).2]
    by_cases hji : j = i
    · rw [hji, ki, ki1, if_neg (by omega)]
    · rw [key j hji]
  · rw [show hp_b (hp_gi P i a).2.1 i = 1 from e, if_neg (by decide), m_hu (a := a) hL hP hoP ho hB hM.2.2.1 hi (by rw [(hM.2.2.2 i hi).2, ki]), ev_o1, ev_nm]
    refine ⟨_, rfl, ⟨?_, ?_, ?_, fun j hj => ⟨?_, ?_⟩⟩, hr_F_a (by omega) (by omega) (by omega)⟩
    · rw [m_a4 (by omega), if_neg (by omega)]; exact hM.1
    · rw [m_a4 (by omega), if_neg (by omega)]; exact hM.2.1
    · rw [m_a4 (by omega), if_neg (by omega)]; exact hM.2.2.1
    · rw [m_a4 (by omega), if_neg (by omega)]; exact (hM.2.2.2 j hj).1
    · rw [m_a4 (by omega)]
      by_cases hji : j = i
      · subst hji
        rw [if_pos rfl, ki1, if_pos e]
      · rw [if_neg (by omega), key j hji]
        exact (hM.2.2.2 j hj).2
theorem m_hourb {τ : hj_Ob} {sd : Int64} {P : hp_P} {a : hp_R} {L B i : Nat} (hL : L < 2) (hP : hr_MP τ P) (hoP : hp_okP P) (ho : hp_okR P.1 B a) (hM : hr_M P.1 L τ (hp_fo P i (0, a)).2) (hi : i < P.1) :
    ∃ τ', fX6_passOn_65 τ sd (nI L) (nI (15 * L)) (nI (hp_c (hp_fo P i (0, a)).1)) (nI i) = some (.inr (nI (hp_c (hp_fo P (i + 1) (0, a)).1), nI (i + 1), τ')) ∧ hr_M P.1 L τ' (hp_fo P (i + 1) (0, a)).2 ∧ hr_F L τ τ' := by
  have h6 := hoP.1
  have hoq := hp_okR_fo (P := P) (q := (0, a)) (k := i) (by omega) ho (by show 0 < 64; decide)
  have hmi := hp_fo_m P a i (by omega)
  rw [show hp_fo P (i + 1) (0, a) = hp_st P i (hp_fo P i (0, a)) from rfl]
  revert hmi hoq hM
  generalize hp_fo P i (0, a) = q
  intro hM hoq hmi
  have ht := hp_t64 hoP.1 hoq.2.1
  unfold fX6_passOn_65 hp_st
  rw [hP.1]
  simp only [ev_le (a := P.1) (b := i) (by omega) (by omega)]
  rw [if_neg (by omega), m_there hL hM.2.1 ht (by omega), ev_o1]
  rcases hp_b2 q.2.2.1 i with e | e
  · rw [e, if_pos (by rfl), ev_nm, nI_1, if_neg (by omega)]
    exact ⟨τ, rfl, hM, hr_F_rf⟩
  · rw [e, if_neg (by decide), m_gives hL hP hoP hoq hM hi, ev_o1]
    cases hm : hp_mu P q.2 i with
    | false =>
      rw [if_pos (by rfl), ev_nm, nI_1, if_neg (by simp)]
      exact ⟨τ, rfl, hM, hr_F_rf⟩
    | true =>
      have hc := hp_cor (by omega) hmi
      rw [if_neg (by decide), ev_ck (by omega) (by decide), ev_cl (by omega), hM.1, hp_pw (by omega), hp_xor, ev_ck (by omega) (by decide), ev_nm, ev_nm, ev_nm, nI_1, nI_1, if_pos (by simp), hc.1]
      refine ⟨_, rfl, ⟨?_, ?_, ?_, fun j hj => ⟨?_, ?_⟩⟩, hr_F_a (by omega) (by omega) (by omega)⟩
      · rw [m_a4 (by omega), if_pos rfl]
      · rw [m_a4 (by omega), if_neg (by omega)]; exact hM.2.1
      · rw [m_a4 (by omega), if_neg (by omega)]; exact hM.2.2.1
      · rw [m_a4 (by omega), if_neg (by omega)]; exact (hM.2.2.2 j hj).1
      · rw [m_a4 (by omega), if_neg (by omega)]; exact (hM.2.2.2 j hj).2
theorem m_hour {τ : hj_Ob} {sd : Int64} {P : hp_P} {a : hp_R} {L B : Nat} (hL : L < 2) (hP : hr_MP τ P) (hoP : hp_okP P) (ho : hp_okR P.1 B a) (hB : B < 2 ^ 29) (hM : hr_M P.1 L τ a) :
    ∃ τ', fX6_passOn τ sd (nI L) = some (nI (hp_c (hp_h P a).1), τ') ∧ hr_M P.1 L τ' (hp_h P a).2 ∧ hr_F L τ τ' := by
  have ht := hp_t64 hoP.1 ho.2.1
  have h6 := hoP.1
  have hB2 := ho.2.2.1
  unfold fX6_passOn hp_h
  rw [m_i0, ev_nm, show (2 : Int32) = nI 2 from rfl, nI_add, ev_ck (by omega) (by decide), ev_ck (by omega) (by decide), ev_cl (by omega), hM.2.2.1, nI_1, ev_nm]
  have hF1 : hr_F L τ (hj_a τ 4 (nI (15 * L + 2)) (nI (a.2.2.1 + 1))) := hr_F_a (by omega) (by omega) (by omega)
  have hM1 : hr_M P.1 L (hj_a τ 4 (nI (15 * L + 2)) (nI (a.2.2.1 + 1))) (hp_in a) := by
    refine ⟨?_, ?_, ?_, fun j hj => ⟨?_, ?_⟩⟩
    · rw [m_a4 (by omega), if_neg (by omega)]; exact hM.1
    · rw [m_a4 (by omega), if_neg (by omega)]; exact hM.2.1
    · rw [m_a4 (by omega), if_pos rfl]; rfl
    · rw [m_a4 (by omega), if_neg (by omega)]; exact (hM.2.2.2 j hj).1
    · rw [m_a4 (by omega), if_neg (by omega)]; exact (hM.2.2.2 j hj).2
  revert hF1 hM1
  generalize hj_a τ 4 (nI (15 * L + 2)) (nI (a.2.2.1 + 1)) = τ1
  intro hF1 hM1
  have hP1 := hr_F_P hF1 hP
  rw [m_verdict hL hP1.2.1 (by have := hoP.2.1; omega) hM1.2.1 hM1.1 ht ho.1, ev_o1]
  show ∃ τ', (if nI (hp_v P.2.1 a.2.1 a.1) = 9 then _ else _) = _ ∧ _
  by_cases h9 : hp_v P.2.1 a.2.1 a.1 = 9
  · rw [h9, if_pos (by rfl), if_pos rfl]
    have ho1 := hp_okR_in ho
    obtain ⟨e, he, hMe, hFe⟩ := lp_h (b := fun q : (Int32 × hj_Ob) => fX6_passOn_31 q.2 sd (nI L) (nI (15 * L)) q.1) (fun i q => q.1 = nI i ∧ hr_M P.1 L q.2 (hp_gi P i (hp_in a)) ∧ hr_F L τ1 q.2)
      (fun τ' => hr_M P.1 L τ' (hp_gr P (hp_in a)) ∧ hr_F L τ1 τ') P.1
      (fun i q hi hI => by
        obtain ⟨x, r⟩ := q
        obtain ⟨h1, h2, h3⟩ := hI
        dsimp only at h1 h2 h3 ⊢
        subst h1
        by_cases hin : i < P.1
        · obtain ⟨τ', k1, k2, k3⟩ := m_growb (x2 := nI (15 * L)) hL (hr_F_P h3 hP1) hoP ho1 (by omega) h2 hin
          exact Or.inr ⟨hin, _, k1, rfl, k2, hr_F_tr h3 k3⟩
        · have : i = P.1 := by omega
          subst this
          refine Or.inl ⟨r, ?_, ⟨h2.1, h2.2.1, h2.2.2.1, fun j hj => ⟨(h2.2.2.2 j hj).1, ?_⟩⟩, h3⟩
          · unfold fX6_passOn_31
            rw [(hr_F_P h3 hP1).1, if_pos (by rw [ev_le (by omega) (by omega)]; omega)]
          · rw [(h2.2.2.2 j hj).2]
            show nI (if j < P.1 then _ else _) = _
            rw [if_pos hj])
      100 0 (0, τ1) (by omega) (by omega) ⟨rfl, ⟨hM1.1, hM1.2.1, hM1.2.2.1, fun j hj => ⟨(hM1.2.2.2 j hj).1, by rw [(hM1.2.2.2 j hj).2]; rw [hp_gi0]⟩⟩, hr_F_rf⟩
    rw [he, ev_o1]
    have hPe := hr_F_P hFe hP1
    have hog := hp_okR_gr (P := P) ho1
    obtain ⟨f, hf, hf1, hMf, hFf⟩ := lp_h (b := fun q : (Int32 × Int32 × hj_Ob) => fX6_passOn_65 q.2.2 sd (nI L) (nI (15 * L)) q.1 q.2.1) (fun i q => q.2.1 = nI i ∧ q.1 = nI (hp_c (hp_fo P i (0, hp_gr P (hp_in a))).1) ∧ hr_M P.1 L q.2.2 (hp_fo P i (0, hp_gr P (hp_in a))).2 ∧ hr_F L e q.2.2)
      (fun f => f.1 = nI (hp_c (hp_fo P P.1 (0, hp_gr P (hp_in a))).1) ∧ hr_M P.1 L f.2 (hp_fo P P.1 (0, hp_gr P (hp_in a))).2 ∧ hr_F L e f.2) P.1
      (fun i q hi hI => by
        obtain ⟨x, z, r⟩ := q
        obtain ⟨h1, h2, h3, h4⟩ := hI
        dsimp only at h1 h2 h3 h4 ⊢
        subst h1 h2
        by_cases hin : i < P.1
        · obtain ⟨τ', k1, k2, k3⟩ := m_hourb hL (hr_F_P h4 hPe) hoP hog h3 hin
          exact Or.inr ⟨hin, _, k1, rfl, rfl, k2, hr_F_tr h4 k3⟩
        · have : i = P.1 := by omega
          subst this
          refine Or.inl ⟨(_, r), ?_, rfl, h3, h4⟩
          unfold fX6_passOn_65
          rw [(hr_F_P h4 hPe).1, if_pos (by rw [ev_le (by omega) (by omega)]; omega)]
          rfl)
      100 0 (0, 0, e) (by omega) (by omega) ⟨rfl, hp_c0.symm, hMe, hr_F_rf⟩
    obtain ⟨f1, f2⟩ := f
    dsimp only at hf1 hMf hFf
    have hn6 : hp_fo P 6 (0, hp_gr P (hp_in a)) = hp_fo P P.1 (0, hp_gr P (hp_in a)) := by
      have := hp_fo_n P (n := P.1) (q := (0, hp_gr P (hp_in a))) ho.2.1 (6 - P.1)
      rw [show P.1 + (6 - P.1) = 6 by omega] at this
      exact this
    rw [hf, ev_o2, hn6, hf1]
    exact ⟨f2, rfl, hMf, hr_F_tr hF1 (hr_F_tr hFe hFf)⟩
  · have h9' : ¬ nI (hp_v P.2.1 a.2.1 a.1) = 9 := by
      rcases hp_v3 P.2.1 a.2.1 a.1 with e | e | e
      · rw [e]; decide
      · rw [e]; decide
      · exact absurd e h9
    rw [if_neg h9', if_neg h9]
    exact ⟨τ1, by show some ((0 : Int32), τ1) = some (nI (hp_c 0), τ1); rw [hp_c0], hM1, hF1⟩
