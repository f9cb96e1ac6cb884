/-! what can be done and is done at the reference's levels -/
theorem m_3x {j : Nat} : (3 : Int32) + nI j = nI (3 + j) := by rw [show (3 : Int32) = nI 3 from rfl, nI_add]
theorem m_9x {j : Nat} : (9 : Int32) + nI j = nI (9 + j) := by rw [show (9 : Int32) = nI 9 from rfl, nI_add]
theorem m_18x {j : Nat} : (18 : Int32) + nI j = nI (18 + j) := by rw [show (18 : Int32) = nI 18 from rfl, nI_add]
theorem m_24x {j : Nat} : (24 : Int32) + nI j = nI (24 + j) := by rw [show (24 : Int32) = nI 24 from rfl, nI_add]
theorem hp_cd1 (a : hp_R) (j : Nat) : hp_cd a 1 j = decide (hp_b a.2.1 j = 1 ∧ 1 < a.2.2.2.1 j) := by simp [hp_cd]
theorem hp_cd2 (a : hp_R) (j : Nat) : hp_cd a 2 j = decide (hp_b a.2.1 j = 1 ∧ 0 < a.2.2.2.2 j) := by simp [hp_cd]
theorem m_canA {τ : hj_Ob} {sd : Int64} {P : hp_P} {a : hp_R} {B L j : Nat} (hL : L < 2) (hoP : hp_okP P) (ho : hp_okR P.1 B a) (hM : hr_M P.1 L τ a) (hj : j < 6) :
    fX6_canArgue τ sd (nI L) (nI j) = some (nI (if hp_cd a 1 j = true then 1 else 0)) := by
  have ht := hp_t64 hoP.1 ho.2.1
  unfold fX6_canArgue
  rw [m_there hL hM.2.1 ht (by omega), ev_o1, hp_cd1]
  rcases hp_b2 a.2.1 j with e | e
  · rw [e, if_pos (by rfl)]; simp; rfl
  · have hjn := hp_bn ho.2.1 e
    have hr := ho.2.2.2 j hjn
    rw [e, if_neg (by decide), m_i0, show (3 : Int32) = nI 3 from rfl, nI_add, nI_add, ev_ck (by omega) (by decide), ev_cl (by omega), (hM.2.2.2 j hjn).1]
    simp only [show (nI (a.2.2.2.1 j) ≤ 1) = (a.2.2.2.1 j ≤ 1) from ev_le (b := 1) (by omega) (by omega)]
    by_cases h : a.2.2.2.1 j ≤ 1
    · rw [if_pos h, if_neg (by simp; omega)]; rfl
    · rw [if_neg h, if_pos (by simp; omega)]; rfl
theorem m_canF {τ : hj_Ob} {sd : Int64} {P : hp_P} {a : hp_R} {B L j : Nat} (hL : L < 2) (hoP : hp_okP P) (ho : hp_okR P.1 B a) (hM : hr_M P.1 L τ a) (hj : j < 6) :
    fX6_canFeed τ sd (nI L) (nI j) = some (nI (if hp_cd a 2 j = true then 1 else 0)) := by
  have ht := hp_t64 hoP.1 ho.2.1
  unfold fX6_canFeed
  rw [m_there hL hM.2.1 ht (by omega), ev_o1, hp_cd2]
  rcases hp_b2 a.2.1 j with e | e
  · rw [e, if_pos (by rfl)]; simp; rfl
  · have hjn := hp_bn ho.2.1 e
    have hr := ho.2.2.2 j hjn
    rw [e, if_neg (by decide), m_i0, show (9 : Int32) = nI 9 from rfl, nI_add, nI_add, ev_ck (by omega) (by decide), ev_cl (by omega), (hM.2.2.2 j hjn).2]
    simp only [show (nI (a.2.2.2.2 j) ≤ 0) = (a.2.2.2.2 j ≤ 0) from ev_le (b := 0) (by omega) (by omega)]
    by_cases h : a.2.2.2.2 j ≤ 0
    · rw [if_pos h, if_neg (by simp; omega)]; rfl
    · rw [if_neg h, if_pos (by simp; omega)]; rfl
/-- one number of a level set -/
theorem m_setS {τ : hj_Ob} {n L j v : Nat} {a : hp_R} (hM : hr_M n L τ a) (hL : L < 2) (hn : n ≤ 6) (hj : j < n) : hr_M n L (hj_a τ 4 (nI (15 * L + 3 + j)) (nI v)) (a.1, a.2.1, a.2.2.1, va_up a.2.2.2.1 j v, a.2.2.2.2) := by
  refine ⟨?_, ?_, ?_, fun i hi => ⟨?_, ?_⟩⟩
  · rw [m_a4 (by omega), if_neg (by omega)]; exact hM.1
  · rw [m_a4 (by omega), if_neg (by omega)]; exact hM.2.1
  · rw [m_a4 (by omega), if_neg (by omega)]; exact hM.2.2.1
  · rw [m_a4 (by omega)]
    show _ = nI (va_up a.2.2.2.1 j v i)
    by_cases e : i = j
    · subst e
      rw [if_pos rfl, va_up_self]
    · rw [if_neg (by omega), va_up_ne _ _ e]
      exact (hM.2.2.2 i hi).1
  · rw [m_a4 (by omega), if_neg (by omega)]; exact (hM.2.2.2 i hi).2
theorem m_setU {τ : hj_Ob} {n L j v : Nat} {a : hp_R} (hM : hr_M n L τ a) (hL : L < 2) (hn : n ≤ 6) (hj : j < n) : hr_M n L (hj_a τ 4 (nI (15 * L + 9 + j)) (nI v)) (a.1, a.2.1, a.2.2.1, a.2.2.2.1, va_up a.2.2.2.2 j v) := by
  refine ⟨?_, ?_, ?_, fun i hi => ⟨?_, ?_⟩⟩
  · rw [m_a4 (by omega), if_neg (by omega)]; exact hM.1
  · rw [m_a4 (by omega), if_neg (by omega)]; exact hM.2.1
  · rw [m_a4 (by omega), if_neg (by omega)]; exact hM.2.2.1
  · rw [m_a4 (by omega), if_neg (by omega)]; exact (hM.2.2.2 i hi).1
  · rw [m_a4 (by omega)]
    show _ = nI (va_up a.2.2.2.2 j v i)
    by_cases e : i = j
    · subst e
      rw [if_pos rfl, va_up_self]
    · rw [if_neg (by omega), va_up_ne _ _ e]
      exact (hM.2.2.2 i hi).2
theorem m_setY {τ : hj_Ob} {n L y : Nat} {a : hp_R} (hM : hr_M n L τ a) (hL : L < 2) (hn : n ≤ 6) : hr_M n L (hj_a τ 4 (nI (15 * L)) (nI y)) (y, a.2) := by
  refine ⟨?_, ?_, ?_, fun i hi => ⟨?_, ?_⟩⟩
  · rw [m_a4 (by omega), if_pos rfl]
  · rw [m_a4 (by omega), if_neg (by omega)]; exact hM.2.1
  · rw [m_a4 (by omega), if_neg (by omega)]; exact hM.2.2.1
  · rw [m_a4 (by omega), if_neg (by omega)]; exact (hM.2.2.2 i hi).1
  · rw [m_a4 (by omega), if_neg (by omega)]; exact (hM.2.2.2 i hi).2
theorem m_die {τ : hj_Ob} {sd : Int64} {n L j : Nat} {a : hp_R} (hM : hr_M n L τ a) (hL : L < 2) (hn : n ≤ 6) (ht : a.2.1 < 64) (hj : j < 6) : ∃ τ', fX6_dieOn τ sd (nI L) (nI j) = some τ' ∧ hr_M n L τ' (a.1, hp_n a.2.1 (2 ^ j), 0, a.2.2.2) ∧ hr_F L τ τ' := by
  unfold fX6_dieOn
  rw [hp_pw (by omega), show (15 : Int32) * nI L + 1 = nI (15 * L + 1) by rw [m_i0, nI_1], show (15 : Int32) * nI L + 2 = nI (15 * L + 2) by rw [m_i0, show (2 : Int32) = nI 2 from rfl, nI_add], ev_ck (by omega) (by decide), ev_ck (by omega) (by decide), ev_cl (by omega), hM.2.1, hp_not ht (hp_p_lt hj), ev_nm, ev_ck (by omega) (by decide), ev_nm]
  refine ⟨_, rfl, ⟨?_, ?_, ?_, fun i hi => ⟨?_, ?_⟩⟩, hr_F_tr (hr_F_a (by omega) (by omega) (by omega)) (hr_F_a (by omega) (by omega) (by omega))⟩
  · rw [m_a4 (by omega), if_neg (by omega), m_a4 (by omega), if_neg (by omega)]; exact hM.1
  · rw [m_a4 (by omega), if_neg (by omega), m_a4 (by omega), if_pos rfl]
  · rw [m_a4 (by omega), if_pos rfl]; rfl
  · rw [m_a4 (by omega), if_neg (by omega), m_a4 (by omega), if_neg (by omega)]; exact (hM.2.2.2 i hi).1
  · rw [m_a4 (by omega), if_neg (by omega), m_a4 (by omega), if_neg (by omega)]; exact (hM.2.2.2 i hi).2
