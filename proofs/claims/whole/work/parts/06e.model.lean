/-! the reference's levels -/
def hr_M (n L : Nat) (τ : hj_Ob) (a : hp_R) : Prop := τ.2 4 (15 * L) = nI a.1 ∧ τ.2 4 (15 * L + 1) = nI a.2.1 ∧ τ.2 4 (15 * L + 2) = nI a.2.2.1 ∧ ∀ j, j < n → τ.2 4 (15 * L + 3 + j) = nI (a.2.2.2.1 j) ∧ τ.2 4 (15 * L + 9 + j) = nI (a.2.2.2.2 j)
def hr_MP (τ : hj_Ob) (P : hp_P) : Prop := τ.1 0 = nI P.1 ∧ τ.1 1 = nI P.2.1 ∧ ∀ j, j < P.1 → τ.2 2 j = nI (P.2.2.1 j) ∧ τ.2 3 j = nI (P.2.2.2 j)
def hr_F (L : Nat) (τ τ' : hj_Ob) : Prop := τ'.1 = τ.1 ∧ (∀ k, k ≠ 4 → τ'.2 k = τ.2 k) ∧ ∀ i, (i < 15 * L ∨ 15 * L + 15 ≤ i) → τ'.2 4 i = τ.2 4 i
theorem hr_F_rf {L : Nat} {τ : hj_Ob} : hr_F L τ τ := ⟨rfl, fun _ _ => rfl, fun _ _ => rfl⟩
theorem hr_F_tr {L : Nat} {τ τ' τ'' : hj_Ob} (h : hr_F L τ τ') (h' : hr_F L τ' τ'') : hr_F L τ τ'' := ⟨h'.1.trans h.1, fun k hk => (h'.2.1 k hk).trans (h.2.1 k hk), fun i hi => (h'.2.2 i hi).trans (h.2.2 i hi)⟩
theorem hr_F_P {L : Nat} {τ τ' : hj_Ob} {P : hp_P} (h : hr_F L τ τ') (hP : hr_MP τ P) : hr_MP τ' P := by
  unfold hr_MP
  rw [h.1, h.2.1 2 (by decide), h.2.1 3 (by decide)]
  exact hP
theorem hr_F_a {L : Nat} {τ : hj_Ob} {i : Nat} {v : Int32} (h : 15 * L ≤ i) (h2 : i < 15 * L + 15) (hb : i < 2 ^ 31) : hr_F L τ (hj_a τ 4 (nI i) v) := by
  refine ⟨rfl, fun k hk => wx_a_ne hk, fun j hj => ?_⟩
  rw [wx_a_se, ev_upd, ev_cl hb, if_neg (by omega)]
theorem m_a4 {τ : hj_Ob} {i : Nat} {v : Int32} (hb : i < 2 ^ 31) (j : Nat) : (hj_a τ 4 (nI i) v).2 4 j = if j = i then v else τ.2 4 j := by
  rw [wx_a_se, ev_upd, ev_cl hb]
theorem hr_F_M {L L' n : Nat} {τ τ' : hj_Ob} {a : hp_R} (h : hr_F L τ τ') (hL : L' ≠ L) (hn : n ≤ 6) (hM : hr_M n L' τ a) : hr_M n L' τ' a := by
  unfold hr_M
  rw [h.2.2 (15 * L') (by omega), h.2.2 (15 * L' + 1) (by omega), h.2.2 (15 * L' + 2) (by omega)]
  refine ⟨hM.1, hM.2.1, hM.2.2.1, fun j hj => ?_⟩
  rw [h.2.2 (15 * L' + 3 + j) (by omega), h.2.2 (15 * L' + 9 + j) (by omega)]
  exact hM.2.2.2 j hj
theorem ev_bz {α : Type} {a j : Nat} {k : Option α} : hj_bz (nI (hp_b a j)) k = k := by
  unfold hj_bz
  rcases hp_b2 a j with e | e <;> rw [e]
  · exact if_pos (Or.inl rfl)
  · exact if_pos (Or.inr rfl)
theorem m_has {a j : Nat} (h : a < 64) (hj : j < 32) : fX6_has (nI a) (nI j) = some (nI (hp_b a j)) := by
  unfold fX6_has
  rw [hp_has h hj]
  rcases hp_b2 a j with e | e <;> rw [e] <;> rfl
theorem m_i1 {L k : Nat} : (15 : Int32) * nI L + nI k = nI (15 * L + k) := by rw [show (15 : Int32) = nI 15 from rfl, pk_mul, nI_add]
theorem m_i0 {L : Nat} : (15 : Int32) * nI L = nI (15 * L) := by rw [show (15 : Int32) = nI 15 from rfl, pk_mul]
theorem m_there {τ : hj_Ob} {sd : Int64} {L t j : Nat} (hL : L < 2) (ht : τ.2 4 (15 * L + 1) = nI t) (h : t < 64) (hj : j < 32) : fX6_isThere τ sd (nI L) (nI j) = some (nI (hp_b t j)) := by
  unfold fX6_isThere
  rw [show (1 : Int32) = nI 1 from rfl, m_i1, ev_ck (by omega) (by decide), ev_cl (by omega), ht, m_has h hj, ev_o1, ev_bz]
set_option maxRecDepth 20000 in
theorem hp_sp_all : hp_all 64 (fun t => hp_all 64 (fun y => decide (hp_c t = hp_c (y &&& t) + hp_c (hp_n t y) ∧ y &&& t = t &&& y ∧ hp_n t (y &&& t) = hp_n t y ∧ hp_n t (hp_n t y) = t &&& y ∧ hp_n t (t &&& y) = hp_n t y))) = true := by decide +kernel
theorem hp_sp {t y : Nat} (ht : t < 64) (hy : y < 64) : hp_c t = hp_c (y &&& t) + hp_c (hp_n t y) ∧ y &&& t = t &&& y ∧ hp_n t (y &&& t) = hp_n t y ∧ hp_n t (hp_n t y) = t &&& y ∧ hp_n t (t &&& y) = hp_n t y := of_decide_eq_true (hp_all_s (hp_all_s hp_sp_all ht) hy)
theorem m_v69 {τ : hj_Ob} {sd : Int64} {nd a b : Nat} (hn : τ.1 1 = nI nd) (h : nd < 2 ^ 31) (ha : a < 2 ^ 31) (hb : b < 2 ^ 31) : fX6_verdict_69 τ sd (nI a) (nI b) = some (nI (if nd ≤ b ∧ a < b then 0 else 9)) := by
  unfold fX6_verdict_69
  simp only [hn, ev_lt hb h, ev_le hb ha]
  by_cases h1 : b < nd
  · rw [if_pos h1, if_neg (by omega)]; rfl
  · rw [if_neg h1]
    by_cases h2 : b ≤ a
    · rw [if_pos h2, if_neg (by omega)]; rfl
    · rw [if_neg h2, if_pos (by omega)]; rfl
theorem m_v44a {τ : hj_Ob} {sd : Int64} {nd a b : Nat} (hn : τ.1 1 = nI nd) (h : nd < 2 ^ 31) (ha : a < 2 ^ 31) (hb : b < 2 ^ 31) : (if nI b ≤ 0 then (fX6_verdict_69 τ sd (nI a) (nI b)) else (if nI a = 0 then (some 0) else (fX6_verdict_69 τ sd (nI a) (nI b)))) = some (nI (if (0 < b ∧ a = 0) ∨ (nd ≤ b ∧ a < b) then 0 else 9)) := by
  rw [m_v69 hn h ha hb]
  simp only [show (nI b ≤ 0) = (b ≤ 0) from ev_le (b := 0) hb (by omega), show (nI a = 0) = (a = 0) from ev_eq (b := 0) ha (by omega)]
  by_cases h1 : b ≤ 0
  · rw [if_pos h1, if_neg (by omega), if_neg (by omega)]
  · rw [if_neg h1]
    by_cases h2 : a = 0
    · rw [if_pos h2, if_pos (by omega)]; rfl
    · rw [if_neg h2]
      by_cases h3 : nd ≤ b ∧ a < b
      · rw [if_pos h3, if_pos (by omega)]
      · rw [if_neg h3, if_neg (by omega)]
theorem m_v44 {τ : hj_Ob} {sd : Int64} {nd a b : Nat} (hn : τ.1 1 = nI nd) (h : nd < 2 ^ 31) (ha : a < 2 ^ 31) (hb : b < 2 ^ 31) : fX6_verdict_44 τ sd (nI a) (nI b) = some (nI (if nd ≤ a ∧ b < a then 1 else if (0 < b ∧ a = 0) ∨ (nd ≤ b ∧ a < b) then 0 else 9)) := by
  unfold fX6_verdict_44
  rw [m_v44a hn h ha hb]
  simp only [hn, ev_lt ha h, ev_le ha hb]
  by_cases h1 : a < nd
  · rw [if_pos h1, if_neg (show ¬ (nd ≤ a ∧ b < a) by omega)]
  · rw [if_neg h1]
    by_cases h2 : a ≤ b
    · rw [if_pos h2, if_neg (show ¬ (nd ≤ a ∧ b < a) by omega)]
    · rw [if_neg h2, if_pos (show nd ≤ a ∧ b < a by omega)]; rfl
theorem m_verdict {τ : hj_Ob} {sd : Int64} {L nd t y : Nat} (hL : L < 2) (hn : τ.1 1 = nI nd) (hnd : nd < 2 ^ 31) (ht : τ.2 4 (15 * L + 1) = nI t) (hy : τ.2 4 (15 * L) = nI y) (h1 : t < 64) (h2 : y < 64) : fX6_verdict τ sd (nI L) = some (nI (hp_v nd t y)) := by
  obtain ⟨s1, s2, -, -, -⟩ := hp_sp h1 h2
  have c1 := hp_c_le (y &&& t)
  have c2 := hp_c_le t
  unfold fX6_verdict
  rw [show (1 : Int32) = nI 1 from rfl, m_i1, m_i0, ev_ck (by omega) (by decide), ev_cl (by omega), ev_nm, ev_ck (by omega) (by decide), ev_cl (by omega), ht, hy, hp_and, hp_on (hp_and_lt h2), ev_o1, hp_on h1, ev_o1, ev_nm, pk_sub (by omega), show hp_c t - hp_c (y &&& t) = hp_c (hp_n t y) by omega, m_v44 hn hnd (by omega) (by omega)]
  unfold hp_v hp_cy
  rw [← s2]
  generalize hp_c (y &&& t) = a at *
  generalize hp_c (hp_n t y) = b at *
  simp only [show (nI a ≤ 0) = (a ≤ 0) from ev_le (b := 0) (by omega) (by omega), show (nI b = 0) = (b = 0) from ev_eq (b := 0) (by omega) (by omega), decide_eq_true_eq]
  by_cases k1 : b < a ∧ (b = 0 ∨ nd ≤ a)
  · rw [if_pos k1, if_neg (by omega)]
    by_cases k2 : b = 0
    · rw [if_pos k2]
    · rw [if_neg k2, if_pos (by omega)]
  · rw [if_neg k1]
    by_cases k3 : a ≤ 0
    · rw [if_pos k3, if_neg (by omega)]
      by_cases k4 : a < b ∧ (a = 0 ∨ nd ≤ b)
      · rw [if_pos k4, if_pos (by omega)]
      · rw [if_neg k4, if_neg (by omega)]
    · rw [if_neg k3, if_neg (by omega), if_neg (by omega)]
      by_cases k4 : a < b ∧ (a = 0 ∨ nd ≤ b)
      · rw [if_pos k4, if_pos (by omega)]
      · rw [if_neg k4, if_neg (by omega)]
theorem m_hu48 {τ : hj_Ob} {sd : Int64} {L j u d : Nat} (hL : L < 2) (hj : j < 6) (hu : τ.2 4 (15 * L + 9 + j) = nI u) (h1 : u ≤ 20) (h2 : d ≤ 2) : fX6_hungerOn_48 τ sd (nI j) (nI (15 * L)) (nI d) = some (hj_a τ 4 (nI (15 * L + 9 + j)) (nI (min 20 (u + d)))) := by
  unfold fX6_hungerOn_48
  rw [show (9 : Int32) = nI 9 from rfl, nI_add, nI_add, ev_ck (by omega) (by decide), ev_cl (by omega), hu, nI_add, ev_nm, ev_ck (by omega) (by decide), ev_nm, ev_ck (by omega) (by decide), ev_nm]
  simp only [show (nI (u + d) ≤ 20) = (u + d ≤ 20) from ev_le (b := 20) (by omega) (by omega)]
  by_cases h : u + d ≤ 20
  · rw [if_pos h, Nat.min_eq_right h]
  · rw [if_neg h, Nat.min_eq_left (by omega)]; rfl
theorem m_hu {τ : hj_Ob} {sd : Int64} {P : hp_P} {a : hp_R} {L j B : Nat} (hL : L < 2) (hP : hr_MP τ P) (hoP : hp_okP P) (ho : hp_okR P.1 B a) (hB : B < 2 ^ 30) (hh : τ.2 4 (15 * L + 2) = nI a.2.2.1) (hj : j < P.1) (hu : τ.2 4 (15 * L + 9 + j) = nI (a.2.2.2.2 j)) :
    fX6_hungerOn τ sd (nI L) (nI j) = some (hj_a τ 4 (nI (15 * L + 9 + j)) (nI (hp_hu (P.2.2.1 j) a.2.2.1 (a.2.2.2.2 j)))) := by
  have hj6 : j < 6 := by have := hoP.1; omega
  have hk := (hoP.2.2 j hj).1
  have hr := (ho.2.2.2 j hj).2.2
  have hB2 := ho.2.2.1
  unfold fX6_hungerOn hp_hu hp_hh
  rw [m_i0, ev_nm, ev_ck hj6 (by decide), ev_cl (by omega), (hP.2.2 j hj).1, ev_ck hj6 (by decide), show (2 : Int32) = nI 2 from rfl, nI_add, ev_ck (by omega) (by decide), ev_cl (by omega), hh, show (1 : Int32) = nI 1 from rfl, show (0 : Int32) = nI 0 from rfl]
  rw [pk_rem (by omega) (by omega) (by omega), m_hu48 hL hj6 hu hr (by omega), m_hu48 hL hj6 hu hr (by omega), m_hu48 hL hj6 hu hr (by omega)]
  simp only [ev_eq (a := P.2.2.1 j) (b := 1) (by omega) (by omega), ev_eq (a := P.2.2.1 j) (b := 2) (by omega) (by omega), ev_eq (a := a.2.2.1 % 2) (b := 1) (by omega) (by omega)]
  by_cases h1 : P.2.2.1 j = 1
  · rw [if_pos h1, if_neg (by omega), if_pos h1]
  · rw [if_neg h1]
    by_cases h2 : P.2.2.1 j = 2
    · rw [if_pos h2, if_pos h2]
      by_cases h3 : a.2.2.1 % 2 = 1
      · rw [if_pos h3, if_neg (by omega)]
      · rw [if_neg h3, if_pos (by omega)]
    · rw [if_neg h2, if_neg h2, if_neg h1]
theorem m_gi123 {τ : hj_Ob} {sd : Int64} {L j s v : Nat} {x : Int32} (hL : L < 2) (hj : j < 6) (hs : τ.2 4 (15 * L + 3 + j) = nI s) (h1 : s < 2 ^ 31) (h2 : v < 2 ^ 31) (hx : ¬ x ≤ 0) : fX6_givesIn_123 τ sd (nI j) (nI (15 * L)) x (nI v) = some (nI (if s ≤ v then 1 else 0)) := by
  unfold fX6_givesIn_123
  rw [if_neg hx, show (3 : Int32) = nI 3 from rfl, nI_add, nI_add, ev_ck (by omega) (by decide), ev_cl (by omega), hs]
  simp only [ev_lt h2 h1]
  by_cases h : v < s
  · rw [if_pos h, if_neg (by omega)]; rfl
  · rw [if_neg h, if_pos (by omega)]; rfl
theorem x_npos {a b : Nat} (ha : a < 2 ^ 30) (hb : b < 2 ^ 30) : (nI a - nI b ≤ 0) = (a ≤ b) := by
  apply propext
  rw [Int32.le_iff_toInt_le, pk_sub_toInt ha hb]
  show _ ≤ (0 : Int) ↔ _
  omega
theorem m_gi51 {τ : hj_Ob} {sd : Int64} {P : hp_P} {a : hp_R} {L j B ow ag : Nat} (hL : L < 2) (hP : hr_MP τ P) (hoP : hp_okP P) (ho : hp_okR P.1 B a) (hM : hr_M P.1 L τ a) (hj : j < P.1) (how : ow < 64) (hag : hp_n a.2.1 ow = ag) (hag2 : hp_n a.2.1 ag = ow) :
    fX6_givesIn_51 τ sd (nI j) (nI (15 * L)) (nI a.2.1) (nI ow) = some (nI (if hp_c (hp_n a.2.1 ag) < hp_c ag ∧ a.2.2.2.1 j ≤ a.2.2.2.2 j + (if P.2.2.1 j = 3 then 0 else (hp_c ag - hp_c (hp_n a.2.1 ag)) + 2 * hp_c (P.2.2.2 j &&& ag)) then 1 else 0)) := by
  have ht := hp_t64 hoP.1 ho.2.1
  have hj6 : j < 6 := by have := hoP.1; omega
  have hag3 : ag < 64 := by rw [← hag]; exact hp_n_lt ht
  have c1 := hp_c_le ag
  have c2 := hp_c_le ow
  have c3 := hp_c_le (P.2.2.2 j &&& ag)
  have hk := hoP.2.2 j hj
  have hr := ho.2.2.2 j hj
  unfold fX6_givesIn_51
  rw [hp_not ht how, hag, ev_nm, hp_on hag3, ev_o1, hp_on how, ev_o1, ev_nm, show (9 : Int32) = nI 9 from rfl, nI_add, nI_add, ev_ck (by omega) (by decide), ev_cl (by omega), (hM.2.2.2 j hj).2, ev_nm, ev_ck hj6 (by decide), ev_cl (by omega), (hP.2.2 j hj).1, ev_ck hj6 (by decide), (hP.2.2 j hj).2, hp_and, hp_on (hp_and_lt hk.2), ev_o1, hag2]
  simp only [show (nI (P.2.2.1 j) = 3) = (P.2.2.1 j = 3) from ev_eq (b := 3) (by omega) (by omega)]
  by_cases h : hp_c ow < hp_c ag
  · rw [pk_sub (by omega)]
    have hx : ¬ nI (hp_c ag - hp_c ow) ≤ 0 := by
      rw [show (nI (hp_c ag - hp_c ow) ≤ 0) = (hp_c ag - hp_c ow ≤ 0) from ev_le (b := 0) (by omega) (by omega)]
      omega
    by_cases h3 : P.2.2.1 j = 3
    · rw [if_pos h3, m_gi123 hL hj6 (hM.2.2.2 j hj).1 (by omega) (by omega) hx, if_pos h3]
      simp [h]
    · rw [if_neg h3, show (2 : Int32) = nI 2 from rfl, pk_mul, nI_add, nI_add, m_gi123 hL hj6 (hM.2.2.2 j hj).1 (by omega) (by omega) hx, if_neg h3, Nat.add_assoc]
      simp [h]
  · have hx : nI (hp_c ag) - nI (hp_c ow) ≤ 0 := by rw [x_npos (by omega) (by omega)]; omega
    rw [if_neg (show ¬ (hp_c ow < hp_c ag ∧ _) from fun q => h q.1)]
    unfold fX6_givesIn_123
    rw [if_pos hx, if_pos hx]
    split <;> rfl
theorem m_gives {τ : hj_Ob} {sd : Int64} {P : hp_P} {a : hp_R} {L j B : Nat} (hL : L < 2) (hP : hr_MP τ P) (hoP : hp_okP P) (ho : hp_okR P.1 B a) (hM : hr_M P.1 L τ a) (hj : j < P.1) :
    fX6_givesIn τ sd (nI L) (nI j) = some (nI (if hp_mu P a j = true then 1 else 0)) := by
  have ht := hp_t64 hoP.1 ho.2.1
  have hj6 : j < 6 := by have := hoP.1; omega
  obtain ⟨-, s2, s3, s4, s5⟩ := hp_sp ht ho.1
  unfold fX6_givesIn hp_mu hp_ag
  rw [m_i0, ev_nm, nI_1, ev_ck (by omega) (by decide), ev_cl (by omega), hM.2.1, ev_nm, ev_ck (by omega) (by decide), ev_cl (by omega), hM.1, m_has ho.1 (by omega), ev_o1, ev_ck (by omega) (by decide), ev_ck (by omega) (by decide)]
  rcases hp_b2 a.1 j with e | e
  · rw [e, if_pos (by rfl), hp_not ht ho.1, m_gi51 hL hP hoP ho hM hj (hp_n_lt ht) s4 s5]
    simp
  · rw [e, if_neg (by decide), hp_and, m_gi51 hL hP hoP ho hM hj (hp_and_lt ho.1) s3 (by rw [s4, s2])]
    simp
