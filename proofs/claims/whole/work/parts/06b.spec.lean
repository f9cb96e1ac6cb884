/-! what the document says of an hour, over numbers: a jury (how many, need, kinds, whom they heed), a room (who is for yes, who is there, the hour, how stubborn, hunger) -/
abbrev hp_P : Type := Nat × Nat × (Nat → Nat) × (Nat → Nat)
abbrev hp_R : Type := Nat × Nat × Nat × (Nat → Nat) × (Nat → Nat)
def hp_cy (nd a b : Nat) : Bool := decide (b < a ∧ (b = 0 ∨ nd ≤ a))
def hp_v (nd t y : Nat) : Nat := if hp_cy nd (hp_c (t &&& y)) (hp_c (hp_n t y)) = true then 1 else if hp_cy nd (hp_c (hp_n t y)) (hp_c (t &&& y)) = true then 0 else 9
def hp_hh (k h : Nat) : Nat := if k = 2 then (if h % 2 = 0 then 1 else 0) else if k = 1 then 2 else 1
def hp_hu (k h u : Nat) : Nat := min 20 (u + hp_hh k h)
def hp_gr (P : hp_P) (a : hp_R) : hp_R := (a.1, a.2.1, a.2.2.1, a.2.2.2.1, fun j => if hp_b a.2.1 j = 1 then hp_hu (P.2.2.1 j) a.2.2.1 (a.2.2.2.2 j) else a.2.2.2.2 j)
def hp_ag (t y j : Nat) : Nat := if hp_b y j = 1 then hp_n t y else t &&& y
def hp_mu (P : hp_P) (a : hp_R) (j : Nat) : Bool := decide (hp_c (hp_n a.2.1 (hp_ag a.2.1 a.1 j)) < hp_c (hp_ag a.2.1 a.1 j) ∧ a.2.2.2.1 j ≤ a.2.2.2.2 j + (if P.2.2.1 j = 3 then 0 else (hp_c (hp_ag a.2.1 a.1 j) - hp_c (hp_n a.2.1 (hp_ag a.2.1 a.1 j))) + 2 * hp_c (P.2.2.2 j &&& hp_ag a.2.1 a.1 j)))
def hp_st (P : hp_P) (j : Nat) (q : Nat × hp_R) : Nat × hp_R := if hp_b q.2.2.1 j = 1 ∧ hp_mu P q.2 j = true then (q.1 ||| 2 ^ j, (q.2.1 ^^^ 2 ^ j, q.2.2)) else q
def hp_fo (P : hp_P) : Nat → Nat × hp_R → Nat × hp_R
  | 0, q => q
  | k + 1, q => hp_st P k (hp_fo P k q)
def hp_in (a : hp_R) : hp_R := (a.1, a.2.1, a.2.2.1 + 1, a.2.2.2)
def hp_h (P : hp_P) (a : hp_R) : Nat × hp_R := if hp_v P.2.1 a.2.1 a.1 = 9 then hp_fo P 6 (0, hp_gr P (hp_in a)) else (0, hp_in a)
/-- a jury, a room as they may be -/
def hp_okP (P : hp_P) : Prop := P.1 ≤ 6 ∧ P.2.1 ≤ 6 ∧ ∀ j, j < P.1 → P.2.2.1 j ≤ 3 ∧ P.2.2.2 j < 64
def hp_okR (n B : Nat) (a : hp_R) : Prop := a.1 < 64 ∧ a.2.1 < 2 ^ n ∧ a.2.2.1 < B ∧ ∀ j, j < n → 1 ≤ a.2.2.2.1 j ∧ a.2.2.2.1 j ≤ 9 ∧ a.2.2.2.2 j ≤ 20
theorem hp_t64 {n t : Nat} (hn : n ≤ 6) (h : t < 2 ^ n) : t < 64 := Nat.lt_of_lt_of_le h (Nat.pow_le_pow_right (by decide) hn : 2 ^ n ≤ 2 ^ 6)
theorem hp_bn {n t j : Nat} (h : t < 2 ^ n) (hb : hp_b t j = 1) : j < n := by
  apply Nat.lt_of_not_le
  intro hj
  have h2 : t < 2 ^ j := Nat.lt_of_lt_of_le h (Nat.pow_le_pow_right (by decide) hj)
  unfold hp_b at hb
  rw [Nat.div_eq_of_lt h2] at hb
  cases hb
theorem hp_v3 (nd t y : Nat) : hp_v nd t y = 0 ∨ hp_v nd t y = 1 ∨ hp_v nd t y = 9 := by
  unfold hp_v
  split
  · exact Or.inr (Or.inl rfl)
  · split
    · exact Or.inl rfl
    · exact Or.inr (Or.inr rfl)
theorem hp_hh2 (k h : Nat) : hp_hh k h ≤ 2 := by
  unfold hp_hh
  split
  · split <;> omega
  · split <;> omega
theorem hp_ag_lt {t y j : Nat} (h : t < 64) : hp_ag t y j < 64 := by
  unfold hp_ag
  split
  · exact hp_n_lt h
  · exact hp_and_lt h
theorem hp_fo_t (P : hp_P) : ∀ (k : Nat) (q : Nat × hp_R), (hp_fo P k q).2.2 = q.2.2
  | 0, q => rfl
  | k + 1, q => by
    show (hp_st P k (hp_fo P k q)).2.2 = _
    unfold hp_st
    split
    · exact hp_fo_t P k q
    · exact hp_fo_t P k q
theorem hp_fo_lt (P : hp_P) : ∀ (k : Nat) (q : Nat × hp_R), k ≤ 6 → q.2.1 < 64 → q.1 < 64 → (hp_fo P k q).2.1 < 64 ∧ (hp_fo P k q).1 < 64
  | 0, q, _, h1, h2 => ⟨h1, h2⟩
  | k + 1, q, hk, h1, h2 => by
    obtain ⟨i1, i2⟩ := hp_fo_lt P k q (by omega) h1 h2
    show (hp_st P k (hp_fo P k q)).2.1 < 64 ∧ (hp_st P k (hp_fo P k q)).1 < 64
    unfold hp_st
    split
    · exact ⟨hp_xor_lt i1 (hp_p_lt (by omega)), hp_or_lt i2 (hp_p_lt (by omega))⟩
    · exact ⟨i1, i2⟩
theorem hp_okR_in {n B : Nat} {a : hp_R} (h : hp_okR n B a) : hp_okR n (B + 1) (hp_in a) := ⟨h.1, h.2.1, Nat.succ_lt_succ h.2.2.1, h.2.2.2⟩
theorem hp_okR_gr {n B : Nat} {P : hp_P} {a : hp_R} (h : hp_okR n B a) : hp_okR n B (hp_gr P a) := by
  refine ⟨h.1, h.2.1, h.2.2.1, fun j hj => ⟨(h.2.2.2 j hj).1, (h.2.2.2 j hj).2.1, ?_⟩⟩
  show (if hp_b a.2.1 j = 1 then hp_hu (P.2.2.1 j) a.2.2.1 (a.2.2.2.2 j) else a.2.2.2.2 j) ≤ 20
  split
  · unfold hp_hu; omega
  · exact (h.2.2.2 j hj).2.2
theorem hp_okR_fo {n B k : Nat} {P : hp_P} {q : Nat × hp_R} (hk : k ≤ 6) (h : hp_okR n B q.2) (hm : q.1 < 64) : hp_okR n B (hp_fo P k q).2 := by
  obtain ⟨h1, h2⟩ := hp_fo_lt P k q hk h.1 hm
  have h3 := hp_fo_t P k q
  refine ⟨h1, ?_⟩
  rw [h3]
  exact h.2
theorem hp_okR_h {n B : Nat} {P : hp_P} {a : hp_R} (h : hp_okR n B a) : hp_okR n (B + 1) (hp_h P a).2 := by
  unfold hp_h
  split
  · exact hp_okR_fo (Nat.le_refl 6) (hp_okR_gr (hp_okR_in h)) (by show 0 < 64; decide)
  · exact hp_okR_in h
theorem hp_h_m {P : hp_P} {a : hp_R} (h : a.1 < 64) : (hp_h P a).1 < 64 := by
  unfold hp_h
  split
  · exact (hp_fo_lt P 6 _ (Nat.le_refl 6) h (by show 0 < 64; decide)).2
  · show 0 < 64; decide
/-! the class's rooms -/
def hr_P (π : hj_Ob) (P : hp_P) : Prop := π.1 3 = nI P.1 ∧ π.1 4 = nI P.2.1 ∧ ∀ j, j < P.1 → π.2 1 j = nI (P.2.2.1 j) ∧ π.2 2 j = nI (P.2.2.2 j)
def hr_X (n : Nat) (ρ : hj_Ob) (a : hp_R) : Prop := ρ.1 3 = nI a.1 ∧ ρ.1 4 = nI a.2.1 ∧ ρ.1 5 = nI a.2.2.1 ∧ ∀ j, j < n → ρ.2 1 j = nI (a.2.2.2.1 j) ∧ ρ.2 2 j = nI (a.2.2.2.2 j)
theorem x_b1 {a j : Nat} : (nI (hp_b a j) = 1) = (hp_b a j = 1) := by
  have := hp_b_lt a j
  exact ev_eq (a := hp_b a j) (b := 1) (by omega) (by omega)
theorem x_there {π ρ : hj_Ob} {t j : Nat} (ht : ρ.1 4 = nI t) (h : t < 64) (hj : j < 6) : fX2_isThere π ρ (nI j) = some (nI (hp_b t j)) := by
  unfold fX2_isThere
  rw [if_neg (ev_neg (by omega)), if_neg (by rw [show (6 : Int32) = nI 6 from rfl, ev_le (by omega) (by omega)]; omega), ht, hp_has h (by omega)]
  rcases hp_b2 t j with e | e <;> rw [e] <;> rfl
theorem x_yes {π ρ : hj_Ob} {y j : Nat} (ht : ρ.1 3 = nI y) (h : y < 64) (hj : j < 6) : fX2_isYes π ρ (nI j) = some (nI (hp_b y j)) := by
  unfold fX2_isYes
  rw [if_neg (ev_neg (by omega)), if_neg (by rw [show (6 : Int32) = nI 6 from rfl, ev_le (by omega) (by omega)]; omega), ht, hp_has h (by omega)]
  rcases hp_b2 y j with e | e <;> rw [e] <;> rfl
theorem x_carries {π ρ : hj_Ob} {nd a b : Nat} (hn : π.1 4 = nI nd) (h : nd < 2 ^ 31) (ha : a < 2 ^ 31) (hb : b < 2 ^ 31) : fX2_carries π ρ (nI a) (nI b) = some (if hp_cy nd a b = true then 1 else 0) := by
  unfold fX2_carries hp_cy
  simp only [hn, ev_le ha hb, ev_lt ha h, show (nI b = 0) = (b = 0) from ev_eq (b := 0) hb (by omega), decide_eq_true_eq]
  by_cases h1 : a ≤ b
  · rw [if_pos h1, if_neg (by omega)]
  · rw [if_neg h1]
    by_cases h2 : b = 0
    · rw [if_pos h2, if_pos (by omega)]
    · rw [if_neg h2]
      by_cases h3 : a < nd
      · rw [if_pos h3, if_neg (by omega)]
      · rw [if_neg h3, if_pos (by omega)]
theorem x_verdict {π ρ : hj_Ob} {nd t y : Nat} (hn : π.1 4 = nI nd) (hnd : nd < 2 ^ 31) (ht : ρ.1 4 = nI t) (hy : ρ.1 3 = nI y) (h1 : t < 64) (h2 : y < 64) : fX2_verdict π ρ = some (nI (hp_v nd t y)) := by
  unfold fX2_verdict hp_v
  have c1 := hp_c_le (t &&& y)
  have c2 := hp_c_le (hp_n t y)
  rw [ht, hy, hp_and, hp_not h1 h2, hp_bc (hp_and_lt h1), hp_bc (hp_n_lt h1), ev_o1, ev_o1, x_carries hn hnd (by omega) (by omega), ev_o1]
  cases hp_cy nd (hp_c (t &&& y)) (hp_c (hp_n t y)) with
  | true => rfl
  | false =>
    rw [if_pos (by rfl), x_carries hn hnd (by omega) (by omega), ev_o1]
    cases hp_cy nd (hp_c (hp_n t y)) (hp_c (t &&& y)) <;> rfl
theorem x_and1 {h : Nat} (hh : h < 2 ^ 31) : nI h &&& 1 = nI (h % 2) := pk_andN (by omega) 1 rfl
theorem x_hungry {π ρ : hj_Ob} {k h : Nat} (hk : k ≤ 3) (hh : h < 2 ^ 31) (e : ρ.1 5 = nI h) : fX2_hungerOfHour π ρ (nI k) = some (nI (hp_hh k h)) := by
  unfold fX2_hungerOfHour hp_hh
  simp only [e, x_and1 hh, show (nI k = 2) = (k = 2) from ev_eq (b := 2) (by omega) (by omega), show (nI k = 1) = (k = 1) from ev_eq (b := 1) (by omega) (by omega), show (nI (h % 2) = 0) = (h % 2 = 0) from ev_eq (b := 0) (by omega) (by omega)]
  by_cases h1 : k = 2
  · rw [if_pos h1, if_pos h1]
    by_cases h2 : h % 2 = 0
    · rw [if_pos h2, if_pos h2]; rfl
    · rw [if_neg h2, if_neg h2]; rfl
  · rw [if_neg h1, if_neg h1]
    by_cases h2 : k = 1
    · rw [if_pos h2, if_pos h2]; rfl
    · rw [if_neg h2, if_neg h2]; rfl
theorem x_growb {π ρ ρ0 : hj_Ob} {P : hp_P} {a : hp_R} {B i : Nat} (hP : hr_P π P) (hoP : hp_okP P) (hoR : hp_okR P.1 B a) (hB : B < 2 ^ 30) (hi : i < 6) (h1 : ρ.1 = ρ0.1) (hX : hr_X P.1 ρ0 a)
    (hS : ∀ j, j < P.1 → ρ.2 1 j = nI (a.2.2.2.1 j)) (hU : ∀ j, j < P.1 → ρ.2 2 j = nI (if j < i then (hp_gr P a).2.2.2.2 j else a.2.2.2.2 j)) :
    ∃ ρ', fX2_growHungry_2 π ρ (nI i) = some (.inr (nI (i + 1), ρ')) ∧ ρ'.1 = ρ0.1 ∧ (∀ j, j < P.1 → ρ'.2 1 j = nI (a.2.2.2.1 j)) ∧ (∀ j, j < P.1 → ρ'.2 2 j = nI (if j < i + 1 then (hp_gr P a).2.2.2.2 j else a.2.2.2.2 j)) := by
  have ht := hp_t64 hoP.1 hoR.2.1
  unfold fX2_growHungry_2
  rw [if_neg (by rw [show (6 : Int32) = nI 6 from rfl, ev_le (by omega) (by omega)]; omega), x_there (t := a.2.1) (by rw [h1]; exact hX.2.1) ht hi, ev_o1, nI_1]
  rcases hp_b2 a.2.1 i with e | e
  · rw [e, if_pos (by rfl), ev_nm]
    refine ⟨ρ, rfl, h1, hS, fun j hj => ?_⟩
    rw [hU j hj]
    by_cases hji : j = i
    · subst hji
      rw [if_neg (by omega), if_pos (by omega)]
      show _ = nI (if hp_b a.2.1 j = 1 then _ else _)
      rw [if_neg (by omega)]
    · by_cases hlt : j < i
      · rw [if_pos hlt, if_pos (by omega)]
      · rw [if_neg hlt, if_neg (by omega)]
  · have hin : i < P.1 := hp_bn hoR.2.1 e
    have hUi : ρ.2 2 i = nI (a.2.2.2.2 i) := by rw [hU i hin, if_neg (Nat.lt_irrefl i)]
    rw [e, if_neg (by decide), ev_ck hi (by decide), ev_ck hi (by decide), ev_cl (by omega), (hP.2.2 i hin).1, x_hungry (hoP.2.2 i hin).1 (h := a.2.2.1) (by have := hoR.2.2.1; omega) (by rw [h1]; exact hX.2.2.1), ev_o1, ev_ck hi (by decide), hUi, ev_nm, nI_add]
    have hu := (hoR.2.2.2 i hin).2.2
    have hh := hp_hh2 (P.2.2.1 i) a.2.2.1
    refine ⟨_, rfl, ?_, fun j hj => ?_, fun j hj => ?_⟩
    · rw [ev_a1, h1]
    · rw [ev_a2, if_neg (by decide)]; exact hS j hj
    · rw [ev_a2, if_pos rfl, ev_upd, ev_cl (by omega)]
      by_cases hji : j = i
      · subst hji
        rw [if_pos rfl, show (if j < j + 1 then (hp_gr P a).2.2.2.2 j else a.2.2.2.2 j) = (hp_gr P a).2.2.2.2 j from if_pos (Nat.lt_succ_self j)]
        show _ = nI (if hp_b a.2.1 j = 1 then _ else _)
        rw [if_pos e]
        unfold hp_hu
        by_cases h20 : a.2.2.2.2 j + hp_hh (P.2.2.1 j) a.2.2.1 < 20
        · rw [if_pos (by rw [show (20 : Int32) = nI 20 from rfl, ev_lt (by omega) (by omega)]; exact h20), Nat.min_eq_right (by omega)]
        · rw [if_neg (by rw [show (20 : Int32) = nI 20 from rfl, ev_lt (by omega) (by omega)]; exact h20), Nat.min_eq_left (by omega)]; rfl
      · rw [if_neg hji, hU j hj]
        by_cases hlt : j < i
        · rw [if_pos hlt, if_pos (by omega)]
        · rw [if_neg hlt, if_neg (by omega)]
theorem x_grow {π ρ : hj_Ob} {P : hp_P} {a : hp_R} {B : Nat} (hP : hr_P π P) (hoP : hp_okP P) (hoR : hp_okR P.1 B a) (hB : B < 2 ^ 30) (hX : hr_X P.1 ρ a) :
    ∃ ρ', fX2_growHungry π ρ = some ρ' ∧ hr_X P.1 ρ' (hp_gr P a) := by
  obtain ⟨e, he, h1, h2, h3⟩ := lp_h (b := fun q : (Int32 × hj_Ob) => fX2_growHungry_2 π q.2 q.1) (fun i q => q.1 = nI i ∧ q.2.1 = ρ.1 ∧ (∀ j, j < P.1 → q.2.2 1 j = nI (a.2.2.2.1 j)) ∧ (∀ j, j < P.1 → q.2.2 2 j = nI (if j < i then (hp_gr P a).2.2.2.2 j else a.2.2.2.2 j)))
    (fun ρ' => ρ'.1 = ρ.1 ∧ (∀ j, j < P.1 → ρ'.2 1 j = nI (a.2.2.2.1 j)) ∧ (∀ j, j < P.1 → ρ'.2 2 j = nI ((hp_gr P a).2.2.2.2 j))) 6
    (fun i q hi hI => by
      obtain ⟨x, r⟩ := q
      obtain ⟨h1, h2, h3, h4⟩ := hI
      dsimp only at h1 h2 h3 h4 ⊢
      subst h1
      by_cases h6 : i < 6
      · obtain ⟨ρ', k1, k2, k3, k4⟩ := x_growb hP hoP hoR hB h6 h2 hX h3 h4
        exact Or.inr ⟨h6, _, k1, rfl, k2, k3, k4⟩
      · have : i = 6 := by omega
        subst this
        refine Or.inl ⟨r, ?_, h2, h3, fun j hj => ?_⟩
        · unfold fX2_growHungry_2
          rw [if_pos (by decide)]
        · rw [h4 j hj, if_pos (by have := hoP.1; omega)])
    100 0 (0, ρ) (by omega) (by omega) ⟨rfl, rfl, fun j hj => (hX.2.2.2 j hj).1, fun j hj => by rw [if_neg (by omega)]; exact (hX.2.2.2 j hj).2⟩
  refine ⟨e, ?_, ?_⟩
  · unfold fX2_growHungry
    rw [he, ev_o1]
  · unfold hr_X
    rw [h1]
    exact ⟨hX.1, hX.2.1, hX.2.2.1, fun j hj => ⟨h2 j hj, h3 j hj⟩⟩
