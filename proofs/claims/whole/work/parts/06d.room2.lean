/-! copies, doings -/
theorem x_copy {π ρo ρ : hj_Ob} {n : Nat} {a : hp_R} (hn : n ≤ 6) (hX : hr_X n ρo a) : ∃ ρ', fX2_copyFrom π ρo ρ = some ρ' ∧ hr_X n ρ' a := by
  unfold fX2_copyFrom
  rw [ev_nm, ev_nm, ev_nm]
  obtain ⟨e, he, h1, h2⟩ := lp_h (b := fun q : (Int32 × hj_Ob) => fX2_copyFrom_26 π ρo q.2 q.1) (fun i q => q.1 = nI i ∧ q.2.1 = (hj_s (hj_s (hj_s ρ 3 (ρo.1 3)) 4 (ρo.1 4)) 5 (ρo.1 5)).1 ∧ ∀ j, j < i → q.2.2 1 j = ρo.2 1 j ∧ q.2.2 2 j = ρo.2 2 j)
    (fun ρ' => ρ'.1 = (hj_s (hj_s (hj_s ρ 3 (ρo.1 3)) 4 (ρo.1 4)) 5 (ρo.1 5)).1 ∧ ∀ j, j < 6 → ρ'.2 1 j = ρo.2 1 j ∧ ρ'.2 2 j = ρo.2 2 j) 6
    (fun i q hi hI => by
      obtain ⟨x, r⟩ := q
      obtain ⟨h1, h2, h3⟩ := hI
      dsimp only at h1 h2 h3 ⊢
      subst h1
      unfold fX2_copyFrom_26
      by_cases h6 : i < 6
      · rw [if_neg (by rw [show (6 : Int32) = nI 6 from rfl, ev_le (by omega) (by omega)]; omega), ev_ck h6 (by decide), ev_ck h6 (by decide), ev_nm, ev_ck h6 (by decide), ev_ck h6 (by decide), ev_nm, ev_nm, ev_cl (by omega), nI_1]
        refine Or.inr ⟨h6, _, rfl, rfl, h2, fun j hj => ?_⟩
        show (hj_a (hj_a r 1 (nI i) _) 2 (nI i) _).2 1 j = _ ∧ (hj_a (hj_a r 1 (nI i) _) 2 (nI i) _).2 2 j = _
        rw [wx_a_ne (by decide : (1 : Nat) ≠ 2), wx_a_se, wx_a_se, wx_a_ne (by decide : (2 : Nat) ≠ 1), ev_upd, ev_upd, ev_cl (show i < 2 ^ 31 by omega)]
        by_cases hji : j = i
        · subst hji
          rw [if_pos rfl, if_pos rfl]
          exact ⟨rfl, rfl⟩
        · rw [if_neg hji, if_neg hji]
          exact h3 j (by omega)
      · have : i = 6 := by omega
        subst this
        rw [if_pos (by decide)]
        exact Or.inl ⟨r, rfl, h2, h3⟩)
    100 0 (0, hj_s (hj_s (hj_s ρ 3 (ρo.1 3)) 4 (ρo.1 4)) 5 (ρo.1 5)) (by omega) (by omega) ⟨rfl, rfl, fun j hj => by omega⟩
  rw [he, ev_o1]
  refine ⟨e, rfl, ?_⟩
  unfold hr_X
  rw [h1]
  refine ⟨hX.1, hX.2.1, hX.2.2.1, fun j hj => ?_⟩
  have := h2 j (by omega)
  rw [this.1, this.2]
  exact hX.2.2.2 j hj
/-- what can be done, what it does: 0 an hour, 1 argued, 2 fed, 3 dead, 4 tossed -/
def hp_cd (a : hp_R) (d j : Nat) : Bool := if d = 0 then decide (j = 0) else decide (hp_b a.2.1 j = 1 ∧ (d = 1 → 1 < a.2.2.2.1 j) ∧ (d = 2 → 0 < a.2.2.2.2 j) ∧ d ≤ 4)
def hp_do (P : hp_P) (d j : Nat) (a : hp_R) : hp_R :=
  if d = 0 then (hp_h P a).2 else if d = 1 then (a.1, a.2.1, a.2.2.1, va_up a.2.2.2.1 j (max 1 (a.2.2.2.1 j - 1)), a.2.2.2.2)
  else if d = 2 then (a.1, a.2.1, a.2.2.1, a.2.2.2.1, va_up a.2.2.2.2 j 0) else if d = 3 then (a.1, hp_n a.2.1 (2 ^ j), 0, a.2.2.2) else if d = 4 then (a.1 ^^^ 2 ^ j, a.2) else a
theorem hp_b64 {t j : Nat} (h : t < 64) (hj : 6 ≤ j) : hp_b t j = 0 := by
  have h2 : t < 2 ^ j := Nat.lt_of_lt_of_le h (Nat.pow_le_pow_right (by decide) hj : 2 ^ 6 ≤ 2 ^ j)
  unfold hp_b
  rw [Nat.div_eq_of_lt h2]
theorem x_can {π ρ : hj_Ob} {P : hp_P} {a : hp_R} {B d j : Nat} (hoP : hp_okP P) (hoR : hp_okR P.1 B a) (hX : hr_X P.1 ρ a) (hd : d < 100) (hj : j < 100) :
    fX2_canDo π ρ (nI d) (nI j) = some (nI (if hp_cd a d j = true then 1 else 0)) := by
  have ht := hp_t64 hoP.1 hoR.2.1
  unfold fX2_canDo hp_cd
  simp only [show (nI d = 0) = (d = 0) from ev_eq (b := 0) (by omega) (by omega), show (nI d = 1) = (d = 1) from ev_eq (b := 1) (by omega) (by omega), show (nI d = 2) = (d = 2) from ev_eq (b := 2) (by omega) (by omega), show (nI d = 3) = (d = 3) from ev_eq (b := 3) (by omega) (by omega), show (nI d = 4) = (d = 4) from ev_eq (b := 4) (by omega) (by omega), show (nI j = 0) = (j = 0) from ev_eq (b := 0) (by omega) (by omega)]
  by_cases h0 : d = 0
  · rw [if_pos h0, if_pos h0]
    by_cases hj0 : j = 0
    · rw [if_pos hj0]; simp [hj0]; rfl
    · rw [if_neg hj0]; simp [hj0]; rfl
  · rw [if_neg h0, if_neg h0, if_neg (ev_neg (by omega))]
    by_cases h6 : j < 6
    · rw [if_neg (by rw [show (6 : Int32) = nI 6 from rfl, ev_le (by omega) (by omega)]; omega), x_there hX.2.1 ht h6, ev_o1]
      rcases hp_b2 a.2.1 j with e | e
      · rw [e, if_pos (by rfl)]; simp; rfl
      · have hr := hoR.2.2.2 j (hp_bn hoR.2.1 e)
        have hx := hX.2.2.2 j (hp_bn hoR.2.1 e)
        rw [e, if_neg (by decide)]
        by_cases h1 : d = 1
        · subst h1
          rw [if_pos rfl, ev_ck h6 (by decide), ev_cl (by omega), hx.1]
          simp only [show (nI (a.2.2.2.1 j) ≤ 1) = (a.2.2.2.1 j ≤ 1) from ev_le (b := 1) (by omega) (by omega)]
          by_cases h : a.2.2.2.1 j ≤ 1
          · rw [if_pos h, if_neg (by simp; omega)]; rfl
          · rw [if_neg h, if_pos (by simp; omega)]; rfl
        · rw [if_neg h1]
          by_cases h2 : d = 2
          · subst h2
            rw [if_pos rfl, ev_ck h6 (by decide), ev_cl (by omega), hx.2]
            simp only [show (nI (a.2.2.2.2 j) ≤ 0) = (a.2.2.2.2 j ≤ 0) from ev_le (b := 0) (by omega) (by omega)]
            by_cases h : a.2.2.2.2 j ≤ 0
            · rw [if_pos h, if_neg (by simp; omega)]; rfl
            · rw [if_neg h, if_pos (by simp; omega)]; rfl
          · rw [if_neg h2]
            by_cases h3 : d = 3
            · subst h3; rfl
            · rw [if_neg h3]
              by_cases h4 : d = 4
              · subst h4; rfl
              · rw [if_neg h4, if_neg (by simp; omega)]; rfl
    · rw [if_pos (by rw [show (6 : Int32) = nI 6 from rfl, ev_le (by omega) (by omega)]; omega), if_neg (by rw [hp_b64 ht (by omega)]; simp)]
      rfl
theorem hp_pow_bit : hp_all 64 (fun t => hp_all 6 (fun j => decide (hp_n t (2 ^ j) ≤ t))) = true := by decide +kernel
theorem hp_n_le (a b : Nat) : hp_n a b ≤ a := Nat.and_le_left
theorem hp_okR_do {n B d j : Nat} {P : hp_P} {a : hp_R} (hn : n ≤ 6) (h : hp_okR n B a) (hj : j < 6) (hB : 0 < B) : hp_okR n (B + 1) (hp_do P d j a) := by
  have h' : hp_okR n (B + 1) a := ⟨h.1, h.2.1, by have := h.2.2.1; omega, h.2.2.2⟩
  unfold hp_do
  split
  · exact hp_okR_h h
  · split
    · refine ⟨h'.1, h'.2.1, h'.2.2.1, fun i hi => ?_⟩
      have := h.2.2.2 i hi
      show 1 ≤ va_up a.2.2.2.1 j _ i ∧ va_up a.2.2.2.1 j _ i ≤ 9 ∧ a.2.2.2.2 i ≤ 20
      by_cases e : i = j
      · subst e
        rw [va_up_self]
        omega
      · rw [va_up_ne _ _ e]
        exact this
    · split
      · refine ⟨h'.1, h'.2.1, h'.2.2.1, fun i hi => ?_⟩
        have := h.2.2.2 i hi
        show 1 ≤ a.2.2.2.1 i ∧ a.2.2.2.1 i ≤ 9 ∧ va_up a.2.2.2.2 j 0 i ≤ 20
        by_cases e : i = j
        · subst e
          rw [va_up_self]
          omega
        · rw [va_up_ne _ _ e]
          exact this
      · split
        · exact ⟨h.1, Nat.lt_of_le_of_lt (hp_n_le _ _) h.2.1, by show 0 < B + 1; omega, h.2.2.2⟩
        · split
          · exact ⟨hp_xor_lt h.1 (hp_p_lt hj), h'.2⟩
          · exact h'
theorem x_do {π ρ : hj_Ob} {P : hp_P} {a : hp_R} {B d j : Nat} (hP : hr_P π P) (hoP : hp_okP P) (hoR : hp_okR P.1 B a) (hB : B < 2 ^ 29) (hX : hr_X P.1 ρ a) (hd : d < 100) (hj : j < 6) (hjd : (d = 1 ∨ d = 2) → j < P.1) :
    ∃ ρ', fX2_carryOut π ρ (nI d) (nI j) = some ρ' ∧ hr_X P.1 ρ' (hp_do P d j a) := by
  have ht := hp_t64 hoP.1 hoR.2.1
  unfold fX2_carryOut hp_do
  simp only [show (nI d = 0) = (d = 0) from ev_eq (b := 0) (by omega) (by omega), show (nI d = 1) = (d = 1) from ev_eq (b := 1) (by omega) (by omega), show (nI d = 2) = (d = 2) from ev_eq (b := 2) (by omega) (by omega), show (nI d = 3) = (d = 3) from ev_eq (b := 3) (by omega) (by omega), show (nI d = 4) = (d = 4) from ev_eq (b := 4) (by omega) (by omega)]
  rw [if_neg (ev_neg (by omega)), if_pos (by rw [show (6 : Int32) = nI 6 from rfl, ev_lt (by omega) (by omega)]; exact hj)]
  by_cases h0 : d = 0
  · subst h0
    obtain ⟨ρ1, h1, hX1⟩ := x_hour hP hoP hoR hB hX
    rw [if_pos rfl, if_pos rfl, h1, ev_o2]
    exact ⟨ρ1, rfl, hX1⟩
  · rw [if_neg h0, if_neg h0]
    by_cases h1 : d = 1
    · have hjn := hjd (Or.inl h1)
      have hx := (hX.2.2.2 j hjn).1
      have hr := hoR.2.2.2 j hjn
      rw [if_pos h1, if_pos h1, ev_ck hj (by decide), ev_ck hj (by decide), ev_nm, ev_cl (by omega), hx, show (1 : Int32) = nI 1 from rfl, pk_sub (by omega)]
      refine ⟨_, rfl, hX.1, hX.2.1, hX.2.2.1, fun i hi => ?_⟩
      have hi2 := hX.2.2.2 i hi
      rw [wx_a_se, wx_a_ne (by decide : (2 : Nat) ≠ 1), ev_upd, ev_cl (by omega)]
      refine ⟨?_, hi2.2⟩
      show _ = nI (va_up a.2.2.2.1 j _ i)
      by_cases e : i = j
      · subst e
        rw [if_pos rfl, va_up_self]
        simp only [ev_lt (a := 1) (b := a.2.2.2.1 i - 1) (by omega) (by omega)]
        by_cases h : 1 < a.2.2.2.1 i - 1
        · rw [if_pos h, Nat.max_eq_right (by omega)]
        · rw [if_neg h, Nat.max_eq_left (by omega)]
      · rw [if_neg e, va_up_ne _ _ e]
        exact hi2.1
    · rw [if_neg h1, if_neg h1]
      by_cases h2 : d = 2
      · rw [if_pos h2, if_pos h2, ev_ck hj (by decide), ev_nm]
        refine ⟨_, rfl, hX.1, hX.2.1, hX.2.2.1, fun i hi => ?_⟩
        have hi2 := hX.2.2.2 i hi
        rw [wx_a_se, wx_a_ne (by decide : (1 : Nat) ≠ 2), ev_upd, ev_cl (by omega)]
        refine ⟨hi2.1, ?_⟩
        show _ = nI (va_up a.2.2.2.2 j 0 i)
        by_cases e : i = j
        · subst e
          rw [if_pos rfl, va_up_self]; rfl
        · rw [if_neg e, va_up_ne _ _ e]
          exact hi2.2
      · rw [if_neg h2, if_neg h2]
        by_cases h3 : d = 3
        · rw [if_pos h3, if_pos h3, ev_nm, ev_nm, hX.2.1, hp_pw (by omega), hp_not ht (hp_p_lt hj)]
          exact ⟨_, rfl, hX.1, rfl, rfl, hX.2.2.2⟩
        · rw [if_neg h3, if_neg h3]
          by_cases h4 : d = 4
          · rw [if_pos h4, if_pos h4, ev_nm, hX.1, hp_pw (by omega), hp_xor]
            exact ⟨_, rfl, rfl, hX.2.1, hX.2.2.1, hX.2.2.2⟩
          · rw [if_neg h4, if_neg h4]
            exact ⟨ρ, rfl, hX⟩
