/-! the text read: the class's panel, the reference's reading -/
theorem lp_3 {S E S' E' : Type} {b : S → Option (E ⊕ S)} {b' : S' → Option (E' ⊕ S')} (I : Nat → S → S' → Prop) (Q : E → E' → Prop) (N : Nat)
    (h : ∀ i s s', i ≤ N → I i s s' → (∃ e e', b s = some (.inl e) ∧ b' s' = some (.inl e') ∧ Q e e') ∨ (∃ e t' e', b s = some (.inl e) ∧ b' s' = some (.inr t') ∧ b' t' = some (.inl e') ∧ Q e e') ∨ (i < N ∧ ∃ t t', b s = some (.inr t) ∧ b' s' = some (.inr t') ∧ I (i + 1) t t')) :
    ∀ (fu fu' i : Nat) (s : S) (s' : S'), i ≤ N → N - i < fu → N - i + 1 < fu' → I i s s' → ∃ e e', hj_lp b fu s = some e ∧ hj_lp b' fu' s' = some e' ∧ Q e e' := by
  intro fu
  induction fu with
  | zero => intro fu' i s s' _ h2 _ _; omega
  | succ fu ih =>
    intro fu' i s s' h1 h2 h2' h3
    cases fu' with
    | zero => omega
    | succ fu' =>
      rcases h i s s' h1 h3 with ⟨e, e', he, he', hp⟩ | ⟨e, t', e', he, ht', he', hp⟩ | ⟨hl, t, t', ht, ht', hI⟩
      · exact ⟨e, e', lp_l he, lp_l he', hp⟩
      · cases fu' with
        | zero => omega
        | succ fu' => exact ⟨e, e', lp_l he, by rw [lp_r ht']; exact lp_l he', hp⟩
      · obtain ⟨e, e', he, he', hp⟩ := ih fu' (i + 1) t t' hl (by omega) (by omega) hI
        exact ⟨e, e', by rw [lp_r ht]; exact he, by rw [lp_r ht']; exact he', hp⟩
/-- jurors, need, yes, stubborn, kind, heeds -/
abbrev hp_D : Type := Nat × Nat × Nat × (Nat → Nat) × (Nat → Nat) × (Nat → Nat)
def hd_x (ρ : hj_Ob) (D : hp_D) : Prop := ρ.1 3 = nI D.1 ∧ ρ.1 4 = nI D.2.1 ∧ ρ.1 5 = nI D.2.2.1 ∧ ∀ j, j < D.1 → ρ.2 0 j = nI (D.2.2.2.1 j) ∧ ρ.2 1 j = nI (D.2.2.2.2.1 j) ∧ ρ.2 2 j = nI (D.2.2.2.2.2 j)
def hd_m (τ : hj_Ob) (D : hp_D) : Prop := τ.1 7 = nI D.1 ∧ τ.1 8 = nI D.2.1 ∧ (∀ j, j < D.1 → τ.2 5 (3 * j) = nI (hp_b D.2.2.1 j) ∧ τ.2 5 (3 * j + 1) = nI (D.2.2.2.1 j) ∧ τ.2 5 (3 * j + 2) = nI (D.2.2.2.2.1 j) ∧ τ.2 6 j = nI (D.2.2.2.2.2 j)) ∧ ∀ j, D.1 ≤ j → j < 6 → τ.2 6 j = 0
def hd_ok (D : hp_D) : Prop := D.1 ≤ 6 ∧ D.2.1 ≤ 6 ∧ D.2.2.1 < 2 ^ D.1 ∧ ∀ j, j < D.1 → 1 ≤ D.2.2.2.1 j ∧ D.2.2.2.1 j ≤ 9 ∧ D.2.2.2.2.1 j ≤ 3 ∧ D.2.2.2.2.2 j < 64
def hr_D (τ τ' : hj_Ob) : Prop := (∀ k, k ≠ 7 → k ≠ 8 → k ≠ 11 → k ≠ 12 → τ'.1 k = τ.1 k) ∧ ∀ k, k ≠ 5 → k ≠ 6 → τ'.2 k = τ.2 k
theorem hr_D_rf {τ : hj_Ob} : hr_D τ τ := ⟨fun _ _ _ _ _ => rfl, fun _ _ _ => rfl⟩
theorem hr_D_tr {τ τ' τ'' : hj_Ob} (h : hr_D τ τ') (h' : hr_D τ' τ'') : hr_D τ τ'' := ⟨fun k a b c d => (h'.1 k a b c d).trans (h.1 k a b c d), fun k a b => (h'.2 k a b).trans (h.2 k a b)⟩
theorem hr_D_s {τ : hj_Ob} {k : Nat} {v : Int32} (h : k = 7 ∨ k = 8 ∨ k = 11 ∨ k = 12) : hr_D τ (hj_s τ k v) := ⟨fun j _ _ _ _ => by rw [ev_s1, if_neg (by omega)], fun _ _ _ => rfl⟩
theorem hr_D_a {τ : hj_Ob} {k : Nat} {x v : Int32} (h : k = 5 ∨ k = 6) : hr_D τ (hj_a τ k x v) := ⟨fun _ _ _ _ _ => rfl, fun j _ _ => by rw [ev_a2, if_neg (by omega)]⟩
/-- the letters -/
def hd_t (ρ : hj_Ob) (tx : hp_T) : Prop := ρ.1 1 = nI tx.1 ∧ (∀ i, i < tx.1 → ρ.2 0 i = nI (tx.2 i)) ∧ tx.1 ≤ 56 ∧ ∀ i, i < tx.1 → tx.2 i < 256
theorem x_let {ρ : hj_Ob} {tx : hp_T} {i : Nat} (h : hd_t ρ tx) (hi : i < 1000) : fX4_letterAt ρ (nI i) = some (if i < tx.1 then nI (tx.2 i) else -1) := by
  have h56 := h.2.2.1
  unfold fX4_letterAt
  rw [if_neg (ev_neg (by omega)), h.1]
  simp only [show (nI tx.1 ≤ nI i) = (tx.1 ≤ i) from ev_le (by omega) (by omega), show (nI i < 56) = (i < 56) from ev_lt (b := 56) (by omega) (by omega)]
  by_cases c : tx.1 ≤ i
  · rw [if_pos c, if_neg (by omega)]
  · rw [if_neg c, if_pos (by omega), ck_k (by omega) (by decide), ev_cl (by omega), h.2.1 i (by omega), if_pos (by omega)]
abbrev hd_f (tx : hp_T) (i lo hi : Nat) : Prop := i < tx.1 ∧ 48 + lo ≤ tx.2 i ∧ tx.2 i ≤ 48 + hi
theorem x_fig {ρ : hj_Ob} {tx : hp_T} {i lo hi : Nat} (h : hd_t ρ tx) (hi0 : i < 1000) (h1 : lo < 10) (h2 : hi < 10) : fX4_isFigure ρ (nI i) (nI lo) (nI hi) = some (if hd_f tx i lo hi then 1 else 0) := by
  unfold fX4_isFigure
  rw [x_let h hi0, ev_o1, show (48 : Int32) + nI lo = nI (48 + lo) from nI_add 48 lo, show (48 : Int32) + nI hi = nI (48 + hi) from nI_add 48 hi]
  by_cases c : i < tx.1
  · have hc := h.2.2.2 i c
    rw [if_pos c]
    simp only [show (nI (tx.2 i) < nI (48 + lo)) = (tx.2 i < 48 + lo) from ev_lt (by omega) (by omega), show (nI (48 + hi) < nI (tx.2 i)) = (48 + hi < tx.2 i) from ev_lt (by omega) (by omega)]
    unfold hd_f
    by_cases c1 : tx.2 i < 48 + lo
    · rw [if_pos c1, if_neg (by omega)]
    · rw [if_neg c1]
      by_cases c2 : 48 + hi < tx.2 i
      · rw [if_pos c2, if_neg (by omega)]
      · rw [if_neg c2, if_pos (by omega)]
  · have m1 : (-1 : Int32) < nI (48 + lo) := by
      rw [Int32.lt_iff_toInt_lt, nI_toInt (by omega), show (-1 : Int32).toInt = -1 from rfl]
      omega
    rw [if_neg c, if_pos m1, if_neg (fun q => c q.1)]
theorem x_fat {ρ : hj_Ob} {tx : hp_T} {i : Nat} (h : hd_t ρ tx) (hi : i < 1000) : fX4_figureAt ρ (nI i) = some (if i < tx.1 then nI (tx.2 i) - 48 else -49) := by
  unfold fX4_figureAt
  rw [x_let h hi, ev_o1]
  split <;> rfl
theorem nI_48 {c : Nat} (h : 48 ≤ c) : nI c - 48 = nI (c - 48) := pk_sub (b := 48) h
def hd_u (τ : hj_Ob) (tx : hp_T) : Prop := τ.1 10 = nI tx.1 ∧ (∀ i, i < tx.1 → τ.2 9 i = nI (tx.2 i)) ∧ tx.1 ≤ 56 ∧ ∀ i, i < tx.1 → tx.2 i < 256
theorem hr_D_u {τ τ' : hj_Ob} {tx : hp_T} (h : hr_D τ τ') (hu : hd_u τ tx) : hd_u τ' tx := by
  unfold hd_u
  rw [h.1 10 (by decide) (by decide) (by decide) (by decide), h.2 9 (by decide) (by decide)]
  exact hu
def hd_b (tx : hp_T) (i m : Nat) : Prop := i < tx.1 ∧ 48 ≤ tx.2 i ∧ tx.2 i ≤ 57 ∧ hp_b m (tx.2 i - 48) = 1
theorem m_fo {τ : hj_Ob} {sd : Int64} {tx : hp_T} {i m : Nat} (hu : hd_u τ tx) (hi : i < 1000) (hat : τ.1 11 = nI i) (hf : τ.1 12 = -9) (hm : ∀ k, k < 10 → fX6_has (nI m) (nI k) = some (nI (hp_b m k))) :
    (hd_b tx i m → fX6_figureOf τ sd (nI m) = some (nI (tx.2 i - 48), hj_s τ 11 (nI (i + 1)))) ∧ (¬ hd_b tx i m → fX6_figureOf τ sd (nI m) = some (0, hj_s τ 12 (nI i))) := by
  have h56 := hu.2.2.1
  have f58 : fX6_figureOf_58 τ sd = some (0, hj_s τ 12 (nI i)) := by
    unfold fX6_figureOf_58
    rw [if_pos hf, ev_nm, hat]
  unfold fX6_figureOf
  rw [if_pos hf, hu.1, hat]
  simp only [show (nI tx.1 ≤ nI i) = (tx.1 ≤ i) from ev_le (by omega) (by omega)]
  by_cases c : tx.1 ≤ i
  · have n9 : fX6_figureOf_37 τ sd (nI m) (-9) = some (0, hj_s τ 12 (nI i)) := by
      unfold fX6_figureOf_37
      rw [in_f (l := 0) (h := 9) rfl rfl (Or.inl (by decide)), ev_o1, if_pos rfl, f58]
    rw [if_pos c, n9]
    exact ⟨fun q => absurd q.1 (by omega), fun _ => rfl⟩
  · have hi1 : i < tx.1 := by omega
    have hc := hu.2.2.2 i hi1
    rw [if_neg c, ck_k (by omega) (by decide), ev_cl (by omega), hu.2.1 i hi1]
    unfold fX6_figureOf_37
    by_cases g : 48 ≤ tx.2 i
    · rw [nI_48 g]
      by_cases g2 : tx.2 i ≤ 57
      · rw [in_t (l := 0) (h := 9) (by omega) rfl rfl (by omega) (by omega), ev_o1, if_neg i10, hm _ (by omega), ev_o1]
        by_cases g3 : hp_b m (tx.2 i - 48) = 1
        · rw [g3, if_neg (show ¬ nI 1 = 0 from i10), hat, nI_1, ev_nm]
          exact ⟨fun _ => rfl, fun q => absurd ⟨hi1, g, g2, g3⟩ q⟩
        · rw [show hp_b m (tx.2 i - 48) = 0 by have := hp_b2 m (tx.2 i - 48); omega, if_pos (show nI 0 = 0 from rfl), f58]
          exact ⟨fun q => absurd q.2.2.2 g3, fun _ => rfl⟩
      · rw [in_f (l := 0) (h := 9) rfl rfl (Or.inr (by rw [nI_toInt (by omega)]; omega)), ev_o1, if_pos rfl, f58]
        exact ⟨fun q => absurd q.2.2.1 g2, fun _ => rfl⟩
    · have hneg : (nI (tx.2 i) - 48).toInt = (tx.2 i : Int) - 48 := pk_sub_toInt (b := 48) (by omega) (by omega)
      rw [in_f (l := 0) (h := 9) rfl rfl (Or.inl (by omega)), ev_o1, if_pos rfl, f58]
      exact ⟨fun q => absurd q.2.1 g, fun _ => rfl⟩
theorem m_ff {τ : hj_Ob} {sd : Int64} {M : Int32} (hf : ¬ τ.1 12 = -9) : fX6_figureOf τ sd M = some (0, hj_s τ 12 (τ.1 12)) := by
  unfold fX6_figureOf fX6_figureOf_37 fX6_figureOf_58
  rw [if_neg hf, in_f (l := 0) (h := 9) rfl rfl (Or.inl (by decide)), ev_o1, if_pos rfl, if_neg hf, ev_nm]
theorem m_ff_i {i : Nat} (hi : i < 1000) : ¬ nI i = -9 := by
  intro q
  have k2 := ev_neg (a := i) (by omega)
  rw [q] at k2
  exact absurd (by decide) k2
theorem has_3 : ∀ k, k < 10 → fX6_has (nI 3) (nI k) = some (nI (hp_b 3 k)) := by decide +kernel
theorem has_126 : ∀ k, k < 10 → fX6_has (nI 126) (nI k) = some (nI (hp_b 126 k)) := by decide +kernel
theorem has_1022 : ∀ k, k < 10 → fX6_has (nI 1022) (nI k) = some (nI (hp_b 1022 k)) := by decide +kernel
theorem has_15 : ∀ k, k < 10 → fX6_has (nI 15) (nI k) = some (nI (hp_b 15 k)) := by decide +kernel
theorem bits_m : ∀ k, k < 10 → (hp_b 3 k = 1 ↔ k ≤ 1) ∧ (hp_b 126 k = 1 ↔ 1 ≤ k ∧ k ≤ 6) ∧ (hp_b 1022 k = 1 ↔ 1 ≤ k) ∧ (hp_b 15 k = 1 ↔ k ≤ 3) := by decide +kernel
theorem hd_b3 {tx : hp_T} {i : Nat} : hd_b tx i 3 ↔ hd_f tx i 0 1 := by
  unfold hd_b hd_f
  constructor
  · rintro ⟨a, b, c, d⟩; have := (bits_m (tx.2 i - 48) (by omega)).1.mp d; omega
  · rintro ⟨a, b, c⟩; exact ⟨a, by omega, by omega, (bits_m (tx.2 i - 48) (by omega)).1.mpr (by omega)⟩
theorem hd_b126 {tx : hp_T} {i : Nat} : hd_b tx i 126 ↔ hd_f tx i 1 6 := by
  unfold hd_b hd_f
  constructor
  · rintro ⟨a, b, c, d⟩; have := (bits_m (tx.2 i - 48) (by omega)).2.1.mp d; omega
  · rintro ⟨a, b, c⟩; exact ⟨a, by omega, by omega, (bits_m (tx.2 i - 48) (by omega)).2.1.mpr (by omega)⟩
theorem hd_b1022 {tx : hp_T} {i : Nat} : hd_b tx i 1022 ↔ hd_f tx i 1 9 := by
  unfold hd_b hd_f
  constructor
  · rintro ⟨a, b, c, d⟩; have := (bits_m (tx.2 i - 48) (by omega)).2.2.1.mp d; omega
  · rintro ⟨a, b, c⟩; exact ⟨a, by omega, by omega, (bits_m (tx.2 i - 48) (by omega)).2.2.1.mpr (by omega)⟩
theorem hd_b15 {tx : hp_T} {i : Nat} : hd_b tx i 15 ↔ hd_f tx i 0 3 := by
  unfold hd_b hd_f
  constructor
  · rintro ⟨a, b, c, d⟩; have := (bits_m (tx.2 i - 48) (by omega)).2.2.2.mp d; omega
  · rintro ⟨a, b, c⟩; exact ⟨a, by omega, by omega, (bits_m (tx.2 i - 48) (by omega)).2.2.2.mpr (by omega)⟩
