/-! the class and the reference, side by side: text, jury, room, acts, slots, seen -/
def hr_B (n : Nat) (f : Nat → Int32) (b : Nat) (a : hp_R) : Prop := f b = nI a.1 ∧ f (b + 1) = nI a.2.1 ∧ f (b + 2) = nI a.2.2.1 ∧ ∀ j, j < n → f (b + 3 + j) = nI (a.2.2.2.1 j) ∧ f (b + 9 + j) = nI (a.2.2.2.2 j)
abbrev hp_T : Type := Nat × (Nat → Nat)
abbrev hp_H : Type := Nat × (Nat → hp_R)
abbrev hp_L : Type := (Nat → Bool) × (Nat → hp_R)
abbrev hp_S : Type := Nat × (Nat → Nat) × (Nat → Nat) × (Nat → Nat)
def lx_t (σ : Nat → hj_Ob) (tx : hp_T) : Prop := (σ 1).1 1 = nI tx.1 ∧ ∀ i, i < tx.1 → (σ 1).2 0 i = nI (tx.2 i)
def lx_h (n : Nat) (σ : Nat → hj_Ob) (bf : Nat → Nat) (hi : hp_H) : Prop := (σ 17).1 1 = nI hi.1 ∧ (∀ k, k < 14 → 19 ≤ bf k ∧ bf k < 61 ∧ bf k % 3 = 1) ∧ (∀ k j, k < 14 → j < 14 → bf k = bf j → k = j) ∧ ∀ k, k < hi.1 → hr_X n (σ (bf k)) (hi.2 k)
def lx_l (n : Nat) (σ : Nat → hj_Ob) (sl : hp_L) : Prop := ∀ k, k < 2 → (σ 0).2 7 k = (if sl.1 k = true then 1 else 0) ∧ (sl.1 k = true → hr_X n (σ (67 + 3 * k)) (sl.2 k))
def lx_s (σ : Nat → hj_Ob) (se : hp_S) : Prop := (σ 63).1 3 = nI se.1 ∧ ∀ i, i < se.1 → (σ 63).2 0 i = nI (se.2.1 i) ∧ (σ 63).2 1 i = nI (se.2.2.1 i) ∧ (σ 63).2 2 i = nI (se.2.2.2 i)
def lx (σ : Nat → hj_Ob) (bf : Nat → Nat) (tx : hp_T) (P : hp_P) (a : hp_R) (hi : hp_H) (sl : hp_L) (se : hp_S) : Prop := lx_t σ tx ∧ hr_P (σ 3) P ∧ hr_X P.1 (σ 11) a ∧ lx_h P.1 σ bf hi ∧ lx_l P.1 σ sl ∧ lx_s σ se
def lm_t (τ : hj_Ob) (tx : hp_T) : Prop := τ.1 10 = nI tx.1 ∧ ∀ i, i < tx.1 → τ.2 9 i = nI (tx.2 i)
def lm_h (n : Nat) (τ : hj_Ob) (hi : hp_H) : Prop := τ.1 13 = nI hi.1 ∧ ∃ nx, nx < 14 ∧ τ.1 14 = nI nx ∧ ∀ k, k < hi.1 → hr_B n (τ.2 15) (15 * ((nx + 14 - hi.1 + k) % 14)) (hi.2 k)
def lm_l (n : Nat) (τ : hj_Ob) (sl : hp_L) : Prop := ∀ k, k < 2 → τ.2 22 k = (if sl.1 k = true then 1 else 0) ∧ (sl.1 k = true → hr_B n (τ.2 23) (15 * k) (sl.2 k))
def lm_s (τ : hj_Ob) (se : hp_S) : Prop := τ.1 17 = nI se.1 ∧ ∀ i, i < se.1 → τ.2 18 i = nI (se.2.1 i) ∧ τ.2 19 i = nI (se.2.2.1 i) ∧ τ.2 20 i = nI (se.2.2.2 i)
def lm (τ : hj_Ob) (tx : hp_T) (P : hp_P) (a : hp_R) (hi : hp_H) (sl : hp_L) (se : hp_S) : Prop := lm_t τ tx ∧ hr_MP τ P ∧ hr_M P.1 0 τ a ∧ lm_h P.1 τ hi ∧ lm_l P.1 τ sl ∧ lm_s τ se
def lo (B : Nat) (tx : hp_T) (P : hp_P) (a : hp_R) (hi : hp_H) (sl : hp_L) (se : hp_S) : Prop :=
  (tx.1 ≤ 56 ∧ ∀ i, i < tx.1 → tx.2 i < 256) ∧ hp_okP P ∧ hp_okR P.1 B a ∧ (hi.1 ≤ 14 ∧ ∀ k, k < hi.1 → hp_okR P.1 B (hi.2 k)) ∧ (∀ k, k < 2 → sl.1 k = true → hp_okR P.1 B (sl.2 k)) ∧ (se.1 ≤ 6 ∧ ∀ i, i < se.1 → se.2.1 i < 6 ∧ se.2.2.1 i ≤ 9 ∧ se.2.2.2 i ≤ 1)
def lr (B : Nat) (σ : Nat → hj_Ob) (bf : Nat → Nat) (τ : hj_Ob) : Prop := ∃ tx P a hi sl se, lx σ bf tx P a hi sl se ∧ lm τ tx P a hi sl se ∧ lo B tx P a hi sl se
theorem okR_up {n B B' : Nat} {a : hp_R} (h : hp_okR n B a) (hB : B ≤ B') : hp_okR n B' a := ⟨h.1, h.2.1, Nat.lt_of_lt_of_le h.2.2.1 hB, h.2.2.2⟩
theorem lo_up {B B' : Nat} {tx : hp_T} {P : hp_P} {a : hp_R} {hi : hp_H} {sl : hp_L} {se : hp_S} (h : lo B tx P a hi sl se) (hB : B ≤ B') : lo B' tx P a hi sl se :=
  ⟨h.1, h.2.1, okR_up h.2.2.1 hB, ⟨h.2.2.2.1.1, fun k hk => okR_up (h.2.2.2.1.2 k hk) hB⟩, fun k hk hs => okR_up (h.2.2.2.2.1 k hk hs) hB, h.2.2.2.2.2⟩
theorem lr_up {B B' : Nat} {σ : Nat → hj_Ob} {bf : Nat → Nat} {τ : hj_Ob} (h : lr B σ bf τ) (hB : B ≤ B') : lr B' σ bf τ := by
  obtain ⟨tx, P, a, hi, sl, se, h1, h2, h3⟩ := h
  exact ⟨tx, P, a, hi, sl, se, h1, h2, lo_up h3 hB⟩
/-- cells that the relation does not look at: the draft, the trial -/
theorem lx_fr {σ σ' : Nat → hj_Ob} {bf : Nat → Nat} {tx : hp_T} {P : hp_P} {a : hp_R} {hi : hp_H} {sl : hp_L} {se : hp_S} (h : lx σ bf tx P a hi sl se) (h14 : hi.1 ≤ 14) (hs : ∀ k, k ≠ 7 → k ≠ 14 → σ' k = σ k) : lx σ' bf tx P a hi sl se := by
  obtain ⟨h1, h2, h3, h4, h5, h6⟩ := h
  refine ⟨?_, ?_, ?_, ⟨?_, h4.2.1, h4.2.2.1, fun k hk => ?_⟩, fun k hk => ⟨?_, fun hkp => ?_⟩, ?_⟩
  · unfold lx_t; rw [hs 1 (by decide) (by decide)]; exact h1
  · rw [hs 3 (by decide) (by decide)]; exact h2
  · rw [hs 11 (by decide) (by decide)]; exact h3
  · rw [hs 17 (by decide) (by decide)]; exact h4.1
  · have hb := h4.2.1 k (by omega)
    rw [hs (bf k) (by omega) (by omega)]
    exact h4.2.2.2 k hk
  · rw [hs 0 (by decide) (by decide)]; exact (h5 k hk).1
  · rw [hs (67 + 3 * k) (by omega) (by omega)]; exact (h5 k hk).2 hkp
  · unfold lx_s; rw [hs 63 (by decide) (by decide)]; exact h6
/-- the reference's trial level, its reading -/
theorem lm_fr {τ τ' : hj_Ob} {tx : hp_T} {P : hp_P} {a : hp_R} {hi : hp_H} {sl : hp_L} {se : hp_S} (h : lm τ tx P a hi sl se) (hn : P.1 ≤ 6) (h1 : ∀ k, (k = 0 ∨ k = 1 ∨ k = 10 ∨ k = 13 ∨ k = 14 ∨ k = 17) → τ'.1 k = τ.1 k) (h2 : ∀ k, (k = 2 ∨ k = 3 ∨ k = 9 ∨ k = 15 ∨ k = 18 ∨ k = 19 ∨ k = 20 ∨ k = 22 ∨ k = 23) → τ'.2 k = τ.2 k) (h3 : ∀ i, i < 15 → τ'.2 4 i = τ.2 4 i) : lm τ' tx P a hi sl se := by
  obtain ⟨k1, k2, k3, k4, k5, k6⟩ := h
  refine ⟨?_, ?_, ?_, ?_, ?_, ?_⟩
  · unfold lm_t; rw [h1 10 (by omega), h2 9 (by omega)]; exact k1
  · unfold hr_MP; rw [h1 0 (by omega), h1 1 (by omega), h2 2 (by omega), h2 3 (by omega)]; exact k2
  · unfold hr_M
    rw [h3 (15 * 0) (by omega), h3 (15 * 0 + 1) (by omega), h3 (15 * 0 + 2) (by omega)]
    refine ⟨k3.1, k3.2.1, k3.2.2.1, fun j hj => ?_⟩
    rw [h3 (15 * 0 + 3 + j) (by omega), h3 (15 * 0 + 9 + j) (by omega)]
    exact k3.2.2.2 j hj
  · unfold lm_h; rw [h1 13 (by omega), h1 14 (by omega), h2 15 (by omega)]; exact k4
  · unfold lm_l; rw [h2 22 (by omega), h2 23 (by omega)]; exact k5
  · unfold lm_s; rw [h1 17 (by omega), h2 18 (by omega), h2 19 (by omega), h2 20 (by omega)]; exact k6
theorem lm_T {τ τ' : hj_Ob} {tx : hp_T} {P : hp_P} {a : hp_R} {hi : hp_H} {sl : hp_L} {se : hp_S} (h : lm τ tx P a hi sl se) (hn : P.1 ≤ 6) (hT : hr_T τ τ') : lm τ' tx P a hi sl se :=
  lm_fr h hn (fun k hk => hT.1 k (by omega)) (fun k hk => hT.2.1 k (by omega)) hT.2.2
theorem lx_tr {σ : Nat → hj_Ob} {ρ : hj_Ob} {bf : Nat → Nat} {tx : hp_T} {P : hp_P} {a : hp_R} {hi : hp_H} {sl : hp_L} {se : hp_S} (h : lx σ bf tx P a hi sl se) (h14 : hi.1 ≤ 14) : lx (va_up σ 14 ρ) bf tx P a hi sl se :=
  lx_fr h h14 (fun k _ hk => va_up_ne _ _ hk)
/-! simple calls -/
theorem ti_in {x : Int32} {n : Nat} (hn : n < 2 ^ 31) (h0 : ¬ x < 0) (h : ¬ nI n < x) : ∃ j, j ≤ n ∧ x = nI j := nI_of2 (nI_toInt hn) h0 (Int32.not_lt.mp h)
theorem ti_out {x : Int32} {n : Nat} (hn : n < 2 ^ 31) (h : nI n < x) : (n : Int) < x.toInt := by
  have := Int32.lt_iff_toInt_lt.mp h
  rw [nI_toInt hn] at this
  exact this
theorem lr_count {B : Nat} {σ : Nat → hj_Ob} {bf : Nat → Nat} {τ : hj_Ob} {sd : Int64} (h : lr B σ bf τ) (x : Int32) : ∃ r, fX5_count σ bf sd x = some r ∧ fX6_count τ sd x = some r := by
  obtain ⟨tx, P, a, hi, sl, se, hx, hm, ho⟩ := h
  obtain ⟨x1, x2, x3, x4, x5, x6⟩ := hx
  obtain ⟨m1, m2, m3, m4, m5, m6⟩ := hm
  have ht := hp_t64 ho.2.1.1 ho.2.2.1.2.1
  unfold fX5_count fX6_count fX2_yesThere
  rw [x1.1, x2.1, x2.2.1, x3.1, x3.2.1, x3.2.2.1, x4.1, x6.1, x_vr x2 ho.2.1 ho.2.2.1 x3, m1.1, m2.1, m2.2.1, m4.1, m6.1]
  rw [show fX6_verdict τ sd 0 = some (nI (hp_vr P a)) from m_vr (L := 0) (by omega) m2 ho.2.1 ho.2.2.1 m3]
  rw [show τ.2 4 (2 : Int32).toNatClampNeg = nI a.2.2.1 from m3.2.2.1, show τ.2 4 (1 : Int32).toNatClampNeg = nI a.2.1 from m3.2.1, show τ.2 4 (0 : Int32).toNatClampNeg = nI a.1 from m3.1]
  simp only [show ∀ k : Option Int32, hj_ck (2 : Int32) 30 k = k from fun k => rfl, show ∀ k : Option Int32, hj_ck (1 : Int32) 30 k = k from fun k => rfl, show ∀ k : Option Int32, hj_ck (0 : Int32) 30 k = k from fun k => rfl, ev_o1]
  repeat' split
  all_goals exact ⟨_, rfl, rfl⟩
