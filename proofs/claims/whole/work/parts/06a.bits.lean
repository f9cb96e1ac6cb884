/-! numbers below 64 as sets of jurors -/
def hp_b (a j : Nat) : Nat := a / 2 ^ j % 2
def hp_c (a : Nat) : Nat := hp_b a 0 + hp_b a 1 + hp_b a 2 + hp_b a 3 + hp_b a 4 + hp_b a 5
def hp_n (a b : Nat) : Nat := a &&& (63 ^^^ b)
theorem hp_b2 (a j : Nat) : hp_b a j = 0 ∨ hp_b a j = 1 := by unfold hp_b; omega
theorem hp_b_lt (a j : Nat) : hp_b a j < 2 := by unfold hp_b; omega
theorem hp_c_le (a : Nat) : hp_c a ≤ 6 := by
  unfold hp_c
  have := hp_b_lt a 0; have := hp_b_lt a 1; have := hp_b_lt a 2; have := hp_b_lt a 3; have := hp_b_lt a 4; have := hp_b_lt a 5
  omega
theorem hp_and_lt {a b : Nat} (h : a < 64) : a &&& b < 64 := Nat.lt_of_le_of_lt Nat.and_le_left h
theorem hp_and_lt' {a b : Nat} (h : b < 64) : a &&& b < 64 := Nat.lt_of_le_of_lt Nat.and_le_right h
theorem hp_n_lt {a b : Nat} (h : a < 64) : hp_n a b < 64 := hp_and_lt h
theorem hp_xor_lt {a b : Nat} (h : a < 64) (h2 : b < 64) : a ^^^ b < 64 := Nat.xor_lt_two_pow (n := 6) h h2
theorem hp_or_lt {a b : Nat} (h : a < 64) (h2 : b < 64) : a ||| b < 64 := Nat.or_lt_two_pow (n := 6) h h2
theorem hp_p_lt {j : Nat} (h : j < 6) : 2 ^ j < 64 := by
  rcases (show j = 0 ∨ j = 1 ∨ j = 2 ∨ j = 3 ∨ j = 4 ∨ j = 5 by omega) with rfl | rfl | rfl | rfl | rfl | rfl <;> decide
def hp_all (n : Nat) (p : Nat → Bool) : Bool := (List.range n).all p
theorem hp_all_s {n : Nat} {p : Nat → Bool} (h : hp_all n p = true) {a : Nat} (ha : a < n) : p a = true := List.all_eq_true.mp h a (List.mem_range.mpr ha)
set_option maxRecDepth 20000 in
theorem hp_bc_all : hp_all 64 (fun a => decide (fJ6_bitCount_0f7a4 (nI a) = some (nI (hp_c a)))) = true := by decide +kernel
theorem hp_bc {a : Nat} (h : a < 64) : fJ6_bitCount_0f7a4 (nI a) = some (nI (hp_c a)) := of_decide_eq_true (hp_all_s hp_bc_all h)
set_option maxRecDepth 20000 in
theorem hp_on_all : hp_all 64 (fun a => decide (fX6_ones (nI a) = some (nI (hp_c a)))) = true := by decide +kernel
theorem hp_on {a : Nat} (h : a < 64) : fX6_ones (nI a) = some (nI (hp_c a)) := of_decide_eq_true (hp_all_s hp_on_all h)
set_option maxRecDepth 20000 in
theorem hp_has_all : hp_all 64 (fun a => hp_all 32 (fun j => decide ((nI a >>> (nI j &&& 31)) &&& 1 = nI (hp_b a j)))) = true := by decide +kernel
theorem hp_has {a j : Nat} (h : a < 64) (hj : j < 32) : (nI a >>> (nI j &&& 31)) &&& 1 = nI (hp_b a j) := of_decide_eq_true (hp_all_s (hp_all_s hp_has_all h) hj)
set_option maxRecDepth 20000 in
theorem hp_not_all : hp_all 64 (fun a => hp_all 64 (fun b => decide (nI a &&& (nI b ^^^ (-1)) = nI (hp_n a b)))) = true := by decide +kernel
theorem hp_not {a b : Nat} (h : a < 64) (hb : b < 64) : nI a &&& (nI b ^^^ (-1)) = nI (hp_n a b) := of_decide_eq_true (hp_all_s (hp_all_s hp_not_all h) hb)
set_option maxRecDepth 20000 in
theorem hp_pw_all : hp_all 8 (fun j => decide ((1 : Int32) <<< (nI j &&& 31) = nI (2 ^ j) ∧ ((1 : Int32) <<< (nI j &&& 31)) - 1 = nI (2 ^ j - 1))) = true := by decide +kernel
theorem hp_pw {j : Nat} (h : j < 8) : (1 : Int32) <<< (nI j &&& 31) = nI (2 ^ j) := (of_decide_eq_true (hp_all_s hp_pw_all h)).1
theorem hp_pm {j : Nat} (h : j < 8) : ((1 : Int32) <<< (nI j &&& 31)) - 1 = nI (2 ^ j - 1) := (of_decide_eq_true (hp_all_s hp_pw_all h)).2
theorem hp_or (a b : Nat) : nI a ||| nI b = nI (a ||| b) := by
  apply Int32.toBitVec_inj.mp
  simp [nI]
theorem hp_and (a b : Nat) : nI a &&& nI b = nI (a &&& b) := by
  apply Int32.toBitVec_inj.mp
  simp [nI]
theorem hp_xor (a b : Nat) : nI a ^^^ nI b = nI (a ^^^ b) := by
  apply Int32.toBitVec_inj.mp
  simp [nI]
/-! evaluating the mirrored programs -/
theorem ev_ck {α : Type} {i n : Nat} {k : Option α} (h : i < n) (hn : n < 2 ^ 31) : hj_ck (nI i) n k = k := by
  unfold hj_ck
  rw [if_neg]
  exact nI_in h hn
theorem ev_ckx {α : Type} {x : Int32} {i n : Nat} {k : Option α} (hx : x = nI i) (h : i < n) (hn : n < 2 ^ 31) : hj_ck x n k = k := by subst hx; exact ev_ck h hn
theorem ev_cl {i : Nat} (h : i < 2 ^ 31) : (nI i).toNatClampNeg = i := nI_clamp h
theorem ev_lt {a b : Nat} (ha : a < 2 ^ 31) (hb : b < 2 ^ 31) : (nI a < nI b) = (a < b) := propext (nI_ltI ha hb)
theorem ev_le {a b : Nat} (ha : a < 2 ^ 31) (hb : b < 2 ^ 31) : (nI a ≤ nI b) = (a ≤ b) := propext (nI_leI ha hb)
theorem ev_eq {a b : Nat} (ha : a < 2 ^ 31) (hb : b < 2 ^ 31) : (nI a = nI b) = (a = b) := propext (nI_eq ha hb)
theorem ev_neg {a : Nat} (h : a < 2 ^ 31) : ¬ nI a < 0 := nI_nlt (a := a) (b := 0) (by omega) h
theorem ev_up {α : Type} (f : Nat → α) (k j : Nat) (v : α) : va_up f k v j = if j = k then v else f j := rfl
theorem ev_s1 (o : hj_Ob) (k j : Nat) (v : Int32) : (hj_s o k v).1 j = if j = k then v else o.1 j := rfl
theorem ev_s2 (o : hj_Ob) (k : Nat) (v : Int32) : (hj_s o k v).2 = o.2 := rfl
theorem ev_a1 (o : hj_Ob) (k : Nat) (x v : Int32) : (hj_a o k x v).1 = o.1 := rfl
theorem ev_a2 (o : hj_Ob) (k j : Nat) (x v : Int32) : (hj_a o k x v).2 j = if j = k then upd (o.2 k) x.toNatClampNeg v else o.2 j := rfl
theorem ev_upd (f : Nat → Int32) (k j : Nat) (v : Int32) : upd f k v j = if j = k then v else f j := by
  unfold upd
  split <;> simp_all
theorem ev_nm {α β : Type} (x : α) (k : α → Option β) : hj_nm x k = k x := rfl
theorem ev_o1 {α β : Type} (x : α) (k : α → Option β) : hj_o1 (some x) k = k x := rfl
theorem ev_o2 {α β γ : Type} (x : α) (y : β) (k : α → β → Option γ) : hj_o2 (some (x, y)) k = k x y := rfl
theorem ev_o3 {α β γ δ : Type} (x : α) (y : β) (z : γ) (k : α → β → γ → Option δ) : hj_o3 (some (x, y, z)) k = k x y z := rfl
theorem ev_o4 {α β γ δ ε : Type} (x : α) (y : β) (z : γ) (t : δ) (k : α → β → γ → δ → Option ε) : hj_o4 (some (x, y, z, t)) k = k x y z t := rfl
/-- a loop that counts: what holds at its head, step by step, and what it leaves with -/
theorem lp_h {S E : Type} {b : S → Option (E ⊕ S)} (I : Nat → S → Prop) (P : E → Prop) (N : Nat) (h : ∀ i s, i ≤ N → I i s → (∃ e, b s = some (.inl e) ∧ P e) ∨ (i < N ∧ ∃ s', b s = some (.inr s') ∧ I (i + 1) s')) :
    ∀ (fu i : Nat) (s : S), i ≤ N → N - i < fu → I i s → ∃ e, hj_lp b fu s = some e ∧ P e := by
  intro fu
  induction fu with
  | zero => intro i s _ h2 _; omega
  | succ fu ih =>
    intro i s h1 h2 h3
    rcases h i s h1 h3 with ⟨e, he, hp⟩ | ⟨hl, s', hs, hI⟩
    · exact ⟨e, by unfold hj_lp; rw [he], hp⟩
    · obtain ⟨e, he, hp⟩ := ih (i + 1) s' hl (by omega) hI
      exact ⟨e, by unfold hj_lp; rw [hs]; exact he, hp⟩
