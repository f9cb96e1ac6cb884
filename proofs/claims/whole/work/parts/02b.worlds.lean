/-! the two worlds: the class's 73 cells, the reference's 13 -/
abbrev hj_aI (g : hj_G) (L : Nat) (f : Nat → Int32) : va_E := .inl (g.2.1, L, .inl f)
abbrev hj_aZ (g : hj_G) (L : Nat) (f : Nat → Int32) : va_E := .inl (g.2.2.1, L, .inl f)
abbrev hj_aR (g : hj_G) (L : Nat) (f : Nat → Option Nat) : va_E := .inl (g.2.2.2, L, .inr (.inr (.inr (.inr f))))
abbrev wx_rm (ad : Nat → Nat) (r : Nat) (o : hj_Ob) : va_E := .inr (2, [.ref (ad 3), .ref (ad (r + 1)), .ref (ad (r + 2)), .int (o.1 3), .int (o.1 4), .int (o.1 5)])
abbrev wx_pn (ad : Nat → Nat) (r : Nat) (o : hj_Ob) : va_E := .inr (1, [.ref (ad (r + 1)), .ref (ad (r + 2)), .ref (ad (r + 3)), .int (o.1 3), .int (o.1 4), .int (o.1 5)])
abbrev wx_tx (ad : Nat → Nat) (o : hj_Ob) : va_E := .inr (4, [.ref (ad 2), .int (o.1 1)])
abbrev wx_ac (ad : Nat → Nat) (o : hj_Ob) : va_E := .inr (0, [.ref (ad 18), .int (o.1 1)])
abbrev wx_sg (ad : Nat → Nat) (o : hj_Ob) : va_E := .inr (3, [.ref (ad 64), .ref (ad 65), .ref (ad 66), .int (o.1 3)])
abbrev wx_hj (ad : Nat → Nat) (sd : Int64) : va_E := .inr (5, [.ref (ad 1), .ref (ad 3), .ref (ad 7), .ref (ad 11), .ref (ad 14), .ref (ad 17), .ref (ad 61), .ref (ad 62), .ref (ad 63), .long sd])
abbrev wx_bf (ad : Nat → Nat) (bf : Nat → Nat) : Nat → Option Nat := fun k => some (ad (bf k))
abbrev wx_sl (ad : Nat → Nat) : Nat → Option Nat := fun k => some (ad (67 + 3 * k))
/-- whose cell it is -/
def wx_own (i : Nat) : Nat := if i < 1 then 0 else if i < 3 then 1 else if i < 7 then 3 else if i < 11 then 7 else if i < 17 then 11 + 3 * ((i - 11) / 3) else if i < 19 then 17 else if i < 61 then 19 + 3 * ((i - 19) / 3) else if i < 63 then 0 else if i < 67 then 63 else 67 + 3 * ((i - 67) / 3)
def wx_cell (g : hj_G) (ad : Nat → Nat) (bf : Nat → Nat) (sd : Int64) (i : Nat) (o : hj_Ob) : va_E :=
  if i = 0 then wx_hj ad sd else if i = 1 then wx_tx ad o else if i = 2 then hj_aI g 56 (o.2 0)
  else if i = 3 then wx_pn ad 3 o else if i < 7 then hj_aI g 6 (o.2 (i - 4))
  else if i = 7 then wx_pn ad 7 o else if i < 11 then hj_aI g 6 (o.2 (i - 8))
  else if i < 17 then (if (i - 11) % 3 = 0 then wx_rm ad i o else hj_aI g 6 (o.2 ((i - 11) % 3)))
  else if i = 17 then wx_ac ad o else if i = 18 then hj_aR g 14 (wx_bf ad bf)
  else if i < 61 then (if (i - 19) % 3 = 0 then wx_rm ad i o else hj_aI g 6 (o.2 ((i - 19) % 3)))
  else if i = 61 then hj_aR g 2 (wx_sl ad) else if i = 62 then hj_aZ g 2 (o.2 7)
  else if i = 63 then wx_sg ad o else if i < 67 then hj_aI g 6 (o.2 (i - 64))
  else (if (i - 67) % 3 = 0 then wx_rm ad i o else hj_aI g 6 (o.2 ((i - 67) % 3)))
def hj_wx (g : hj_G) (ad : Nat → Nat) (σ : Nat → hj_Ob) (bf : Nat → Nat) (sd : Int64) : Nat → va_E := fun i => wx_cell g ad bf sd i (σ (wx_own i))
/-- the cells of rooms -/
def wx_R (r : Nat) : Prop := (11 ≤ r ∧ r < 17 ∧ r % 3 = 2) ∨ (19 ≤ r ∧ r < 61 ∧ r % 3 = 1) ∨ (67 ≤ r ∧ r < 73 ∧ r % 3 = 1)
def wx_B (r : Nat) : Prop := r = 3 ∨ r = 7
theorem wx_R_lt {r k : Nat} (h : wx_R r) (hk : k < 3) : r + k < 73 := by unfold wx_R at h; omega
theorem wx_R_3 {r : Nat} (h : wx_R r) : (3 : Nat) ≠ r := by unfold wx_R at h; omega
theorem wx_R_0 {r k : Nat} (h : wx_R r) (hk : k = 0 ∨ k = 1 ∨ k = 3 ∨ k = 7 ∨ k = 17 ∨ k = 63) : k ≠ r := by unfold wx_R at h; omega
theorem wx_R_11 : wx_R 11 := by unfold wx_R; omega
theorem wx_R_14 : wx_R 14 := by unfold wx_R; omega
theorem wx_R_sl {k : Nat} (h : k < 2) : wx_R (67 + 3 * k) := by unfold wx_R; omega
theorem wx_R_bf {b : Nat} (h : 19 ≤ b ∧ b < 61 ∧ b % 3 = 1) : wx_R b := by unfold wx_R; omega
theorem wx_own_r {r k : Nat} (hr : wx_R r) (hk : k < 3) : wx_own (r + k) = r := by
  unfold wx_R at hr
  unfold wx_own
  repeat' split
  all_goals omega
theorem wx_own_ri {r i : Nat} (hr : wx_R r) (h : wx_own i = r) : i = r ∨ i = r + 1 ∨ i = r + 2 := by
  unfold wx_R at hr
  unfold wx_own at h
  repeat' split at h
  all_goals omega
theorem wx_own_bi {r i : Nat} (hr : wx_B r) (h : wx_own i = r) : i = r ∨ i = r + 1 ∨ i = r + 2 ∨ i = r + 3 := by
  unfold wx_B at hr
  unfold wx_own at h
  repeat' split at h
  all_goals omega
theorem wx_own_ti {i : Nat} (h : wx_own i = 1) : i = 1 ∨ i = 2 := by
  unfold wx_own at h
  repeat' split at h
  all_goals omega
theorem wx_own_si {i : Nat} (h : wx_own i = 63) : i = 63 ∨ i = 64 ∨ i = 65 ∨ i = 66 := by
  unfold wx_own at h
  repeat' split at h
  all_goals omega
theorem wx_own_ai {i : Nat} (h : wx_own i = 17) : i = 17 ∨ i = 18 := by
  unfold wx_own at h
  repeat' split at h
  all_goals omega
theorem wx_own_hi {i : Nat} (h : wx_own i = 0) : i = 0 ∨ i = 61 ∨ i = 62 := by
  unfold wx_own at h
  repeat' split at h
  all_goals omega
section WX
variable {g : hj_G} {ad : Nat → Nat} {bf : Nat → Nat} {sd : Int64} {σ : Nat → hj_Ob}
theorem wx_cell_r {r : Nat} (hr : wx_R r) (o : hj_Ob) : wx_cell g ad bf sd r o = wx_rm ad r o := by
  unfold wx_R at hr
  unfold wx_cell
  rcases hr with h | h | h <;> (repeat (first | rw [if_neg (by omega)] | rw [if_pos (by omega)]))
theorem wx_cell_ra {r k : Nat} (hr : wx_R r) (hk : k = 1 ∨ k = 2) (o : hj_Ob) : wx_cell g ad bf sd (r + k) o = hj_aI g 6 (o.2 k) := by
  unfold wx_R at hr
  unfold wx_cell
  rcases hr with h | h | h
  · repeat (first | rw [if_neg (by omega)] | rw [if_pos (by omega)])
    rw [show (r + k - 11) % 3 = k by omega]
  · repeat (first | rw [if_neg (by omega)] | rw [if_pos (by omega)])
    rw [show (r + k - 19) % 3 = k by omega]
  · repeat (first | rw [if_neg (by omega)] | rw [if_pos (by omega)])
    rw [show (r + k - 67) % 3 = k by omega]
theorem wx_at_r {r : Nat} {ρ : hj_Ob} (hr : wx_R r) (hσ : σ r = ρ) : hj_wx g ad σ bf sd r = wx_rm ad r ρ := by
  subst hσ
  show wx_cell g ad bf sd r (σ (wx_own r)) = _
  rw [show wx_own r = r from wx_own_r (k := 0) hr (by omega)]
  exact wx_cell_r hr _
theorem wx_at_ra {r : Nat} {ρ : hj_Ob} (k : Nat) (hr : wx_R r) (hk : k = 1 ∨ k = 2) (hσ : σ r = ρ) : hj_wx g ad σ bf sd (r + k) = hj_aI g 6 (ρ.2 k) := by
  subst hσ
  show wx_cell g ad bf sd (r + k) (σ (wx_own (r + k))) = _
  rw [wx_own_r (k := k) hr (by omega)]
  exact wx_cell_ra hr hk _
theorem wx_at_b {r : Nat} {π : hj_Ob} (hr : wx_B r) (hσ : σ r = π) : hj_wx g ad σ bf sd r = wx_pn ad r π := by
  subst hσ
  rcases hr with rfl | rfl <;> rfl
theorem wx_at_ba {r : Nat} {π : hj_Ob} (k : Nat) (hr : wx_B r) (hk : k < 3) (hσ : σ r = π) : hj_wx g ad σ bf sd (r + (k + 1)) = hj_aI g 6 (π.2 k) := by
  subst hσ
  rcases (show k = 0 ∨ k = 1 ∨ k = 2 by omega) with rfl | rfl | rfl <;> rcases hr with rfl | rfl <;> rfl
theorem wx_at_t {t : hj_Ob} (hσ : σ 1 = t) : hj_wx g ad σ bf sd 1 = wx_tx ad t := by subst hσ; rfl
theorem wx_at_ta {t : hj_Ob} (hσ : σ 1 = t) : hj_wx g ad σ bf sd 2 = hj_aI g 56 (t.2 0) := by subst hσ; rfl
theorem wx_at_a {t : hj_Ob} (hσ : σ 17 = t) : hj_wx g ad σ bf sd 17 = wx_ac ad t := by subst hσ; rfl
theorem wx_at_bf : hj_wx g ad σ bf sd 18 = hj_aR g 14 (wx_bf ad bf) := rfl
theorem wx_at_sl : hj_wx g ad σ bf sd 61 = hj_aR g 2 (wx_sl ad) := rfl
theorem wx_at_k {t : hj_Ob} (hσ : σ 0 = t) : hj_wx g ad σ bf sd 62 = hj_aZ g 2 (t.2 7) := by subst hσ; rfl
theorem wx_at_h : hj_wx g ad σ bf sd 0 = wx_hj ad sd := rfl
theorem wx_at_s {t : hj_Ob} (hσ : σ 63 = t) : hj_wx g ad σ bf sd 63 = wx_sg ad t := by subst hσ; rfl
theorem wx_at_sa {t : hj_Ob} (k : Nat) (hk : k < 3) (hσ : σ 63 = t) : hj_wx g ad σ bf sd (64 + k) = hj_aI g 6 (t.2 k) := by
  subst hσ
  rcases (show k = 0 ∨ k = 1 ∨ k = 2 by omega) with rfl | rfl | rfl <;> rfl
theorem wx_up {r j : Nat} {ρ' : hj_Ob} {e : va_E} (hj : wx_own j = r) (he : wx_cell g ad bf sd j ρ' = e) (hn : ∀ i, wx_own i = r → i ≠ j → wx_cell g ad bf sd i ρ' = wx_cell g ad bf sd i (σ r)) : va_up (hj_wx g ad σ bf sd) j e = hj_wx g ad (va_up σ r ρ') bf sd := by
  funext i
  by_cases hi : i = j
  · subst hi
    rw [va_up_self]
    show e = wx_cell g ad bf sd i (va_up σ r ρ' (wx_own i))
    rw [hj, va_up_self, he]
  · rw [va_up_ne _ _ hi]
    show wx_cell g ad bf sd i (σ (wx_own i)) = wx_cell g ad bf sd i (va_up σ r ρ' (wx_own i))
    by_cases ho : wx_own i = r
    · rw [ho, va_up_self]
      exact (hn i ho hi).symm
    · rw [va_up_ne _ _ ho]
theorem wx_a_ne {ρ : hj_Ob} {k j : Nat} {x v : Int32} (h : j ≠ k) : (hj_a ρ k x v).2 j = ρ.2 j := va_up_ne _ _ h
theorem wx_a_se {ρ : hj_Ob} {k : Nat} {x v : Int32} : (hj_a ρ k x v).2 k = upd (ρ.2 k) x.toNatClampNeg v := va_up_self _ _ _
theorem wx_s_r {r k : Nat} {ρ : hj_Ob} {v : Int32} {e : va_E} (hr : wx_R r) (hσ : σ r = ρ) (he : wx_rm ad r (hj_s ρ k v) = e) : va_up (hj_wx g ad σ bf sd) r e = hj_wx g ad (va_up σ r (hj_s ρ k v)) bf sd := by
  subst hσ
  refine wx_up (wx_own_r (k := 0) hr (by omega)) ((wx_cell_r hr _).trans he) (fun i hi hne => ?_)
  rcases wx_own_ri hr hi with rfl | rfl | rfl
  · exact absurd rfl hne
  · rw [wx_cell_ra hr (Or.inl rfl), wx_cell_ra hr (Or.inl rfl)]; rfl
  · rw [wx_cell_ra hr (Or.inr rfl), wx_cell_ra hr (Or.inr rfl)]; rfl
theorem wx_a_r {r : Nat} {ρ : hj_Ob} {x v : Int32} (k : Nat) (hr : wx_R r) (hk : k = 1 ∨ k = 2) (hσ : σ r = ρ) : va_up (hj_wx g ad σ bf sd) (r + k) (hj_aI g 6 (upd (ρ.2 k) x.toNatClampNeg v)) = hj_wx g ad (va_up σ r (hj_a ρ k x v)) bf sd := by
  subst hσ
  refine wx_up (wx_own_r hr (by omega)) ?_ (fun i hi hne => ?_)
  · rw [wx_cell_ra hr hk, wx_a_se]
  · rcases wx_own_ri hr hi with rfl | rfl | rfl
    · rw [wx_cell_r hr, wx_cell_r hr]; rfl
    · rw [wx_cell_ra hr (Or.inl rfl), wx_cell_ra hr (Or.inl rfl), wx_a_ne (by omega)]
    · rw [wx_cell_ra hr (Or.inr rfl), wx_cell_ra hr (Or.inr rfl), wx_a_ne (by omega)]
theorem wx_s_b {r k : Nat} {ρ : hj_Ob} {v : Int32} {e : va_E} (hr : wx_B r) (hσ : σ r = ρ) (he : wx_pn ad r (hj_s ρ k v) = e) : va_up (hj_wx g ad σ bf sd) r e = hj_wx g ad (va_up σ r (hj_s ρ k v)) bf sd := by
  subst hσ
  refine wx_up (by rcases hr with rfl | rfl <;> rfl) (by rw [← he]; rcases hr with rfl | rfl <;> rfl) (fun i hi hne => ?_)
  rcases wx_own_bi hr hi with rfl | rfl | rfl | rfl
  · exact absurd rfl hne
  all_goals (rcases hr with rfl | rfl <;> rfl)
theorem wx_a_b {r : Nat} {ρ : hj_Ob} {x v : Int32} (k : Nat) (hr : wx_B r) (hk : k < 3) (hσ : σ r = ρ) : va_up (hj_wx g ad σ bf sd) (r + (k + 1)) (hj_aI g 6 (upd (ρ.2 k) x.toNatClampNeg v)) = hj_wx g ad (va_up σ r (hj_a ρ k x v)) bf sd := by
  subst hσ
  have hown : wx_own (r + (k + 1)) = r := by
    rcases (show k = 0 ∨ k = 1 ∨ k = 2 by omega) with rfl | rfl | rfl <;> rcases hr with rfl | rfl <;> rfl
  have hc : ∀ (j : Nat) (o : hj_Ob), j < 3 → wx_cell g ad bf sd (r + (j + 1)) o = hj_aI g 6 (o.2 j) := fun j o hj => by
    rcases (show j = 0 ∨ j = 1 ∨ j = 2 by omega) with rfl | rfl | rfl <;> rcases hr with rfl | rfl <;> rfl
  refine wx_up hown ?_ (fun i hi hne => ?_)
  · rw [hc k _ hk, wx_a_se]
  · have key : ∀ j, j < 3 → j ≠ k → wx_cell g ad bf sd (r + (j + 1)) (hj_a (σ r) k x v) = wx_cell g ad bf sd (r + (j + 1)) (σ r) := fun j hj hjk => by rw [hc j _ hj, hc j _ hj, wx_a_ne hjk]
    rcases wx_own_bi hr hi with rfl | rfl | rfl | rfl
    · rcases hr with h | h <;> rw [h] <;> rfl
    · exact key 0 (by omega) (by omega)
    · exact key 1 (by omega) (by omega)
    · exact key 2 (by omega) (by omega)
theorem wx_s_t {ρ : hj_Ob} {v : Int32} (hσ : σ 1 = ρ) : va_up (hj_wx g ad σ bf sd) 1 (.inr (4, [.ref (ad 2), .int v])) = hj_wx g ad (va_up σ 1 (hj_s ρ 1 v)) bf sd := by
  subst hσ
  refine wx_up rfl rfl (fun i hi hne => ?_)
  rcases wx_own_ti hi with rfl | rfl
  · exact absurd rfl hne
  · rfl
theorem wx_a_t {ρ : hj_Ob} {x v : Int32} (hσ : σ 1 = ρ) : va_up (hj_wx g ad σ bf sd) 2 (hj_aI g 56 (upd (ρ.2 0) x.toNatClampNeg v)) = hj_wx g ad (va_up σ 1 (hj_a ρ 0 x v)) bf sd := by
  subst hσ
  refine wx_up rfl (by show hj_aI g 56 ((hj_a (σ 1) 0 x v).2 0) = _; rw [wx_a_se]) (fun i hi hne => ?_)
  rcases wx_own_ti hi with rfl | rfl
  · rfl
  · exact absurd rfl hne
theorem wx_s_a {ρ : hj_Ob} {v : Int32} (hσ : σ 17 = ρ) : va_up (hj_wx g ad σ bf sd) 17 (.inr (0, [.ref (ad 18), .int v])) = hj_wx g ad (va_up σ 17 (hj_s ρ 1 v)) bf sd := by
  subst hσ
  refine wx_up rfl rfl (fun i hi hne => ?_)
  rcases wx_own_ai hi with rfl | rfl
  · exact absurd rfl hne
  · rfl
theorem wx_a_bf {x : Int32} {b : Nat} : va_up (hj_wx g ad σ bf sd) 18 (hj_aR g 14 (va_up (wx_bf ad bf) x.toNatClampNeg (some (ad b)))) = hj_wx g ad σ (va_up bf x.toNatClampNeg b) sd := by
  funext i
  by_cases hi : i = 18
  · subst hi
    rw [va_up_self]
    have h : va_up (wx_bf ad bf) x.toNatClampNeg (some (ad b)) = wx_bf ad (va_up bf x.toNatClampNeg b) := by
      funext k
      by_cases hk : k = x.toNatClampNeg
      · subst hk
        simp [wx_bf, va_up_self]
      · simp [wx_bf, va_up_ne _ _ hk]
    rw [h]
    rfl
  · rw [va_up_ne _ _ hi]
    show wx_cell g ad bf sd i _ = wx_cell g ad _ sd i _
    unfold wx_cell
    simp [hi]
theorem wx_s_s {ρ : hj_Ob} {v : Int32} (hσ : σ 63 = ρ) : va_up (hj_wx g ad σ bf sd) 63 (.inr (3, [.ref (ad 64), .ref (ad 65), .ref (ad 66), .int v])) = hj_wx g ad (va_up σ 63 (hj_s ρ 3 v)) bf sd := by
  subst hσ
  refine wx_up rfl rfl (fun i hi hne => ?_)
  rcases wx_own_si hi with rfl | rfl | rfl | rfl
  · exact absurd rfl hne
  all_goals rfl
theorem wx_a_s {ρ : hj_Ob} {x v : Int32} (k : Nat) (hk : k < 3) (hσ : σ 63 = ρ) : va_up (hj_wx g ad σ bf sd) (64 + k) (hj_aI g 6 (upd (ρ.2 k) x.toNatClampNeg v)) = hj_wx g ad (va_up σ 63 (hj_a ρ k x v)) bf sd := by
  subst hσ
  have hown : wx_own (64 + k) = 63 := by rcases (show k = 0 ∨ k = 1 ∨ k = 2 by omega) with rfl | rfl | rfl <;> rfl
  have hc : ∀ (j : Nat) (o : hj_Ob), j < 3 → wx_cell g ad bf sd (64 + j) o = hj_aI g 6 (o.2 j) := fun j o hj => by
    rcases (show j = 0 ∨ j = 1 ∨ j = 2 by omega) with rfl | rfl | rfl <;> rfl
  refine wx_up hown ?_ (fun i hi hne => ?_)
  · rw [hc k _ hk, wx_a_se]
  · have key : ∀ j, j < 3 → j ≠ k → wx_cell g ad bf sd (64 + j) (hj_a (σ 63) k x v) = wx_cell g ad bf sd (64 + j) (σ 63) := fun j hj hjk => by rw [hc j _ hj, hc j _ hj, wx_a_ne hjk]
    rcases wx_own_si hi with rfl | rfl | rfl | rfl
    · rfl
    · exact key 0 (by omega) (by omega)
    · exact key 1 (by omega) (by omega)
    · exact key 2 (by omega) (by omega)
theorem wx_a_k {ρ : hj_Ob} {x v : Int32} (hσ : σ 0 = ρ) : va_up (hj_wx g ad σ bf sd) 62 (hj_aZ g 2 (upd (ρ.2 7) x.toNatClampNeg v)) = hj_wx g ad (va_up σ 0 (hj_a ρ 7 x v)) bf sd := by
  subst hσ
  refine wx_up rfl (by show hj_aZ g 2 ((hj_a (σ 0) 7 x v).2 7) = _; rw [wx_a_se]) (fun i hi hne => ?_)
  rcases wx_own_hi hi with rfl | rfl | rfl
  · rfl
  · rfl
  · exact absurd rfl hne
theorem wx_s_d {v : Int64} : va_up (hj_wx g ad σ bf sd) 0 (wx_hj ad v) = hj_wx g ad σ bf v := by
  funext i
  by_cases hi : i = 0
  · subst hi
    rw [va_up_self]
    rfl
  · rw [va_up_ne _ _ hi]
    show wx_cell g ad bf sd i _ = wx_cell g ad bf v i _
    unfold wx_cell
    simp [hi]
end WX
/-! the reference's world: one object, twelve rows -/
abbrev wm_ob (ad : Nat → Nat) (o : hj_Ob) (sd : Int64) : va_E := .inr (6, [.int (o.1 0), .int (o.1 1), .ref (ad 1), .ref (ad 2), .ref (ad 3), .ref (ad 4), .ref (ad 5), .int (o.1 7), .int (o.1 8), .ref (ad 6), .int (o.1 10), .int (o.1 11), .int (o.1 12), .int (o.1 13), .int (o.1 14), .ref (ad 7), .int (o.1 16), .int (o.1 17), .ref (ad 8), .ref (ad 9), .ref (ad 10), .long sd, .ref (ad 11), .ref (ad 12)])
def wm_sl (i : Nat) : Nat := match i with | 1 => 2 | 2 => 3 | 3 => 4 | 4 => 5 | 5 => 6 | 6 => 9 | 7 => 15 | 8 => 18 | 9 => 19 | 10 => 20 | 11 => 22 | 12 => 23 | k => 100 + k
def wm_ln (i : Nat) : Nat := match i with | 3 => 30 | 4 => 18 | 6 => 56 | 7 => 210 | 11 => 2 | 12 => 30 | _ => 6
def hj_wm (g : hj_G) (ad : Nat → Nat) (τ : hj_Ob) (sd : Int64) : Nat → va_E := fun i => if i = 0 then wm_ob ad τ sd else if i = 11 then hj_aZ g 2 (τ.2 22) else hj_aI g (wm_ln i) (τ.2 (wm_sl i))
theorem wm_inj {i j : Nat} (hj : 1 ≤ j) (hj2 : j ≤ 12) (h : wm_sl i = wm_sl j) : i = j ∨ i = 0 := by
  have h2 : wm_sl j < 24 := by
    rcases (show j = 1 ∨ j = 2 ∨ j = 3 ∨ j = 4 ∨ j = 5 ∨ j = 6 ∨ j = 7 ∨ j = 8 ∨ j = 9 ∨ j = 10 ∨ j = 11 ∨ j = 12 by omega) with rfl | rfl | rfl | rfl | rfl | rfl | rfl | rfl | rfl | rfl | rfl | rfl <;> decide
  have h3 : i ≤ 12 := by
    apply Nat.le_of_not_lt
    intro hi
    have : wm_sl i = 100 + i := by
      unfold wm_sl
      split <;> first | omega | rfl
    omega
  have key : ∀ i, i < 13 → ∀ j, j < 13 → 1 ≤ j → wm_sl i = wm_sl j → i = j ∨ i = 0 := by decide
  exact key i (by omega) j (by omega) hj h
section WM
variable {g : hj_G} {ad : Nat → Nat} {sd : Int64} {τ : hj_Ob}
theorem wm_s {k : Nat} {v : Int32} {e : va_E} (he : wm_ob ad (hj_s τ k v) sd = e) : va_up (hj_wm g ad τ sd) 0 e = hj_wm g ad (hj_s τ k v) sd := by
  funext i
  by_cases hi : i = 0
  · subst hi
    rw [va_up_self]
    exact he.symm
  · rw [va_up_ne _ _ hi]
    simp [hj_wm, hi, hj_s]
theorem wm_a {x v : Int32} (j : Nat) (hj : 1 ≤ j) (hj2 : j ≤ 12) (hz : j ≠ 11) : va_up (hj_wm g ad τ sd) j (hj_aI g (wm_ln j) (upd (τ.2 (wm_sl j)) x.toNatClampNeg v)) = hj_wm g ad (hj_a τ (wm_sl j) x v) sd := by
  funext i
  by_cases hi : i = j
  · subst hi
    rw [va_up_self]
    simp [hj_wm, hz, show ¬ i = 0 by omega, wx_a_se]
  · rw [va_up_ne _ _ hi]
    by_cases h0 : i = 0
    · subst h0
      simp [hj_wm, hj_a]
    · by_cases h11 : i = 11
      · subst h11
        have : (22 : Nat) ≠ wm_sl j := fun h => by
          rcases wm_inj (i := 11) hj hj2 h with h' | h' <;> omega
        simp [hj_wm, wx_a_ne this]
      · have : wm_sl i ≠ wm_sl j := fun h => by
          rcases wm_inj hj hj2 h with h' | h' <;> omega
        simp [hj_wm, h0, h11, wx_a_ne this]
theorem wm_z {x v : Int32} : va_up (hj_wm g ad τ sd) 11 (hj_aZ g 2 (upd (τ.2 22) x.toNatClampNeg v)) = hj_wm g ad (hj_a τ 22 x v) sd := by
  funext i
  by_cases hi : i = 11
  · subst hi
    rw [va_up_self]
    simp [hj_wm, wx_a_se]
  · rw [va_up_ne _ _ hi]
    by_cases h0 : i = 0
    · subst h0
      simp [hj_wm, hj_a]
    · have : wm_sl i ≠ 22 := fun h => by
        rcases wm_inj (i := i) (j := 11) (by omega) (by omega) h with h' | h' <;> omega
      simp [hj_wm, h0, hi, wx_a_ne this]
theorem wm_d {v : Int64} : va_up (hj_wm g ad τ sd) 0 (wm_ob ad τ v) = hj_wm g ad τ v := by
  funext i
  by_cases hi : i = 0
  · subst hi
    rw [va_up_self]
    simp [hj_wm]
  · rw [va_up_ne _ _ hi]
    simp [hj_wm, hi]
end WM
/-! the class's two static rows, that nobody writes -/
def hs_H (j : Nat) : Int32 := match j with | 0 => 1 | 1 => 100 | 2 => 10000 | 3 => 1000000 | _ => 100000000
def hs_F (j : Nat) : Int32 := match j with | 0 => 1 | 1 => 1 | 2 => 2 | 3 => 6 | 4 => 24 | 5 => 120 | _ => 720
def hs_Z : hj_X := fun A U => ∃ t1 t2 : Nat, va_Z "HungryJury" "HUNDREDS" "[I" (.ref t1) A U U.heap ∧ va_T .int t1 5 (fun j => .int (hs_H j)) A U U.heap ∧ va_Z "HungryJury" "FACTORIALS" "[I" (.ref t2) A U U.heap ∧ va_T .int t2 7 (fun j => .int (hs_F j)) A U U.heap
theorem hs_Xb : hj_Xb hs_Z := fun A U f mk a h => by
  obtain ⟨t1, t2, h1, h2, h3, h4⟩ := h
  exact ⟨t1, t2, va_Z.moved (u := U) (U := U.calling f mk a) (Vm.Alike.refl U.vm) h1, va_T.moved (u := U) (U := U.calling f mk a) (Vm.Alike.refl U.vm) h2, va_Z.moved (u := U) (U := U.calling f mk a) (Vm.Alike.refl U.vm) h3, va_T.moved (u := U) (U := U.calling f mk a) (Vm.Alike.refl U.vm) h4⟩
theorem hs_at {n : Nat} {ad : Nat → Nat} {s : State} {H : Heap} {locs : List Loc} (h : hs_Z (hj_A n ad s.heap.size) s) (hS : hj_S n ad s H locs) (U : State) (hU : U.heap = H) (hA : s.vm.Alike U.vm) : hs_Z (hj_A n ad H.size) U := by
  obtain ⟨t1, t2, h1, h2, h3, h4⟩ := h
  subst hU
  exact ⟨t1, t2, va_Z.narrow (va_Z.kept (va_Z.moved hA h1) hS.2.1) (fun q => hj_A_sub hS.1), va_T.narrow (va_T.kept (va_T.moved hA h2) hS.2.1) (fun q => hj_A_sub hS.1), va_Z.narrow (va_Z.kept (va_Z.moved hA h3) hS.2.1) (fun q => hj_A_sub hS.1), va_T.narrow (va_T.kept (va_T.moved hA h4) hS.2.1) (fun q => hj_A_sub hS.1)⟩
theorem wx_B_lt {r k : Nat} (h : wx_B r) (hk : k < 4) : r + k < 73 := by unfold wx_B at h; omega
theorem wx_B_1 {r : Nat} (h : wx_B r) : (1 : Nat) ≠ r := by unfold wx_B at h; omega
theorem hj_in_lt {x : Int32} {n : Nat} (h : vp_in x n) : x.toNatClampNeg < n := Nat.not_le.mp fun q => h (Or.inr q)
def hj_rg {α : Type} (b : Nat) (k : Nat → Option α) : Option α := if 19 ≤ b ∧ b < 61 ∧ b % 3 = 1 then k b else none
theorem hj_rg_s {α : Type} {b : Nat} {k : Nat → Option α} {r : α} (h : hj_rg b k = some r) : ∃ y, y = b ∧ (19 ≤ y ∧ y < 61 ∧ y % 3 = 1) ∧ k y = some r := by
  unfold hj_rg at h
  split at h
  · exact ⟨b, rfl, by assumption, h⟩
  · cases h
def hj_o5 {α β γ δ ε ζ : Type} (o : Option (α × β × γ × δ × ε)) (k : α → β → γ → δ → ε → Option ζ) : Option ζ := match o with | none => none | some x => k x.1 x.2.1 x.2.2.1 x.2.2.2.1 x.2.2.2.2
theorem hj_o5_s {α β γ δ ε ζ : Type} {o : Option (α × β × γ × δ × ε)} {k : α → β → γ → δ → ε → Option ζ} {r : ζ} (h : hj_o5 o k = some r) : ∃ x y z t u, o = some (x, y, z, t, u) ∧ k x y z t u = some r := by
  cases o with
  | none => cases h
  | some x => exact ⟨x.1, x.2.1, x.2.2.1, x.2.2.2.1, x.2.2.2.2, rfl, h⟩
