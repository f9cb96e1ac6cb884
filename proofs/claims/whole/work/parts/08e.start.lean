/-! the two objects as made, in the numbering of the worlds; what holds between them at first -/
def st_x : Nat → hj_Ob := fun i => if i = 3 ∨ i = 7 then (fun k => if k = 4 then 1 else 0, fun _ _ => 0) else (fun _ => 0, fun _ _ => 0)
def st_b : Nat → Nat := fun k => if k < 14 then 19 + 3 * k else 19
def st_m : hj_Ob := (fun k => if k = 1 then 1 else 0, fun _ _ => 0)
theorem st_lr : lr 1 st_x st_b st_m := by
  refine ⟨(0, fun _ => 0), (0, 1, fun _ => 0, fun _ => 0), (0, 0, 0, fun _ => 0, fun _ => 0), (0, fun _ => (0, 0, 0, fun _ => 0, fun _ => 0)), (fun _ => false, fun _ => (0, 0, 0, fun _ => 0, fun _ => 0)), (0, fun _ => 0, fun _ => 0, fun _ => 0), ⟨⟨rfl, fun i hi => absurd hi (Nat.not_lt_zero i)⟩, ⟨rfl, rfl, fun j hj => absurd hj (Nat.not_lt_zero j)⟩, ⟨rfl, rfl, rfl, fun j hj => absurd hj (Nat.not_lt_zero j)⟩, ⟨rfl, fun k hk => ?_, fun k j hk hj e => ?_, fun k hk => absurd hk (Nat.not_lt_zero k)⟩, fun k hk => ⟨rfl, fun q => absurd (show false = true from q) (by decide)⟩, ⟨rfl, fun i hi => absurd hi (Nat.not_lt_zero i)⟩⟩,
    ⟨⟨rfl, fun i hi => absurd hi (Nat.not_lt_zero i)⟩, ⟨rfl, rfl, fun j hj => absurd hj (Nat.not_lt_zero j)⟩, ⟨rfl, rfl, rfl, fun j hj => absurd hj (Nat.not_lt_zero j)⟩, ⟨rfl, 0, by decide, rfl, fun k hk => absurd hk (Nat.not_lt_zero k)⟩, fun k hk => ⟨rfl, fun q => absurd (show false = true from q) (by decide)⟩, ⟨rfl, fun i hi => absurd hi (Nat.not_lt_zero i)⟩⟩,
    ⟨⟨Nat.zero_le _, fun i hi => absurd hi (Nat.not_lt_zero i)⟩, ⟨Nat.zero_le _, by show 1 ≤ 6; omega, fun j hj => absurd hj (Nat.not_lt_zero j)⟩, ⟨by show 0 < 64; omega, by show 0 < 1; omega, by show 0 < 1; omega, fun j hj => absurd hj (Nat.not_lt_zero j)⟩, ⟨Nat.zero_le _, fun k hk => absurd hk (Nat.not_lt_zero k)⟩, fun k _ q => absurd (show false = true from q) (by decide), Nat.zero_le _, fun i hi => absurd hi (Nat.not_lt_zero i)⟩⟩
  · unfold st_b
    rw [if_pos hk]
    omega
  · unfold st_b at e
    rw [if_pos hk, if_pos hj] at e
    omega
/-- the addresses -/
def st_a (h0 : Nat) (u : Nat → Nat) : Nat → Nat := fun i => if i = 0 then h0 else u i
/-- an array's cells beyond its length are no matter -/
theorem nw_arr {g : hj_G} {ws0 : va_W} {H : Heap} {k a N : Nat} {f f' : Nat → Option Nat} (hP : va_P g.1 vwCl ws0 H) (h : ws0[k]? = some (a, hj_aR g N f)) (hf : ∀ j, j < N → f j = f' j) : va_P g.1 vwCl (ws0.set k (a, hj_aR g N f')) H := by
  intro i q hq
  by_cases e : i = k
  · subst e
    rw [List.getElem?_set_self (nw_lt h)] at hq
    cases hq
    have e0 : vp_cell g.2.2.2 (N, .inr (.inr (.inr (.inr f)))) = vp_cell g.2.2.2 (N, .inr (.inr (.inr (.inr f')))) := by
      rw [vp_cell_q, vp_cell_q]
      unfold arrV
      congr 1
      apply Array.ext
      · simp
      · intro j h1 h2
        have hj : j < N := by simpa using h1
        simp [hf j hj]
    have := hP i _ h
    show H[a]? = some (vp_cell g.2.2.2 (N, .inr (.inr (.inr (.inr f')))))
    rw [← e0]
    exact this
  · rw [List.getElem?_set_ne (Ne.symm e)] at hq
    exact hP i q hq
set_option maxRecDepth 100000 in
theorem st_wx {g : hj_G} {h0 : Nat} {u : Nat → Nat} : (((nw_X g h0 u).set 18 (u 18, hj_aR g 14 (wx_bf (st_a h0 u) st_b))).set 61 (u 61, hj_aR g 2 (wx_sl (st_a h0 u)))) = hj_wl 73 (st_a h0 u) (hj_wx g (st_a h0 u) st_x st_b 0) := by
  rfl
