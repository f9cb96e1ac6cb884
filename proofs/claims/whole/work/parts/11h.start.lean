/-! the law: its start -/
theorem nw_getr {X Y : va_W} {k n : Nat} {x : Nat × va_E} (hn : X.length = n) (h : Y[k]? = some x) : (X ++ Y)[n + k]? = some x := by
  subst hn
  rw [List.getElem?_append_right (by omega), Nat.add_sub_cancel_left]
  exact h
def nw_Y (g : hj_G) (h0 : Nat) (u : Nat → Nat) : va_W := [(h0, .inr (6, [.int 0, .int 1, .ref (u 0), .ref (u 1), .ref (u 2), .ref (u 3), .ref (u 4), .int 0, .int 0, .ref (u 5), .int 0, .int 0, .int 0, .int 0, .int 0, .ref (u 6), .int 0, .int 0, .ref (u 7), .ref (u 8), .ref (u 9), .long 0, .ref (u 10), .ref (u 11)])), ((u 0), hj_aI g 6 (fun _ => 0)), ((u 1), hj_aI g 6 (fun _ => 0)), ((u 2), hj_aI g 30 (fun _ => 0)), ((u 3), hj_aI g 18 (fun _ => 0)), ((u 4), hj_aI g 6 (fun _ => 0)), ((u 5), hj_aI g 56 (fun _ => 0)), ((u 6), hj_aI g 210 (fun _ => 0)), ((u 7), hj_aI g 6 (fun _ => 0)), ((u 8), hj_aI g 6 (fun _ => 0)), ((u 9), hj_aI g 6 (fun _ => 0)), ((u 10), hj_aZ g 2 (fun _ => 0)), ((u 11), hj_aI g 30 (fun _ => 0))]
set_option maxRecDepth 100000 in
theorem st_wm {g : hj_G} {h0 : Nat} {u : Nat → Nat} : nw_Y g h0 u = hj_wl 13 (st_a h0 (fun i => u (i - 1))) (hj_wm g (st_a h0 (fun i => u (i - 1))) st_m 0) := by
  rfl
set_option maxRecDepth 100000 in
/-- both objects as made, in one heap -/
theorem st_both {g : hj_G} {s : State} {H : Heap} {hx hm : Nat} {u v : Nat → Nat} (hP : va_P g.1 vwCl (nw_X g hx u ++ nw_Y g hm v) H) (hD : va_D (lw_A s) (nw_X g hx u ++ nw_Y g hm v)) :
    lw_F s (st_a hx u) (st_a hm (fun i => v (i - 1))) ∧ lw_I g (st_a hx u) (st_a hm (fun i => v (i - 1))) st_x st_b st_m 0 0 H := by
  have g18 : (nw_X g hx u)[18]? = some (u 18, hj_aR g 14 (nw_f (fun k => u (18 + k)) 14)) := rfl
  have g61 : ((nw_X g hx u).set 18 (u 18, hj_aR g 14 (wx_bf (st_a hx u) st_b)))[61]? = some (u 61, hj_aR g 2 (va_up (va_up (fun _ => none) 0 (some (u 67))) 1 (some (u 70)))) := rfl
  have f18 : ∀ j, j < 14 → nw_f (fun k => u (18 + k)) 14 j = wx_bf (st_a hx u) st_b j := by
    intro j hj
    unfold nw_f st_b st_a
    rw [if_pos hj]
    show some (u (18 + (3 * j + 1))) = some (if (if j < 14 then 19 + 3 * j else 19) = 0 then hx else u (if j < 14 then 19 + 3 * j else 19))
    rw [if_pos hj, if_neg (by omega), show 18 + (3 * j + 1) = 19 + 3 * j by omega]
  have f61 : ∀ j, j < 2 → va_up (va_up (fun _ => none) 0 (some (u 67))) 1 (some (u 70)) j = wx_sl (st_a hx u) j := by
    intro j hj
    rcases (show j = 0 ∨ j = 1 by omega) with rfl | rfl <;> rfl
  have hP1 := nw_arr hP (nw_getl g18) f18
  have hD1 := va_D.set hD (e := hj_aR g 14 (wx_bf (st_a hx u) st_b)) (nw_getl g18)
  rw [nw_set (nw_lt g18)] at hP1 hD1
  have hP2 := nw_arr hP1 (nw_getl g61) f61
  have hD2 := va_D.set hD1 (e := hj_aR g 2 (wx_sl (st_a hx u))) (nw_getl g61)
  rw [nw_set (nw_lt g61), st_wx, st_wm] at hP2 hD2
  have e1 : ∀ i, i < 73 → (hj_wl 73 (st_a hx u) (hj_wx g (st_a hx u) st_x st_b 0) ++ hj_wl 13 (st_a hm (fun i => v (i - 1))) (hj_wm g (st_a hm (fun i => v (i - 1))) st_m 0))[i]? = some (st_a hx u i, hj_wx g (st_a hx u) st_x st_b 0 i) := fun i hi => nw_getl (hj_at hi rfl)
  have e2 : ∀ i, i < 13 → (hj_wl 73 (st_a hx u) (hj_wx g (st_a hx u) st_x st_b 0) ++ hj_wl 13 (st_a hm (fun i => v (i - 1))) (hj_wm g (st_a hm (fun i => v (i - 1))) st_m 0))[73 + i]? = some (st_a hm (fun i => v (i - 1)) i, hj_wm g (st_a hm (fun i => v (i - 1))) st_m 0 i) := fun i hi => nw_getr hj_len (hj_at hi rfl)
  refine ⟨⟨fun i j hi hj e => hD2.1 i j _ _ (e1 i hi) (e1 j hj) e, fun i j hi hj e => by have := hD2.1 (73 + i) (73 + j) _ _ (e2 i hi) (e2 j hj) e; omega, fun i hi => hD2.2 i _ (e1 i hi), fun i hi => hD2.2 (73 + i) _ (e2 i hi), fun i j hi hj e => by have := hD2.1 i (73 + j) _ _ (e1 i hi) (e2 j hj) e; omega⟩, fun k q h => hP2 k q (nw_getl h), fun k q h => hP2 (73 + k) q (nw_getr hj_len h)⟩
