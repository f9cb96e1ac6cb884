/-! the law: its arguments, its context -/
def lw_Cx (p : Program) (s : State) (m : MethodId) (args : Array Value) (meth : Method) (c : Code) (b L : Nat) (xs : Nat → Int32) (g : hj_G) (ad am : Nat → Nat) : Prop :=
  p.tables.exec = Jvm.exec ∧ c.code = cL_law ∧ c.maxLocals = 4 ∧ s.vm.findClass RL = some m.cls ∧ (∀ w ∈ wsL_law, w.before args s = true) ∧ va_X b L xs s s.heap ∧ b < s.heap.size ∧ L ≤ 2048 ∧ hj_K g s ∧ lw_F s ad am ∧ hs_Z (lw_A s) s
theorem lwz_Z {s U : State} {n : Nat} {ad : Nat → Nat} {H : Heap} {locs : List Loc} (h : hs_Z (lw_A s) s) (hs : ∀ i, i < n → s.heap.size ≤ ad i) (hS : va_S (lw_A s) s.heap H locs) (hU : U.heap = H) (hA : s.vm.Alike U.vm) : hs_Z (hj_A n ad H.size) U := by
  obtain ⟨t1, t2, h1, h2, h3, h4⟩ := h
  have sub : ∀ q, hj_A n ad H.size q → lw_A s q := by
    rintro q (⟨i, hi, rfl⟩ | h)
    · exact hs i hi
    · exact Nat.le_trans hS.1 h
  have kp : ∀ a : Nat, a < s.heap.size → ¬ lw_A s a → U.heap[a]? = s.heap[a]? := fun a k1 k2 => by rw [hU]; exact hS.2.1 a k1 k2
  exact ⟨t1, t2, ((h1.moved hA).kept kp).narrow sub, ((h2.moved hA).kept kp).narrow sub, ((h3.moved hA).kept kp).narrow sub, ((h4.moved hA).kept kp).narrow sub⟩
section LWA
variable {p : Program} {l : Launch} {e : Env} {R : Room} {s : State} {m : MethodId} {args : Array Value} {below : List Frame} {meth : Method} {c : Code} {H : Heap} {locs : List Loc} {cells slots : Nat} {Q : State → Prop}
variable {cc : ByteArray} {pc : Nat} {ls : Array Slot} {rest : List Value} {b L i : Nat} {xs : Nat → Int32} {x1 x2 : Nat}
theorem lw_arg1 (hx : p.tables.exec = Jvm.exec) (hb : c.code = cc) (hX : va_X b L xs s s.heap) (hbl : b < s.heap.size) (hS : va_S (lw_A s) s.heap H locs) (hl : lv_has ls 4 [(3, .int (nI i)), (2, .ref x2), (1, .ref x1), (0, .ref b)]) (hi : i + 4 ≤ L) (hL : L ≤ 2048) (d0 : decode cc pc = .ok (.aload_n 0, 1)) (d1 : decode cc (pc + 1) = .ok (.iload_n 3, 1)) (d2 : decode cc (pc + 2) = .ok (.iconst 1, 1)) (d3 : decode cc (pc + 3) = .ok (.iadd, 1)) (d4 : decode cc (pc + 4) = .ok (.iaload, 1))
    (kk : W p l e R s m args below meth c H locs cells slots Q (F0 m (pc + 5) ls (.int (xs (i + 1)) :: rest))) : W p l e R s m args below meth c H locs cells slots Q (F0 m pc ls rest) := by
  refine lv_aload_n hx hb d0 rfl (lv_at hl 3 rfl) ?_
  refine lv_iload_n hx hb d1 rfl (lv_at hl 0 rfl) ?_
  refine lv_iconst (v := nI 1) hx hb d2 (by decide) ?_
  refine lv_iadd hx hb d3 ?_
  rw [nI_add]
  refine va_sld hx hb hX hbl (Nat.not_le.mpr hbl) hS (show vp_in (nI (i + 1)) L from fun q => by rcases q with q | q; exact ev_neg (by omega) q; rw [ev_cl (by omega)] at q; omega) d4 ?_
  rw [ev_cl (by omega)]
  exact kk
theorem lw_bool1 (hx : p.tables.exec = Jvm.exec) (hb : c.code = cc) (hX : va_X b L xs s s.heap) (hbl : b < s.heap.size) (hS : va_S (lw_A s) s.heap H locs) (hl : lv_has ls 4 [(3, .int (nI i)), (2, .ref x2), (1, .ref x1), (0, .ref b)]) (hi : i + 4 ≤ L) (hL : L ≤ 2048) (d0 : decode cc pc = .ok (.aload_n 0, 1)) (d1 : decode cc (pc + 1) = .ok (.iload_n 3, 1)) (d2 : decode cc (pc + 2) = .ok (.iconst 1, 1)) (d3 : decode cc (pc + 3) = .ok (.iadd, 1)) (d4 : decode cc (pc + 4) = .ok (.iaload, 1))
    (d5 : decode cc (pc + 5) = .ok (.ifCond .eq 7, 3)) (d6 : decode cc (pc + 8) = .ok (.iconst 1, 1)) (d7 : decode cc (pc + 9) = .ok (.goto 4, 3)) (d8 : decode cc (pc + 12) = .ok (.iconst 0, 1))
    (kk : W p l e R s m args below meth c H locs cells slots Q (F0 m (pc + 13) ls (.int (if xs (i + 1) = 0 then 0 else 1) :: rest))) : W p l e R s m args below meth c H locs cells slots Q (F0 m pc ls rest) := by
  refine lw_arg1 hx hb hX hbl hS hl hi hL d0 d1 d2 d3 d4 ?_
  refine lv_if_eq (tgt := pc + 12) hx hb d5 (by omega) (fun q => ?_) (fun q => ?_)
  · rw [if_pos q] at kk
    exact lv_iconst (v := 0) hx hb d8 (by decide) kk
  · rw [if_neg q] at kk
    refine lv_iconst (v := 1) hx hb d6 (by decide) ?_
    exact lv_goto (tgt := pc + 13) hx hb d7 (by omega) kk
theorem lw_arg2 (hx : p.tables.exec = Jvm.exec) (hb : c.code = cc) (hX : va_X b L xs s s.heap) (hbl : b < s.heap.size) (hS : va_S (lw_A s) s.heap H locs) (hl : lv_has ls 4 [(3, .int (nI i)), (2, .ref x2), (1, .ref x1), (0, .ref b)]) (hi : i + 4 ≤ L) (hL : L ≤ 2048) (d0 : decode cc pc = .ok (.aload_n 0, 1)) (d1 : decode cc (pc + 1) = .ok (.iload_n 3, 1)) (d2 : decode cc (pc + 2) = .ok (.iconst 2, 1)) (d3 : decode cc (pc + 3) = .ok (.iadd, 1)) (d4 : decode cc (pc + 4) = .ok (.iaload, 1))
    (kk : W p l e R s m args below meth c H locs cells slots Q (F0 m (pc + 5) ls (.int (xs (i + 2)) :: rest))) : W p l e R s m args below meth c H locs cells slots Q (F0 m pc ls rest) := by
  refine lv_aload_n hx hb d0 rfl (lv_at hl 3 rfl) ?_
  refine lv_iload_n hx hb d1 rfl (lv_at hl 0 rfl) ?_
  refine lv_iconst (v := nI 2) hx hb d2 (by decide) ?_
  refine lv_iadd hx hb d3 ?_
  rw [nI_add]
  refine va_sld hx hb hX hbl (Nat.not_le.mpr hbl) hS (show vp_in (nI (i + 2)) L from fun q => by rcases q with q | q; exact ev_neg (by omega) q; rw [ev_cl (by omega)] at q; omega) d4 ?_
  rw [ev_cl (by omega)]
  exact kk
theorem lw_bool2 (hx : p.tables.exec = Jvm.exec) (hb : c.code = cc) (hX : va_X b L xs s s.heap) (hbl : b < s.heap.size) (hS : va_S (lw_A s) s.heap H locs) (hl : lv_has ls 4 [(3, .int (nI i)), (2, .ref x2), (1, .ref x1), (0, .ref b)]) (hi : i + 4 ≤ L) (hL : L ≤ 2048) (d0 : decode cc pc = .ok (.aload_n 0, 1)) (d1 : decode cc (pc + 1) = .ok (.iload_n 3, 1)) (d2 : decode cc (pc + 2) = .ok (.iconst 2, 1)) (d3 : decode cc (pc + 3) = .ok (.iadd, 1)) (d4 : decode cc (pc + 4) = .ok (.iaload, 1))
    (d5 : decode cc (pc + 5) = .ok (.ifCond .eq 7, 3)) (d6 : decode cc (pc + 8) = .ok (.iconst 1, 1)) (d7 : decode cc (pc + 9) = .ok (.goto 4, 3)) (d8 : decode cc (pc + 12) = .ok (.iconst 0, 1))
    (kk : W p l e R s m args below meth c H locs cells slots Q (F0 m (pc + 13) ls (.int (if xs (i + 2) = 0 then 0 else 1) :: rest))) : W p l e R s m args below meth c H locs cells slots Q (F0 m pc ls rest) := by
  refine lw_arg2 hx hb hX hbl hS hl hi hL d0 d1 d2 d3 d4 ?_
  refine lv_if_eq (tgt := pc + 12) hx hb d5 (by omega) (fun q => ?_) (fun q => ?_)
  · rw [if_pos q] at kk
    exact lv_iconst (v := 0) hx hb d8 (by decide) kk
  · rw [if_neg q] at kk
    refine lv_iconst (v := 1) hx hb d6 (by decide) ?_
    exact lv_goto (tgt := pc + 13) hx hb d7 (by omega) kk
theorem lw_arg3 (hx : p.tables.exec = Jvm.exec) (hb : c.code = cc) (hX : va_X b L xs s s.heap) (hbl : b < s.heap.size) (hS : va_S (lw_A s) s.heap H locs) (hl : lv_has ls 4 [(3, .int (nI i)), (2, .ref x2), (1, .ref x1), (0, .ref b)]) (hi : i + 4 ≤ L) (hL : L ≤ 2048) (d0 : decode cc pc = .ok (.aload_n 0, 1)) (d1 : decode cc (pc + 1) = .ok (.iload_n 3, 1)) (d2 : decode cc (pc + 2) = .ok (.iconst 3, 1)) (d3 : decode cc (pc + 3) = .ok (.iadd, 1)) (d4 : decode cc (pc + 4) = .ok (.iaload, 1))
    (kk : W p l e R s m args below meth c H locs cells slots Q (F0 m (pc + 5) ls (.int (xs (i + 3)) :: rest))) : W p l e R s m args below meth c H locs cells slots Q (F0 m pc ls rest) := by
  refine lv_aload_n hx hb d0 rfl (lv_at hl 3 rfl) ?_
  refine lv_iload_n hx hb d1 rfl (lv_at hl 0 rfl) ?_
  refine lv_iconst (v := nI 3) hx hb d2 (by decide) ?_
  refine lv_iadd hx hb d3 ?_
  rw [nI_add]
  refine va_sld hx hb hX hbl (Nat.not_le.mpr hbl) hS (show vp_in (nI (i + 3)) L from fun q => by rcases q with q | q; exact ev_neg (by omega) q; rw [ev_cl (by omega)] at q; omega) d4 ?_
  rw [ev_cl (by omega)]
  exact kk
theorem lw_bool3 (hx : p.tables.exec = Jvm.exec) (hb : c.code = cc) (hX : va_X b L xs s s.heap) (hbl : b < s.heap.size) (hS : va_S (lw_A s) s.heap H locs) (hl : lv_has ls 4 [(3, .int (nI i)), (2, .ref x2), (1, .ref x1), (0, .ref b)]) (hi : i + 4 ≤ L) (hL : L ≤ 2048) (d0 : decode cc pc = .ok (.aload_n 0, 1)) (d1 : decode cc (pc + 1) = .ok (.iload_n 3, 1)) (d2 : decode cc (pc + 2) = .ok (.iconst 3, 1)) (d3 : decode cc (pc + 3) = .ok (.iadd, 1)) (d4 : decode cc (pc + 4) = .ok (.iaload, 1))
    (d5 : decode cc (pc + 5) = .ok (.ifCond .eq 7, 3)) (d6 : decode cc (pc + 8) = .ok (.iconst 1, 1)) (d7 : decode cc (pc + 9) = .ok (.goto 4, 3)) (d8 : decode cc (pc + 12) = .ok (.iconst 0, 1))
    (kk : W p l e R s m args below meth c H locs cells slots Q (F0 m (pc + 13) ls (.int (if xs (i + 3) = 0 then 0 else 1) :: rest))) : W p l e R s m args below meth c H locs cells slots Q (F0 m pc ls rest) := by
  refine lw_arg3 hx hb hX hbl hS hl hi hL d0 d1 d2 d3 d4 ?_
  refine lv_if_eq (tgt := pc + 12) hx hb d5 (by omega) (fun q => ?_) (fun q => ?_)
  · rw [if_pos q] at kk
    exact lv_iconst (v := 0) hx hb d8 (by decide) kk
  · rw [if_neg q] at kk
    refine lv_iconst (v := 1) hx hb d6 (by decide) ?_
    exact lv_goto (tgt := pc + 13) hx hb d7 (by omega) kk
end LWA
/-- two equal longs compared -/
theorem lw_cmp {p : Program} {l : Launch} {e : Env} {R : Room} {s : State} {m : MethodId} {args : Array Value} {below : List Frame} {meth : Method} {c : Code} {H : Heap} {locs : List Loc} {cells slots : Nat} {Q : State → Prop} {cc : ByteArray} {pc : Nat} {ls : Array Slot} {rest : List Value} (hexec : p.tables.exec = Jvm.exec) (hb : c.code = cc) {x : Int64} (hdg : decode cc pc = .ok (.lcmp, 1))
    (k : W p l e R s m args below meth c H locs cells slots Q (F0 m (pc + 1) ls (.int 0 :: rest))) : W p l e R s m args below meth c H locs cells slots Q (F0 m pc ls (.long x :: .long x :: rest)) := by
  intro T hT X
  obtain ⟨t, a, b⟩ := k T hT X
  refine ⟨t, ?_, b⟩
  jvm_step X.here [X.here.top, hexec, hb, hdg]
  simpa using a
