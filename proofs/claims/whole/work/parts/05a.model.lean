theorem wm_a2 {g : hj_G} {ad : Nat → Nat} {sd : Int64} {τ : hj_Ob} {x v : Int32} (j k : Nat) (hk : wm_sl j = k) (hj : 1 ≤ j) (hj2 : j ≤ 12) (hz : j ≠ 11) : va_up (hj_wm g ad τ sd) j (hj_aI g (wm_ln j) (upd (τ.2 k) x.toNatClampNeg v)) = hj_wm g ad (hj_a τ k x v) sd := by
  subst hk
  exact wm_a j hj hj2 hz
/-! X6_in -/
abbrev rmX6_in : Room := { frames := 0, cells := 0, slots := 0, locals := 0 }
def fX6_in (x0 : Int64) (x2 : Int64) (x4 : Int64) : Option Int32 :=
  if (lg_cmp x0 x2) < 0 then (some 0) else (if 0 < (lg_cmp x0 x4) then (some 0) else (some 1))
set_option maxHeartbeats 4000000 in
set_option maxRecDepth 100000 in
theorem wX6_in {p : Program} {l : Launch} {e : Env} {s : State} {m : MethodId} {args : Array Value} {below : List Frame} {meth : Method} {c : Code} {g : hj_G} {ad : Nat → Nat} {n : Nat} {w : Nat → va_E} (C : hj_C p s m args meth c cX6_in RX6 wsX6_in 6 (some .boolean)) (hK : hj_K g s) {x0 : Int64} {x2 : Int64} {x4 : Int64} {rF : Int32}
    (hf : fX6_in x0 x2 x4 = some rF) {H : Heap} {locs : List Loc} {ls : Array Slot} (hP : hj_P g n ad w H) (hS : hj_S n ad s H locs) (hl : lv_has ls 6 [(0, .long x0), (2, .long x2), (4, .long x4)]) :
    W p l e rmX6_in s m args below meth c H locs 0 0 (MQ below (hj_QI g n ad w rF s.heap.size) args s 0 0 (hj_A n ad s.heap.size)) (F0 m 0 ls []) := by
  obtain ⟨hx, hb, hr, hml, hown, hts, hlocks⟩ := id C
  unfold fX6_in at hf
  refine lv_lload_n hx hb dX6_in_0 rfl (lv_at hl 0 rfl) ?_
  refine lv_lload_n hx hb dX6_in_1 rfl (lv_at hl 1 rfl) ?_
  refine W.lcmp hx hb dX6_in_2 ?_
  refine lv_if_lt (tgt := 17) hx hb dX6_in_3 (by decide) (fun c1 => ?_) (fun c1 => ?_)
  · rw [if_pos c1] at hf
    refine lv_iconst (v := 0) hx hb dX6_in_17 (by decide) ?_
    have hq := Option.some.inj hf
    obtain rfl := hq
    exact hj_retz (Or.inl rfl)  C hP hK hS dX6_in_18
  · rw [if_neg c1] at hf
    refine lv_lload_n hx hb dX6_in_6 rfl (lv_at hl 0 rfl) ?_
    refine lv_lload hx hb dX6_in_7 (lv_at hl 2 rfl) ?_
    refine W.lcmp hx hb dX6_in_9 ?_
    refine lv_if_gt (tgt := 17) hx hb dX6_in_10 (by decide) (fun c2 => ?_) (fun c2 => ?_)
    · rw [if_pos c2] at hf
      refine lv_iconst (v := 0) hx hb dX6_in_17 (by decide) ?_
      have hq := Option.some.inj hf
      obtain rfl := hq
      exact hj_retz (Or.inl rfl)  C hP hK hS dX6_in_18
    · rw [if_neg c2] at hf
      refine lv_iconst (v := 1) hx hb dX6_in_13 (by decide) ?_
      refine lv_goto (tgt := 18) hx hb dX6_in_14 (by decide) ?_
      have hq := Option.some.inj hf
      obtain rfl := hq
      exact hj_retz (Or.inr rfl)  C hP hK hS dX6_in_18
set_option maxHeartbeats 4000000 in
set_option maxRecDepth 100000 in
theorem ctX6_in (l : Launch) (g : hj_G) {ad : Nat → Nat} {n : Nat} {w : Nat → va_E} {x0 : Int64} {x2 : Int64} {x4 : Int64} {rF : Int32} (hf : fX6_in x0 x2 x4 = some rF) :
    hj_MI l yX6_in wsX6_in rmX6_in g n ad hj_X0 [.long x0, .long x2, .long x4] w rF w := by
  refine hj_ofI (cc := cX6_in) (maxL := 6) (ret := (some .boolean)) (by decide) rfl (Nat.le_of_ble_eq_true rfl) ?_
  intro p e s m args below meth c ls C hP hK hX hl
  exact wX6_in C hK hf hP va_S.rf hl

/-! X6_has -/
abbrev rmX6_has : Room := { frames := 0, cells := 0, slots := 0, locals := 0 }
def fX6_has (x0 : Int32) (x1 : Int32) : Option Int32 :=
  if ((x0 >>> (x1 &&& 31)) &&& 1) = 1 then (some 1) else (some 0)
set_option maxHeartbeats 4000000 in
set_option maxRecDepth 100000 in
theorem wX6_has {p : Program} {l : Launch} {e : Env} {s : State} {m : MethodId} {args : Array Value} {below : List Frame} {meth : Method} {c : Code} {g : hj_G} {ad : Nat → Nat} {n : Nat} {w : Nat → va_E} (C : hj_C p s m args meth c cX6_has RX6 wsX6_has 2 (some .boolean)) (hK : hj_K g s) {x0 : Int32} {x1 : Int32} {rF : Int32}
    (hf : fX6_has x0 x1 = some rF) {H : Heap} {locs : List Loc} {ls : Array Slot} (hP : hj_P g n ad w H) (hS : hj_S n ad s H locs) (hl : lv_has ls 2 [(0, .int x0), (1, .int x1)]) :
    W p l e rmX6_has s m args below meth c H locs 0 0 (MQ below (hj_QI g n ad w rF s.heap.size) args s 0 0 (hj_A n ad s.heap.size)) (F0 m 0 ls []) := by
  obtain ⟨hx, hb, hr, hml, hown, hts, hlocks⟩ := id C
  unfold fX6_has at hf
  refine lv_iload_n hx hb dX6_has_0 rfl (lv_at hl 0 rfl) ?_
  refine lv_iload_n hx hb dX6_has_1 rfl (lv_at hl 1 rfl) ?_
  refine lv_ishr hx hb dX6_has_2 ?_
  refine lv_iconst (v := 1) hx hb dX6_has_3 (by decide) ?_
  refine lv_iand hx hb dX6_has_4 ?_
  refine lv_iconst (v := 1) hx hb dX6_has_5 (by decide) ?_
  refine lv_icmp_ne (tgt := 13) hx hb dX6_has_6 (by decide) (fun c1 => ?_) (fun c1 => ?_)
  · rw [if_neg c1] at hf
    refine lv_iconst (v := 0) hx hb dX6_has_13 (by decide) ?_
    have hq := Option.some.inj hf
    obtain rfl := hq
    exact hj_retz (Or.inl rfl)  C hP hK hS dX6_has_14
  · rw [if_pos c1] at hf
    refine lv_iconst (v := 1) hx hb dX6_has_9 (by decide) ?_
    refine lv_goto (tgt := 14) hx hb dX6_has_10 (by decide) ?_
    have hq := Option.some.inj hf
    obtain rfl := hq
    exact hj_retz (Or.inr rfl)  C hP hK hS dX6_has_14
set_option maxHeartbeats 4000000 in
set_option maxRecDepth 100000 in
theorem ctX6_has (l : Launch) (g : hj_G) {ad : Nat → Nat} {n : Nat} {w : Nat → va_E} {x0 : Int32} {x1 : Int32} {rF : Int32} (hf : fX6_has x0 x1 = some rF) :
    hj_MI l yX6_has wsX6_has rmX6_has g n ad hj_X0 [.int x0, .int x1] w rF w := by
  refine hj_ofI (cc := cX6_has) (maxL := 2) (ret := (some .boolean)) (by decide) rfl (Nat.le_of_ble_eq_true rfl) ?_
  intro p e s m args below meth c ls C hP hK hX hl
  exact wX6_has C hK hf hP va_S.rf hl

/-! X6_ones -/
abbrev rmX6_ones : Room := { frames := 0, cells := 0, slots := 0, locals := 0 }
def fX6_ones_4 (x0 : Int32) (x1 : Int32) (x2 : Int32) : Option (Int32 ⊕ (Int32 × Int32)) :=
  if 6 ≤ x2 then (some (.inl x1)) else (hj_nm (x1 + ((x0 >>> (x2 &&& 31)) &&& 1)) fun y2 => hj_nm (x2 + 1) fun y3 => some (.inr (y2, y3)))
set_option maxHeartbeats 4000000 in
set_option maxRecDepth 100000 in
theorem wX6_ones_4b {p : Program} {l : Launch} {e : Env} {s : State} {m : MethodId} {args : Array Value} {below : List Frame} {meth : Method} {c : Code} {g : hj_G} {ad : Nat → Nat} {n : Nat} {w : Nat → va_E} (C : hj_C p s m args meth c cX6_ones RX6 wsX6_ones 3 (some .int)) (hK : hj_K g s) {x0 : Int32} {x1 : Int32} {x2 : Int32} {y : Int32 ⊕ (Int32 × Int32)} {rF : Int32}
    (hf : fX6_ones_4 x0 x1 x2 = some y) (KX : ∀ (v1 : Int32), y = .inl v1 → ∀ (H : Heap) (locs : List Loc) (ls : Array Slot), hj_P g n ad w H → hj_S n ad s H locs → lv_has ls 3 [(1, .int v1)] → W p l e rmX6_ones s m args below meth c H locs 0 0 (MQ below (hj_QI g n ad w rF s.heap.size) args s 0 0 (hj_A n ad s.heap.size)) (F0 m 24 ls [])) (KI : ∀ (v1 : Int32) (v2 : Int32), y = .inr (v1, v2) → ∀ (H : Heap) (locs : List Loc) (ls : Array Slot), hj_P g n ad w H → hj_S n ad s H locs → lv_has ls 3 [(0, .int x0), (1, .int v1), (2, .int v2)] → W p l e rmX6_ones s m args below meth c H locs 0 0 (MQ below (hj_QI g n ad w rF s.heap.size) args s 0 0 (hj_A n ad s.heap.size)) (F0 m 4 ls [])) {H : Heap} {locs : List Loc} {ls : Array Slot} (hP : hj_P g n ad w H) (hS : hj_S n ad s H locs) (hl : lv_has ls 3 [(0, .int x0), (1, .int x1), (2, .int x2)]) :
    W p l e rmX6_ones s m args below meth c H locs 0 0 (MQ below (hj_QI g n ad w rF s.heap.size) args s 0 0 (hj_A n ad s.heap.size)) (F0 m 4 ls []) := by
  obtain ⟨hx, hb, hr, hml, hown, hts, hlocks⟩ := id C
  unfold fX6_ones_4 at hf
  refine lv_iload_n hx hb dX6_ones_4 rfl (lv_at hl 2 rfl) ?_
  refine lv_bipush (v := 6) hx hb dX6_ones_5 (by decide) ?_
  refine lv_icmp_ge (tgt := 24) hx hb dX6_ones_7 (by decide) (fun c1 => ?_) (fun c1 => ?_)
  · rw [if_pos c1] at hf
    exact KX _ (Option.some.inj hf).symm _ _ _ hP hS (lv_sub hl [1] rfl)
  · rw [if_neg c1] at hf
    refine lv_iload_n hx hb dX6_ones_10 rfl (lv_at hl 1 rfl) ?_
    refine lv_iload_n hx hb dX6_ones_11 rfl (lv_at hl 0 rfl) ?_
    refine lv_iload_n hx hb dX6_ones_12 rfl (lv_at hl 2 rfl) ?_
    refine lv_ishr hx hb dX6_ones_13 ?_
    refine lv_iconst (v := 1) hx hb dX6_ones_14 (by decide) ?_
    refine lv_iand hx hb dX6_ones_15 ?_
    refine lv_iadd hx hb dX6_ones_16 ?_
    refine lv_topi (fun y2 ey2 => ?_)
    replace hf := hj_nm_y hf ey2
    refine lv_istore_n (lv' := [(1, .int y2), (0, .int x0), (2, .int x2)]) hx hb dX6_ones_17 rfl hl (by decide) rfl (fun ls hl => ?_)
    obtain ⟨y3, ey3⟩ : ∃ z : Int32, z = x2 + 1 := ⟨_, rfl⟩
    replace hf := hj_nm_y hf ey3
    refine lv_iinc (v := y3) (lv' := [(2, .int y3), (1, .int y2), (0, .int x0)]) hx hb dX6_ones_18 hl (k := 2) rfl (by rw [ey3]; rfl) (by decide) rfl (fun ls hl => ?_)
    refine lv_goto (tgt := 4) hx hb dX6_ones_21 (by decide) ?_
    exact KI _ _ (Option.some.inj hf).symm _ _ _ hP hS (lv_sub hl [2, 1, 0] rfl)
set_option maxHeartbeats 4000000 in
set_option maxRecDepth 100000 in
theorem wX6_ones_4 {p : Program} {l : Launch} {e : Env} {s : State} {m : MethodId} {args : Array Value} {below : List Frame} {meth : Method} {c : Code} {g : hj_G} {ad : Nat → Nat} {n : Nat} {w : Nat → va_E} (C : hj_C p s m args meth c cX6_ones RX6 wsX6_ones 3 (some .int)) (hK : hj_K g s) {x0 : Int32} {rF : Int32} {e1 : Int32} :
    ∀ (fu : Nat) (x1 : Int32) (x2 : Int32), hj_lp (fun q : (Int32 × Int32) => fX6_ones_4 x0 q.1 q.2) fu (x1, x2) = some e1 → (∀ (H : Heap) (locs : List Loc) (ls : Array Slot), hj_P g n ad w H → hj_S n ad s H locs → lv_has ls 3 [(1, .int e1)] → W p l e rmX6_ones s m args below meth c H locs 0 0 (MQ below (hj_QI g n ad w rF s.heap.size) args s 0 0 (hj_A n ad s.heap.size)) (F0 m 24 ls [])) → ∀ (H : Heap) (locs : List Loc) (ls : Array Slot), hj_P g n ad w H → hj_S n ad s H locs → lv_has ls 3 [(0, .int x0), (1, .int x1), (2, .int x2)] →
    W p l e rmX6_ones s m args below meth c H locs 0 0 (MQ below (hj_QI g n ad w rF s.heap.size) args s 0 0 (hj_A n ad s.heap.size)) (F0 m 4 ls []) := by
  intro fu
  induction fu with
  | zero => intro x1 x2 hq; cases hq
  | succ fu ih =>
    intro x1 x2 hq KX H locs ls hP hS hl
    obtain ⟨y, hy, h1, h2⟩ := hj_lp_s hq
    exact wX6_ones_4b C hK  hy (fun v1 hv H locs ls hP hS hl => by obtain rfl := h1 _ hv; exact KX H locs ls hP hS hl) (fun v1 v2 hv H locs ls hP hS hl => ih v1 v2 (h2 _ hv) KX H locs ls hP hS hl) hP hS hl
def fX6_ones (x0 : Int32) : Option Int32 :=
  hj_o1 (hj_lp (fun q : (Int32 × Int32) => fX6_ones_4 x0 q.1 q.2) 100 (0, 0)) fun e4 => (some e4)
set_option maxHeartbeats 4000000 in
set_option maxRecDepth 100000 in
theorem wX6_ones {p : Program} {l : Launch} {e : Env} {s : State} {m : MethodId} {args : Array Value} {below : List Frame} {meth : Method} {c : Code} {g : hj_G} {ad : Nat → Nat} {n : Nat} {w : Nat → va_E} (C : hj_C p s m args meth c cX6_ones RX6 wsX6_ones 3 (some .int)) (hK : hj_K g s) {x0 : Int32} {rF : Int32}
    (hf : fX6_ones x0 = some rF) {H : Heap} {locs : List Loc} {ls : Array Slot} (hP : hj_P g n ad w H) (hS : hj_S n ad s H locs) (hl : lv_has ls 3 [(0, .int x0)]) :
    W p l e rmX6_ones s m args below meth c H locs 0 0 (MQ below (hj_QI g n ad w rF s.heap.size) args s 0 0 (hj_A n ad s.heap.size)) (F0 m 0 ls []) := by
  obtain ⟨hx, hb, hr, hml, hown, hts, hlocks⟩ := id C
  unfold fX6_ones at hf
  refine lv_iconst (v := 0) hx hb dX6_ones_0 (by decide) ?_
  refine lv_istore_n (lv' := [(1, .int 0), (0, .int x0)]) hx hb dX6_ones_1 rfl hl (by decide) rfl (fun ls hl => ?_)
  refine lv_iconst (v := 0) hx hb dX6_ones_2 (by decide) ?_
  refine lv_istore_n (lv' := [(2, .int 0), (1, .int 0), (0, .int x0)]) hx hb dX6_ones_3 rfl hl (by decide) rfl (fun ls hl => ?_)
  obtain ⟨e4, hlx, hf⟩ := hj_o1_s hf
  refine wX6_ones_4 C hK  100 0 0 hlx (fun H locs ls hP hS hl => ?_) H locs ls hP hS (lv_sub hl [2, 1, 0] rfl)
  refine lv_iload_n hx hb dX6_ones_24 rfl (lv_at hl 0 rfl) ?_
  have hq := Option.some.inj hf
  obtain rfl := hq
  exact hj_reti C hP hK hS dX6_ones_25
set_option maxHeartbeats 4000000 in
set_option maxRecDepth 100000 in
theorem ctX6_ones (l : Launch) (g : hj_G) {ad : Nat → Nat} {n : Nat} {w : Nat → va_E} {x0 : Int32} {rF : Int32} (hf : fX6_ones x0 = some rF) :
    hj_MI l yX6_ones wsX6_ones rmX6_ones g n ad hj_X0 [.int x0] w rF w := by
  refine hj_ofI (cc := cX6_ones) (maxL := 3) (ret := (some .int)) (by decide) rfl (Nat.le_of_ble_eq_true rfl) ?_
  intro p e s m args below meth c ls C hP hK hX hl
  exact wX6_ones C hK hf hP va_S.rf hl

/-! X6_write -/
abbrev rmX6_write : Room := { frames := 1, cells := 0, slots := 0, locals := 25 }
theorem mX6_write_1 : Cond.constantLong RX6 51 (255) ∈ wsX6_write := List.mem_of_getElem? (i := 1) rfl
theorem iX6_write_X6 : ∀ w ∈ wsX60, w ∈ wsX6_write := fun _ h => List.mem_cons_of_mem _ (List.mem_append_right _ h)
theorem mX6_write_2 : Cond.fieldLink RX6 57 "HungryJuryModel" "length" "I" ∈ wsX6_write := List.mem_of_getElem? (i := 2) rfl
theorem mX6_write_3 : Cond.fieldLink RX6 25 "HungryJuryModel" "text" "[I" ∈ wsX6_write := List.mem_of_getElem? (i := 3) rfl
def fX6_write (τ : hj_Ob) (sd : Int64) (x1 : Int32) : Option (Int32 × hj_Ob) :=
  hj_o1 (fX6_in x1.toInt64 0 255) fun r1 => if r1 = 0 then (some ((-2), τ)) else (if (τ.1 10) = 56 then (some ((-4), τ)) else (hj_ck (τ.1 10) 56 (hj_nm (hj_a τ 9 (τ.1 10) x1) fun τ5 => hj_nm (hj_s τ5 10 ((τ5.1 10) + 1)) fun τ6 => some (τ6.1 10, τ6))))
set_option maxHeartbeats 4000000 in
set_option maxRecDepth 100000 in
theorem wX6_write {p : Program} {l : Launch} {e : Env} {s : State} {m : MethodId} {args : Array Value} {below : List Frame} {meth : Method} {c : Code} {g : hj_G} {ad : Nat → Nat} (hI : hj_I 13 ad) (C : hj_C p s m args meth c cX6_write RX6 wsX6_write 2 (some .int)) (hK : hj_K g s) {τ : hj_Ob} {sd : Int64} {x1 : Int32} {rF : Int32} {τF : hj_Ob}
    (hf : fX6_write τ sd x1 = some (rF, τF)) {H : Heap} {locs : List Loc} {ls : Array Slot} (hP : hj_P g 13 ad (hj_wm g ad τ sd) H) (hS : hj_S 13 ad s H locs) (hl : lv_has ls 2 [(0, .ref (ad 0)), (1, .int x1)]) :
    W p l e rmX6_write s m args below meth c H locs 0 0 (MQ below (hj_QI g 13 ad (hj_wm g ad τF sd) rF s.heap.size) args s 0 0 (hj_A 13 ad s.heap.size)) (F0 m 0 ls []) := by
  obtain ⟨hx, hb, hr, hml, hown, hts, hlocks⟩ := id C
  unfold fX6_write at hf
  refine lv_iload_n hx hb dX6_write_0 rfl (lv_at hl 1 rfl) ?_
  refine lv_i2l (v := x1.toInt64) hx hb dX6_write_1 rfl ?_
  refine lv_lconst (v := 0) hx hb dX6_write_2 (by decide) ?_
  refine lv_ldc2 hx hb hown (hts _ mX6_write_1) dX6_write_3 ?_
  obtain ⟨r1, hc, hf⟩ := hj_o1_s hf
  refine hj_callSi (nL := 2) (As := [.long x1.toInt64, .long 0, .long 255]) (rest := []) ⟨hx, hb, hml, hown, hts⟩ (ctX6_in l g (n := 13) (ad := ad) (w := (hj_wm g ad τ sd)) hc) (va_cwS 3 hts gX6_write_X6_in rfl rfl rfl (by decide +kernel) ⟨Nat.le_of_ble_eq_true rfl, Nat.le_of_ble_eq_true rfl⟩) hj_Xb0 (fun _ _ _ => trivial) hK hP hS rfl hl.1 rfl (Nat.le_of_ble_eq_true rfl) dX6_write_6 (fun H locs hP hS => ?_)
  refine lv_if_ne (tgt := 15) hx hb dX6_write_9 (by decide) (fun c2 => ?_) (fun c2 => ?_)
  · rw [if_neg c2] at hf
    refine lv_aload_n hx hb dX6_write_15 rfl (lv_at hl 0 rfl) ?_
    refine hj_get (ci := 6) (v := .int (τ.1 10)) (C := RX6) (T := TX6) (N := 24) hx hb hts iX6_write_X6 hown hK hP (by decide) rfl rfl 10 (by decide) mX6_write_2 rfl dX6_write_16 ?_
    refine lv_bipush (v := 56) hx hb dX6_write_19 (by decide) ?_
    refine lv_icmp_ne (tgt := 27) hx hb dX6_write_21 (by decide) (fun c3 => ?_) (fun c3 => ?_)
    · rw [if_neg c3] at hf
      refine lv_aload_n hx hb dX6_write_27 rfl (lv_at hl 0 rfl) ?_
      refine hj_get (ci := 6) (v := .ref (ad 6)) (C := RX6) (T := TX6) (N := 24) hx hb hts iX6_write_X6 hown hK hP (by decide) rfl rfl 9 (by decide) mX6_write_3 rfl dX6_write_28 ?_
      refine lv_aload_n hx hb dX6_write_31 rfl (lv_at hl 0 rfl) ?_
      refine hj_get (ci := 6) (v := .int (τ.1 10)) (C := RX6) (T := TX6) (N := 24) hx hb hts iX6_write_X6 hown hK hP (by decide) rfl rfl 10 (by decide) mX6_write_2 rfl dX6_write_32 ?_
      refine lv_iload_n hx hb dX6_write_35 rfl (lv_at hl 1 rfl) ?_
      obtain ⟨hk4, hf⟩ := hj_ck_s hf
      refine hj_ias (f := τ.2 9) (v := x1) hx hb hK hI hP hS (by decide) rfl hk4 dX6_write_36 (wm_a2 (τ := τ) (x := (τ.1 10)) (v := x1) 6 9 rfl (by decide) (by decide) (by decide)) (fun H locs hP hS => ?_)
      obtain ⟨τ5, eτ5⟩ : ∃ z : hj_Ob, z = hj_a τ 9 (τ.1 10) x1 := ⟨_, rfl⟩
      replace hf := hj_nm_y hf eτ5
      rw [← eτ5] at hP
      refine lv_aload_n hx hb dX6_write_37 rfl (lv_at hl 0 rfl) ?_
      refine lv_dup hx hb dX6_write_38 rfl ?_
      refine hj_get (ci := 6) (v := .int (τ5.1 10)) (C := RX6) (T := TX6) (N := 24) hx hb hts iX6_write_X6 hown hK hP (by decide) rfl rfl 10 (by decide) mX6_write_2 rfl dX6_write_39 ?_
      refine lv_iconst (v := 1) hx hb dX6_write_42 (by decide) ?_
      refine lv_iadd hx hb dX6_write_43 ?_
      refine hj_put (ci := 6) (v := .int ((τ5.1 10) + 1)) (C := RX6) (T := TX6) (N := 24) hx hb hts iX6_write_X6 tyX6 tyX6_ok nmX6 hown hK hI hP hS (by decide) rfl rfl 10 (by decide) mX6_write_2 rfl rfl rfl (Nat.le_of_ble_eq_true rfl) dX6_write_44 (wm_s (τ := τ5) (k := 10) (v := (τ5.1 10) + 1) rfl) (fun H locs hP hS => ?_)
      obtain ⟨τ6, eτ6⟩ : ∃ z : hj_Ob, z = hj_s τ5 10 ((τ5.1 10) + 1) := ⟨_, rfl⟩
      replace hf := hj_nm_y hf eτ6
      rw [← eτ6] at hP
      refine lv_aload_n hx hb dX6_write_47 rfl (lv_at hl 0 rfl) ?_
      refine hj_get (ci := 6) (v := .int (τ6.1 10)) (C := RX6) (T := TX6) (N := 24) hx hb hts iX6_write_X6 hown hK hP (by decide) rfl rfl 10 (by decide) mX6_write_2 rfl dX6_write_48 ?_
      have hq := Option.some.inj hf
      obtain ⟨rfl, rfl⟩ := Prod.mk.inj hq
      exact hj_reti C hP hK hS dX6_write_51
    · rw [if_pos c3] at hf
      refine lv_bipush (v := (-4)) hx hb dX6_write_24 (by decide) ?_
      have hq := Option.some.inj hf
      obtain ⟨rfl, rfl⟩ := Prod.mk.inj hq
      exact hj_reti C hP hK hS dX6_write_26
  · rw [if_pos c2] at hf
    refine lv_bipush (v := (-2)) hx hb dX6_write_12 (by decide) ?_
    have hq := Option.some.inj hf
    obtain ⟨rfl, rfl⟩ := Prod.mk.inj hq
    exact hj_reti C hP hK hS dX6_write_14
set_option maxHeartbeats 4000000 in
set_option maxRecDepth 100000 in
theorem ctX6_write (l : Launch) (g : hj_G) {ad : Nat → Nat} (hI : hj_I 13 ad) {τ : hj_Ob} {sd : Int64} {x1 : Int32} {rF : Int32} {τF : hj_Ob} (hf : fX6_write τ sd x1 = some (rF, τF)) :
    hj_MI l yX6_write wsX6_write rmX6_write g 13 ad hj_X0 [.ref (ad 0), .int x1] (hj_wm g ad τ sd) rF (hj_wm g ad τF sd) := by
  refine hj_ofI (cc := cX6_write) (maxL := 2) (ret := (some .int)) (by decide) rfl (Nat.le_of_ble_eq_true rfl) ?_
  intro p e s m args below meth c ls C hP hK hX hl
  exact wX6_write hI C hK hf hP va_S.rf hl

/-! X6_wipe -/
abbrev rmX6_wipe : Room := { frames := 0, cells := 0, slots := 0, locals := 0 }
theorem iX6_wipe_X6 : ∀ w ∈ wsX60, w ∈ wsX6_wipe := fun _ h => List.mem_cons_of_mem _ (List.mem_append_right _ h)
theorem mX6_wipe_1 : Cond.fieldLink RX6 57 "HungryJuryModel" "length" "I" ∈ wsX6_wipe := List.mem_of_getElem? (i := 1) rfl
def fX6_wipe (τ : hj_Ob) (sd : Int64) : Option (Int32 × hj_Ob) :=
  hj_nm (τ.1 10) fun y1 => hj_nm (hj_s τ 10 0) fun τ2 => some (y1, τ2)
set_option maxHeartbeats 4000000 in
set_option maxRecDepth 100000 in
theorem wX6_wipe {p : Program} {l : Launch} {e : Env} {s : State} {m : MethodId} {args : Array Value} {below : List Frame} {meth : Method} {c : Code} {g : hj_G} {ad : Nat → Nat} (hI : hj_I 13 ad) (C : hj_C p s m args meth c cX6_wipe RX6 wsX6_wipe 2 (some .int)) (hK : hj_K g s) {τ : hj_Ob} {sd : Int64} {rF : Int32} {τF : hj_Ob}
    (hf : fX6_wipe τ sd = some (rF, τF)) {H : Heap} {locs : List Loc} {ls : Array Slot} (hP : hj_P g 13 ad (hj_wm g ad τ sd) H) (hS : hj_S 13 ad s H locs) (hl : lv_has ls 2 [(0, .ref (ad 0))]) :
    W p l e rmX6_wipe s m args below meth c H locs 0 0 (MQ below (hj_QI g 13 ad (hj_wm g ad τF sd) rF s.heap.size) args s 0 0 (hj_A 13 ad s.heap.size)) (F0 m 0 ls []) := by
  obtain ⟨hx, hb, hr, hml, hown, hts, hlocks⟩ := id C
  unfold fX6_wipe at hf
  refine lv_aload_n hx hb dX6_wipe_0 rfl (lv_at hl 0 rfl) ?_
  refine hj_get (ci := 6) (v := .int (τ.1 10)) (C := RX6) (T := TX6) (N := 24) hx hb hts iX6_wipe_X6 hown hK hP (by decide) rfl rfl 10 (by decide) mX6_wipe_1 rfl dX6_wipe_1 ?_
  refine lv_topi (fun y1 ey1 => ?_)
  replace hf := hj_nm_y hf ey1
  refine lv_istore_n (lv' := [(1, .int y1), (0, .ref (ad 0))]) hx hb dX6_wipe_4 rfl hl (by decide) rfl (fun ls hl => ?_)
  refine lv_aload_n hx hb dX6_wipe_5 rfl (lv_at hl 1 rfl) ?_
  refine lv_iconst (v := 0) hx hb dX6_wipe_6 (by decide) ?_
  refine hj_put (ci := 6) (v := .int 0) (C := RX6) (T := TX6) (N := 24) hx hb hts iX6_wipe_X6 tyX6 tyX6_ok nmX6 hown hK hI hP hS (by decide) rfl rfl 10 (by decide) mX6_wipe_1 rfl rfl rfl (Nat.le_of_ble_eq_true rfl) dX6_wipe_7 (wm_s (τ := τ) (k := 10) (v := 0) rfl) (fun H locs hP hS => ?_)
  obtain ⟨τ2, eτ2⟩ : ∃ z : hj_Ob, z = hj_s τ 10 0 := ⟨_, rfl⟩
  replace hf := hj_nm_y hf eτ2
  rw [← eτ2] at hP
  refine lv_iload_n hx hb dX6_wipe_10 rfl (lv_at hl 0 rfl) ?_
  have hq := Option.some.inj hf
  obtain ⟨rfl, rfl⟩ := Prod.mk.inj hq
  exact hj_reti C hP hK hS dX6_wipe_11
set_option maxHeartbeats 4000000 in
set_option maxRecDepth 100000 in
theorem ctX6_wipe (l : Launch) (g : hj_G) {ad : Nat → Nat} (hI : hj_I 13 ad) {τ : hj_Ob} {sd : Int64} {rF : Int32} {τF : hj_Ob} (hf : fX6_wipe τ sd = some (rF, τF)) :
    hj_MI l yX6_wipe wsX6_wipe rmX6_wipe g 13 ad hj_X0 [.ref (ad 0)] (hj_wm g ad τ sd) rF (hj_wm g ad τF sd) := by
  refine hj_ofI (cc := cX6_wipe) (maxL := 2) (ret := (some .int)) (by decide) rfl (Nat.le_of_ble_eq_true rfl) ?_
  intro p e s m args below meth c ls C hP hK hX hl
  exact wX6_wipe hI C hK hf hP va_S.rf hl

/-! X6_figureOf -/
abbrev rmX6_figureOf : Room := { frames := 1, cells := 0, slots := 0, locals := 25 }
theorem iX6_figureOf_X6 : ∀ w ∈ wsX60, w ∈ wsX6_figureOf := fun _ h => List.mem_cons_of_mem _ (List.mem_append_right _ h)
theorem mX6_figureOf_1 : Cond.fieldLink RX6 60 "HungryJuryModel" "faultAt" "I" ∈ wsX6_figureOf := List.mem_of_getElem? (i := 1) rfl
theorem mX6_figureOf_5 : Cond.constantLong RX6 66 (9) ∈ wsX6_figureOf := List.mem_of_getElem? (i := 5) rfl
theorem mX6_figureOf_2 : Cond.fieldLink RX6 63 "HungryJuryModel" "at" "I" ∈ wsX6_figureOf := List.mem_of_getElem? (i := 2) rfl
theorem mX6_figureOf_3 : Cond.fieldLink RX6 57 "HungryJuryModel" "length" "I" ∈ wsX6_figureOf := List.mem_of_getElem? (i := 3) rfl
theorem mX6_figureOf_4 : Cond.fieldLink RX6 25 "HungryJuryModel" "text" "[I" ∈ wsX6_figureOf := List.mem_of_getElem? (i := 4) rfl
def fX6_figureOf_58 (τ : hj_Ob) (sd : Int64) : Option (Int32 × hj_Ob) :=
  if (τ.1 12) = (-9) then (hj_nm (hj_s τ 12 (τ.1 11)) fun τ6 => some (0, τ6)) else (hj_nm (hj_s τ 12 (τ.1 12)) fun τ5 => some (0, τ5))
set_option maxHeartbeats 4000000 in
set_option maxRecDepth 100000 in
theorem wX6_figureOf_58 {p : Program} {l : Launch} {e : Env} {s : State} {m : MethodId} {args : Array Value} {below : List Frame} {meth : Method} {c : Code} {g : hj_G} {ad : Nat → Nat} (hI : hj_I 13 ad) (C : hj_C p s m args meth c cX6_figureOf RX6 wsX6_figureOf 3 (some .int)) (hK : hj_K g s) {τ : hj_Ob} {sd : Int64} {rF : Int32} {τF : hj_Ob}
    (hf : fX6_figureOf_58 τ sd = some (rF, τF)) {H : Heap} {locs : List Loc} {ls : Array Slot} (hP : hj_P g 13 ad (hj_wm g ad τ sd) H) (hS : hj_S 13 ad s H locs) (hl : lv_has ls 3 [(0, .ref (ad 0))]) :
    W p l e rmX6_figureOf s m args below meth c H locs 0 0 (MQ below (hj_QI g 13 ad (hj_wm g ad τF sd) rF s.heap.size) args s 0 0 (hj_A 13 ad s.heap.size)) (F0 m 58 ls []) := by
  obtain ⟨hx, hb, hr, hml, hown, hts, hlocks⟩ := id C
  unfold fX6_figureOf_58 at hf
  refine lv_aload_n hx hb dX6_figureOf_58 rfl (lv_at hl 0 rfl) ?_
  refine lv_aload_n hx hb dX6_figureOf_59 rfl (lv_at hl 0 rfl) ?_
  refine hj_get (ci := 6) (v := .int (τ.1 12)) (C := RX6) (T := TX6) (N := 24) hx hb hts iX6_figureOf_X6 hown hK hP (by decide) rfl rfl 12 (by decide) mX6_figureOf_1 rfl dX6_figureOf_60 ?_
  refine lv_bipush (v := (-9)) hx hb dX6_figureOf_63 (by decide) ?_
  refine lv_icmp_ne (tgt := 75) hx hb dX6_figureOf_65 (by decide) (fun c4 => ?_) (fun c4 => ?_)
  · rw [if_neg c4] at hf
    refine lv_aload_n hx hb dX6_figureOf_75 rfl (lv_at hl 0 rfl) ?_
    refine hj_get (ci := 6) (v := .int (τ.1 12)) (C := RX6) (T := TX6) (N := 24) hx hb hts iX6_figureOf_X6 hown hK hP (by decide) rfl rfl 12 (by decide) mX6_figureOf_1 rfl dX6_figureOf_76 ?_
    refine hj_put (ci := 6) (v := .int (τ.1 12)) (C := RX6) (T := TX6) (N := 24) hx hb hts iX6_figureOf_X6 tyX6 tyX6_ok nmX6 hown hK hI hP hS (by decide) rfl rfl 12 (by decide) mX6_figureOf_1 rfl rfl rfl (Nat.le_of_ble_eq_true rfl) dX6_figureOf_79 (wm_s (τ := τ) (k := 12) (v := τ.1 12) rfl) (fun H locs hP hS => ?_)
    obtain ⟨τ5, eτ5⟩ : ∃ z : hj_Ob, z = hj_s τ 12 (τ.1 12) := ⟨_, rfl⟩
    replace hf := hj_nm_y hf eτ5
    rw [← eτ5] at hP
    refine lv_iconst (v := 0) hx hb dX6_figureOf_82 (by decide) ?_
    have hq := Option.some.inj hf
    obtain ⟨rfl, rfl⟩ := Prod.mk.inj hq
    exact hj_reti C hP hK hS dX6_figureOf_83
  · rw [if_pos c4] at hf
    refine lv_aload_n hx hb dX6_figureOf_68 rfl (lv_at hl 0 rfl) ?_
    refine hj_get (ci := 6) (v := .int (τ.1 11)) (C := RX6) (T := TX6) (N := 24) hx hb hts iX6_figureOf_X6 hown hK hP (by decide) rfl rfl 11 (by decide) mX6_figureOf_2 rfl dX6_figureOf_69 ?_
    refine lv_goto (tgt := 79) hx hb dX6_figureOf_72 (by decide) ?_
    refine hj_put (ci := 6) (v := .int (τ.1 11)) (C := RX6) (T := TX6) (N := 24) hx hb hts iX6_figureOf_X6 tyX6 tyX6_ok nmX6 hown hK hI hP hS (by decide) rfl rfl 12 (by decide) mX6_figureOf_1 rfl rfl rfl (Nat.le_of_ble_eq_true rfl) dX6_figureOf_79 (wm_s (τ := τ) (k := 12) (v := τ.1 11) rfl) (fun H locs hP hS => ?_)
    obtain ⟨τ6, eτ6⟩ : ∃ z : hj_Ob, z = hj_s τ 12 (τ.1 11) := ⟨_, rfl⟩
    replace hf := hj_nm_y hf eτ6
    rw [← eτ6] at hP
    refine lv_iconst (v := 0) hx hb dX6_figureOf_82 (by decide) ?_
    have hq := Option.some.inj hf
    obtain ⟨rfl, rfl⟩ := Prod.mk.inj hq
    exact hj_reti C hP hK hS dX6_figureOf_83
def fX6_figureOf_37 (τ : hj_Ob) (sd : Int64) (x1 : Int32) (z0 : Int32) : Option (Int32 × hj_Ob) :=
  hj_o1 (fX6_in z0.toInt64 0 9) fun r2 => if r2 = 0 then (fX6_figureOf_58 τ sd) else (hj_o1 (fX6_has x1 z0) fun r7 => if r7 = 0 then (fX6_figureOf_58 τ sd) else (hj_nm (hj_s τ 11 ((τ.1 11) + 1)) fun τ9 => some (z0, τ9)))
set_option maxHeartbeats 4000000 in
set_option maxRecDepth 100000 in
theorem wX6_figureOf_37 {p : Program} {l : Launch} {e : Env} {s : State} {m : MethodId} {args : Array Value} {below : List Frame} {meth : Method} {c : Code} {g : hj_G} {ad : Nat → Nat} (hI : hj_I 13 ad) (C : hj_C p s m args meth c cX6_figureOf RX6 wsX6_figureOf 3 (some .int)) (hK : hj_K g s) {τ : hj_Ob} {sd : Int64} {x1 : Int32} {z0 : Int32} {rF : Int32} {τF : hj_Ob}
    (hf : fX6_figureOf_37 τ sd x1 z0 = some (rF, τF)) {H : Heap} {locs : List Loc} {ls : Array Slot} (hP : hj_P g 13 ad (hj_wm g ad τ sd) H) (hS : hj_S 13 ad s H locs) (hl : lv_has ls 3 [(0, .ref (ad 0)), (1, .int x1)]) :
    W p l e rmX6_figureOf s m args below meth c H locs 0 0 (MQ below (hj_QI g 13 ad (hj_wm g ad τF sd) rF s.heap.size) args s 0 0 (hj_A 13 ad s.heap.size)) (F0 m 37 ls [.int z0]) := by
  obtain ⟨hx, hb, hr, hml, hown, hts, hlocks⟩ := id C
  unfold fX6_figureOf_37 at hf
  refine lv_istore_n (lv' := [(2, .int z0), (0, .ref (ad 0)), (1, .int x1)]) hx hb dX6_figureOf_37 rfl hl (by decide) rfl (fun ls hl => ?_)
  refine lv_iload_n hx hb dX6_figureOf_38 rfl (lv_at hl 0 rfl) ?_
  refine lv_i2l (v := z0.toInt64) hx hb dX6_figureOf_39 rfl ?_
  refine lv_lconst (v := 0) hx hb dX6_figureOf_40 (by decide) ?_
  refine lv_ldc2 hx hb hown (hts _ mX6_figureOf_5) dX6_figureOf_41 ?_
  obtain ⟨r2, hc, hf⟩ := hj_o1_s hf
  refine hj_callSi (nL := 3) (As := [.long z0.toInt64, .long 0, .long 9]) (rest := []) ⟨hx, hb, hml, hown, hts⟩ (ctX6_in l g (n := 13) (ad := ad) (w := (hj_wm g ad τ sd)) hc) (va_cwS 3 hts gX6_figureOf_X6_in rfl rfl rfl (by decide +kernel) ⟨Nat.le_of_ble_eq_true rfl, Nat.le_of_ble_eq_true rfl⟩) hj_Xb0 (fun _ _ _ => trivial) hK hP hS rfl hl.1 rfl (Nat.le_of_ble_eq_true rfl) dX6_figureOf_44 (fun H locs hP hS => ?_)
  refine lv_if_eq (tgt := 58) hx hb dX6_figureOf_47 (by decide) (fun c3 => ?_) (fun c3 => ?_)
  · rw [if_pos c3] at hf
    exact wX6_figureOf_58 hI C hK  hf hP hS (lv_sub hl [1] rfl)
  · rw [if_neg c3] at hf
    refine lv_iload_n hx hb dX6_figureOf_50 rfl (lv_at hl 2 rfl) ?_
    refine lv_iload_n hx hb dX6_figureOf_51 rfl (lv_at hl 0 rfl) ?_
    obtain ⟨r7, hc, hf⟩ := hj_o1_s hf
    refine hj_callSi (nL := 3) (As := [.int x1, .int z0]) (rest := []) ⟨hx, hb, hml, hown, hts⟩ (ctX6_has l g (n := 13) (ad := ad) (w := (hj_wm g ad τ sd)) hc) (va_cwS 2 hts gX6_figureOf_X6_has rfl rfl rfl (by decide +kernel) ⟨Nat.le_of_ble_eq_true rfl, Nat.le_of_ble_eq_true rfl⟩) hj_Xb0 (fun _ _ _ => trivial) hK hP hS rfl hl.1 rfl (Nat.le_of_ble_eq_true rfl) dX6_figureOf_52 (fun H locs hP hS => ?_)
    refine lv_if_ne (tgt := 84) hx hb dX6_figureOf_55 (by decide) (fun c8 => ?_) (fun c8 => ?_)
    · rw [if_neg c8] at hf
      refine lv_aload_n hx hb dX6_figureOf_84 rfl (lv_at hl 1 rfl) ?_
      refine lv_dup hx hb dX6_figureOf_85 rfl ?_
      refine hj_get (ci := 6) (v := .int (τ.1 11)) (C := RX6) (T := TX6) (N := 24) hx hb hts iX6_figureOf_X6 hown hK hP (by decide) rfl rfl 11 (by decide) mX6_figureOf_2 rfl dX6_figureOf_86 ?_
      refine lv_iconst (v := 1) hx hb dX6_figureOf_89 (by decide) ?_
      refine lv_iadd hx hb dX6_figureOf_90 ?_
      refine hj_put (ci := 6) (v := .int ((τ.1 11) + 1)) (C := RX6) (T := TX6) (N := 24) hx hb hts iX6_figureOf_X6 tyX6 tyX6_ok nmX6 hown hK hI hP hS (by decide) rfl rfl 11 (by decide) mX6_figureOf_2 rfl rfl rfl (Nat.le_of_ble_eq_true rfl) dX6_figureOf_91 (wm_s (τ := τ) (k := 11) (v := (τ.1 11) + 1) rfl) (fun H locs hP hS => ?_)
      obtain ⟨τ9, eτ9⟩ : ∃ z : hj_Ob, z = hj_s τ 11 ((τ.1 11) + 1) := ⟨_, rfl⟩
      replace hf := hj_nm_y hf eτ9
      rw [← eτ9] at hP
      refine lv_iload_n hx hb dX6_figureOf_94 rfl (lv_at hl 0 rfl) ?_
      have hq := Option.some.inj hf
      obtain ⟨rfl, rfl⟩ := Prod.mk.inj hq
      exact hj_reti C hP hK hS dX6_figureOf_95
    · rw [if_pos c8] at hf
      exact wX6_figureOf_58 hI C hK  hf hP hS (lv_sub hl [1] rfl)
def fX6_figureOf (τ : hj_Ob) (sd : Int64) (x1 : Int32) : Option (Int32 × hj_Ob) :=
  if (τ.1 12) = (-9) then (if (τ.1 10) ≤ (τ.1 11) then (fX6_figureOf_37 τ sd x1 (-9)) else (hj_ck (τ.1 11) 56 (fX6_figureOf_37 τ sd x1 ((τ.2 9 (τ.1 11).toNatClampNeg) - 48)))) else (fX6_figureOf_37 τ sd x1 (-9))
set_option maxHeartbeats 4000000 in
set_option maxRecDepth 100000 in
theorem wX6_figureOf {p : Program} {l : Launch} {e : Env} {s : State} {m : MethodId} {args : Array Value} {below : List Frame} {meth : Method} {c : Code} {g : hj_G} {ad : Nat → Nat} (hI : hj_I 13 ad) (C : hj_C p s m args meth c cX6_figureOf RX6 wsX6_figureOf 3 (some .int)) (hK : hj_K g s) {τ : hj_Ob} {sd : Int64} {x1 : Int32} {rF : Int32} {τF : hj_Ob}
    (hf : fX6_figureOf τ sd x1 = some (rF, τF)) {H : Heap} {locs : List Loc} {ls : Array Slot} (hP : hj_P g 13 ad (hj_wm g ad τ sd) H) (hS : hj_S 13 ad s H locs) (hl : lv_has ls 3 [(0, .ref (ad 0)), (1, .int x1)]) :
    W p l e rmX6_figureOf s m args below meth c H locs 0 0 (MQ below (hj_QI g 13 ad (hj_wm g ad τF sd) rF s.heap.size) args s 0 0 (hj_A 13 ad s.heap.size)) (F0 m 0 ls []) := by
  obtain ⟨hx, hb, hr, hml, hown, hts, hlocks⟩ := id C
  unfold fX6_figureOf at hf
  refine lv_aload_n hx hb dX6_figureOf_0 rfl (lv_at hl 0 rfl) ?_
  refine hj_get (ci := 6) (v := .int (τ.1 12)) (C := RX6) (T := TX6) (N := 24) hx hb hts iX6_figureOf_X6 hown hK hP (by decide) rfl rfl 12 (by decide) mX6_figureOf_1 rfl dX6_figureOf_1 ?_
  refine lv_bipush (v := (-9)) hx hb dX6_figureOf_4 (by decide) ?_
  refine lv_icmp_ne (tgt := 35) hx hb dX6_figureOf_6 (by decide) (fun c1 => ?_) (fun c1 => ?_)
  · rw [if_neg c1] at hf
    refine lv_bipush (v := (-9)) hx hb dX6_figureOf_35 (by decide) ?_
    exact wX6_figureOf_37 hI C hK  hf hP hS (lv_sub hl [0, 1] rfl)
  · rw [if_pos c1] at hf
    refine lv_aload_n hx hb dX6_figureOf_9 rfl (lv_at hl 0 rfl) ?_
    refine hj_get (ci := 6) (v := .int (τ.1 11)) (C := RX6) (T := TX6) (N := 24) hx hb hts iX6_figureOf_X6 hown hK hP (by decide) rfl rfl 11 (by decide) mX6_figureOf_2 rfl dX6_figureOf_10 ?_
    refine lv_aload_n hx hb dX6_figureOf_13 rfl (lv_at hl 0 rfl) ?_
    refine hj_get (ci := 6) (v := .int (τ.1 10)) (C := RX6) (T := TX6) (N := 24) hx hb hts iX6_figureOf_X6 hown hK hP (by decide) rfl rfl 10 (by decide) mX6_figureOf_3 rfl dX6_figureOf_14 ?_
    refine lv_icmp_ge (tgt := 35) hx hb dX6_figureOf_17 (by decide) (fun c10 => ?_) (fun c10 => ?_)
    · rw [if_pos c10] at hf
      refine lv_bipush (v := (-9)) hx hb dX6_figureOf_35 (by decide) ?_
      exact wX6_figureOf_37 hI C hK  hf hP hS (lv_sub hl [0, 1] rfl)
    · rw [if_neg c10] at hf
      refine lv_aload_n hx hb dX6_figureOf_20 rfl (lv_at hl 0 rfl) ?_
      refine hj_get (ci := 6) (v := .ref (ad 6)) (C := RX6) (T := TX6) (N := 24) hx hb hts iX6_figureOf_X6 hown hK hP (by decide) rfl rfl 9 (by decide) mX6_figureOf_4 rfl dX6_figureOf_21 ?_
      refine lv_aload_n hx hb dX6_figureOf_24 rfl (lv_at hl 0 rfl) ?_
      refine hj_get (ci := 6) (v := .int (τ.1 11)) (C := RX6) (T := TX6) (N := 24) hx hb hts iX6_figureOf_X6 hown hK hP (by decide) rfl rfl 11 (by decide) mX6_figureOf_2 rfl dX6_figureOf_25 ?_
      obtain ⟨hk11, hf⟩ := hj_ck_s hf
      refine hj_ial (f := τ.2 9) hx hb hK hP (by decide) rfl hk11 dX6_figureOf_28 ?_
      refine lv_bipush (v := 48) hx hb dX6_figureOf_29 (by decide) ?_
      refine lv_isub hx hb dX6_figureOf_31 ?_
      refine lv_goto (tgt := 37) hx hb dX6_figureOf_32 (by decide) ?_
      exact wX6_figureOf_37 hI C hK  hf hP hS (lv_sub hl [0, 1] rfl)
set_option maxHeartbeats 4000000 in
set_option maxRecDepth 100000 in
theorem ctX6_figureOf (l : Launch) (g : hj_G) {ad : Nat → Nat} (hI : hj_I 13 ad) {τ : hj_Ob} {sd : Int64} {x1 : Int32} {rF : Int32} {τF : hj_Ob} (hf : fX6_figureOf τ sd x1 = some (rF, τF)) :
    hj_MI l yX6_figureOf wsX6_figureOf rmX6_figureOf g 13 ad hj_X0 [.ref (ad 0), .int x1] (hj_wm g ad τ sd) rF (hj_wm g ad τF sd) := by
  refine hj_ofI (cc := cX6_figureOf) (maxL := 3) (ret := (some .int)) (by decide) rfl (Nat.le_of_ble_eq_true rfl) ?_
  intro p e s m args below meth c ls C hP hK hX hl
  exact wX6_figureOf hI C hK hf hP va_S.rf hl

/-! X6_left -/
abbrev rmX6_left : Room := { frames := 0, cells := 0, slots := 0, locals := 0 }
theorem iX6_left_X6 : ∀ w ∈ wsX60, w ∈ wsX6_left := fun _ h => List.mem_cons_of_mem _ (List.mem_append_right _ h)
theorem mX6_left_1 : Cond.fieldLink RX6 72 "HungryJuryModel" "readJurors" "I" ∈ wsX6_left := List.mem_of_getElem? (i := 1) rfl
theorem mX6_left_2 : Cond.fieldLink RX6 22 "HungryJuryModel" "readHeeds" "[I" ∈ wsX6_left := List.mem_of_getElem? (i := 2) rfl
def fX6_left (τ : hj_Ob) (sd : Int64) (x1 : Int32) : Option Int32 :=
  hj_ck x1 6 (some (((((1 : Int32) <<< ((τ.1 7) &&& 31)) - 1) &&& ((τ.2 6 x1.toNatClampNeg) ^^^ (-1))) &&& (((1 : Int32) <<< (x1 &&& 31)) ^^^ (-1))))
set_option maxHeartbeats 4000000 in
set_option maxRecDepth 100000 in
theorem wX6_left {p : Program} {l : Launch} {e : Env} {s : State} {m : MethodId} {args : Array Value} {below : List Frame} {meth : Method} {c : Code} {g : hj_G} {ad : Nat → Nat} (hI : hj_I 13 ad) (C : hj_C p s m args meth c cX6_left RX6 wsX6_left 2 (some .int)) (hK : hj_K g s) {τ : hj_Ob} {sd : Int64} {x1 : Int32} {rF : Int32}
    (hf : fX6_left τ sd x1 = some rF) {H : Heap} {locs : List Loc} {ls : Array Slot} (hP : hj_P g 13 ad (hj_wm g ad τ sd) H) (hS : hj_S 13 ad s H locs) (hl : lv_has ls 2 [(0, .ref (ad 0)), (1, .int x1)]) :
    W p l e rmX6_left s m args below meth c H locs 0 0 (MQ below (hj_QI g 13 ad (hj_wm g ad τ sd) rF s.heap.size) args s 0 0 (hj_A 13 ad s.heap.size)) (F0 m 0 ls []) := by
  obtain ⟨hx, hb, hr, hml, hown, hts, hlocks⟩ := id C
  unfold fX6_left at hf
  refine lv_iconst (v := 1) hx hb dX6_left_0 (by decide) ?_
  refine lv_aload_n hx hb dX6_left_1 rfl (lv_at hl 0 rfl) ?_
  refine hj_get (ci := 6) (v := .int (τ.1 7)) (C := RX6) (T := TX6) (N := 24) hx hb hts iX6_left_X6 hown hK hP (by decide) rfl rfl 7 (by decide) mX6_left_1 rfl dX6_left_2 ?_
  refine lv_ishl hx hb dX6_left_5 ?_
  refine lv_iconst (v := 1) hx hb dX6_left_6 (by decide) ?_
  refine lv_isub hx hb dX6_left_7 ?_
  refine lv_aload_n hx hb dX6_left_8 rfl (lv_at hl 0 rfl) ?_
  refine hj_get (ci := 6) (v := .ref (ad 5)) (C := RX6) (T := TX6) (N := 24) hx hb hts iX6_left_X6 hown hK hP (by decide) rfl rfl 6 (by decide) mX6_left_2 rfl dX6_left_9 ?_
  refine lv_iload_n hx hb dX6_left_12 rfl (lv_at hl 1 rfl) ?_
  obtain ⟨hk1, hf⟩ := hj_ck_s hf
  refine hj_ial (f := τ.2 6) hx hb hK hP (by decide) rfl hk1 dX6_left_13 ?_
  refine lv_iconst (v := (-1)) hx hb dX6_left_14 (by decide) ?_
  refine lv_ixor hx hb dX6_left_15 ?_
  refine lv_iand hx hb dX6_left_16 ?_
  refine lv_iconst (v := 1) hx hb dX6_left_17 (by decide) ?_
  refine lv_iload_n hx hb dX6_left_18 rfl (lv_at hl 1 rfl) ?_
  refine lv_ishl hx hb dX6_left_19 ?_
  refine lv_iconst (v := (-1)) hx hb dX6_left_20 (by decide) ?_
  refine lv_ixor hx hb dX6_left_21 ?_
  refine lv_iand hx hb dX6_left_22 ?_
  have hq := Option.some.inj hf
  obtain rfl := hq
  exact hj_reti C hP hK hS dX6_left_23
set_option maxHeartbeats 4000000 in
set_option maxRecDepth 100000 in
theorem ctX6_left (l : Launch) (g : hj_G) {ad : Nat → Nat} (hI : hj_I 13 ad) {τ : hj_Ob} {sd : Int64} {x1 : Int32} {rF : Int32} (hf : fX6_left τ sd x1 = some rF) :
    hj_MI l yX6_left wsX6_left rmX6_left g 13 ad hj_X0 [.ref (ad 0), .int x1] (hj_wm g ad τ sd) rF (hj_wm g ad τ sd) := by
  refine hj_ofI (cc := cX6_left) (maxL := 2) (ret := (some .int)) (by decide) rfl (Nat.le_of_ble_eq_true rfl) ?_
  intro p e s m args below meth c ls C hP hK hX hl
  exact wX6_left hI C hK hf hP va_S.rf hl

/-! X6_firstsLeft -/
abbrev rmX6_firstsLeft : Room := { frames := 1, cells := 0, slots := 0, locals := 21 }
theorem iX6_firstsLeft_X6 : ∀ w ∈ wsX60, w ∈ wsX6_firstsLeft := fun _ h => List.mem_cons_of_mem _ (List.mem_append_right _ h)
theorem mX6_firstsLeft_1 : Cond.fieldLink RX6 72 "HungryJuryModel" "readJurors" "I" ∈ wsX6_firstsLeft := List.mem_of_getElem? (i := 1) rfl
def fX6_firstsLeft_4 (τ : hj_Ob) (sd : Int64) (x1 : Int32) (x2 : Int32) : Option (Int32 ⊕ (Int32 × Int32)) :=
  if (τ.1 7) ≤ x2 then (some (.inl x1)) else (hj_o1 (fX6_left τ sd x2) fun r2 => if r2 = 0 then (hj_nm (x1 ||| 0) fun y4 => hj_nm (x2 + 1) fun y5 => some (.inr (y4, y5))) else (hj_nm (x1 ||| ((1 : Int32) <<< (x2 &&& 31))) fun y6 => hj_nm (x2 + 1) fun y7 => some (.inr (y6, y7))))
set_option maxHeartbeats 4000000 in
set_option maxRecDepth 100000 in
theorem wX6_firstsLeft_4b {p : Program} {l : Launch} {e : Env} {s : State} {m : MethodId} {args : Array Value} {below : List Frame} {meth : Method} {c : Code} {g : hj_G} {ad : Nat → Nat} (hI : hj_I 13 ad) (C : hj_C p s m args meth c cX6_firstsLeft RX6 wsX6_firstsLeft 3 (some .int)) (hK : hj_K g s) {τ : hj_Ob} {sd : Int64} {x1 : Int32} {x2 : Int32} {y : Int32 ⊕ (Int32 × Int32)} {rF : Int32}
    (hf : fX6_firstsLeft_4 τ sd x1 x2 = some y) (KX : ∀ (v1 : Int32), y = .inl v1 → ∀ (H : Heap) (locs : List Loc) (ls : Array Slot), hj_P g 13 ad (hj_wm g ad τ sd) H → hj_S 13 ad s H locs → lv_has ls 3 [(1, .int v1)] → W p l e rmX6_firstsLeft s m args below meth c H locs 0 0 (MQ below (hj_QI g 13 ad (hj_wm g ad τ sd) rF s.heap.size) args s 0 0 (hj_A 13 ad s.heap.size)) (F0 m 36 ls [])) (KI : ∀ (v1 : Int32) (v2 : Int32), y = .inr (v1, v2) → ∀ (H : Heap) (locs : List Loc) (ls : Array Slot), hj_P g 13 ad (hj_wm g ad τ sd) H → hj_S 13 ad s H locs → lv_has ls 3 [(0, .ref (ad 0)), (1, .int v1), (2, .int v2)] → W p l e rmX6_firstsLeft s m args below meth c H locs 0 0 (MQ below (hj_QI g 13 ad (hj_wm g ad τ sd) rF s.heap.size) args s 0 0 (hj_A 13 ad s.heap.size)) (F0 m 4 ls [])) {H : Heap} {locs : List Loc} {ls : Array Slot} (hP : hj_P g 13 ad (hj_wm g ad τ sd) H) (hS : hj_S 13 ad s H locs) (hl : lv_has ls 3 [(0, .ref (ad 0)), (1, .int x1), (2, .int x2)]) :
    W p l e rmX6_firstsLeft s m args below meth c H locs 0 0 (MQ below (hj_QI g 13 ad (hj_wm g ad τ sd) rF s.heap.size) args s 0 0 (hj_A 13 ad s.heap.size)) (F0 m 4 ls []) := by
  obtain ⟨hx, hb, hr, hml, hown, hts, hlocks⟩ := id C
  unfold fX6_firstsLeft_4 at hf
  refine lv_iload_n hx hb dX6_firstsLeft_4 rfl (lv_at hl 2 rfl) ?_
  refine lv_aload_n hx hb dX6_firstsLeft_5 rfl (lv_at hl 0 rfl) ?_
  refine hj_get (ci := 6) (v := .int (τ.1 7)) (C := RX6) (T := TX6) (N := 24) hx hb hts iX6_firstsLeft_X6 hown hK hP (by decide) rfl rfl 7 (by decide) mX6_firstsLeft_1 rfl dX6_firstsLeft_6 ?_
  refine lv_icmp_ge (tgt := 36) hx hb dX6_firstsLeft_9 (by decide) (fun c1 => ?_) (fun c1 => ?_)
  · rw [if_pos c1] at hf
    exact KX _ (Option.some.inj hf).symm _ _ _ hP hS (lv_sub hl [1] rfl)
  · rw [if_neg c1] at hf
    refine lv_iload_n hx hb dX6_firstsLeft_12 rfl (lv_at hl 1 rfl) ?_
    refine lv_aload_n hx hb dX6_firstsLeft_13 rfl (lv_at hl 0 rfl) ?_
    refine lv_iload_n hx hb dX6_firstsLeft_14 rfl (lv_at hl 2 rfl) ?_
    obtain ⟨r2, hc, hf⟩ := hj_o1_s hf
    refine hj_callVi (nL := 3) (As := [.int x2]) (rest := [.int x1]) (i0 := 0) (C := RX6) (T := TX6) (N := 24) (ci := 6) ⟨hx, hb, hml, hown, hts⟩ (ctX6_left l g hI hc) (cwV 1 hts gX6_firstsLeft_X6_left rfl rfl rfl (by decide +kernel) ⟨Nat.le_of_ble_eq_true rfl, Nat.le_of_ble_eq_true rfl⟩) hj_Xb0 (fun _ _ _ => trivial) hK hP hS (by decide) rfl rfl rfl hl.1 rfl (Nat.le_of_ble_eq_true rfl) dX6_firstsLeft_15 (fun H locs hP hS => ?_)
    refine lv_if_eq (tgt := 27) hx hb dX6_firstsLeft_18 (by decide) (fun c3 => ?_) (fun c3 => ?_)
    · rw [if_pos c3] at hf
      refine lv_iconst (v := 0) hx hb dX6_firstsLeft_27 (by decide) ?_
      refine lv_ior hx hb dX6_firstsLeft_28 ?_
      refine lv_topi (fun y4 ey4 => ?_)
      replace hf := hj_nm_y hf ey4
      refine lv_istore_n (lv' := [(1, .int y4), (0, .ref (ad 0)), (2, .int x2)]) hx hb dX6_firstsLeft_29 rfl hl (by decide) rfl (fun ls hl => ?_)
      obtain ⟨y5, ey5⟩ : ∃ z : Int32, z = x2 + 1 := ⟨_, rfl⟩
      replace hf := hj_nm_y hf ey5
      refine lv_iinc (v := y5) (lv' := [(2, .int y5), (1, .int y4), (0, .ref (ad 0))]) hx hb dX6_firstsLeft_30 hl (k := 2) rfl (by rw [ey5]; rfl) (by decide) rfl (fun ls hl => ?_)
      refine lv_goto (tgt := 4) hx hb dX6_firstsLeft_33 (by decide) ?_
      exact KI _ _ (Option.some.inj hf).symm _ _ _ hP hS (lv_sub hl [2, 1, 0] rfl)
    · rw [if_neg c3] at hf
      refine lv_iconst (v := 1) hx hb dX6_firstsLeft_21 (by decide) ?_
      refine lv_iload_n hx hb dX6_firstsLeft_22 rfl (lv_at hl 2 rfl) ?_
      refine lv_ishl hx hb dX6_firstsLeft_23 ?_
      refine lv_goto (tgt := 28) hx hb dX6_firstsLeft_24 (by decide) ?_
      refine lv_ior hx hb dX6_firstsLeft_28 ?_
      refine lv_topi (fun y6 ey6 => ?_)
      replace hf := hj_nm_y hf ey6
      refine lv_istore_n (lv' := [(1, .int y6), (0, .ref (ad 0)), (2, .int x2)]) hx hb dX6_firstsLeft_29 rfl hl (by decide) rfl (fun ls hl => ?_)
      obtain ⟨y7, ey7⟩ : ∃ z : Int32, z = x2 + 1 := ⟨_, rfl⟩
      replace hf := hj_nm_y hf ey7
      refine lv_iinc (v := y7) (lv' := [(2, .int y7), (1, .int y6), (0, .ref (ad 0))]) hx hb dX6_firstsLeft_30 hl (k := 2) rfl (by rw [ey7]; rfl) (by decide) rfl (fun ls hl => ?_)
      refine lv_goto (tgt := 4) hx hb dX6_firstsLeft_33 (by decide) ?_
      exact KI _ _ (Option.some.inj hf).symm _ _ _ hP hS (lv_sub hl [2, 1, 0] rfl)
set_option maxHeartbeats 4000000 in
set_option maxRecDepth 100000 in
theorem wX6_firstsLeft_4 {p : Program} {l : Launch} {e : Env} {s : State} {m : MethodId} {args : Array Value} {below : List Frame} {meth : Method} {c : Code} {g : hj_G} {ad : Nat → Nat} (hI : hj_I 13 ad) (C : hj_C p s m args meth c cX6_firstsLeft RX6 wsX6_firstsLeft 3 (some .int)) (hK : hj_K g s) {τ : hj_Ob} {sd : Int64} {rF : Int32} {e1 : Int32} :
    ∀ (fu : Nat) (x1 : Int32) (x2 : Int32), hj_lp (fun q : (Int32 × Int32) => fX6_firstsLeft_4 τ sd q.1 q.2) fu (x1, x2) = some e1 → (∀ (H : Heap) (locs : List Loc) (ls : Array Slot), hj_P g 13 ad (hj_wm g ad τ sd) H → hj_S 13 ad s H locs → lv_has ls 3 [(1, .int e1)] → W p l e rmX6_firstsLeft s m args below meth c H locs 0 0 (MQ below (hj_QI g 13 ad (hj_wm g ad τ sd) rF s.heap.size) args s 0 0 (hj_A 13 ad s.heap.size)) (F0 m 36 ls [])) → ∀ (H : Heap) (locs : List Loc) (ls : Array Slot), hj_P g 13 ad (hj_wm g ad τ sd) H → hj_S 13 ad s H locs → lv_has ls 3 [(0, .ref (ad 0)), (1, .int x1), (2, .int x2)] →
    W p l e rmX6_firstsLeft s m args below meth c H locs 0 0 (MQ below (hj_QI g 13 ad (hj_wm g ad τ sd) rF s.heap.size) args s 0 0 (hj_A 13 ad s.heap.size)) (F0 m 4 ls []) := by
  intro fu
  induction fu with
  | zero => intro x1 x2 hq; cases hq
  | succ fu ih =>
    intro x1 x2 hq KX H locs ls hP hS hl
    obtain ⟨y, hy, h1, h2⟩ := hj_lp_s hq
    exact wX6_firstsLeft_4b hI C hK  hy (fun v1 hv H locs ls hP hS hl => by obtain rfl := h1 _ hv; exact KX H locs ls hP hS hl) (fun v1 v2 hv H locs ls hP hS hl => ih v1 v2 (h2 _ hv) KX H locs ls hP hS hl) hP hS hl
def fX6_firstsLeft (τ : hj_Ob) (sd : Int64) : Option Int32 :=
  hj_o1 (hj_lp (fun q : (Int32 × Int32) => fX6_firstsLeft_4 τ sd q.1 q.2) 100 (0, 0)) fun e8 => (some e8)
set_option maxHeartbeats 4000000 in
set_option maxRecDepth 100000 in
theorem wX6_firstsLeft {p : Program} {l : Launch} {e : Env} {s : State} {m : MethodId} {args : Array Value} {below : List Frame} {meth : Method} {c : Code} {g : hj_G} {ad : Nat → Nat} (hI : hj_I 13 ad) (C : hj_C p s m args meth c cX6_firstsLeft RX6 wsX6_firstsLeft 3 (some .int)) (hK : hj_K g s) {τ : hj_Ob} {sd : Int64} {rF : Int32}
    (hf : fX6_firstsLeft τ sd = some rF) {H : Heap} {locs : List Loc} {ls : Array Slot} (hP : hj_P g 13 ad (hj_wm g ad τ sd) H) (hS : hj_S 13 ad s H locs) (hl : lv_has ls 3 [(0, .ref (ad 0))]) :
    W p l e rmX6_firstsLeft s m args below meth c H locs 0 0 (MQ below (hj_QI g 13 ad (hj_wm g ad τ sd) rF s.heap.size) args s 0 0 (hj_A 13 ad s.heap.size)) (F0 m 0 ls []) := by
  obtain ⟨hx, hb, hr, hml, hown, hts, hlocks⟩ := id C
  unfold fX6_firstsLeft at hf
  refine lv_iconst (v := 0) hx hb dX6_firstsLeft_0 (by decide) ?_
  refine lv_istore_n (lv' := [(1, .int 0), (0, .ref (ad 0))]) hx hb dX6_firstsLeft_1 rfl hl (by decide) rfl (fun ls hl => ?_)
  refine lv_iconst (v := 0) hx hb dX6_firstsLeft_2 (by decide) ?_
  refine lv_istore_n (lv' := [(2, .int 0), (1, .int 0), (0, .ref (ad 0))]) hx hb dX6_firstsLeft_3 rfl hl (by decide) rfl (fun ls hl => ?_)
  obtain ⟨e8, hlx, hf⟩ := hj_o1_s hf
  refine wX6_firstsLeft_4 hI C hK  100 0 0 hlx (fun H locs ls hP hS hl => ?_) H locs ls hP hS (lv_sub hl [2, 1, 0] rfl)
  refine lv_iload_n hx hb dX6_firstsLeft_36 rfl (lv_at hl 0 rfl) ?_
  have hq := Option.some.inj hf
  obtain rfl := hq
  exact hj_reti C hP hK hS dX6_firstsLeft_37
set_option maxHeartbeats 4000000 in
set_option maxRecDepth 100000 in
theorem ctX6_firstsLeft (l : Launch) (g : hj_G) {ad : Nat → Nat} (hI : hj_I 13 ad) {τ : hj_Ob} {sd : Int64} {rF : Int32} (hf : fX6_firstsLeft τ sd = some rF) :
    hj_MI l yX6_firstsLeft wsX6_firstsLeft rmX6_firstsLeft g 13 ad hj_X0 [.ref (ad 0)] (hj_wm g ad τ sd) rF (hj_wm g ad τ sd) := by
  refine hj_ofI (cc := cX6_firstsLeft) (maxL := 3) (ret := (some .int)) (by decide) rfl (Nat.le_of_ble_eq_true rfl) ?_
  intro p e s m args below meth c ls C hP hK hX hl
  exact wX6_firstsLeft hI C hK hf hP va_S.rf hl

/-! X6_readPart -/
abbrev rmX6_readPart : Room := { frames := 2, cells := 0, slots := 0, locals := 47 }
theorem iX6_readPart_X6 : ∀ w ∈ wsX60, w ∈ wsX6_readPart := fun _ h => List.mem_cons_of_mem _ (List.mem_append_right _ h)
theorem mX6_readPart_2 : Cond.fieldLink RX6 63 "HungryJuryModel" "at" "I" ∈ wsX6_readPart := List.mem_of_getElem? (i := 2) rfl
theorem mX6_readPart_5 : Cond.fieldLink RX6 60 "HungryJuryModel" "faultAt" "I" ∈ wsX6_readPart := List.mem_of_getElem? (i := 5) rfl
theorem mX6_readPart_4 : Cond.fieldLink RX6 22 "HungryJuryModel" "readHeeds" "[I" ∈ wsX6_readPart := List.mem_of_getElem? (i := 4) rfl
theorem mX6_readPart_1 : Cond.fieldLink RX6 72 "HungryJuryModel" "readJurors" "I" ∈ wsX6_readPart := List.mem_of_getElem? (i := 1) rfl
theorem mX6_readPart_3 : Cond.fieldLink RX6 19 "HungryJuryModel" "readOf" "[I" ∈ wsX6_readPart := List.mem_of_getElem? (i := 3) rfl
def fX6_readPart_93 (τ : hj_Ob) (sd : Int64) (x1 : Int32) : Option hj_Ob :=
  if x1 = 72 then (hj_o1 (fX6_firstsLeft τ sd) fun r4 => if r4 = 0 then (hj_nm (hj_s τ 12 (τ.1 11)) fun τ6 => some τ6) else (hj_nm (hj_s τ 11 ((τ.1 11) + 1)) fun τ7 => hj_o1 (fX6_firstsLeft τ7 sd) fun r8 => hj_o2 (fX6_figureOf τ7 sd r8) fun r9 τ10 => hj_o1 (fX6_left τ10 sd r9) fun r11 => hj_o2 (fX6_figureOf τ10 sd r11) fun r12 τ13 => hj_ck r9 6 (if (τ13.1 12) = (-9) then (hj_ck r9 6 (hj_nm (hj_a τ13 6 r9 ((τ13.2 6 r9.toNatClampNeg) ||| ((1 : Int32) <<< (r12 &&& 31)))) fun τ19 => some τ19)) else (hj_ck r9 6 (hj_nm (hj_a τ13 6 r9 ((τ13.2 6 r9.toNatClampNeg) ||| 0)) fun τ17 => some τ17))))) else (hj_nm (hj_s τ 12 (τ.1 11)) fun τ3 => some τ3)
set_option maxHeartbeats 4000000 in
set_option maxRecDepth 100000 in
theorem wX6_readPart_93 {p : Program} {l : Launch} {e : Env} {s : State} {m : MethodId} {args : Array Value} {below : List Frame} {meth : Method} {c : Code} {g : hj_G} {ad : Nat → Nat} (hI : hj_I 13 ad) (C : hj_C p s m args meth c cX6_readPart RX6 wsX6_readPart 4 none) (hK : hj_K g s) {τ : hj_Ob} {sd : Int64} {x1 : Int32} {τF : hj_Ob}
    (hf : fX6_readPart_93 τ sd x1 = some τF) {H : Heap} {locs : List Loc} {ls : Array Slot} (hP : hj_P g 13 ad (hj_wm g ad τ sd) H) (hS : hj_S 13 ad s H locs) (hl : lv_has ls 4 [(0, .ref (ad 0)), (1, .int x1)]) :
    W p l e rmX6_readPart s m args below meth c H locs 0 0 (MQ below (hj_QV g 13 ad (hj_wm g ad τF sd) s.heap.size) args s 0 0 (hj_A 13 ad s.heap.size)) (F0 m 93 ls []) := by
  obtain ⟨hx, hb, hr, hml, hown, hts, hlocks⟩ := id C
  unfold fX6_readPart_93 at hf
  refine lv_iload_n hx hb dX6_readPart_93 rfl (lv_at hl 1 rfl) ?_
  refine lv_bipush (v := 72) hx hb dX6_readPart_94 (by decide) ?_
  refine lv_icmp_ne (tgt := 163) hx hb dX6_readPart_96 (by decide) (fun c2 => ?_) (fun c2 => ?_)
  · rw [if_neg c2] at hf
    refine lv_aload_n hx hb dX6_readPart_163 rfl (lv_at hl 0 rfl) ?_
    refine lv_aload_n hx hb dX6_readPart_164 rfl (lv_at hl 0 rfl) ?_
    refine hj_get (ci := 6) (v := .int (τ.1 11)) (C := RX6) (T := TX6) (N := 24) hx hb hts iX6_readPart_X6 hown hK hP (by decide) rfl rfl 11 (by decide) mX6_readPart_2 rfl dX6_readPart_165 ?_
    refine hj_put (ci := 6) (v := .int (τ.1 11)) (C := RX6) (T := TX6) (N := 24) hx hb hts iX6_readPart_X6 tyX6 tyX6_ok nmX6 hown hK hI hP hS (by decide) rfl rfl 12 (by decide) mX6_readPart_5 rfl rfl rfl (Nat.le_of_ble_eq_true rfl) dX6_readPart_168 (wm_s (τ := τ) (k := 12) (v := τ.1 11) rfl) (fun H locs hP hS => ?_)
    obtain ⟨τ3, eτ3⟩ : ∃ z : hj_Ob, z = hj_s τ 12 (τ.1 11) := ⟨_, rfl⟩
    replace hf := hj_nm_y hf eτ3
    rw [← eτ3] at hP
    have hq := Option.some.inj hf
    obtain rfl := hq
    exact hj_retv C hP hK hS dX6_readPart_171
  · rw [if_pos c2] at hf
    refine lv_aload_n hx hb dX6_readPart_99 rfl (lv_at hl 0 rfl) ?_
    obtain ⟨r4, hc, hf⟩ := hj_o1_s hf
    refine hj_callVi (nL := 4) (As := []) (rest := []) (i0 := 0) (C := RX6) (T := TX6) (N := 24) (ci := 6) ⟨hx, hb, hml, hown, hts⟩ (ctX6_firstsLeft l g hI hc) (cwV 0 hts gX6_readPart_X6_firstsLeft rfl rfl rfl (by decide +kernel) ⟨Nat.le_of_ble_eq_true rfl, Nat.le_of_ble_eq_true rfl⟩) hj_Xb0 (fun _ _ _ => trivial) hK hP hS (by decide) rfl rfl rfl hl.1 rfl (Nat.le_of_ble_eq_true rfl) dX6_readPart_100 (fun H locs hP hS => ?_)
    refine lv_if_eq (tgt := 163) hx hb dX6_readPart_103 (by decide) (fun c5 => ?_) (fun c5 => ?_)
    · rw [if_pos c5] at hf
      refine lv_aload_n hx hb dX6_readPart_163 rfl (lv_at hl 0 rfl) ?_
      refine lv_aload_n hx hb dX6_readPart_164 rfl (lv_at hl 0 rfl) ?_
      refine hj_get (ci := 6) (v := .int (τ.1 11)) (C := RX6) (T := TX6) (N := 24) hx hb hts iX6_readPart_X6 hown hK hP (by decide) rfl rfl 11 (by decide) mX6_readPart_2 rfl dX6_readPart_165 ?_
      refine hj_put (ci := 6) (v := .int (τ.1 11)) (C := RX6) (T := TX6) (N := 24) hx hb hts iX6_readPart_X6 tyX6 tyX6_ok nmX6 hown hK hI hP hS (by decide) rfl rfl 12 (by decide) mX6_readPart_5 rfl rfl rfl (Nat.le_of_ble_eq_true rfl) dX6_readPart_168 (wm_s (τ := τ) (k := 12) (v := τ.1 11) rfl) (fun H locs hP hS => ?_)
      obtain ⟨τ6, eτ6⟩ : ∃ z : hj_Ob, z = hj_s τ 12 (τ.1 11) := ⟨_, rfl⟩
      replace hf := hj_nm_y hf eτ6
      rw [← eτ6] at hP
      have hq := Option.some.inj hf
      obtain rfl := hq
      exact hj_retv C hP hK hS dX6_readPart_171
    · rw [if_neg c5] at hf
      refine lv_aload_n hx hb dX6_readPart_106 rfl (lv_at hl 0 rfl) ?_
      refine lv_dup hx hb dX6_readPart_107 rfl ?_
      refine hj_get (ci := 6) (v := .int (τ.1 11)) (C := RX6) (T := TX6) (N := 24) hx hb hts iX6_readPart_X6 hown hK hP (by decide) rfl rfl 11 (by decide) mX6_readPart_2 rfl dX6_readPart_108 ?_
      refine lv_iconst (v := 1) hx hb dX6_readPart_111 (by decide) ?_
      refine lv_iadd hx hb dX6_readPart_112 ?_
      refine hj_put (ci := 6) (v := .int ((τ.1 11) + 1)) (C := RX6) (T := TX6) (N := 24) hx hb hts iX6_readPart_X6 tyX6 tyX6_ok nmX6 hown hK hI hP hS (by decide) rfl rfl 11 (by decide) mX6_readPart_2 rfl rfl rfl (Nat.le_of_ble_eq_true rfl) dX6_readPart_113 (wm_s (τ := τ) (k := 11) (v := (τ.1 11) + 1) rfl) (fun H locs hP hS => ?_)
      obtain ⟨τ7, eτ7⟩ : ∃ z : hj_Ob, z = hj_s τ 11 ((τ.1 11) + 1) := ⟨_, rfl⟩
      replace hf := hj_nm_y hf eτ7
      rw [← eτ7] at hP
      refine lv_aload_n hx hb dX6_readPart_116 rfl (lv_at hl 0 rfl) ?_
      refine lv_aload_n hx hb dX6_readPart_117 rfl (lv_at hl 0 rfl) ?_
      obtain ⟨r8, hc, hf⟩ := hj_o1_s hf
      refine hj_callVi (nL := 4) (As := []) (rest := [.ref (ad 0)]) (i0 := 0) (C := RX6) (T := TX6) (N := 24) (ci := 6) ⟨hx, hb, hml, hown, hts⟩ (ctX6_firstsLeft l g hI hc) (cwV 0 hts gX6_readPart_X6_firstsLeft rfl rfl rfl (by decide +kernel) ⟨Nat.le_of_ble_eq_true rfl, Nat.le_of_ble_eq_true rfl⟩) hj_Xb0 (fun _ _ _ => trivial) hK hP hS (by decide) rfl rfl rfl hl.1 rfl (Nat.le_of_ble_eq_true rfl) dX6_readPart_118 (fun H locs hP hS => ?_)
      obtain ⟨r9, τ10, hc, hf⟩ := hj_o2_s hf
      refine hj_callVi (nL := 4) (As := [.int r8]) (rest := []) (i0 := 0) (C := RX6) (T := TX6) (N := 24) (ci := 6) ⟨hx, hb, hml, hown, hts⟩ (ctX6_figureOf l g hI hc) (cwV 1 hts gX6_readPart_X6_figureOf rfl rfl rfl (by decide +kernel) ⟨Nat.le_of_ble_eq_true rfl, Nat.le_of_ble_eq_true rfl⟩) hj_Xb0 (fun _ _ _ => trivial) hK hP hS (by decide) rfl rfl rfl hl.1 rfl (Nat.le_of_ble_eq_true rfl) dX6_readPart_121 (fun H locs hP hS => ?_)
      refine lv_istore_n (lv' := [(2, .int r9), (0, .ref (ad 0)), (1, .int x1)]) hx hb dX6_readPart_124 rfl hl (by decide) rfl (fun ls hl => ?_)
      refine lv_aload_n hx hb dX6_readPart_125 rfl (lv_at hl 1 rfl) ?_
      refine lv_aload_n hx hb dX6_readPart_126 rfl (lv_at hl 1 rfl) ?_
      refine lv_iload_n hx hb dX6_readPart_127 rfl (lv_at hl 0 rfl) ?_
      obtain ⟨r11, hc, hf⟩ := hj_o1_s hf
      refine hj_callVi (nL := 4) (As := [.int r9]) (rest := [.ref (ad 0)]) (i0 := 0) (C := RX6) (T := TX6) (N := 24) (ci := 6) ⟨hx, hb, hml, hown, hts⟩ (ctX6_left l g hI hc) (cwV 1 hts gX6_readPart_X6_left rfl rfl rfl (by decide +kernel) ⟨Nat.le_of_ble_eq_true rfl, Nat.le_of_ble_eq_true rfl⟩) hj_Xb0 (fun _ _ _ => trivial) hK hP hS (by decide) rfl rfl rfl hl.1 rfl (Nat.le_of_ble_eq_true rfl) dX6_readPart_128 (fun H locs hP hS => ?_)
      obtain ⟨r12, τ13, hc, hf⟩ := hj_o2_s hf
      refine hj_callVi (nL := 4) (As := [.int r11]) (rest := []) (i0 := 0) (C := RX6) (T := TX6) (N := 24) (ci := 6) ⟨hx, hb, hml, hown, hts⟩ (ctX6_figureOf l g hI hc) (cwV 1 hts gX6_readPart_X6_figureOf rfl rfl rfl (by decide +kernel) ⟨Nat.le_of_ble_eq_true rfl, Nat.le_of_ble_eq_true rfl⟩) hj_Xb0 (fun _ _ _ => trivial) hK hP hS (by decide) rfl rfl rfl hl.1 rfl (Nat.le_of_ble_eq_true rfl) dX6_readPart_131 (fun H locs hP hS => ?_)
      refine lv_istore_n (lv' := [(3, .int r12), (2, .int r9), (0, .ref (ad 0)), (1, .int x1)]) hx hb dX6_readPart_134 rfl hl (by decide) rfl (fun ls hl => ?_)
      refine lv_aload_n hx hb dX6_readPart_135 rfl (lv_at hl 2 rfl) ?_
      refine hj_get (ci := 6) (v := .ref (ad 5)) (C := RX6) (T := TX6) (N := 24) hx hb hts iX6_readPart_X6 hown hK hP (by decide) rfl rfl 6 (by decide) mX6_readPart_4 rfl dX6_readPart_136 ?_
      refine lv_iload_n hx hb dX6_readPart_139 rfl (lv_at hl 1 rfl) ?_
      refine lv_dup2_11 hx hb dX6_readPart_140 rfl rfl ?_
      obtain ⟨hk14, hf⟩ := hj_ck_s hf
      refine hj_ial (f := τ13.2 6) hx hb hK hP (by decide) rfl hk14 dX6_readPart_141 ?_
      refine lv_aload_n hx hb dX6_readPart_142 rfl (lv_at hl 2 rfl) ?_
      refine hj_get (ci := 6) (v := .int (τ13.1 12)) (C := RX6) (T := TX6) (N := 24) hx hb hts iX6_readPart_X6 hown hK hP (by decide) rfl rfl 12 (by decide) mX6_readPart_5 rfl dX6_readPart_143 ?_
      refine lv_bipush (v := (-9)) hx hb dX6_readPart_146 (by decide) ?_
      refine lv_icmp_ne (tgt := 157) hx hb dX6_readPart_148 (by decide) (fun c15 => ?_) (fun c15 => ?_)
      · rw [if_neg c15] at hf
        refine lv_iconst (v := 0) hx hb dX6_readPart_157 (by decide) ?_
        refine lv_ior hx hb dX6_readPart_158 ?_
        obtain ⟨hk16, hf⟩ := hj_ck_s hf
        refine hj_ias (f := τ13.2 6) (v := ((τ13.2 6 r9.toNatClampNeg) ||| 0)) hx hb hK hI hP hS (by decide) rfl hk16 dX6_readPart_159 (wm_a2 (τ := τ13) (x := r9) (v := ((τ13.2 6 r9.toNatClampNeg) ||| 0)) 5 6 rfl (by decide) (by decide) (by decide)) (fun H locs hP hS => ?_)
        obtain ⟨τ17, eτ17⟩ : ∃ z : hj_Ob, z = hj_a τ13 6 r9 ((τ13.2 6 r9.toNatClampNeg) ||| 0) := ⟨_, rfl⟩
        replace hf := hj_nm_y hf eτ17
        rw [← eτ17] at hP
        refine lv_goto (tgt := 171) hx hb dX6_readPart_160 (by decide) ?_
        have hq := Option.some.inj hf
        obtain rfl := hq
        exact hj_retv C hP hK hS dX6_readPart_171
      · rw [if_pos c15] at hf
        refine lv_iconst (v := 1) hx hb dX6_readPart_151 (by decide) ?_
        refine lv_iload_n hx hb dX6_readPart_152 rfl (lv_at hl 0 rfl) ?_
        refine lv_ishl hx hb dX6_readPart_153 ?_
        refine lv_goto (tgt := 158) hx hb dX6_readPart_154 (by decide) ?_
        refine lv_ior hx hb dX6_readPart_158 ?_
        obtain ⟨hk18, hf⟩ := hj_ck_s hf
        refine hj_ias (f := τ13.2 6) (v := ((τ13.2 6 r9.toNatClampNeg) ||| ((1 : Int32) <<< (r12 &&& 31)))) hx hb hK hI hP hS (by decide) rfl hk18 dX6_readPart_159 (wm_a2 (τ := τ13) (x := r9) (v := ((τ13.2 6 r9.toNatClampNeg) ||| ((1 : Int32) <<< (r12 &&& 31)))) 5 6 rfl (by decide) (by decide) (by decide)) (fun H locs hP hS => ?_)
        obtain ⟨τ19, eτ19⟩ : ∃ z : hj_Ob, z = hj_a τ13 6 r9 ((τ13.2 6 r9.toNatClampNeg) ||| ((1 : Int32) <<< (r12 &&& 31))) := ⟨_, rfl⟩
        replace hf := hj_nm_y hf eτ19
        rw [← eτ19] at hP
        refine lv_goto (tgt := 171) hx hb dX6_readPart_160 (by decide) ?_
        have hq := Option.some.inj hf
        obtain rfl := hq
        exact hj_retv C hP hK hS dX6_readPart_171
def fX6_readPart (τ : hj_Ob) (sd : Int64) (x1 : Int32) : Option hj_Ob :=
  if x1 = 80 then (if 6 ≤ (τ.1 7) then (fX6_readPart_93 τ sd x1) else (hj_nm (hj_s τ 11 ((τ.1 11) + 1)) fun τ21 => hj_o2 (fX6_figureOf τ21 sd 3) fun r22 τ23 => hj_ck (3 * (τ21.1 7)) 18 (hj_nm (hj_a τ23 5 (3 * (τ21.1 7)) r22) fun τ25 => hj_o2 (fX6_figureOf τ25 sd 1022) fun r26 τ27 => hj_ck ((3 * (τ25.1 7)) + 1) 18 (hj_nm (hj_a τ27 5 ((3 * (τ25.1 7)) + 1) r26) fun τ29 => hj_o2 (fX6_figureOf τ29 sd 15) fun r30 τ31 => hj_ck ((3 * (τ29.1 7)) + 2) 18 (hj_nm (hj_a τ31 5 ((3 * (τ29.1 7)) + 2) r30) fun τ33 => hj_nm (hj_s τ33 7 ((τ33.1 7) + 1)) fun τ34 => some τ34))))) else (fX6_readPart_93 τ sd x1)
set_option maxHeartbeats 4000000 in
set_option maxRecDepth 100000 in
theorem wX6_readPart {p : Program} {l : Launch} {e : Env} {s : State} {m : MethodId} {args : Array Value} {below : List Frame} {meth : Method} {c : Code} {g : hj_G} {ad : Nat → Nat} (hI : hj_I 13 ad) (C : hj_C p s m args meth c cX6_readPart RX6 wsX6_readPart 4 none) (hK : hj_K g s) {τ : hj_Ob} {sd : Int64} {x1 : Int32} {τF : hj_Ob}
    (hf : fX6_readPart τ sd x1 = some τF) {H : Heap} {locs : List Loc} {ls : Array Slot} (hP : hj_P g 13 ad (hj_wm g ad τ sd) H) (hS : hj_S 13 ad s H locs) (hl : lv_has ls 4 [(0, .ref (ad 0)), (1, .int x1)]) :
    W p l e rmX6_readPart s m args below meth c H locs 0 0 (MQ below (hj_QV g 13 ad (hj_wm g ad τF sd) s.heap.size) args s 0 0 (hj_A 13 ad s.heap.size)) (F0 m 0 ls []) := by
  obtain ⟨hx, hb, hr, hml, hown, hts, hlocks⟩ := id C
  unfold fX6_readPart at hf
  refine lv_iload_n hx hb dX6_readPart_0 rfl (lv_at hl 1 rfl) ?_
  refine lv_bipush (v := 80) hx hb dX6_readPart_1 (by decide) ?_
  refine lv_icmp_ne (tgt := 93) hx hb dX6_readPart_3 (by decide) (fun c1 => ?_) (fun c1 => ?_)
  · rw [if_neg c1] at hf
    exact wX6_readPart_93 hI C hK  hf hP hS (lv_sub hl [0, 1] rfl)
  · rw [if_pos c1] at hf
    refine lv_aload_n hx hb dX6_readPart_6 rfl (lv_at hl 0 rfl) ?_
    refine hj_get (ci := 6) (v := .int (τ.1 7)) (C := RX6) (T := TX6) (N := 24) hx hb hts iX6_readPart_X6 hown hK hP (by decide) rfl rfl 7 (by decide) mX6_readPart_1 rfl dX6_readPart_7 ?_
    refine lv_bipush (v := 6) hx hb dX6_readPart_10 (by decide) ?_
    refine lv_icmp_ge (tgt := 93) hx hb dX6_readPart_12 (by decide) (fun c20 => ?_) (fun c20 => ?_)
    · rw [if_pos c20] at hf
      exact wX6_readPart_93 hI C hK  hf hP hS (lv_sub hl [0, 1] rfl)
    · rw [if_neg c20] at hf
      refine lv_aload_n hx hb dX6_readPart_15 rfl (lv_at hl 0 rfl) ?_
      refine lv_dup hx hb dX6_readPart_16 rfl ?_
      refine hj_get (ci := 6) (v := .int (τ.1 11)) (C := RX6) (T := TX6) (N := 24) hx hb hts iX6_readPart_X6 hown hK hP (by decide) rfl rfl 11 (by decide) mX6_readPart_2 rfl dX6_readPart_17 ?_
      refine lv_iconst (v := 1) hx hb dX6_readPart_20 (by decide) ?_
      refine lv_iadd hx hb dX6_readPart_21 ?_
      refine hj_put (ci := 6) (v := .int ((τ.1 11) + 1)) (C := RX6) (T := TX6) (N := 24) hx hb hts iX6_readPart_X6 tyX6 tyX6_ok nmX6 hown hK hI hP hS (by decide) rfl rfl 11 (by decide) mX6_readPart_2 rfl rfl rfl (Nat.le_of_ble_eq_true rfl) dX6_readPart_22 (wm_s (τ := τ) (k := 11) (v := (τ.1 11) + 1) rfl) (fun H locs hP hS => ?_)
      obtain ⟨τ21, eτ21⟩ : ∃ z : hj_Ob, z = hj_s τ 11 ((τ.1 11) + 1) := ⟨_, rfl⟩
      replace hf := hj_nm_y hf eτ21
      rw [← eτ21] at hP
      refine lv_aload_n hx hb dX6_readPart_25 rfl (lv_at hl 0 rfl) ?_
      refine hj_get (ci := 6) (v := .ref (ad 4)) (C := RX6) (T := TX6) (N := 24) hx hb hts iX6_readPart_X6 hown hK hP (by decide) rfl rfl 5 (by decide) mX6_readPart_3 rfl dX6_readPart_26 ?_
      refine lv_iconst (v := 3) hx hb dX6_readPart_29 (by decide) ?_
      refine lv_aload_n hx hb dX6_readPart_30 rfl (lv_at hl 0 rfl) ?_
      refine hj_get (ci := 6) (v := .int (τ21.1 7)) (C := RX6) (T := TX6) (N := 24) hx hb hts iX6_readPart_X6 hown hK hP (by decide) rfl rfl 7 (by decide) mX6_readPart_1 rfl dX6_readPart_31 ?_
      refine lv_imul hx hb dX6_readPart_34 ?_
      refine lv_aload_n hx hb dX6_readPart_35 rfl (lv_at hl 0 rfl) ?_
      refine lv_iconst (v := 3) hx hb dX6_readPart_36 (by decide) ?_
      obtain ⟨r22, τ23, hc, hf⟩ := hj_o2_s hf
      refine hj_callVi (nL := 4) (As := [.int 3]) (rest := [.int (3 * (τ21.1 7)), .ref (ad 4)]) (i0 := 0) (C := RX6) (T := TX6) (N := 24) (ci := 6) ⟨hx, hb, hml, hown, hts⟩ (ctX6_figureOf l g hI hc) (cwV 1 hts gX6_readPart_X6_figureOf rfl rfl rfl (by decide +kernel) ⟨Nat.le_of_ble_eq_true rfl, Nat.le_of_ble_eq_true rfl⟩) hj_Xb0 (fun _ _ _ => trivial) hK hP hS (by decide) rfl rfl rfl hl.1 rfl (Nat.le_of_ble_eq_true rfl) dX6_readPart_37 (fun H locs hP hS => ?_)
      obtain ⟨hk24, hf⟩ := hj_ck_s hf
      refine hj_ias (f := τ23.2 5) (v := r22) hx hb hK hI hP hS (by decide) rfl hk24 dX6_readPart_40 (wm_a2 (τ := τ23) (x := (3 * (τ21.1 7))) (v := r22) 4 5 rfl (by decide) (by decide) (by decide)) (fun H locs hP hS => ?_)
      obtain ⟨τ25, eτ25⟩ : ∃ z : hj_Ob, z = hj_a τ23 5 (3 * (τ21.1 7)) r22 := ⟨_, rfl⟩
      replace hf := hj_nm_y hf eτ25
      rw [← eτ25] at hP
      refine lv_aload_n hx hb dX6_readPart_41 rfl (lv_at hl 0 rfl) ?_
      refine hj_get (ci := 6) (v := .ref (ad 4)) (C := RX6) (T := TX6) (N := 24) hx hb hts iX6_readPart_X6 hown hK hP (by decide) rfl rfl 5 (by decide) mX6_readPart_3 rfl dX6_readPart_42 ?_
      refine lv_iconst (v := 3) hx hb dX6_readPart_45 (by decide) ?_
      refine lv_aload_n hx hb dX6_readPart_46 rfl (lv_at hl 0 rfl) ?_
      refine hj_get (ci := 6) (v := .int (τ25.1 7)) (C := RX6) (T := TX6) (N := 24) hx hb hts iX6_readPart_X6 hown hK hP (by decide) rfl rfl 7 (by decide) mX6_readPart_1 rfl dX6_readPart_47 ?_
      refine lv_imul hx hb dX6_readPart_50 ?_
      refine lv_iconst (v := 1) hx hb dX6_readPart_51 (by decide) ?_
      refine lv_iadd hx hb dX6_readPart_52 ?_
      refine lv_aload_n hx hb dX6_readPart_53 rfl (lv_at hl 0 rfl) ?_
      refine lv_sipush (v := 1022) hx hb dX6_readPart_54 (by decide) ?_
      obtain ⟨r26, τ27, hc, hf⟩ := hj_o2_s hf
      refine hj_callVi (nL := 4) (As := [.int 1022]) (rest := [.int ((3 * (τ25.1 7)) + 1), .ref (ad 4)]) (i0 := 0) (C := RX6) (T := TX6) (N := 24) (ci := 6) ⟨hx, hb, hml, hown, hts⟩ (ctX6_figureOf l g hI hc) (cwV 1 hts gX6_readPart_X6_figureOf rfl rfl rfl (by decide +kernel) ⟨Nat.le_of_ble_eq_true rfl, Nat.le_of_ble_eq_true rfl⟩) hj_Xb0 (fun _ _ _ => trivial) hK hP hS (by decide) rfl rfl rfl hl.1 rfl (Nat.le_of_ble_eq_true rfl) dX6_readPart_57 (fun H locs hP hS => ?_)
      obtain ⟨hk28, hf⟩ := hj_ck_s hf
      refine hj_ias (f := τ27.2 5) (v := r26) hx hb hK hI hP hS (by decide) rfl hk28 dX6_readPart_60 (wm_a2 (τ := τ27) (x := ((3 * (τ25.1 7)) + 1)) (v := r26) 4 5 rfl (by decide) (by decide) (by decide)) (fun H locs hP hS => ?_)
      obtain ⟨τ29, eτ29⟩ : ∃ z : hj_Ob, z = hj_a τ27 5 ((3 * (τ25.1 7)) + 1) r26 := ⟨_, rfl⟩
      replace hf := hj_nm_y hf eτ29
      rw [← eτ29] at hP
      refine lv_aload_n hx hb dX6_readPart_61 rfl (lv_at hl 0 rfl) ?_
      refine hj_get (ci := 6) (v := .ref (ad 4)) (C := RX6) (T := TX6) (N := 24) hx hb hts iX6_readPart_X6 hown hK hP (by decide) rfl rfl 5 (by decide) mX6_readPart_3 rfl dX6_readPart_62 ?_
      refine lv_iconst (v := 3) hx hb dX6_readPart_65 (by decide) ?_
      refine lv_aload_n hx hb dX6_readPart_66 rfl (lv_at hl 0 rfl) ?_
      refine hj_get (ci := 6) (v := .int (τ29.1 7)) (C := RX6) (T := TX6) (N := 24) hx hb hts iX6_readPart_X6 hown hK hP (by decide) rfl rfl 7 (by decide) mX6_readPart_1 rfl dX6_readPart_67 ?_
      refine lv_imul hx hb dX6_readPart_70 ?_
      refine lv_iconst (v := 2) hx hb dX6_readPart_71 (by decide) ?_
      refine lv_iadd hx hb dX6_readPart_72 ?_
      refine lv_aload_n hx hb dX6_readPart_73 rfl (lv_at hl 0 rfl) ?_
      refine lv_bipush (v := 15) hx hb dX6_readPart_74 (by decide) ?_
      obtain ⟨r30, τ31, hc, hf⟩ := hj_o2_s hf
      refine hj_callVi (nL := 4) (As := [.int 15]) (rest := [.int ((3 * (τ29.1 7)) + 2), .ref (ad 4)]) (i0 := 0) (C := RX6) (T := TX6) (N := 24) (ci := 6) ⟨hx, hb, hml, hown, hts⟩ (ctX6_figureOf l g hI hc) (cwV 1 hts gX6_readPart_X6_figureOf rfl rfl rfl (by decide +kernel) ⟨Nat.le_of_ble_eq_true rfl, Nat.le_of_ble_eq_true rfl⟩) hj_Xb0 (fun _ _ _ => trivial) hK hP hS (by decide) rfl rfl rfl hl.1 rfl (Nat.le_of_ble_eq_true rfl) dX6_readPart_76 (fun H locs hP hS => ?_)
      obtain ⟨hk32, hf⟩ := hj_ck_s hf
      refine hj_ias (f := τ31.2 5) (v := r30) hx hb hK hI hP hS (by decide) rfl hk32 dX6_readPart_79 (wm_a2 (τ := τ31) (x := ((3 * (τ29.1 7)) + 2)) (v := r30) 4 5 rfl (by decide) (by decide) (by decide)) (fun H locs hP hS => ?_)
      obtain ⟨τ33, eτ33⟩ : ∃ z : hj_Ob, z = hj_a τ31 5 ((3 * (τ29.1 7)) + 2) r30 := ⟨_, rfl⟩
      replace hf := hj_nm_y hf eτ33
      rw [← eτ33] at hP
      refine lv_aload_n hx hb dX6_readPart_80 rfl (lv_at hl 0 rfl) ?_
      refine lv_dup hx hb dX6_readPart_81 rfl ?_
      refine hj_get (ci := 6) (v := .int (τ33.1 7)) (C := RX6) (T := TX6) (N := 24) hx hb hts iX6_readPart_X6 hown hK hP (by decide) rfl rfl 7 (by decide) mX6_readPart_1 rfl dX6_readPart_82 ?_
      refine lv_iconst (v := 1) hx hb dX6_readPart_85 (by decide) ?_
      refine lv_iadd hx hb dX6_readPart_86 ?_
      refine hj_put (ci := 6) (v := .int ((τ33.1 7) + 1)) (C := RX6) (T := TX6) (N := 24) hx hb hts iX6_readPart_X6 tyX6 tyX6_ok nmX6 hown hK hI hP hS (by decide) rfl rfl 7 (by decide) mX6_readPart_1 rfl rfl rfl (Nat.le_of_ble_eq_true rfl) dX6_readPart_87 (wm_s (τ := τ33) (k := 7) (v := (τ33.1 7) + 1) rfl) (fun H locs hP hS => ?_)
      obtain ⟨τ34, eτ34⟩ : ∃ z : hj_Ob, z = hj_s τ33 7 ((τ33.1 7) + 1) := ⟨_, rfl⟩
      replace hf := hj_nm_y hf eτ34
      rw [← eτ34] at hP
      refine lv_goto (tgt := 171) hx hb dX6_readPart_90 (by decide) ?_
      have hq := Option.some.inj hf
      obtain rfl := hq
      exact hj_retv C hP hK hS dX6_readPart_171
set_option maxHeartbeats 4000000 in
set_option maxRecDepth 100000 in
theorem ctX6_readPart (l : Launch) (g : hj_G) {ad : Nat → Nat} (hI : hj_I 13 ad) {τ : hj_Ob} {sd : Int64} {x1 : Int32} {τF : hj_Ob} (hf : fX6_readPart τ sd x1 = some τF) :
    hj_MV l yX6_readPart wsX6_readPart rmX6_readPart g 13 ad hj_X0 [.ref (ad 0), .int x1] (hj_wm g ad τ sd) (hj_wm g ad τF sd) := by
  refine hj_ofV (cc := cX6_readPart) (maxL := 4) (ret := none) (by decide) rfl (Nat.le_of_ble_eq_true rfl) ?_
  intro p e s m args below meth c ls C hP hK hX hl
  exact wX6_readPart hI C hK hf hP va_S.rf hl

/-! X6_readText -/
abbrev rmX6_readText : Room := { frames := 3, cells := 0, slots := 0, locals := 70 }
theorem iX6_readText_X6 : ∀ w ∈ wsX60, w ∈ wsX6_readText := fun _ h => List.mem_cons_of_mem _ (List.mem_append_right _ h)
theorem mX6_readText_1 : Cond.fieldLink RX6 63 "HungryJuryModel" "at" "I" ∈ wsX6_readText := List.mem_of_getElem? (i := 1) rfl
theorem mX6_readText_2 : Cond.fieldLink RX6 60 "HungryJuryModel" "faultAt" "I" ∈ wsX6_readText := List.mem_of_getElem? (i := 2) rfl
theorem mX6_readText_3 : Cond.fieldLink RX6 72 "HungryJuryModel" "readJurors" "I" ∈ wsX6_readText := List.mem_of_getElem? (i := 3) rfl
theorem mX6_readText_4 : Cond.fieldLink RX6 22 "HungryJuryModel" "readHeeds" "[I" ∈ wsX6_readText := List.mem_of_getElem? (i := 4) rfl
theorem mX6_readText_5 : Cond.fieldLink RX6 57 "HungryJuryModel" "length" "I" ∈ wsX6_readText := List.mem_of_getElem? (i := 5) rfl
theorem mX6_readText_6 : Cond.fieldLink RX6 25 "HungryJuryModel" "text" "[I" ∈ wsX6_readText := List.mem_of_getElem? (i := 6) rfl
theorem mX6_readText_7 : Cond.fieldLink RX6 82 "HungryJuryModel" "readNeed" "I" ∈ wsX6_readText := List.mem_of_getElem? (i := 7) rfl
def fX6_readText_18 (τ : hj_Ob) (sd : Int64) (x1 : Int32) : Option (hj_Ob ⊕ (Int32 × hj_Ob)) :=
  if 6 ≤ x1 then (some (.inl τ)) else (hj_ck x1 6 (hj_nm (hj_a τ 6 x1 0) fun τ6 => hj_nm (x1 + 1) fun y7 => some (.inr (y7, τ6))))
set_option maxHeartbeats 4000000 in
set_option maxRecDepth 100000 in
theorem wX6_readText_18b {p : Program} {l : Launch} {e : Env} {s : State} {m : MethodId} {args : Array Value} {below : List Frame} {meth : Method} {c : Code} {g : hj_G} {ad : Nat → Nat} (hI : hj_I 13 ad) (C : hj_C p s m args meth c cX6_readText RX6 wsX6_readText 2 (some .int)) (hK : hj_K g s) {τ : hj_Ob} {sd : Int64} {x1 : Int32} {y : hj_Ob ⊕ (Int32 × hj_Ob)} {rF : Int32} {τF : hj_Ob}
    (hf : fX6_readText_18 τ sd x1 = some y) (KX : ∀ (τ' : hj_Ob), y = .inl τ' → ∀ (H : Heap) (locs : List Loc) (ls : Array Slot), hj_P g 13 ad (hj_wm g ad τ' sd) H → hj_S 13 ad s H locs → lv_has ls 2 [(0, .ref (ad 0))] → W p l e rmX6_readText s m args below meth c H locs 0 0 (MQ below (hj_QI g 13 ad (hj_wm g ad τF sd) rF s.heap.size) args s 0 0 (hj_A 13 ad s.heap.size)) (F0 m 37 ls [])) (KI : ∀ (v1 : Int32) (τ' : hj_Ob), y = .inr (v1, τ') → ∀ (H : Heap) (locs : List Loc) (ls : Array Slot), hj_P g 13 ad (hj_wm g ad τ' sd) H → hj_S 13 ad s H locs → lv_has ls 2 [(0, .ref (ad 0)), (1, .int v1)] → W p l e rmX6_readText s m args below meth c H locs 0 0 (MQ below (hj_QI g 13 ad (hj_wm g ad τF sd) rF s.heap.size) args s 0 0 (hj_A 13 ad s.heap.size)) (F0 m 18 ls [])) {H : Heap} {locs : List Loc} {ls : Array Slot} (hP : hj_P g 13 ad (hj_wm g ad τ sd) H) (hS : hj_S 13 ad s H locs) (hl : lv_has ls 2 [(0, .ref (ad 0)), (1, .int x1)]) :
    W p l e rmX6_readText s m args below meth c H locs 0 0 (MQ below (hj_QI g 13 ad (hj_wm g ad τF sd) rF s.heap.size) args s 0 0 (hj_A 13 ad s.heap.size)) (F0 m 18 ls []) := by
  obtain ⟨hx, hb, hr, hml, hown, hts, hlocks⟩ := id C
  unfold fX6_readText_18 at hf
  refine lv_iload_n hx hb dX6_readText_18 rfl (lv_at hl 1 rfl) ?_
  refine lv_bipush (v := 6) hx hb dX6_readText_19 (by decide) ?_
  refine lv_icmp_ge (tgt := 37) hx hb dX6_readText_21 (by decide) (fun c4 => ?_) (fun c4 => ?_)
  · rw [if_pos c4] at hf
    exact KX _ (Option.some.inj hf).symm _ _ _ hP hS (lv_sub hl [0] rfl)
  · rw [if_neg c4] at hf
    refine lv_aload_n hx hb dX6_readText_24 rfl (lv_at hl 0 rfl) ?_
    refine hj_get (ci := 6) (v := .ref (ad 5)) (C := RX6) (T := TX6) (N := 24) hx hb hts iX6_readText_X6 hown hK hP (by decide) rfl rfl 6 (by decide) mX6_readText_4 rfl dX6_readText_25 ?_
    refine lv_iload_n hx hb dX6_readText_28 rfl (lv_at hl 1 rfl) ?_
    refine lv_iconst (v := 0) hx hb dX6_readText_29 (by decide) ?_
    obtain ⟨hk5, hf⟩ := hj_ck_s hf
    refine hj_ias (f := τ.2 6) (v := 0) hx hb hK hI hP hS (by decide) rfl hk5 dX6_readText_30 (wm_a2 (τ := τ) (x := x1) (v := 0) 5 6 rfl (by decide) (by decide) (by decide)) (fun H locs hP hS => ?_)
    obtain ⟨τ6, eτ6⟩ : ∃ z : hj_Ob, z = hj_a τ 6 x1 0 := ⟨_, rfl⟩
    replace hf := hj_nm_y hf eτ6
    rw [← eτ6] at hP
    obtain ⟨y7, ey7⟩ : ∃ z : Int32, z = x1 + 1 := ⟨_, rfl⟩
    replace hf := hj_nm_y hf ey7
    refine lv_iinc (v := y7) (lv' := [(1, .int y7), (0, .ref (ad 0))]) hx hb dX6_readText_31 hl (k := 1) rfl (by rw [ey7]; rfl) (by decide) rfl (fun ls hl => ?_)
    refine lv_goto (tgt := 18) hx hb dX6_readText_34 (by decide) ?_
    exact KI _ _ (Option.some.inj hf).symm _ _ _ hP hS (lv_sub hl [1, 0] rfl)
set_option maxHeartbeats 4000000 in
set_option maxRecDepth 100000 in
theorem wX6_readText_18 {p : Program} {l : Launch} {e : Env} {s : State} {m : MethodId} {args : Array Value} {below : List Frame} {meth : Method} {c : Code} {g : hj_G} {ad : Nat → Nat} (hI : hj_I 13 ad) (C : hj_C p s m args meth c cX6_readText RX6 wsX6_readText 2 (some .int)) (hK : hj_K g s) {sd : Int64} {rF : Int32} {τF : hj_Ob} {τe : hj_Ob} :
    ∀ (fu : Nat) (x1 : Int32) (τ : hj_Ob), hj_lp (fun q : (Int32 × hj_Ob) => fX6_readText_18 q.2 sd q.1) fu (x1, τ) = some τe → (∀ (H : Heap) (locs : List Loc) (ls : Array Slot), hj_P g 13 ad (hj_wm g ad τe sd) H → hj_S 13 ad s H locs → lv_has ls 2 [(0, .ref (ad 0))] → W p l e rmX6_readText s m args below meth c H locs 0 0 (MQ below (hj_QI g 13 ad (hj_wm g ad τF sd) rF s.heap.size) args s 0 0 (hj_A 13 ad s.heap.size)) (F0 m 37 ls [])) → ∀ (H : Heap) (locs : List Loc) (ls : Array Slot), hj_P g 13 ad (hj_wm g ad τ sd) H → hj_S 13 ad s H locs → lv_has ls 2 [(0, .ref (ad 0)), (1, .int x1)] →
    W p l e rmX6_readText s m args below meth c H locs 0 0 (MQ below (hj_QI g 13 ad (hj_wm g ad τF sd) rF s.heap.size) args s 0 0 (hj_A 13 ad s.heap.size)) (F0 m 18 ls []) := by
  intro fu
  induction fu with
  | zero => intro x1 τ hq; cases hq
  | succ fu ih =>
    intro x1 τ hq KX H locs ls hP hS hl
    obtain ⟨y, hy, h1, h2⟩ := hj_lp_s hq
    exact wX6_readText_18b hI C hK  hy (fun τ' hv H locs ls hP hS hl => by obtain rfl := h1 _ hv; exact KX H locs ls hP hS hl) (fun v1 τ' hv H locs ls hP hS hl => ih v1 τ' (h2 _ hv) KX H locs ls hP hS hl) hP hS hl
def fX6_readText_72 (τ : hj_Ob) (sd : Int64) : Option (hj_Ob ⊕ hj_Ob) :=
  if (τ.1 12) = (-9) then (if (τ.1 10) ≤ (τ.1 11) then (some (.inl τ)) else (hj_ck (τ.1 11) 56 (hj_o1 (fX6_readPart τ sd (τ.2 9 (τ.1 11).toNatClampNeg)) fun τ19 => some (.inr τ19)))) else (some (.inl τ))
set_option maxHeartbeats 4000000 in
set_option maxRecDepth 100000 in
theorem wX6_readText_72b {p : Program} {l : Launch} {e : Env} {s : State} {m : MethodId} {args : Array Value} {below : List Frame} {meth : Method} {c : Code} {g : hj_G} {ad : Nat → Nat} (hI : hj_I 13 ad) (C : hj_C p s m args meth c cX6_readText RX6 wsX6_readText 2 (some .int)) (hK : hj_K g s) {τ : hj_Ob} {sd : Int64} {y : hj_Ob ⊕ hj_Ob} {rF : Int32} {τF : hj_Ob}
    (hf : fX6_readText_72 τ sd = some y) (KX : ∀ (τ' : hj_Ob), y = .inl τ' → ∀ (H : Heap) (locs : List Loc) (ls : Array Slot), hj_P g 13 ad (hj_wm g ad τ' sd) H → hj_S 13 ad s H locs → lv_has ls 2 [(0, .ref (ad 0))] → W p l e rmX6_readText s m args below meth c H locs 0 0 (MQ below (hj_QI g 13 ad (hj_wm g ad τF sd) rF s.heap.size) args s 0 0 (hj_A 13 ad s.heap.size)) (F0 m 108 ls [])) (KI : ∀ (τ' : hj_Ob), y = .inr τ' → ∀ (H : Heap) (locs : List Loc) (ls : Array Slot), hj_P g 13 ad (hj_wm g ad τ' sd) H → hj_S 13 ad s H locs → lv_has ls 2 [(0, .ref (ad 0))] → W p l e rmX6_readText s m args below meth c H locs 0 0 (MQ below (hj_QI g 13 ad (hj_wm g ad τF sd) rF s.heap.size) args s 0 0 (hj_A 13 ad s.heap.size)) (F0 m 72 ls [])) {H : Heap} {locs : List Loc} {ls : Array Slot} (hP : hj_P g 13 ad (hj_wm g ad τ sd) H) (hS : hj_S 13 ad s H locs) (hl : lv_has ls 2 [(0, .ref (ad 0))]) :
    W p l e rmX6_readText s m args below meth c H locs 0 0 (MQ below (hj_QI g 13 ad (hj_wm g ad τF sd) rF s.heap.size) args s 0 0 (hj_A 13 ad s.heap.size)) (F0 m 72 ls []) := by
  obtain ⟨hx, hb, hr, hml, hown, hts, hlocks⟩ := id C
  unfold fX6_readText_72 at hf
  refine lv_aload_n hx hb dX6_readText_72 rfl (lv_at hl 0 rfl) ?_
  refine hj_get (ci := 6) (v := .int (τ.1 12)) (C := RX6) (T := TX6) (N := 24) hx hb hts iX6_readText_X6 hown hK hP (by decide) rfl rfl 12 (by decide) mX6_readText_2 rfl dX6_readText_73 ?_
  refine lv_bipush (v := (-9)) hx hb dX6_readText_76 (by decide) ?_
  refine lv_icmp_ne (tgt := 108) hx hb dX6_readText_78 (by decide) (fun c16 => ?_) (fun c16 => ?_)
  · rw [if_neg c16] at hf
    exact KX _ (Option.some.inj hf).symm _ _ _ hP hS (lv_sub hl [0] rfl)
  · rw [if_pos c16] at hf
    refine lv_aload_n hx hb dX6_readText_81 rfl (lv_at hl 0 rfl) ?_
    refine hj_get (ci := 6) (v := .int (τ.1 11)) (C := RX6) (T := TX6) (N := 24) hx hb hts iX6_readText_X6 hown hK hP (by decide) rfl rfl 11 (by decide) mX6_readText_1 rfl dX6_readText_82 ?_
    refine lv_aload_n hx hb dX6_readText_85 rfl (lv_at hl 0 rfl) ?_
    refine hj_get (ci := 6) (v := .int (τ.1 10)) (C := RX6) (T := TX6) (N := 24) hx hb hts iX6_readText_X6 hown hK hP (by decide) rfl rfl 10 (by decide) mX6_readText_5 rfl dX6_readText_86 ?_
    refine lv_icmp_ge (tgt := 108) hx hb dX6_readText_89 (by decide) (fun c17 => ?_) (fun c17 => ?_)
    · rw [if_pos c17] at hf
      exact KX _ (Option.some.inj hf).symm _ _ _ hP hS (lv_sub hl [0] rfl)
    · rw [if_neg c17] at hf
      refine lv_aload_n hx hb dX6_readText_92 rfl (lv_at hl 0 rfl) ?_
      refine lv_aload_n hx hb dX6_readText_93 rfl (lv_at hl 0 rfl) ?_
      refine hj_get (ci := 6) (v := .ref (ad 6)) (C := RX6) (T := TX6) (N := 24) hx hb hts iX6_readText_X6 hown hK hP (by decide) rfl rfl 9 (by decide) mX6_readText_6 rfl dX6_readText_94 ?_
      refine lv_aload_n hx hb dX6_readText_97 rfl (lv_at hl 0 rfl) ?_
      refine hj_get (ci := 6) (v := .int (τ.1 11)) (C := RX6) (T := TX6) (N := 24) hx hb hts iX6_readText_X6 hown hK hP (by decide) rfl rfl 11 (by decide) mX6_readText_1 rfl dX6_readText_98 ?_
      obtain ⟨hk18, hf⟩ := hj_ck_s hf
      refine hj_ial (f := τ.2 9) hx hb hK hP (by decide) rfl hk18 dX6_readText_101 ?_
      obtain ⟨τ19, hc, hf⟩ := hj_o1_s hf
      refine hj_callVv (nL := 2) (As := [.int (τ.2 9 (τ.1 11).toNatClampNeg)]) (rest := []) (i0 := 0) (C := RX6) (T := TX6) (N := 24) (ci := 6) ⟨hx, hb, hml, hown, hts⟩ (ctX6_readPart l g hI hc) (cwV 1 hts gX6_readText_X6_readPart rfl rfl rfl (by decide +kernel) ⟨Nat.le_of_ble_eq_true rfl, Nat.le_of_ble_eq_true rfl⟩) hj_Xb0 (fun _ _ _ => trivial) hK hP hS (by decide) rfl rfl rfl hl.1 rfl (Nat.le_of_ble_eq_true rfl) dX6_readText_102 (fun H locs hP hS => ?_)
      refine lv_goto (tgt := 72) hx hb dX6_readText_105 (by decide) ?_
      exact KI _ (Option.some.inj hf).symm _ _ _ hP hS (lv_sub hl [0] rfl)
set_option maxHeartbeats 4000000 in
set_option maxRecDepth 100000 in
theorem wX6_readText_72 {p : Program} {l : Launch} {e : Env} {s : State} {m : MethodId} {args : Array Value} {below : List Frame} {meth : Method} {c : Code} {g : hj_G} {ad : Nat → Nat} (hI : hj_I 13 ad) (C : hj_C p s m args meth c cX6_readText RX6 wsX6_readText 2 (some .int)) (hK : hj_K g s) {sd : Int64} {rF : Int32} {τF : hj_Ob} {τe : hj_Ob} :
    ∀ (fu : Nat) (τ : hj_Ob), hj_lp (fun q : hj_Ob => fX6_readText_72 q sd) fu τ = some τe → (∀ (H : Heap) (locs : List Loc) (ls : Array Slot), hj_P g 13 ad (hj_wm g ad τe sd) H → hj_S 13 ad s H locs → lv_has ls 2 [(0, .ref (ad 0))] → W p l e rmX6_readText s m args below meth c H locs 0 0 (MQ below (hj_QI g 13 ad (hj_wm g ad τF sd) rF s.heap.size) args s 0 0 (hj_A 13 ad s.heap.size)) (F0 m 108 ls [])) → ∀ (H : Heap) (locs : List Loc) (ls : Array Slot), hj_P g 13 ad (hj_wm g ad τ sd) H → hj_S 13 ad s H locs → lv_has ls 2 [(0, .ref (ad 0))] →
    W p l e rmX6_readText s m args below meth c H locs 0 0 (MQ below (hj_QI g 13 ad (hj_wm g ad τF sd) rF s.heap.size) args s 0 0 (hj_A 13 ad s.heap.size)) (F0 m 72 ls []) := by
  intro fu
  induction fu with
  | zero => intro τ hq; cases hq
  | succ fu ih =>
    intro τ hq KX H locs ls hP hS hl
    obtain ⟨y, hy, h1, h2⟩ := hj_lp_s hq
    exact wX6_readText_72b hI C hK  hy (fun τ' hv H locs ls hP hS hl => by obtain rfl := h1 _ hv; exact KX H locs ls hP hS hl) (fun τ' hv H locs ls hP hS hl => ih τ' (h2 _ hv) KX H locs ls hP hS hl) hP hS hl
def fX6_readText (τ : hj_Ob) (sd : Int64) : Option (Int32 × hj_Ob) :=
  hj_nm (hj_s τ 11 0) fun τ1 => hj_nm (hj_s τ1 12 (-9)) fun τ2 => hj_nm (hj_s τ2 7 0) fun τ3 => hj_o1 (hj_lp (fun q : (Int32 × hj_Ob) => fX6_readText_18 q.2 sd q.1) 100 (0, τ3)) fun τ8 => (if (τ8.1 10) = 0 then (some (0, τ8)) else (hj_ck (0 : Int32) 56 (if (τ8.2 9 (0 : Int32).toNatClampNeg) = 74 then (hj_nm (hj_s τ8 11 1) fun τ12 => hj_o2 (fX6_figureOf τ12 sd 126) fun r13 τ14 => hj_nm (hj_s τ14 8 r13) fun τ15 => hj_o1 (hj_lp (fun q : hj_Ob => fX6_readText_72 q sd) 100 τ15) fun τ20 => (some (τ20.1 12, τ20))) else (some (0, τ8)))))
set_option maxHeartbeats 4000000 in
set_option maxRecDepth 100000 in
theorem wX6_readText {p : Program} {l : Launch} {e : Env} {s : State} {m : MethodId} {args : Array Value} {below : List Frame} {meth : Method} {c : Code} {g : hj_G} {ad : Nat → Nat} (hI : hj_I 13 ad) (C : hj_C p s m args meth c cX6_readText RX6 wsX6_readText 2 (some .int)) (hK : hj_K g s) {τ : hj_Ob} {sd : Int64} {rF : Int32} {τF : hj_Ob}
    (hf : fX6_readText τ sd = some (rF, τF)) {H : Heap} {locs : List Loc} {ls : Array Slot} (hP : hj_P g 13 ad (hj_wm g ad τ sd) H) (hS : hj_S 13 ad s H locs) (hl : lv_has ls 2 [(0, .ref (ad 0))]) :
    W p l e rmX6_readText s m args below meth c H locs 0 0 (MQ below (hj_QI g 13 ad (hj_wm g ad τF sd) rF s.heap.size) args s 0 0 (hj_A 13 ad s.heap.size)) (F0 m 0 ls []) := by
  obtain ⟨hx, hb, hr, hml, hown, hts, hlocks⟩ := id C
  unfold fX6_readText at hf
  refine lv_aload_n hx hb dX6_readText_0 rfl (lv_at hl 0 rfl) ?_
  refine lv_iconst (v := 0) hx hb dX6_readText_1 (by decide) ?_
  refine hj_put (ci := 6) (v := .int 0) (C := RX6) (T := TX6) (N := 24) hx hb hts iX6_readText_X6 tyX6 tyX6_ok nmX6 hown hK hI hP hS (by decide) rfl rfl 11 (by decide) mX6_readText_1 rfl rfl rfl (Nat.le_of_ble_eq_true rfl) dX6_readText_2 (wm_s (τ := τ) (k := 11) (v := 0) rfl) (fun H locs hP hS => ?_)
  obtain ⟨τ1, eτ1⟩ : ∃ z : hj_Ob, z = hj_s τ 11 0 := ⟨_, rfl⟩
  replace hf := hj_nm_y hf eτ1
  rw [← eτ1] at hP
  refine lv_aload_n hx hb dX6_readText_5 rfl (lv_at hl 0 rfl) ?_
  refine lv_bipush (v := (-9)) hx hb dX6_readText_6 (by decide) ?_
  refine hj_put (ci := 6) (v := .int (-9)) (C := RX6) (T := TX6) (N := 24) hx hb hts iX6_readText_X6 tyX6 tyX6_ok nmX6 hown hK hI hP hS (by decide) rfl rfl 12 (by decide) mX6_readText_2 rfl rfl rfl (Nat.le_of_ble_eq_true rfl) dX6_readText_8 (wm_s (τ := τ1) (k := 12) (v := (-9)) rfl) (fun H locs hP hS => ?_)
  obtain ⟨τ2, eτ2⟩ : ∃ z : hj_Ob, z = hj_s τ1 12 (-9) := ⟨_, rfl⟩
  replace hf := hj_nm_y hf eτ2
  rw [← eτ2] at hP
  refine lv_aload_n hx hb dX6_readText_11 rfl (lv_at hl 0 rfl) ?_
  refine lv_iconst (v := 0) hx hb dX6_readText_12 (by decide) ?_
  refine hj_put (ci := 6) (v := .int 0) (C := RX6) (T := TX6) (N := 24) hx hb hts iX6_readText_X6 tyX6 tyX6_ok nmX6 hown hK hI hP hS (by decide) rfl rfl 7 (by decide) mX6_readText_3 rfl rfl rfl (Nat.le_of_ble_eq_true rfl) dX6_readText_13 (wm_s (τ := τ2) (k := 7) (v := 0) rfl) (fun H locs hP hS => ?_)
  obtain ⟨τ3, eτ3⟩ : ∃ z : hj_Ob, z = hj_s τ2 7 0 := ⟨_, rfl⟩
  replace hf := hj_nm_y hf eτ3
  rw [← eτ3] at hP
  refine lv_iconst (v := 0) hx hb dX6_readText_16 (by decide) ?_
  refine lv_istore_n (lv' := [(1, .int 0), (0, .ref (ad 0))]) hx hb dX6_readText_17 rfl hl (by decide) rfl (fun ls hl => ?_)
  obtain ⟨τ8, hlx, hf⟩ := hj_o1_s hf
  refine wX6_readText_18 hI C hK  100 0 τ3 hlx (fun H locs ls hP hS hl => ?_) H locs ls hP hS (lv_sub hl [1, 0] rfl)
  refine lv_aload_n hx hb dX6_readText_37 rfl (lv_at hl 0 rfl) ?_
  refine hj_get (ci := 6) (v := .int (τ8.1 10)) (C := RX6) (T := TX6) (N := 24) hx hb hts iX6_readText_X6 hown hK hP (by decide) rfl rfl 10 (by decide) mX6_readText_5 rfl dX6_readText_38 ?_
  refine lv_if_eq (tgt := 55) hx hb dX6_readText_41 (by decide) (fun c9 => ?_) (fun c9 => ?_)
  · rw [if_pos c9] at hf
    refine lv_iconst (v := 0) hx hb dX6_readText_55 (by decide) ?_
    have hq := Option.some.inj hf
    obtain ⟨rfl, rfl⟩ := Prod.mk.inj hq
    exact hj_reti C hP hK hS dX6_readText_56
  · rw [if_neg c9] at hf
    refine lv_aload_n hx hb dX6_readText_44 rfl (lv_at hl 0 rfl) ?_
    refine hj_get (ci := 6) (v := .ref (ad 6)) (C := RX6) (T := TX6) (N := 24) hx hb hts iX6_readText_X6 hown hK hP (by decide) rfl rfl 9 (by decide) mX6_readText_6 rfl dX6_readText_45 ?_
    refine lv_iconst (v := 0) hx hb dX6_readText_48 (by decide) ?_
    obtain ⟨hk10, hf⟩ := hj_ck_s hf
    refine hj_ial (f := τ8.2 9) hx hb hK hP (by decide) rfl hk10 dX6_readText_49 ?_
    refine lv_bipush (v := 74) hx hb dX6_readText_50 (by decide) ?_
    refine lv_icmp_eq (tgt := 57) hx hb dX6_readText_52 (by decide) (fun c11 => ?_) (fun c11 => ?_)
    · rw [if_pos c11] at hf
      refine lv_aload_n hx hb dX6_readText_57 rfl (lv_at hl 0 rfl) ?_
      refine lv_iconst (v := 1) hx hb dX6_readText_58 (by decide) ?_
      refine hj_put (ci := 6) (v := .int 1) (C := RX6) (T := TX6) (N := 24) hx hb hts iX6_readText_X6 tyX6 tyX6_ok nmX6 hown hK hI hP hS (by decide) rfl rfl 11 (by decide) mX6_readText_1 rfl rfl rfl (Nat.le_of_ble_eq_true rfl) dX6_readText_59 (wm_s (τ := τ8) (k := 11) (v := 1) rfl) (fun H locs hP hS => ?_)
      obtain ⟨τ12, eτ12⟩ : ∃ z : hj_Ob, z = hj_s τ8 11 1 := ⟨_, rfl⟩
      replace hf := hj_nm_y hf eτ12
      rw [← eτ12] at hP
      refine lv_aload_n hx hb dX6_readText_62 rfl (lv_at hl 0 rfl) ?_
      refine lv_aload_n hx hb dX6_readText_63 rfl (lv_at hl 0 rfl) ?_
      refine lv_bipush (v := 126) hx hb dX6_readText_64 (by decide) ?_
      obtain ⟨r13, τ14, hc, hf⟩ := hj_o2_s hf
      refine hj_callVi (nL := 2) (As := [.int 126]) (rest := [.ref (ad 0)]) (i0 := 0) (C := RX6) (T := TX6) (N := 24) (ci := 6) ⟨hx, hb, hml, hown, hts⟩ (ctX6_figureOf l g hI hc) (cwV 1 hts gX6_readText_X6_figureOf rfl rfl rfl (by decide +kernel) ⟨Nat.le_of_ble_eq_true rfl, Nat.le_of_ble_eq_true rfl⟩) hj_Xb0 (fun _ _ _ => trivial) hK hP hS (by decide) rfl rfl rfl hl.1 rfl (Nat.le_of_ble_eq_true rfl) dX6_readText_66 (fun H locs hP hS => ?_)
      refine hj_put (ci := 6) (v := .int r13) (C := RX6) (T := TX6) (N := 24) hx hb hts iX6_readText_X6 tyX6 tyX6_ok nmX6 hown hK hI hP hS (by decide) rfl rfl 8 (by decide) mX6_readText_7 rfl rfl rfl (Nat.le_of_ble_eq_true rfl) dX6_readText_69 (wm_s (τ := τ14) (k := 8) (v := r13) rfl) (fun H locs hP hS => ?_)
      obtain ⟨τ15, eτ15⟩ : ∃ z : hj_Ob, z = hj_s τ14 8 r13 := ⟨_, rfl⟩
      replace hf := hj_nm_y hf eτ15
      rw [← eτ15] at hP
      obtain ⟨τ20, hlx, hf⟩ := hj_o1_s hf
      refine wX6_readText_72 hI C hK  100 τ15 hlx (fun H locs ls hP hS hl => ?_) H locs ls hP hS (lv_sub hl [0] rfl)
      refine lv_aload_n hx hb dX6_readText_108 rfl (lv_at hl 0 rfl) ?_
      refine hj_get (ci := 6) (v := .int (τ20.1 12)) (C := RX6) (T := TX6) (N := 24) hx hb hts iX6_readText_X6 hown hK hP (by decide) rfl rfl 12 (by decide) mX6_readText_2 rfl dX6_readText_109 ?_
      have hq := Option.some.inj hf
      obtain ⟨rfl, rfl⟩ := Prod.mk.inj hq
      exact hj_reti C hP hK hS dX6_readText_112
    · rw [if_neg c11] at hf
      refine lv_iconst (v := 0) hx hb dX6_readText_55 (by decide) ?_
      have hq := Option.some.inj hf
      obtain ⟨rfl, rfl⟩ := Prod.mk.inj hq
      exact hj_reti C hP hK hS dX6_readText_56
set_option maxHeartbeats 4000000 in
set_option maxRecDepth 100000 in
theorem ctX6_readText (l : Launch) (g : hj_G) {ad : Nat → Nat} (hI : hj_I 13 ad) {τ : hj_Ob} {sd : Int64} {rF : Int32} {τF : hj_Ob} (hf : fX6_readText τ sd = some (rF, τF)) :
    hj_MI l yX6_readText wsX6_readText rmX6_readText g 13 ad hj_X0 [.ref (ad 0)] (hj_wm g ad τ sd) rF (hj_wm g ad τF sd) := by
  refine hj_ofI (cc := cX6_readText) (maxL := 2) (ret := (some .int)) (by decide) rfl (Nat.le_of_ble_eq_true rfl) ?_
  intro p e s m args below meth c ls C hP hK hX hl
  exact wX6_readText hI C hK hf hP va_S.rf hl

/-! X6_fault -/
abbrev rmX6_fault : Room := { frames := 4, cells := 0, slots := 0, locals := 91 }
def fX6_fault (τ : hj_Ob) (sd : Int64) : Option (Int32 × hj_Ob) :=
  hj_o2 (fX6_readText τ sd) fun r1 τ2 => some (r1, τ2)
set_option maxHeartbeats 4000000 in
set_option maxRecDepth 100000 in
theorem wX6_fault {p : Program} {l : Launch} {e : Env} {s : State} {m : MethodId} {args : Array Value} {below : List Frame} {meth : Method} {c : Code} {g : hj_G} {ad : Nat → Nat} (hI : hj_I 13 ad) (C : hj_C p s m args meth c cX6_fault RX6 wsX6_fault 1 (some .int)) (hK : hj_K g s) {τ : hj_Ob} {sd : Int64} {rF : Int32} {τF : hj_Ob}
    (hf : fX6_fault τ sd = some (rF, τF)) {H : Heap} {locs : List Loc} {ls : Array Slot} (hP : hj_P g 13 ad (hj_wm g ad τ sd) H) (hS : hj_S 13 ad s H locs) (hl : lv_has ls 1 [(0, .ref (ad 0))]) :
    W p l e rmX6_fault s m args below meth c H locs 0 0 (MQ below (hj_QI g 13 ad (hj_wm g ad τF sd) rF s.heap.size) args s 0 0 (hj_A 13 ad s.heap.size)) (F0 m 0 ls []) := by
  obtain ⟨hx, hb, hr, hml, hown, hts, hlocks⟩ := id C
  unfold fX6_fault at hf
  refine lv_aload_n hx hb dX6_fault_0 rfl (lv_at hl 0 rfl) ?_
  obtain ⟨r1, τ2, hc, hf⟩ := hj_o2_s hf
  refine hj_callVi (nL := 1) (As := []) (rest := []) (i0 := 0) (C := RX6) (T := TX6) (N := 24) (ci := 6) ⟨hx, hb, hml, hown, hts⟩ (ctX6_readText l g hI hc) (cwV 0 hts gX6_fault_X6_readText rfl rfl rfl (by decide +kernel) ⟨Nat.le_of_ble_eq_true rfl, Nat.le_of_ble_eq_true rfl⟩) hj_Xb0 (fun _ _ _ => trivial) hK hP hS (by decide) rfl rfl rfl hl.1 rfl (Nat.le_of_ble_eq_true rfl) dX6_fault_1 (fun H locs hP hS => ?_)
  have hq := Option.some.inj hf
  obtain ⟨rfl, rfl⟩ := Prod.mk.inj hq
  exact hj_reti C hP hK hS dX6_fault_4
set_option maxHeartbeats 4000000 in
set_option maxRecDepth 100000 in
theorem ctX6_fault (l : Launch) (g : hj_G) {ad : Nat → Nat} (hI : hj_I 13 ad) {τ : hj_Ob} {sd : Int64} {rF : Int32} {τF : hj_Ob} (hf : fX6_fault τ sd = some (rF, τF)) :
    hj_MI l yX6_fault wsX6_fault rmX6_fault g 13 ad hj_X0 [.ref (ad 0)] (hj_wm g ad τ sd) rF (hj_wm g ad τF sd) := by
  refine hj_ofI (cc := cX6_fault) (maxL := 1) (ret := (some .int)) (by decide) rfl (Nat.le_of_ble_eq_true rfl) ?_
  intro p e s m args below meth c ls C hP hK hX hl
  exact wX6_fault hI C hK hf hP va_S.rf hl
