/-! X5_lossOf -/
abbrev rmX5_lossOf : Room := { frames := 1, cells := 0, slots := 0, locals := 24 }
theorem mX5_lossOf_3 : Cond.methodLink RX5 240 Lib.Math.min.name ∈ wsX5_lossOf := List.mem_of_getElem? (i := 3) rfl
theorem mX5_lossOf_4 : Cond.static Lib.Math.min.name ∈ wsX5_lossOf := List.mem_of_getElem? (i := 4) rfl
theorem mX5_lossOf_5 : Cond.initialized "java/lang/Math" ∈ wsX5_lossOf := List.mem_of_getElem? (i := 5) rfl
theorem mX5_lossOf_6 : Cond.code Lib.Math.min.name Lib.Math.min.code 2 (some .int) ∈ wsX5_lossOf := List.mem_of_getElem? (i := 6) rfl
theorem iX5_lossOf_X5 : ∀ w ∈ wsX50, w ∈ wsX5_lossOf := fun _ h => List.mem_cons_of_mem _ (List.mem_append_left _ (List.mem_append_right _ h))
theorem mX5_lossOf_1 : Cond.fieldLink RX5 19 "HungryJury" "panel" "LHungryJury$Panel;" ∈ wsX5_lossOf := List.mem_of_getElem? (i := 1) rfl
theorem iX5_lossOf_X1 : ∀ w ∈ wsX10, w ∈ wsX5_lossOf := fun _ h => List.mem_cons_of_mem _ (List.mem_append_right _ h)
theorem mX5_lossOf_2 : Cond.fieldLink RX5 91 "HungryJury$Panel" "kind" "[I" ∈ wsX5_lossOf := List.mem_of_getElem? (i := 2) rfl
def fX5_lossOf_50 (σ : Nat → hj_Ob) (bf : Nat → Nat) (sd : Int64) (x3 : Int32) (x4 : Int32) (x5 : Int32) (z0 : Int32) : Option Int32 :=
  if x5 = 0 then (some (((if x4 < x3 then x4 else x3) * z0) + 0)) else (some (((if x4 < x3 then x4 else x3) * z0) + 3))
set_option maxHeartbeats 4000000 in
set_option maxRecDepth 100000 in
theorem wX5_lossOf_50 {p : Program} {l : Launch} {e : Env} {s : State} {m : MethodId} {args : Array Value} {below : List Frame} {meth : Method} {c : Code} {g : hj_G} {ad : Nat → Nat} (hI : hj_I 73 ad) (C : hj_C p s m args meth c cX5_lossOf RX5 wsX5_lossOf 7 (some .int)) (hK : hj_K g s) {σ : Nat → hj_Ob} {bf : Nat → Nat} {sd : Int64} {x3 : Int32} {x4 : Int32} {x5 : Int32} {z0 : Int32} {rF : Int32}
    (hf : fX5_lossOf_50 σ bf sd x3 x4 x5 z0 = some rF) {H : Heap} {locs : List Loc} {ls : Array Slot} (hP : hj_P g 73 ad (hj_wx g ad σ bf sd) H) (hS : hj_S 73 ad s H locs) (hl : lv_has ls 7 [(3, .int x3), (4, .int x4), (5, .int x5)]) :
    W p l e rmX5_lossOf s m args below meth c H locs 0 0 (MQ below (hj_QI g 73 ad (hj_wx g ad σ bf sd) rF s.heap.size) args s 0 0 (hj_A 73 ad s.heap.size)) (F0 m 50 ls [.int z0]) := by
  obtain ⟨hx, hb, hr, hml, hown, hts, hlocks⟩ := id C
  unfold fX5_lossOf_50 at hf
  refine lv_istore (lv' := [(6, .int z0), (3, .int x3), (4, .int x4), (5, .int x5)]) hx hb dX5_lossOf_50 hl (by decide) rfl (fun ls hl => ?_)
  refine lv_iload_n hx hb dX5_lossOf_52 rfl (lv_at hl 1 rfl) ?_
  refine lv_iload hx hb dX5_lossOf_53 (lv_at hl 2 rfl) ?_
  refine va_mmin hx hb (hml.trans hl.1.symm) hown (hts _ mX5_lossOf_3) (hts _ mX5_lossOf_4) (hts _ mX5_lossOf_5) (hts _ mX5_lossOf_6) (Nat.le_of_ble_eq_true rfl) (Nat.le_of_ble_eq_true rfl) (Nat.zero_le _) (Nat.zero_le _) dX5_lossOf_55 ?_
  refine lv_iload hx hb dX5_lossOf_58 (lv_at hl 0 rfl) ?_
  refine lv_imul hx hb dX5_lossOf_60 ?_
  refine lv_iload hx hb dX5_lossOf_61 (lv_at hl 3 rfl) ?_
  refine lv_if_eq (tgt := 70) hx hb dX5_lossOf_63 (by decide) (fun c4 => ?_) (fun c4 => ?_)
  · rw [if_pos c4] at hf
    refine lv_iconst (v := 0) hx hb dX5_lossOf_70 (by decide) ?_
    refine lv_iadd hx hb dX5_lossOf_71 ?_
    have hq := Option.some.inj hf
    obtain rfl := hq
    exact hj_reti C hP hK hS dX5_lossOf_72
  · rw [if_neg c4] at hf
    refine lv_iconst (v := 3) hx hb dX5_lossOf_66 (by decide) ?_
    refine lv_goto (tgt := 71) hx hb dX5_lossOf_67 (by decide) ?_
    refine lv_iadd hx hb dX5_lossOf_71 ?_
    have hq := Option.some.inj hf
    obtain rfl := hq
    exact hj_reti C hP hK hS dX5_lossOf_72
def fX5_lossOf_22 (σ : Nat → hj_Ob) (bf : Nat → Nat) (sd : Int64) (x1 : Int32) (x3 : Int32) (x4 : Int32) (z0 : Int32) : Option Int32 :=
  hj_o1 (fX5_isJuror σ bf sd x1) fun r2 => if r2 = 0 then (fX5_lossOf_50 σ bf sd x3 x4 z0 1) else (hj_ck x1 6 (if ((σ 3).2 1 x1.toNatClampNeg) = 1 then (fX5_lossOf_50 σ bf sd x3 x4 z0 2) else (fX5_lossOf_50 σ bf sd x3 x4 z0 1)))
set_option maxHeartbeats 4000000 in
set_option maxRecDepth 100000 in
theorem wX5_lossOf_22 {p : Program} {l : Launch} {e : Env} {s : State} {m : MethodId} {args : Array Value} {below : List Frame} {meth : Method} {c : Code} {g : hj_G} {ad : Nat → Nat} (hI : hj_I 73 ad) (C : hj_C p s m args meth c cX5_lossOf RX5 wsX5_lossOf 7 (some .int)) (hK : hj_K g s) {σ : Nat → hj_Ob} {bf : Nat → Nat} {sd : Int64} {x1 : Int32} {x3 : Int32} {x4 : Int32} {z0 : Int32} {rF : Int32}
    (hf : fX5_lossOf_22 σ bf sd x1 x3 x4 z0 = some rF) {H : Heap} {locs : List Loc} {ls : Array Slot} (hP : hj_P g 73 ad (hj_wx g ad σ bf sd) H) (hS : hj_S 73 ad s H locs) (hl : lv_has ls 7 [(0, .ref (ad 0)), (1, .int x1), (3, .int x3), (4, .int x4)]) :
    W p l e rmX5_lossOf s m args below meth c H locs 0 0 (MQ below (hj_QI g 73 ad (hj_wx g ad σ bf sd) rF s.heap.size) args s 0 0 (hj_A 73 ad s.heap.size)) (F0 m 22 ls [.int z0]) := by
  obtain ⟨hx, hb, hr, hml, hown, hts, hlocks⟩ := id C
  unfold fX5_lossOf_22 at hf
  refine lv_istore (lv' := [(5, .int z0), (0, .ref (ad 0)), (1, .int x1), (3, .int x3), (4, .int x4)]) hx hb dX5_lossOf_22 hl (by decide) rfl (fun ls hl => ?_)
  refine lv_aload_n hx hb dX5_lossOf_24 rfl (lv_at hl 1 rfl) ?_
  refine lv_iload_n hx hb dX5_lossOf_25 rfl (lv_at hl 2 rfl) ?_
  obtain ⟨r2, hc, hf⟩ := hj_o1_s hf
  refine hj_callVi (nL := 7) (As := [.int x1]) (rest := []) (i0 := 0) (C := RX5) (T := TX5) (N := 10) (ci := 5) ⟨hx, hb, hml, hown, hts⟩ (ctX5_isJuror l g hI hc) (cwV 1 hts gX5_lossOf_X5_isJuror rfl rfl rfl (by decide +kernel) ⟨Nat.le_of_ble_eq_true rfl, Nat.le_of_ble_eq_true rfl⟩) hj_Xb0 (fun _ _ _ => trivial) hK hP hS (by decide) wx_at_h rfl rfl hl.1 rfl (Nat.le_of_ble_eq_true rfl) dX5_lossOf_26 (fun H locs hP hS => ?_)
  refine lv_if_eq (tgt := 49) hx hb dX5_lossOf_29 (by decide) (fun c3 => ?_) (fun c3 => ?_)
  · rw [if_pos c3] at hf
    refine lv_iconst (v := 1) hx hb dX5_lossOf_49 (by decide) ?_
    exact wX5_lossOf_50 hI C hK  hf hP hS (lv_sub hl [3, 4, 0] rfl)
  · rw [if_neg c3] at hf
    refine lv_aload_n hx hb dX5_lossOf_32 rfl (lv_at hl 1 rfl) ?_
    refine hj_get (ci := 5) (v := .ref (ad 3)) (C := RX5) (T := TX5) (N := 10) hx hb hts iX5_lossOf_X5 hown hK hP (by decide) wx_at_h rfl 1 (by decide) mX5_lossOf_1 rfl dX5_lossOf_33 ?_
    refine hj_get (ci := 1) (v := .ref (ad (3 + 2))) (C := RX1) (T := TX1) (N := 6) hx hb hts iX5_lossOf_X1 hown hK hP (by decide) (wx_at_b (Or.inl rfl) rfl) rfl 1 (by decide) mX5_lossOf_2 rfl dX5_lossOf_36 ?_
    refine lv_iload_n hx hb dX5_lossOf_39 rfl (lv_at hl 2 rfl) ?_
    obtain ⟨hk5, hf⟩ := hj_ck_s hf
    refine hj_ial (f := (σ 3).2 1) hx hb hK hP (by decide) (wx_at_ba 1 (Or.inl rfl) (by decide) rfl) hk5 dX5_lossOf_40 ?_
    refine lv_iconst (v := 1) hx hb dX5_lossOf_41 (by decide) ?_
    refine lv_icmp_ne (tgt := 49) hx hb dX5_lossOf_42 (by decide) (fun c6 => ?_) (fun c6 => ?_)
    · rw [if_neg c6] at hf
      refine lv_iconst (v := 1) hx hb dX5_lossOf_49 (by decide) ?_
      exact wX5_lossOf_50 hI C hK  hf hP hS (lv_sub hl [3, 4, 0] rfl)
    · rw [if_pos c6] at hf
      refine lv_iconst (v := 2) hx hb dX5_lossOf_45 (by decide) ?_
      refine lv_goto (tgt := 50) hx hb dX5_lossOf_46 (by decide) ?_
      exact wX5_lossOf_50 hI C hK  hf hP hS (lv_sub hl [3, 4, 0] rfl)
def fX5_lossOf (σ : Nat → hj_Ob) (bf : Nat → Nat) (sd : Int64) (x1 : Int32) (x2 : Int32) (x3 : Int32) (x4 : Int32) : Option Int32 :=
  if x3 < x4 then (fX5_lossOf_22 σ bf sd x1 x3 x4 1) else (if x3 = x4 then (if x2 ≤ x1 then (fX5_lossOf_22 σ bf sd x1 x3 x4 0) else (fX5_lossOf_22 σ bf sd x1 x3 x4 1)) else (fX5_lossOf_22 σ bf sd x1 x3 x4 0))
set_option maxHeartbeats 4000000 in
set_option maxRecDepth 100000 in
theorem wX5_lossOf {p : Program} {l : Launch} {e : Env} {s : State} {m : MethodId} {args : Array Value} {below : List Frame} {meth : Method} {c : Code} {g : hj_G} {ad : Nat → Nat} (hI : hj_I 73 ad) (C : hj_C p s m args meth c cX5_lossOf RX5 wsX5_lossOf 7 (some .int)) (hK : hj_K g s) {σ : Nat → hj_Ob} {bf : Nat → Nat} {sd : Int64} {x1 : Int32} {x2 : Int32} {x3 : Int32} {x4 : Int32} {rF : Int32}
    (hf : fX5_lossOf σ bf sd x1 x2 x3 x4 = some rF) {H : Heap} {locs : List Loc} {ls : Array Slot} (hP : hj_P g 73 ad (hj_wx g ad σ bf sd) H) (hS : hj_S 73 ad s H locs) (hl : lv_has ls 7 [(0, .ref (ad 0)), (1, .int x1), (2, .int x2), (3, .int x3), (4, .int x4)]) :
    W p l e rmX5_lossOf s m args below meth c H locs 0 0 (MQ below (hj_QI g 73 ad (hj_wx g ad σ bf sd) rF s.heap.size) args s 0 0 (hj_A 73 ad s.heap.size)) (F0 m 0 ls []) := by
  obtain ⟨hx, hb, hr, hml, hown, hts, hlocks⟩ := id C
  unfold fX5_lossOf at hf
  refine lv_iload_n hx hb dX5_lossOf_0 rfl (lv_at hl 3 rfl) ?_
  refine lv_iload hx hb dX5_lossOf_1 (lv_at hl 4 rfl) ?_
  refine lv_icmp_lt (tgt := 17) hx hb dX5_lossOf_3 (by decide) (fun c1 => ?_) (fun c1 => ?_)
  · rw [if_pos c1] at hf
    refine lv_iconst (v := 1) hx hb dX5_lossOf_17 (by decide) ?_
    refine lv_goto (tgt := 22) hx hb dX5_lossOf_18 (by decide) ?_
    exact wX5_lossOf_22 hI C hK  hf hP hS (lv_sub hl [0, 1, 3, 4] rfl)
  · rw [if_neg c1] at hf
    refine lv_iload_n hx hb dX5_lossOf_6 rfl (lv_at hl 3 rfl) ?_
    refine lv_iload hx hb dX5_lossOf_7 (lv_at hl 4 rfl) ?_
    refine lv_icmp_ne (tgt := 21) hx hb dX5_lossOf_9 (by decide) (fun c7 => ?_) (fun c7 => ?_)
    · rw [if_neg c7] at hf
      refine lv_iconst (v := 0) hx hb dX5_lossOf_21 (by decide) ?_
      exact wX5_lossOf_22 hI C hK  hf hP hS (lv_sub hl [0, 1, 3, 4] rfl)
    · rw [if_pos c7] at hf
      refine lv_iload_n hx hb dX5_lossOf_12 rfl (lv_at hl 1 rfl) ?_
      refine lv_iload_n hx hb dX5_lossOf_13 rfl (lv_at hl 2 rfl) ?_
      refine lv_icmp_ge (tgt := 21) hx hb dX5_lossOf_14 (by decide) (fun c8 => ?_) (fun c8 => ?_)
      · rw [if_pos c8] at hf
        refine lv_iconst (v := 0) hx hb dX5_lossOf_21 (by decide) ?_
        exact wX5_lossOf_22 hI C hK  hf hP hS (lv_sub hl [0, 1, 3, 4] rfl)
      · rw [if_neg c8] at hf
        refine lv_iconst (v := 1) hx hb dX5_lossOf_17 (by decide) ?_
        refine lv_goto (tgt := 22) hx hb dX5_lossOf_18 (by decide) ?_
        exact wX5_lossOf_22 hI C hK  hf hP hS (lv_sub hl [0, 1, 3, 4] rfl)
set_option maxHeartbeats 4000000 in
set_option maxRecDepth 100000 in
theorem ctX5_lossOf (l : Launch) (g : hj_G) {ad : Nat → Nat} (hI : hj_I 73 ad) {σ : Nat → hj_Ob} {bf : Nat → Nat} {sd : Int64} {x1 : Int32} {x2 : Int32} {x3 : Int32} {x4 : Int32} {rF : Int32} (hf : fX5_lossOf σ bf sd x1 x2 x3 x4 = some rF) :
    hj_MI l yX5_lossOf wsX5_lossOf rmX5_lossOf g 73 ad hj_X0 [.ref (ad 0), .int x1, .int x2, .int x3, .int x4] (hj_wx g ad σ bf sd) rF (hj_wx g ad σ bf sd) := by
  refine hj_ofI (cc := cX5_lossOf) (maxL := 7) (ret := (some .int)) (by decide) rfl (Nat.le_of_ble_eq_true rfl) ?_
  intro p e s m args below meth c ls C hP hK hX hl
  exact wX5_lossOf hI C hK hf hP va_S.rf hl

/-! X5_isBestWait -/
abbrev rmX5_isBestWait : Room := { frames := 2, cells := 0, slots := 0, locals := 50 }
def fX5_isBestWait_14 (σ : Nat → hj_Ob) (bf : Nat → Nat) (sd : Int64) (x1 : Int32) (x2 : Int32) (x4 : Int32) (x5 : Int32) (x6 : Int32) : Option ((Int32 ⊕ Unit) ⊕ Int32) :=
  if 4 < x6 then (some (.inl (.inr ()))) else (hj_o1 (fX5_lossOf σ bf sd x1 x2 x6 x4) fun r3 => if x5 ≤ r3 then (hj_nm (x6 + 1) fun y5 => some (.inr y5)) else (some (.inl (.inl 0))))
set_option maxHeartbeats 4000000 in
set_option maxRecDepth 100000 in
theorem wX5_isBestWait_14b {p : Program} {l : Launch} {e : Env} {s : State} {m : MethodId} {args : Array Value} {below : List Frame} {meth : Method} {c : Code} {g : hj_G} {ad : Nat → Nat} (hI : hj_I 73 ad) (C : hj_C p s m args meth c cX5_isBestWait RX5 wsX5_isBestWait 7 (some .boolean)) (hK : hj_K g s) {σ : Nat → hj_Ob} {bf : Nat → Nat} {sd : Int64} {x1 : Int32} {x2 : Int32} {x4 : Int32} {x5 : Int32} {x6 : Int32} {y : (Int32 ⊕ Unit) ⊕ Int32} {rF : Int32}
    (hf : fX5_isBestWait_14 σ bf sd x1 x2 x4 x5 x6 = some y) (KR : ∀ r, y = .inl (.inl r) → r = rF) (KX : y = .inl (.inr ()) → ∀ (H : Heap) (locs : List Loc) (ls : Array Slot), hj_P g 73 ad (hj_wx g ad σ bf sd) H → hj_S 73 ad s H locs → lv_has ls 7 [] → W p l e rmX5_isBestWait s m args below meth c H locs 0 0 (MQ below (hj_QI g 73 ad (hj_wx g ad σ bf sd) rF s.heap.size) args s 0 0 (hj_A 73 ad s.heap.size)) (F0 m 43 ls [])) (KI : ∀ (v6 : Int32), y = .inr v6 → ∀ (H : Heap) (locs : List Loc) (ls : Array Slot), hj_P g 73 ad (hj_wx g ad σ bf sd) H → hj_S 73 ad s H locs → lv_has ls 7 [(0, .ref (ad 0)), (1, .int x1), (2, .int x2), (4, .int x4), (5, .int x5), (6, .int v6)] → W p l e rmX5_isBestWait s m args below meth c H locs 0 0 (MQ below (hj_QI g 73 ad (hj_wx g ad σ bf sd) rF s.heap.size) args s 0 0 (hj_A 73 ad s.heap.size)) (F0 m 14 ls [])) {H : Heap} {locs : List Loc} {ls : Array Slot} (hP : hj_P g 73 ad (hj_wx g ad σ bf sd) H) (hS : hj_S 73 ad s H locs) (hl : lv_has ls 7 [(0, .ref (ad 0)), (1, .int x1), (2, .int x2), (4, .int x4), (5, .int x5), (6, .int x6)]) :
    W p l e rmX5_isBestWait s m args below meth c H locs 0 0 (MQ below (hj_QI g 73 ad (hj_wx g ad σ bf sd) rF s.heap.size) args s 0 0 (hj_A 73 ad s.heap.size)) (F0 m 14 ls []) := by
  obtain ⟨hx, hb, hr, hml, hown, hts, hlocks⟩ := id C
  unfold fX5_isBestWait_14 at hf
  refine lv_iload hx hb dX5_isBestWait_14 (lv_at hl 5 rfl) ?_
  refine lv_iconst (v := 4) hx hb dX5_isBestWait_16 (by decide) ?_
  refine lv_icmp_gt (tgt := 43) hx hb dX5_isBestWait_17 (by decide) (fun c2 => ?_) (fun c2 => ?_)
  · rw [if_pos c2] at hf
    exact KX  (Option.some.inj hf).symm _ _ _ hP hS (lv_sub hl [] rfl)
  · rw [if_neg c2] at hf
    refine lv_aload_n hx hb dX5_isBestWait_20 rfl (lv_at hl 0 rfl) ?_
    refine lv_iload_n hx hb dX5_isBestWait_21 rfl (lv_at hl 1 rfl) ?_
    refine lv_iload_n hx hb dX5_isBestWait_22 rfl (lv_at hl 2 rfl) ?_
    refine lv_iload hx hb dX5_isBestWait_23 (lv_at hl 5 rfl) ?_
    refine lv_iload hx hb dX5_isBestWait_25 (lv_at hl 3 rfl) ?_
    obtain ⟨r3, hc, hf⟩ := hj_o1_s hf
    refine hj_callVi (nL := 7) (As := [.int x1, .int x2, .int x6, .int x4]) (rest := []) (i0 := 0) (C := RX5) (T := TX5) (N := 10) (ci := 5) ⟨hx, hb, hml, hown, hts⟩ (ctX5_lossOf l g hI hc) (cwV 4 hts gX5_isBestWait_X5_lossOf rfl rfl rfl (by decide +kernel) ⟨Nat.le_of_ble_eq_true rfl, Nat.le_of_ble_eq_true rfl⟩) hj_Xb0 (fun _ _ _ => trivial) hK hP hS (by decide) wx_at_h rfl rfl hl.1 rfl (Nat.le_of_ble_eq_true rfl) dX5_isBestWait_27 (fun H locs hP hS => ?_)
    refine lv_iload hx hb dX5_isBestWait_30 (lv_at hl 4 rfl) ?_
    refine lv_icmp_ge (tgt := 37) hx hb dX5_isBestWait_32 (by decide) (fun c4 => ?_) (fun c4 => ?_)
    · rw [if_pos c4] at hf
      obtain ⟨y5, ey5⟩ : ∃ z : Int32, z = x6 + 1 := ⟨_, rfl⟩
      replace hf := hj_nm_y hf ey5
      refine lv_iinc (v := y5) (lv' := [(6, .int y5), (0, .ref (ad 0)), (1, .int x1), (2, .int x2), (4, .int x4), (5, .int x5)]) hx hb dX5_isBestWait_37 hl (k := 5) rfl (by rw [ey5]; rfl) (by decide) rfl (fun ls hl => ?_)
      refine lv_goto (tgt := 14) hx hb dX5_isBestWait_40 (by decide) ?_
      exact KI _ (Option.some.inj hf).symm _ _ _ hP hS (lv_sub hl [1, 2, 3, 4, 5, 0] rfl)
    · rw [if_neg c4] at hf
      refine lv_iconst (v := 0) hx hb dX5_isBestWait_35 (by decide) ?_
      have hq := KR _ (Option.some.inj hf).symm
      obtain rfl := hq
      exact hj_retz (Or.inl rfl)  C hP hK hS dX5_isBestWait_36
set_option maxHeartbeats 4000000 in
set_option maxRecDepth 100000 in
theorem wX5_isBestWait_14 {p : Program} {l : Launch} {e : Env} {s : State} {m : MethodId} {args : Array Value} {below : List Frame} {meth : Method} {c : Code} {g : hj_G} {ad : Nat → Nat} (hI : hj_I 73 ad) (C : hj_C p s m args meth c cX5_isBestWait RX5 wsX5_isBestWait 7 (some .boolean)) (hK : hj_K g s) {σ : Nat → hj_Ob} {bf : Nat → Nat} {sd : Int64} {x1 : Int32} {x2 : Int32} {x4 : Int32} {x5 : Int32} {rF : Int32} {ex : (Int32 ⊕ Unit)} :
    ∀ (fu : Nat) (x6 : Int32), hj_lp (fun q : Int32 => fX5_isBestWait_14 σ bf sd x1 x2 x4 x5 q) fu x6 = some ex → (∀ r, ex = .inl r → r = rF) → (ex = .inr () → ∀ (H : Heap) (locs : List Loc) (ls : Array Slot), hj_P g 73 ad (hj_wx g ad σ bf sd) H → hj_S 73 ad s H locs → lv_has ls 7 [] → W p l e rmX5_isBestWait s m args below meth c H locs 0 0 (MQ below (hj_QI g 73 ad (hj_wx g ad σ bf sd) rF s.heap.size) args s 0 0 (hj_A 73 ad s.heap.size)) (F0 m 43 ls [])) → ∀ (H : Heap) (locs : List Loc) (ls : Array Slot), hj_P g 73 ad (hj_wx g ad σ bf sd) H → hj_S 73 ad s H locs → lv_has ls 7 [(0, .ref (ad 0)), (1, .int x1), (2, .int x2), (4, .int x4), (5, .int x5), (6, .int x6)] →
    W p l e rmX5_isBestWait s m args below meth c H locs 0 0 (MQ below (hj_QI g 73 ad (hj_wx g ad σ bf sd) rF s.heap.size) args s 0 0 (hj_A 73 ad s.heap.size)) (F0 m 14 ls []) := by
  intro fu
  induction fu with
  | zero => intro x6 hq; cases hq
  | succ fu ih =>
    intro x6 hq KR KX H locs ls hP hS hl
    obtain ⟨y, hy, h1, h2⟩ := hj_lp_s hq
    exact wX5_isBestWait_14b hI C hK  hy (fun r hr => KR r (h1 _ hr).symm) (fun  hv => KX  (h1 _ hv).symm) (fun v6 hv H locs ls hP hS hl => ih v6 (h2 _ hv) KR KX H locs ls hP hS hl) hP hS hl
def fX5_isBestWait (σ : Nat → hj_Ob) (bf : Nat → Nat) (sd : Int64) (x1 : Int32) (x2 : Int32) (x3 : Int32) (x4 : Int32) : Option Int32 :=
  hj_o1 (fX5_lossOf σ bf sd x1 x2 x3 x4) fun r1 => hj_oe (fun r => r) (hj_lp (fun q : Int32 => fX5_isBestWait_14 σ bf sd x1 x2 x4 r1 q) 100 0) (fun ex6 => some 1)
set_option maxHeartbeats 4000000 in
set_option maxRecDepth 100000 in
theorem wX5_isBestWait {p : Program} {l : Launch} {e : Env} {s : State} {m : MethodId} {args : Array Value} {below : List Frame} {meth : Method} {c : Code} {g : hj_G} {ad : Nat → Nat} (hI : hj_I 73 ad) (C : hj_C p s m args meth c cX5_isBestWait RX5 wsX5_isBestWait 7 (some .boolean)) (hK : hj_K g s) {σ : Nat → hj_Ob} {bf : Nat → Nat} {sd : Int64} {x1 : Int32} {x2 : Int32} {x3 : Int32} {x4 : Int32} {rF : Int32}
    (hf : fX5_isBestWait σ bf sd x1 x2 x3 x4 = some rF) {H : Heap} {locs : List Loc} {ls : Array Slot} (hP : hj_P g 73 ad (hj_wx g ad σ bf sd) H) (hS : hj_S 73 ad s H locs) (hl : lv_has ls 7 [(0, .ref (ad 0)), (1, .int x1), (2, .int x2), (3, .int x3), (4, .int x4)]) :
    W p l e rmX5_isBestWait s m args below meth c H locs 0 0 (MQ below (hj_QI g 73 ad (hj_wx g ad σ bf sd) rF s.heap.size) args s 0 0 (hj_A 73 ad s.heap.size)) (F0 m 0 ls []) := by
  obtain ⟨hx, hb, hr, hml, hown, hts, hlocks⟩ := id C
  unfold fX5_isBestWait at hf
  refine lv_aload_n hx hb dX5_isBestWait_0 rfl (lv_at hl 0 rfl) ?_
  refine lv_iload_n hx hb dX5_isBestWait_1 rfl (lv_at hl 1 rfl) ?_
  refine lv_iload_n hx hb dX5_isBestWait_2 rfl (lv_at hl 2 rfl) ?_
  refine lv_iload_n hx hb dX5_isBestWait_3 rfl (lv_at hl 3 rfl) ?_
  refine lv_iload hx hb dX5_isBestWait_4 (lv_at hl 4 rfl) ?_
  obtain ⟨r1, hc, hf⟩ := hj_o1_s hf
  refine hj_callVi (nL := 7) (As := [.int x1, .int x2, .int x3, .int x4]) (rest := []) (i0 := 0) (C := RX5) (T := TX5) (N := 10) (ci := 5) ⟨hx, hb, hml, hown, hts⟩ (ctX5_lossOf l g hI hc) (cwV 4 hts gX5_isBestWait_X5_lossOf rfl rfl rfl (by decide +kernel) ⟨Nat.le_of_ble_eq_true rfl, Nat.le_of_ble_eq_true rfl⟩) hj_Xb0 (fun _ _ _ => trivial) hK hP hS (by decide) wx_at_h rfl rfl hl.1 rfl (Nat.le_of_ble_eq_true rfl) dX5_isBestWait_6 (fun H locs hP hS => ?_)
  refine lv_istore (lv' := [(5, .int r1), (0, .ref (ad 0)), (1, .int x1), (2, .int x2), (3, .int x3), (4, .int x4)]) hx hb dX5_isBestWait_9 hl (by decide) rfl (fun ls hl => ?_)
  refine lv_iconst (v := 0) hx hb dX5_isBestWait_11 (by decide) ?_
  refine lv_istore (lv' := [(6, .int 0), (5, .int r1), (0, .ref (ad 0)), (1, .int x1), (2, .int x2), (3, .int x3), (4, .int x4)]) hx hb dX5_isBestWait_12 hl (by decide) rfl (fun ls hl => ?_)
  obtain ⟨exx, hlx, hlr, hfx⟩ := hj_oe_s hf
  refine wX5_isBestWait_14 hI C hK  100 0 hlx hlr (fun hxe H locs ls hP hS hl => ?_) H locs ls hP hS (lv_sub hl [2, 3, 4, 6, 1, 0] rfl)
  replace hf := hfx _ hxe
  refine lv_iconst (v := 1) hx hb dX5_isBestWait_43 (by decide) ?_
  have hq := Option.some.inj hf
  obtain rfl := hq
  exact hj_retz (Or.inr rfl)  C hP hK hS dX5_isBestWait_44
set_option maxHeartbeats 4000000 in
set_option maxRecDepth 100000 in
theorem ctX5_isBestWait (l : Launch) (g : hj_G) {ad : Nat → Nat} (hI : hj_I 73 ad) {σ : Nat → hj_Ob} {bf : Nat → Nat} {sd : Int64} {x1 : Int32} {x2 : Int32} {x3 : Int32} {x4 : Int32} {rF : Int32} (hf : fX5_isBestWait σ bf sd x1 x2 x3 x4 = some rF) :
    hj_MI l yX5_isBestWait wsX5_isBestWait rmX5_isBestWait g 73 ad hj_X0 [.ref (ad 0), .int x1, .int x2, .int x3, .int x4] (hj_wx g ad σ bf sd) rF (hj_wx g ad σ bf sd) := by
  refine hj_ofI (cc := cX5_isBestWait) (maxL := 7) (ret := (some .boolean)) (by decide) rfl (Nat.le_of_ble_eq_true rfl) ?_
  intro p e s m args below meth c ls C hP hK hX hl
  exact wX5_isBestWait hI C hK hf hP va_S.rf hl

/-! X5_rests -/
abbrev rmX5_rests : Room := { frames := 3, cells := 0, slots := 0, locals := 76 }
def fX5_rests_54 (σ : Nat → hj_Ob) (bf : Nat → Nat) (sd : Int64) (x1 : Int32) (x2 : Int32) (x3 : Int32) (x4 : Int32) (x5 : Int32) (x6 : Int32) (x7 : Int32) : Option ((Int32 × Int32) ⊕ (Int32 × Int32 × Int32)) :=
  if 4 < x7 then (some (.inl (x4, x5))) else (hj_o1 (fX5_isBestWait σ bf sd x1 x2 x6 x7) fun r10 => if r10 = 0 then (hj_nm (x7 + 1) fun y12 => some (.inr (x4, x5, y12))) else (hj_o1 (fX5_isBestWait σ bf sd x2 x1 x7 x6) fun r13 => if r13 = 0 then (hj_nm (x7 + 1) fun y15 => some (.inr (x4, x5, y15))) else (hj_nm (x4 + 1) fun y16 => if x5 = (-9) then (hj_nm ((10 * x6) + x7) fun y19 => hj_nm (x7 + 1) fun y20 => some (.inr (y16, y19, y20))) else (hj_nm (x7 + 1) fun y18 => some (.inr (y16, x5, y18))))))
set_option maxHeartbeats 4000000 in
set_option maxRecDepth 100000 in
theorem wX5_rests_54b {p : Program} {l : Launch} {e : Env} {s : State} {m : MethodId} {args : Array Value} {below : List Frame} {meth : Method} {c : Code} {g : hj_G} {ad : Nat → Nat} (hI : hj_I 73 ad) (C : hj_C p s m args meth c cX5_rests RX5 wsX5_rests 8 (some .int)) (hK : hj_K g s) {σ : Nat → hj_Ob} {bf : Nat → Nat} {sd : Int64} {x1 : Int32} {x2 : Int32} {x3 : Int32} {x4 : Int32} {x5 : Int32} {x6 : Int32} {x7 : Int32} {y : (Int32 × Int32) ⊕ (Int32 × Int32 × Int32)} {rF : Int32}
    (hf : fX5_rests_54 σ bf sd x1 x2 x3 x4 x5 x6 x7 = some y) (KX : ∀ (v4 : Int32) (v5 : Int32), y = .inl (v4, v5) → ∀ (H : Heap) (locs : List Loc) (ls : Array Slot), hj_P g 73 ad (hj_wx g ad σ bf sd) H → hj_S 73 ad s H locs → lv_has ls 8 [(0, .ref (ad 0)), (1, .int x1), (2, .int x2), (3, .int x3), (4, .int v4), (5, .int v5), (6, .int x6)] → W p l e rmX5_rests s m args below meth c H locs 0 0 (MQ below (hj_QI g 73 ad (hj_wx g ad σ bf sd) rF s.heap.size) args s 0 0 (hj_A 73 ad s.heap.size)) (F0 m 117 ls [])) (KI : ∀ (v4 : Int32) (v5 : Int32) (v7 : Int32), y = .inr (v4, v5, v7) → ∀ (H : Heap) (locs : List Loc) (ls : Array Slot), hj_P g 73 ad (hj_wx g ad σ bf sd) H → hj_S 73 ad s H locs → lv_has ls 8 [(0, .ref (ad 0)), (1, .int x1), (2, .int x2), (3, .int x3), (4, .int v4), (5, .int v5), (6, .int x6), (7, .int v7)] → W p l e rmX5_rests s m args below meth c H locs 0 0 (MQ below (hj_QI g 73 ad (hj_wx g ad σ bf sd) rF s.heap.size) args s 0 0 (hj_A 73 ad s.heap.size)) (F0 m 54 ls [])) {H : Heap} {locs : List Loc} {ls : Array Slot} (hP : hj_P g 73 ad (hj_wx g ad σ bf sd) H) (hS : hj_S 73 ad s H locs) (hl : lv_has ls 8 [(0, .ref (ad 0)), (1, .int x1), (2, .int x2), (3, .int x3), (4, .int x4), (5, .int x5), (6, .int x6), (7, .int x7)]) :
    W p l e rmX5_rests s m args below meth c H locs 0 0 (MQ below (hj_QI g 73 ad (hj_wx g ad σ bf sd) rF s.heap.size) args s 0 0 (hj_A 73 ad s.heap.size)) (F0 m 54 ls []) := by
  obtain ⟨hx, hb, hr, hml, hown, hts, hlocks⟩ := id C
  unfold fX5_rests_54 at hf
  refine lv_iload hx hb dX5_rests_54 (lv_at hl 7 rfl) ?_
  refine lv_iconst (v := 4) hx hb dX5_rests_56 (by decide) ?_
  refine lv_icmp_gt (tgt := 117) hx hb dX5_rests_57 (by decide) (fun c9 => ?_) (fun c9 => ?_)
  · rw [if_pos c9] at hf
    exact KX _ _ (Option.some.inj hf).symm _ _ _ hP hS (lv_sub hl [0, 1, 2, 3, 4, 5, 6] rfl)
  · rw [if_neg c9] at hf
    refine lv_aload_n hx hb dX5_rests_60 rfl (lv_at hl 0 rfl) ?_
    refine lv_iload_n hx hb dX5_rests_61 rfl (lv_at hl 1 rfl) ?_
    refine lv_iload_n hx hb dX5_rests_62 rfl (lv_at hl 2 rfl) ?_
    refine lv_iload hx hb dX5_rests_63 (lv_at hl 6 rfl) ?_
    refine lv_iload hx hb dX5_rests_65 (lv_at hl 7 rfl) ?_
    obtain ⟨r10, hc, hf⟩ := hj_o1_s hf
    refine hj_callVi (nL := 8) (As := [.int x1, .int x2, .int x6, .int x7]) (rest := []) (i0 := 0) (C := RX5) (T := TX5) (N := 10) (ci := 5) ⟨hx, hb, hml, hown, hts⟩ (ctX5_isBestWait l g hI hc) (cwV 4 hts gX5_rests_X5_isBestWait rfl rfl rfl (by decide +kernel) ⟨Nat.le_of_ble_eq_true rfl, Nat.le_of_ble_eq_true rfl⟩) hj_Xb0 (fun _ _ _ => trivial) hK hP hS (by decide) wx_at_h rfl rfl hl.1 rfl (Nat.le_of_ble_eq_true rfl) dX5_rests_67 (fun H locs hP hS => ?_)
    refine lv_if_eq (tgt := 111) hx hb dX5_rests_70 (by decide) (fun c11 => ?_) (fun c11 => ?_)
    · rw [if_pos c11] at hf
      obtain ⟨y12, ey12⟩ : ∃ z : Int32, z = x7 + 1 := ⟨_, rfl⟩
      replace hf := hj_nm_y hf ey12
      refine lv_iinc (v := y12) (lv' := [(7, .int y12), (0, .ref (ad 0)), (1, .int x1), (2, .int x2), (3, .int x3), (4, .int x4), (5, .int x5), (6, .int x6)]) hx hb dX5_rests_111 hl (k := 7) rfl (by rw [ey12]; rfl) (by decide) rfl (fun ls hl => ?_)
      refine lv_goto (tgt := 54) hx hb dX5_rests_114 (by decide) ?_
      exact KI _ _ _ (Option.some.inj hf).symm _ _ _ hP hS (lv_sub hl [1, 2, 3, 4, 5, 6, 7, 0] rfl)
    · rw [if_neg c11] at hf
      refine lv_aload_n hx hb dX5_rests_73 rfl (lv_at hl 0 rfl) ?_
      refine lv_iload_n hx hb dX5_rests_74 rfl (lv_at hl 2 rfl) ?_
      refine lv_iload_n hx hb dX5_rests_75 rfl (lv_at hl 1 rfl) ?_
      refine lv_iload hx hb dX5_rests_76 (lv_at hl 7 rfl) ?_
      refine lv_iload hx hb dX5_rests_78 (lv_at hl 6 rfl) ?_
      obtain ⟨r13, hc, hf⟩ := hj_o1_s hf
      refine hj_callVi (nL := 8) (As := [.int x2, .int x1, .int x7, .int x6]) (rest := []) (i0 := 0) (C := RX5) (T := TX5) (N := 10) (ci := 5) ⟨hx, hb, hml, hown, hts⟩ (ctX5_isBestWait l g hI hc) (cwV 4 hts gX5_rests_X5_isBestWait rfl rfl rfl (by decide +kernel) ⟨Nat.le_of_ble_eq_true rfl, Nat.le_of_ble_eq_true rfl⟩) hj_Xb0 (fun _ _ _ => trivial) hK hP hS (by decide) wx_at_h rfl rfl hl.1 rfl (Nat.le_of_ble_eq_true rfl) dX5_rests_80 (fun H locs hP hS => ?_)
      refine lv_if_eq (tgt := 111) hx hb dX5_rests_83 (by decide) (fun c14 => ?_) (fun c14 => ?_)
      · rw [if_pos c14] at hf
        obtain ⟨y15, ey15⟩ : ∃ z : Int32, z = x7 + 1 := ⟨_, rfl⟩
        replace hf := hj_nm_y hf ey15
        refine lv_iinc (v := y15) (lv' := [(7, .int y15), (0, .ref (ad 0)), (1, .int x1), (2, .int x2), (3, .int x3), (4, .int x4), (5, .int x5), (6, .int x6)]) hx hb dX5_rests_111 hl (k := 7) rfl (by rw [ey15]; rfl) (by decide) rfl (fun ls hl => ?_)
        refine lv_goto (tgt := 54) hx hb dX5_rests_114 (by decide) ?_
        exact KI _ _ _ (Option.some.inj hf).symm _ _ _ hP hS (lv_sub hl [1, 2, 3, 4, 5, 6, 7, 0] rfl)
      · rw [if_neg c14] at hf
        obtain ⟨y16, ey16⟩ : ∃ z : Int32, z = x4 + 1 := ⟨_, rfl⟩
        replace hf := hj_nm_y hf ey16
        refine lv_iinc (v := y16) (lv' := [(4, .int y16), (0, .ref (ad 0)), (1, .int x1), (2, .int x2), (3, .int x3), (5, .int x5), (6, .int x6), (7, .int x7)]) hx hb dX5_rests_86 hl (k := 4) rfl (by rw [ey16]; rfl) (by decide) rfl (fun ls hl => ?_)
        refine lv_iload hx hb dX5_rests_89 (lv_at hl 5 rfl) ?_
        refine lv_bipush (v := (-9)) hx hb dX5_rests_91 (by decide) ?_
        refine lv_icmp_ne (tgt := 107) hx hb dX5_rests_93 (by decide) (fun c17 => ?_) (fun c17 => ?_)
        · rw [if_neg c17] at hf
          refine lv_iload hx hb dX5_rests_107 (lv_at hl 5 rfl) ?_
          refine lv_istore (lv' := [(5, .int x5), (4, .int y16), (0, .ref (ad 0)), (1, .int x1), (2, .int x2), (3, .int x3), (6, .int x6), (7, .int x7)]) hx hb dX5_rests_109 hl (by decide) rfl (fun ls hl => ?_)
          obtain ⟨y18, ey18⟩ : ∃ z : Int32, z = x7 + 1 := ⟨_, rfl⟩
          replace hf := hj_nm_y hf ey18
          refine lv_iinc (v := y18) (lv' := [(7, .int y18), (5, .int x5), (4, .int y16), (0, .ref (ad 0)), (1, .int x1), (2, .int x2), (3, .int x3), (6, .int x6)]) hx hb dX5_rests_111 hl (k := 7) rfl (by rw [ey18]; rfl) (by decide) rfl (fun ls hl => ?_)
          refine lv_goto (tgt := 54) hx hb dX5_rests_114 (by decide) ?_
          exact KI _ _ _ (Option.some.inj hf).symm _ _ _ hP hS (lv_sub hl [3, 4, 5, 6, 2, 1, 7, 0] rfl)
        · rw [if_pos c17] at hf
          refine lv_bipush (v := 10) hx hb dX5_rests_96 (by decide) ?_
          refine lv_iload hx hb dX5_rests_98 (lv_at hl 6 rfl) ?_
          refine lv_imul hx hb dX5_rests_100 ?_
          refine lv_iload hx hb dX5_rests_101 (lv_at hl 7 rfl) ?_
          refine lv_iadd hx hb dX5_rests_103 ?_
          refine lv_goto (tgt := 109) hx hb dX5_rests_104 (by decide) ?_
          refine lv_topi (fun y19 ey19 => ?_)
          replace hf := hj_nm_y hf ey19
          refine lv_istore (lv' := [(5, .int y19), (4, .int y16), (0, .ref (ad 0)), (1, .int x1), (2, .int x2), (3, .int x3), (6, .int x6), (7, .int x7)]) hx hb dX5_rests_109 hl (by decide) rfl (fun ls hl => ?_)
          obtain ⟨y20, ey20⟩ : ∃ z : Int32, z = x7 + 1 := ⟨_, rfl⟩
          replace hf := hj_nm_y hf ey20
          refine lv_iinc (v := y20) (lv' := [(7, .int y20), (5, .int y19), (4, .int y16), (0, .ref (ad 0)), (1, .int x1), (2, .int x2), (3, .int x3), (6, .int x6)]) hx hb dX5_rests_111 hl (k := 7) rfl (by rw [ey20]; rfl) (by decide) rfl (fun ls hl => ?_)
          refine lv_goto (tgt := 54) hx hb dX5_rests_114 (by decide) ?_
          exact KI _ _ _ (Option.some.inj hf).symm _ _ _ hP hS (lv_sub hl [3, 4, 5, 6, 2, 1, 7, 0] rfl)
set_option maxHeartbeats 4000000 in
set_option maxRecDepth 100000 in
theorem wX5_rests_54 {p : Program} {l : Launch} {e : Env} {s : State} {m : MethodId} {args : Array Value} {below : List Frame} {meth : Method} {c : Code} {g : hj_G} {ad : Nat → Nat} (hI : hj_I 73 ad) (C : hj_C p s m args meth c cX5_rests RX5 wsX5_rests 8 (some .int)) (hK : hj_K g s) {σ : Nat → hj_Ob} {bf : Nat → Nat} {sd : Int64} {x1 : Int32} {x2 : Int32} {x3 : Int32} {x6 : Int32} {rF : Int32} {e4 : Int32} {e5 : Int32} :
    ∀ (fu : Nat) (x4 : Int32) (x5 : Int32) (x7 : Int32), hj_lp (fun q : (Int32 × Int32 × Int32) => fX5_rests_54 σ bf sd x1 x2 x3 q.1 q.2.1 x6 q.2.2) fu (x4, x5, x7) = some (e4, e5) → (∀ (H : Heap) (locs : List Loc) (ls : Array Slot), hj_P g 73 ad (hj_wx g ad σ bf sd) H → hj_S 73 ad s H locs → lv_has ls 8 [(0, .ref (ad 0)), (1, .int x1), (2, .int x2), (3, .int x3), (4, .int e4), (5, .int e5), (6, .int x6)] → W p l e rmX5_rests s m args below meth c H locs 0 0 (MQ below (hj_QI g 73 ad (hj_wx g ad σ bf sd) rF s.heap.size) args s 0 0 (hj_A 73 ad s.heap.size)) (F0 m 117 ls [])) → ∀ (H : Heap) (locs : List Loc) (ls : Array Slot), hj_P g 73 ad (hj_wx g ad σ bf sd) H → hj_S 73 ad s H locs → lv_has ls 8 [(0, .ref (ad 0)), (1, .int x1), (2, .int x2), (3, .int x3), (4, .int x4), (5, .int x5), (6, .int x6), (7, .int x7)] →
    W p l e rmX5_rests s m args below meth c H locs 0 0 (MQ below (hj_QI g 73 ad (hj_wx g ad σ bf sd) rF s.heap.size) args s 0 0 (hj_A 73 ad s.heap.size)) (F0 m 54 ls []) := by
  intro fu
  induction fu with
  | zero => intro x4 x5 x7 hq; cases hq
  | succ fu ih =>
    intro x4 x5 x7 hq KX H locs ls hP hS hl
    obtain ⟨y, hy, h1, h2⟩ := hj_lp_s hq
    exact wX5_rests_54b hI C hK  hy (fun v4 v5 hv H locs ls hP hS hl => by have hw := h1 _ hv; obtain ⟨rfl, rfl⟩ := Prod.mk.inj hw; exact KX H locs ls hP hS hl) (fun v4 v5 v7 hv H locs ls hP hS hl => ih v4 v5 v7 (h2 _ hv) KX H locs ls hP hS hl) hP hS hl
def fX5_rests_45 (σ : Nat → hj_Ob) (bf : Nat → Nat) (sd : Int64) (x1 : Int32) (x2 : Int32) (x3 : Int32) (x4 : Int32) (x5 : Int32) (x6 : Int32) : Option ((Int32 × Int32) ⊕ (Int32 × Int32 × Int32)) :=
  if 4 < x6 then (some (.inl (x4, x5))) else (hj_o2 (hj_lp (fun q : (Int32 × Int32 × Int32) => fX5_rests_54 σ bf sd x1 x2 x3 q.1 q.2.1 x6 q.2.2) 100 (x4, x5, 0)) fun e21 e22 => (hj_nm (x6 + 1) fun y23 => some (.inr (e21, e22, y23))))
set_option maxHeartbeats 4000000 in
set_option maxRecDepth 100000 in
theorem wX5_rests_45b {p : Program} {l : Launch} {e : Env} {s : State} {m : MethodId} {args : Array Value} {below : List Frame} {meth : Method} {c : Code} {g : hj_G} {ad : Nat → Nat} (hI : hj_I 73 ad) (C : hj_C p s m args meth c cX5_rests RX5 wsX5_rests 8 (some .int)) (hK : hj_K g s) {σ : Nat → hj_Ob} {bf : Nat → Nat} {sd : Int64} {x1 : Int32} {x2 : Int32} {x3 : Int32} {x4 : Int32} {x5 : Int32} {x6 : Int32} {y : (Int32 × Int32) ⊕ (Int32 × Int32 × Int32)} {rF : Int32}
    (hf : fX5_rests_45 σ bf sd x1 x2 x3 x4 x5 x6 = some y) (KX : ∀ (v4 : Int32) (v5 : Int32), y = .inl (v4, v5) → ∀ (H : Heap) (locs : List Loc) (ls : Array Slot), hj_P g 73 ad (hj_wx g ad σ bf sd) H → hj_S 73 ad s H locs → lv_has ls 8 [(3, .int x3), (4, .int v4), (5, .int v5)] → W p l e rmX5_rests s m args below meth c H locs 0 0 (MQ below (hj_QI g 73 ad (hj_wx g ad σ bf sd) rF s.heap.size) args s 0 0 (hj_A 73 ad s.heap.size)) (F0 m 123 ls [])) (KI : ∀ (v4 : Int32) (v5 : Int32) (v6 : Int32), y = .inr (v4, v5, v6) → ∀ (H : Heap) (locs : List Loc) (ls : Array Slot), hj_P g 73 ad (hj_wx g ad σ bf sd) H → hj_S 73 ad s H locs → lv_has ls 8 [(0, .ref (ad 0)), (1, .int x1), (2, .int x2), (3, .int x3), (4, .int v4), (5, .int v5), (6, .int v6)] → W p l e rmX5_rests s m args below meth c H locs 0 0 (MQ below (hj_QI g 73 ad (hj_wx g ad σ bf sd) rF s.heap.size) args s 0 0 (hj_A 73 ad s.heap.size)) (F0 m 45 ls [])) {H : Heap} {locs : List Loc} {ls : Array Slot} (hP : hj_P g 73 ad (hj_wx g ad σ bf sd) H) (hS : hj_S 73 ad s H locs) (hl : lv_has ls 8 [(0, .ref (ad 0)), (1, .int x1), (2, .int x2), (3, .int x3), (4, .int x4), (5, .int x5), (6, .int x6)]) :
    W p l e rmX5_rests s m args below meth c H locs 0 0 (MQ below (hj_QI g 73 ad (hj_wx g ad σ bf sd) rF s.heap.size) args s 0 0 (hj_A 73 ad s.heap.size)) (F0 m 45 ls []) := by
  obtain ⟨hx, hb, hr, hml, hown, hts, hlocks⟩ := id C
  unfold fX5_rests_45 at hf
  refine lv_iload hx hb dX5_rests_45 (lv_at hl 6 rfl) ?_
  refine lv_iconst (v := 4) hx hb dX5_rests_47 (by decide) ?_
  refine lv_icmp_gt (tgt := 123) hx hb dX5_rests_48 (by decide) (fun c8 => ?_) (fun c8 => ?_)
  · rw [if_pos c8] at hf
    exact KX _ _ (Option.some.inj hf).symm _ _ _ hP hS (lv_sub hl [3, 4, 5] rfl)
  · rw [if_neg c8] at hf
    refine lv_iconst (v := 0) hx hb dX5_rests_51 (by decide) ?_
    refine lv_istore (lv' := [(7, .int 0), (0, .ref (ad 0)), (1, .int x1), (2, .int x2), (3, .int x3), (4, .int x4), (5, .int x5), (6, .int x6)]) hx hb dX5_rests_52 hl (by decide) rfl (fun ls hl => ?_)
    obtain ⟨e21, e22, hlx, hf⟩ := hj_o2_s hf
    refine wX5_rests_54 hI C hK  100 x4 x5 0 hlx (fun H locs ls hP hS hl => ?_) H locs ls hP hS (lv_sub hl [1, 2, 3, 4, 5, 6, 7, 0] rfl)
    obtain ⟨y23, ey23⟩ : ∃ z : Int32, z = x6 + 1 := ⟨_, rfl⟩
    replace hf := hj_nm_y hf ey23
    refine lv_iinc (v := y23) (lv' := [(6, .int y23), (0, .ref (ad 0)), (1, .int x1), (2, .int x2), (3, .int x3), (4, .int e21), (5, .int e22)]) hx hb dX5_rests_117 hl (k := 6) rfl (by rw [ey23]; rfl) (by decide) rfl (fun ls hl => ?_)
    refine lv_goto (tgt := 45) hx hb dX5_rests_120 (by decide) ?_
    exact KI _ _ _ (Option.some.inj hf).symm _ _ _ hP hS (lv_sub hl [1, 2, 3, 4, 5, 6, 0] rfl)
set_option maxHeartbeats 4000000 in
set_option maxRecDepth 100000 in
theorem wX5_rests_45 {p : Program} {l : Launch} {e : Env} {s : State} {m : MethodId} {args : Array Value} {below : List Frame} {meth : Method} {c : Code} {g : hj_G} {ad : Nat → Nat} (hI : hj_I 73 ad) (C : hj_C p s m args meth c cX5_rests RX5 wsX5_rests 8 (some .int)) (hK : hj_K g s) {σ : Nat → hj_Ob} {bf : Nat → Nat} {sd : Int64} {x1 : Int32} {x2 : Int32} {x3 : Int32} {rF : Int32} {e4 : Int32} {e5 : Int32} :
    ∀ (fu : Nat) (x4 : Int32) (x5 : Int32) (x6 : Int32), hj_lp (fun q : (Int32 × Int32 × Int32) => fX5_rests_45 σ bf sd x1 x2 x3 q.1 q.2.1 q.2.2) fu (x4, x5, x6) = some (e4, e5) → (∀ (H : Heap) (locs : List Loc) (ls : Array Slot), hj_P g 73 ad (hj_wx g ad σ bf sd) H → hj_S 73 ad s H locs → lv_has ls 8 [(3, .int x3), (4, .int e4), (5, .int e5)] → W p l e rmX5_rests s m args below meth c H locs 0 0 (MQ below (hj_QI g 73 ad (hj_wx g ad σ bf sd) rF s.heap.size) args s 0 0 (hj_A 73 ad s.heap.size)) (F0 m 123 ls [])) → ∀ (H : Heap) (locs : List Loc) (ls : Array Slot), hj_P g 73 ad (hj_wx g ad σ bf sd) H → hj_S 73 ad s H locs → lv_has ls 8 [(0, .ref (ad 0)), (1, .int x1), (2, .int x2), (3, .int x3), (4, .int x4), (5, .int x5), (6, .int x6)] →
    W p l e rmX5_rests s m args below meth c H locs 0 0 (MQ below (hj_QI g 73 ad (hj_wx g ad σ bf sd) rF s.heap.size) args s 0 0 (hj_A 73 ad s.heap.size)) (F0 m 45 ls []) := by
  intro fu
  induction fu with
  | zero => intro x4 x5 x6 hq; cases hq
  | succ fu ih =>
    intro x4 x5 x6 hq KX H locs ls hP hS hl
    obtain ⟨y, hy, h1, h2⟩ := hj_lp_s hq
    exact wX5_rests_45b hI C hK  hy (fun v4 v5 hv H locs ls hP hS hl => by have hw := h1 _ hv; obtain ⟨rfl, rfl⟩ := Prod.mk.inj hw; exact KX H locs ls hP hS hl) (fun v4 v5 v6 hv H locs ls hP hS hl => ih v4 v5 v6 (h2 _ hv) KX H locs ls hP hS hl) hP hS hl
def fX5_rests (σ : Nat → hj_Ob) (bf : Nat → Nat) (sd : Int64) (x1 : Int32) (x2 : Int32) (x3 : Int32) : Option Int32 :=
  hj_o1 (fX5_isJuror σ bf sd x1) fun r1 => if r1 = 0 then (some (-1)) else (hj_o1 (fX5_isJuror σ bf sd x2) fun r3 => if r3 = 0 then (some (-1)) else (if x1 = x2 then (some (-2)) else (if x3 < 0 then (some (-2)) else (if x3 ≤ 1 then (hj_o2 (hj_lp (fun q : (Int32 × Int32 × Int32) => fX5_rests_45 σ bf sd x1 x2 x3 q.1 q.2.1 q.2.2) 100 (0, (-9), 0)) fun e24 e25 => (if x3 = 0 then (some e24) else (some e25))) else (some (-2))))))
set_option maxHeartbeats 4000000 in
set_option maxRecDepth 100000 in
theorem wX5_rests {p : Program} {l : Launch} {e : Env} {s : State} {m : MethodId} {args : Array Value} {below : List Frame} {meth : Method} {c : Code} {g : hj_G} {ad : Nat → Nat} (hI : hj_I 73 ad) (C : hj_C p s m args meth c cX5_rests RX5 wsX5_rests 8 (some .int)) (hK : hj_K g s) {σ : Nat → hj_Ob} {bf : Nat → Nat} {sd : Int64} {x1 : Int32} {x2 : Int32} {x3 : Int32} {rF : Int32}
    (hf : fX5_rests σ bf sd x1 x2 x3 = some rF) {H : Heap} {locs : List Loc} {ls : Array Slot} (hP : hj_P g 73 ad (hj_wx g ad σ bf sd) H) (hS : hj_S 73 ad s H locs) (hl : lv_has ls 8 [(0, .ref (ad 0)), (1, .int x1), (2, .int x2), (3, .int x3)]) :
    W p l e rmX5_rests s m args below meth c H locs 0 0 (MQ below (hj_QI g 73 ad (hj_wx g ad σ bf sd) rF s.heap.size) args s 0 0 (hj_A 73 ad s.heap.size)) (F0 m 0 ls []) := by
  obtain ⟨hx, hb, hr, hml, hown, hts, hlocks⟩ := id C
  unfold fX5_rests at hf
  refine lv_aload_n hx hb dX5_rests_0 rfl (lv_at hl 0 rfl) ?_
  refine lv_iload_n hx hb dX5_rests_1 rfl (lv_at hl 1 rfl) ?_
  obtain ⟨r1, hc, hf⟩ := hj_o1_s hf
  refine hj_callVi (nL := 8) (As := [.int x1]) (rest := []) (i0 := 0) (C := RX5) (T := TX5) (N := 10) (ci := 5) ⟨hx, hb, hml, hown, hts⟩ (ctX5_isJuror l g hI hc) (cwV 1 hts gX5_rests_X5_isJuror rfl rfl rfl (by decide +kernel) ⟨Nat.le_of_ble_eq_true rfl, Nat.le_of_ble_eq_true rfl⟩) hj_Xb0 (fun _ _ _ => trivial) hK hP hS (by decide) wx_at_h rfl rfl hl.1 rfl (Nat.le_of_ble_eq_true rfl) dX5_rests_2 (fun H locs hP hS => ?_)
  refine lv_if_eq (tgt := 16) hx hb dX5_rests_5 (by decide) (fun c2 => ?_) (fun c2 => ?_)
  · rw [if_pos c2] at hf
    refine lv_iconst (v := (-1)) hx hb dX5_rests_16 (by decide) ?_
    have hq := Option.some.inj hf
    obtain rfl := hq
    exact hj_reti C hP hK hS dX5_rests_17
  · rw [if_neg c2] at hf
    refine lv_aload_n hx hb dX5_rests_8 rfl (lv_at hl 0 rfl) ?_
    refine lv_iload_n hx hb dX5_rests_9 rfl (lv_at hl 2 rfl) ?_
    obtain ⟨r3, hc, hf⟩ := hj_o1_s hf
    refine hj_callVi (nL := 8) (As := [.int x2]) (rest := []) (i0 := 0) (C := RX5) (T := TX5) (N := 10) (ci := 5) ⟨hx, hb, hml, hown, hts⟩ (ctX5_isJuror l g hI hc) (cwV 1 hts gX5_rests_X5_isJuror rfl rfl rfl (by decide +kernel) ⟨Nat.le_of_ble_eq_true rfl, Nat.le_of_ble_eq_true rfl⟩) hj_Xb0 (fun _ _ _ => trivial) hK hP hS (by decide) wx_at_h rfl rfl hl.1 rfl (Nat.le_of_ble_eq_true rfl) dX5_rests_10 (fun H locs hP hS => ?_)
    refine lv_if_ne (tgt := 18) hx hb dX5_rests_13 (by decide) (fun c4 => ?_) (fun c4 => ?_)
    · rw [if_neg c4] at hf
      refine lv_iload_n hx hb dX5_rests_18 rfl (lv_at hl 1 rfl) ?_
      refine lv_iload_n hx hb dX5_rests_19 rfl (lv_at hl 2 rfl) ?_
      refine lv_icmp_eq (tgt := 32) hx hb dX5_rests_20 (by decide) (fun c5 => ?_) (fun c5 => ?_)
      · rw [if_pos c5] at hf
        refine lv_bipush (v := (-2)) hx hb dX5_rests_32 (by decide) ?_
        have hq := Option.some.inj hf
        obtain rfl := hq
        exact hj_reti C hP hK hS dX5_rests_34
      · rw [if_neg c5] at hf
        refine lv_iload_n hx hb dX5_rests_23 rfl (lv_at hl 3 rfl) ?_
        refine lv_if_lt (tgt := 32) hx hb dX5_rests_24 (by decide) (fun c6 => ?_) (fun c6 => ?_)
        · rw [if_pos c6] at hf
          refine lv_bipush (v := (-2)) hx hb dX5_rests_32 (by decide) ?_
          have hq := Option.some.inj hf
          obtain rfl := hq
          exact hj_reti C hP hK hS dX5_rests_34
        · rw [if_neg c6] at hf
          refine lv_iload_n hx hb dX5_rests_27 rfl (lv_at hl 3 rfl) ?_
          refine lv_iconst (v := 1) hx hb dX5_rests_28 (by decide) ?_
          refine lv_icmp_le (tgt := 35) hx hb dX5_rests_29 (by decide) (fun c7 => ?_) (fun c7 => ?_)
          · rw [if_pos c7] at hf
            refine lv_iconst (v := 0) hx hb dX5_rests_35 (by decide) ?_
            refine lv_istore (lv' := [(4, .int 0), (0, .ref (ad 0)), (1, .int x1), (2, .int x2), (3, .int x3)]) hx hb dX5_rests_36 hl (by decide) rfl (fun ls hl => ?_)
            refine lv_bipush (v := (-9)) hx hb dX5_rests_38 (by decide) ?_
            refine lv_istore (lv' := [(5, .int (-9)), (4, .int 0), (0, .ref (ad 0)), (1, .int x1), (2, .int x2), (3, .int x3)]) hx hb dX5_rests_40 hl (by decide) rfl (fun ls hl => ?_)
            refine lv_iconst (v := 0) hx hb dX5_rests_42 (by decide) ?_
            refine lv_istore (lv' := [(6, .int 0), (5, .int (-9)), (4, .int 0), (0, .ref (ad 0)), (1, .int x1), (2, .int x2), (3, .int x3)]) hx hb dX5_rests_43 hl (by decide) rfl (fun ls hl => ?_)
            obtain ⟨e24, e25, hlx, hf⟩ := hj_o2_s hf
            refine wX5_rests_45 hI C hK  100 0 (-9) 0 hlx (fun H locs ls hP hS hl => ?_) H locs ls hP hS (lv_sub hl [3, 4, 5, 6, 2, 1, 0] rfl)
            refine lv_iload_n hx hb dX5_rests_123 rfl (lv_at hl 0 rfl) ?_
            refine lv_if_ne (tgt := 132) hx hb dX5_rests_124 (by decide) (fun c26 => ?_) (fun c26 => ?_)
            · rw [if_neg c26] at hf
              refine lv_iload hx hb dX5_rests_132 (lv_at hl 2 rfl) ?_
              have hq := Option.some.inj hf
              obtain rfl := hq
              exact hj_reti C hP hK hS dX5_rests_134
            · rw [if_pos c26] at hf
              refine lv_iload hx hb dX5_rests_127 (lv_at hl 1 rfl) ?_
              refine lv_goto (tgt := 134) hx hb dX5_rests_129 (by decide) ?_
              have hq := Option.some.inj hf
              obtain rfl := hq
              exact hj_reti C hP hK hS dX5_rests_134
          · rw [if_neg c7] at hf
            refine lv_bipush (v := (-2)) hx hb dX5_rests_32 (by decide) ?_
            have hq := Option.some.inj hf
            obtain rfl := hq
            exact hj_reti C hP hK hS dX5_rests_34
    · rw [if_pos c4] at hf
      refine lv_iconst (v := (-1)) hx hb dX5_rests_16 (by decide) ?_
      have hq := Option.some.inj hf
      obtain rfl := hq
      exact hj_reti C hP hK hS dX5_rests_17
set_option maxHeartbeats 4000000 in
set_option maxRecDepth 100000 in
theorem ctX5_rests (l : Launch) (g : hj_G) {ad : Nat → Nat} (hI : hj_I 73 ad) {σ : Nat → hj_Ob} {bf : Nat → Nat} {sd : Int64} {x1 : Int32} {x2 : Int32} {x3 : Int32} {rF : Int32} (hf : fX5_rests σ bf sd x1 x2 x3 = some rF) :
    hj_MI l yX5_rests wsX5_rests rmX5_rests g 73 ad hj_X0 [.ref (ad 0), .int x1, .int x2, .int x3] (hj_wx g ad σ bf sd) rF (hj_wx g ad σ bf sd) := by
  refine hj_ofI (cc := cX5_rests) (maxL := 8) (ret := (some .int)) (by decide) rfl (Nat.le_of_ble_eq_true rfl) ?_
  intro p e s m args below meth c ls C hP hK hX hl
  exact wX5_rests hI C hK hf hP va_S.rf hl

/-! X5_power -/
abbrev rmX5_power : Room := { frames := 0, cells := 0, slots := 0, locals := 0 }
def fX5_power_4 (x0 : Int32) (x1 : Int32) (x2 : Int32) (x3 : Int32) : Option (Int32 ⊕ (Int32 × Int32)) :=
  if x1 ≤ x3 then (some (.inl x2)) else (hj_nm (x2 * x0) fun y2 => hj_nm (x3 + 1) fun y3 => some (.inr (y2, y3)))
set_option maxHeartbeats 4000000 in
set_option maxRecDepth 100000 in
theorem wX5_power_4b {p : Program} {l : Launch} {e : Env} {s : State} {m : MethodId} {args : Array Value} {below : List Frame} {meth : Method} {c : Code} {g : hj_G} {ad : Nat → Nat} {n : Nat} {w : Nat → va_E} (C : hj_C p s m args meth c cX5_power RX5 wsX5_power 4 (some .int)) (hK : hj_K g s) {x0 : Int32} {x1 : Int32} {x2 : Int32} {x3 : Int32} {y : Int32 ⊕ (Int32 × Int32)} {rF : Int32}
    (hf : fX5_power_4 x0 x1 x2 x3 = some y) (KX : ∀ (v2 : Int32), y = .inl v2 → ∀ (H : Heap) (locs : List Loc) (ls : Array Slot), hj_P g n ad w H → hj_S n ad s H locs → lv_has ls 4 [(2, .int v2)] → W p l e rmX5_power s m args below meth c H locs 0 0 (MQ below (hj_QI g n ad w rF s.heap.size) args s 0 0 (hj_A n ad s.heap.size)) (F0 m 19 ls [])) (KI : ∀ (v2 : Int32) (v3 : Int32), y = .inr (v2, v3) → ∀ (H : Heap) (locs : List Loc) (ls : Array Slot), hj_P g n ad w H → hj_S n ad s H locs → lv_has ls 4 [(0, .int x0), (1, .int x1), (2, .int v2), (3, .int v3)] → W p l e rmX5_power s m args below meth c H locs 0 0 (MQ below (hj_QI g n ad w rF s.heap.size) args s 0 0 (hj_A n ad s.heap.size)) (F0 m 4 ls [])) {H : Heap} {locs : List Loc} {ls : Array Slot} (hP : hj_P g n ad w H) (hS : hj_S n ad s H locs) (hl : lv_has ls 4 [(0, .int x0), (1, .int x1), (2, .int x2), (3, .int x3)]) :
    W p l e rmX5_power s m args below meth c H locs 0 0 (MQ below (hj_QI g n ad w rF s.heap.size) args s 0 0 (hj_A n ad s.heap.size)) (F0 m 4 ls []) := by
  obtain ⟨hx, hb, hr, hml, hown, hts, hlocks⟩ := id C
  unfold fX5_power_4 at hf
  refine lv_iload_n hx hb dX5_power_4 rfl (lv_at hl 3 rfl) ?_
  refine lv_iload_n hx hb dX5_power_5 rfl (lv_at hl 1 rfl) ?_
  refine lv_icmp_ge (tgt := 19) hx hb dX5_power_6 (by decide) (fun c1 => ?_) (fun c1 => ?_)
  · rw [if_pos c1] at hf
    exact KX _ (Option.some.inj hf).symm _ _ _ hP hS (lv_sub hl [2] rfl)
  · rw [if_neg c1] at hf
    refine lv_iload_n hx hb dX5_power_9 rfl (lv_at hl 2 rfl) ?_
    refine lv_iload_n hx hb dX5_power_10 rfl (lv_at hl 0 rfl) ?_
    refine lv_imul hx hb dX5_power_11 ?_
    refine lv_topi (fun y2 ey2 => ?_)
    replace hf := hj_nm_y hf ey2
    refine lv_istore_n (lv' := [(2, .int y2), (0, .int x0), (1, .int x1), (3, .int x3)]) hx hb dX5_power_12 rfl hl (by decide) rfl (fun ls hl => ?_)
    obtain ⟨y3, ey3⟩ : ∃ z : Int32, z = x3 + 1 := ⟨_, rfl⟩
    replace hf := hj_nm_y hf ey3
    refine lv_iinc (v := y3) (lv' := [(3, .int y3), (2, .int y2), (0, .int x0), (1, .int x1)]) hx hb dX5_power_13 hl (k := 3) rfl (by rw [ey3]; rfl) (by decide) rfl (fun ls hl => ?_)
    refine lv_goto (tgt := 4) hx hb dX5_power_16 (by decide) ?_
    exact KI _ _ (Option.some.inj hf).symm _ _ _ hP hS (lv_sub hl [2, 3, 1, 0] rfl)
set_option maxHeartbeats 4000000 in
set_option maxRecDepth 100000 in
theorem wX5_power_4 {p : Program} {l : Launch} {e : Env} {s : State} {m : MethodId} {args : Array Value} {below : List Frame} {meth : Method} {c : Code} {g : hj_G} {ad : Nat → Nat} {n : Nat} {w : Nat → va_E} (C : hj_C p s m args meth c cX5_power RX5 wsX5_power 4 (some .int)) (hK : hj_K g s) {x0 : Int32} {x1 : Int32} {rF : Int32} {e2 : Int32} :
    ∀ (fu : Nat) (x2 : Int32) (x3 : Int32), hj_lp (fun q : (Int32 × Int32) => fX5_power_4 x0 x1 q.1 q.2) fu (x2, x3) = some e2 → (∀ (H : Heap) (locs : List Loc) (ls : Array Slot), hj_P g n ad w H → hj_S n ad s H locs → lv_has ls 4 [(2, .int e2)] → W p l e rmX5_power s m args below meth c H locs 0 0 (MQ below (hj_QI g n ad w rF s.heap.size) args s 0 0 (hj_A n ad s.heap.size)) (F0 m 19 ls [])) → ∀ (H : Heap) (locs : List Loc) (ls : Array Slot), hj_P g n ad w H → hj_S n ad s H locs → lv_has ls 4 [(0, .int x0), (1, .int x1), (2, .int x2), (3, .int x3)] →
    W p l e rmX5_power s m args below meth c H locs 0 0 (MQ below (hj_QI g n ad w rF s.heap.size) args s 0 0 (hj_A n ad s.heap.size)) (F0 m 4 ls []) := by
  intro fu
  induction fu with
  | zero => intro x2 x3 hq; cases hq
  | succ fu ih =>
    intro x2 x3 hq KX H locs ls hP hS hl
    obtain ⟨y, hy, h1, h2⟩ := hj_lp_s hq
    exact wX5_power_4b C hK  hy (fun v2 hv H locs ls hP hS hl => by obtain rfl := h1 _ hv; exact KX H locs ls hP hS hl) (fun v2 v3 hv H locs ls hP hS hl => ih v2 v3 (h2 _ hv) KX H locs ls hP hS hl) hP hS hl
def fX5_power (x0 : Int32) (x1 : Int32) : Option Int32 :=
  hj_o1 (hj_lp (fun q : (Int32 × Int32) => fX5_power_4 x0 x1 q.1 q.2) 100 (1, 0)) fun e4 => (some e4)
set_option maxHeartbeats 4000000 in
set_option maxRecDepth 100000 in
theorem wX5_power {p : Program} {l : Launch} {e : Env} {s : State} {m : MethodId} {args : Array Value} {below : List Frame} {meth : Method} {c : Code} {g : hj_G} {ad : Nat → Nat} {n : Nat} {w : Nat → va_E} (C : hj_C p s m args meth c cX5_power RX5 wsX5_power 4 (some .int)) (hK : hj_K g s) {x0 : Int32} {x1 : Int32} {rF : Int32}
    (hf : fX5_power x0 x1 = some rF) {H : Heap} {locs : List Loc} {ls : Array Slot} (hP : hj_P g n ad w H) (hS : hj_S n ad s H locs) (hl : lv_has ls 4 [(0, .int x0), (1, .int x1)]) :
    W p l e rmX5_power s m args below meth c H locs 0 0 (MQ below (hj_QI g n ad w rF s.heap.size) args s 0 0 (hj_A n ad s.heap.size)) (F0 m 0 ls []) := by
  obtain ⟨hx, hb, hr, hml, hown, hts, hlocks⟩ := id C
  unfold fX5_power at hf
  refine lv_iconst (v := 1) hx hb dX5_power_0 (by decide) ?_
  refine lv_istore_n (lv' := [(2, .int 1), (0, .int x0), (1, .int x1)]) hx hb dX5_power_1 rfl hl (by decide) rfl (fun ls hl => ?_)
  refine lv_iconst (v := 0) hx hb dX5_power_2 (by decide) ?_
  refine lv_istore_n (lv' := [(3, .int 0), (2, .int 1), (0, .int x0), (1, .int x1)]) hx hb dX5_power_3 rfl hl (by decide) rfl (fun ls hl => ?_)
  obtain ⟨e4, hlx, hf⟩ := hj_o1_s hf
  refine wX5_power_4 C hK  100 1 0 hlx (fun H locs ls hP hS hl => ?_) H locs ls hP hS (lv_sub hl [2, 3, 1, 0] rfl)
  refine lv_iload_n hx hb dX5_power_19 rfl (lv_at hl 0 rfl) ?_
  have hq := Option.some.inj hf
  obtain rfl := hq
  exact hj_reti C hP hK hS dX5_power_20
set_option maxHeartbeats 4000000 in
set_option maxRecDepth 100000 in
theorem ctX5_power (l : Launch) (g : hj_G) {ad : Nat → Nat} {n : Nat} {w : Nat → va_E} {x0 : Int32} {x1 : Int32} {rF : Int32} (hf : fX5_power x0 x1 = some rF) :
    hj_MI l yX5_power wsX5_power rmX5_power g n ad hj_X0 [.int x0, .int x1] w rF w := by
  refine hj_ofI (cc := cX5_power) (maxL := 4) (ret := (some .int)) (by decide) rfl (Nat.le_of_ble_eq_true rfl) ?_
  intro p e s m args below meth c ls C hP hK hX hl
  exact wX5_power C hK hf hP va_S.rf hl

/-! X5_coins -/
abbrev rmX5_coins : Room := { frames := 5, cells := 0, slots := 0, locals := 113 }
theorem iX5_coins_X5 : ∀ w ∈ wsX50, w ∈ wsX5_coins := fun _ h => List.mem_cons_of_mem _ (List.mem_append_left _ (List.mem_append_left _ (List.mem_append_right _ h)))
theorem mX5_coins_1 : Cond.fieldLink RX5 31 "HungryJury" "now" "LHungryJury$Room;" ∈ wsX5_coins := List.mem_of_getElem? (i := 1) rfl
theorem iX5_coins_X2 : ∀ w ∈ wsX20, w ∈ wsX5_coins := fun _ h => List.mem_cons_of_mem _ (List.mem_append_left _ (List.mem_append_right _ h))
theorem mX5_coins_2 : Cond.fieldLink RX5 121 "HungryJury$Room" "there" "I" ∈ wsX5_coins := List.mem_of_getElem? (i := 2) rfl
def fX5_coins_32 (σ : Nat → hj_Ob) (bf : Nat → Nat) (sd : Int64) (x1 : Int32) (x2 : Int32) (x3 : Int32) (x4 : Int32) (x5 : Int32) : Option ((Int32 × (Nat → hj_Ob)) ⊕ (Int32 × Int32 × (Nat → hj_Ob))) :=
  if 64 ≤ x5 then (some (.inl (x4, σ))) else (if (x5 &&& (((σ 11).1 4) ^^^ (-1))) = 0 then (hj_o1 (fJ6_bitCount_0f7a4 x5) fun r8 => hj_o1 (fX5_power x2 r8) fun r9 => hj_o1 (fJ6_bitCount_0f7a4 (((σ 11).1 4) &&& (x5 ^^^ (-1)))) fun r10 => hj_o1 (fX5_power (10 - x2) r10) fun r11 => hj_nm (r9 * r11) fun y12 => if y12 ≤ 0 then (hj_nm (x5 + 1) fun y14 => some (.inr (x4, y14, σ))) else (hj_o2 (fX5_endAfter σ bf sd 4 x5) fun r15 σ16 => if r15 = x1 then (hj_nm (x4 + y12) fun y19 => hj_nm (x5 + 1) fun y20 => some (.inr (y19, y20, σ16))) else (hj_nm (x5 + 1) fun y18 => some (.inr (x4, y18, σ16))))) else (hj_nm (x5 + 1) fun y7 => some (.inr (x4, y7, σ))))
set_option maxHeartbeats 4000000 in
set_option maxRecDepth 100000 in
theorem wX5_coins_32b {p : Program} {l : Launch} {e : Env} {s : State} {m : MethodId} {args : Array Value} {below : List Frame} {meth : Method} {c : Code} {g : hj_G} {ad : Nat → Nat} (hI : hj_I 73 ad) (C : hj_C p s m args meth c cX5_coins RX5 wsX5_coins 7 (some .int)) (hK : hj_K g s) {σ : Nat → hj_Ob} {bf : Nat → Nat} {sd : Int64} {x1 : Int32} {x2 : Int32} {x3 : Int32} {x4 : Int32} {x5 : Int32} {y : (Int32 × (Nat → hj_Ob)) ⊕ (Int32 × Int32 × (Nat → hj_Ob))} {rF : Int32} {σF : Nat → hj_Ob}
    (hf : fX5_coins_32 σ bf sd x1 x2 x3 x4 x5 = some y) (KX : ∀ (v4 : Int32) (σ' : Nat → hj_Ob), y = .inl (v4, σ') → ∀ (H : Heap) (locs : List Loc) (ls : Array Slot), hj_P g 73 ad (hj_wx g ad σ' bf sd) H → hj_S 73 ad s H locs → lv_has ls 7 [(0, .ref (ad 0)), (3, .int x3), (4, .int v4)] → W p l e rmX5_coins s m args below meth c H locs 0 0 (MQ below (hj_QI g 73 ad (hj_wx g ad σF bf sd) rF s.heap.size) args s 0 0 (hj_A 73 ad s.heap.size)) (F0 m 117 ls [])) (KI : ∀ (v4 : Int32) (v5 : Int32) (σ' : Nat → hj_Ob), y = .inr (v4, v5, σ') → ∀ (H : Heap) (locs : List Loc) (ls : Array Slot), hj_P g 73 ad (hj_wx g ad σ' bf sd) H → hj_S 73 ad s H locs → lv_has ls 7 [(0, .ref (ad 0)), (1, .int x1), (2, .int x2), (3, .int x3), (4, .int v4), (5, .int v5)] → W p l e rmX5_coins s m args below meth c H locs 0 0 (MQ below (hj_QI g 73 ad (hj_wx g ad σF bf sd) rF s.heap.size) args s 0 0 (hj_A 73 ad s.heap.size)) (F0 m 32 ls [])) {H : Heap} {locs : List Loc} {ls : Array Slot} (hP : hj_P g 73 ad (hj_wx g ad σ bf sd) H) (hS : hj_S 73 ad s H locs) (hl : lv_has ls 7 [(0, .ref (ad 0)), (1, .int x1), (2, .int x2), (3, .int x3), (4, .int x4), (5, .int x5)]) :
    W p l e rmX5_coins s m args below meth c H locs 0 0 (MQ below (hj_QI g 73 ad (hj_wx g ad σF bf sd) rF s.heap.size) args s 0 0 (hj_A 73 ad s.heap.size)) (F0 m 32 ls []) := by
  obtain ⟨hx, hb, hr, hml, hown, hts, hlocks⟩ := id C
  unfold fX5_coins_32 at hf
  refine lv_iload hx hb dX5_coins_32 (lv_at hl 5 rfl) ?_
  refine lv_bipush (v := 64) hx hb dX5_coins_34 (by decide) ?_
  refine lv_icmp_ge (tgt := 117) hx hb dX5_coins_36 (by decide) (fun c5 => ?_) (fun c5 => ?_)
  · rw [if_pos c5] at hf
    exact KX _ _ (Option.some.inj hf).symm _ _ _ hP hS (lv_sub hl [0, 3, 4] rfl)
  · rw [if_neg c5] at hf
    refine lv_iload hx hb dX5_coins_39 (lv_at hl 5 rfl) ?_
    refine lv_aload_n hx hb dX5_coins_41 rfl (lv_at hl 0 rfl) ?_
    refine hj_get (ci := 5) (v := .ref (ad 11)) (C := RX5) (T := TX5) (N := 10) hx hb hts iX5_coins_X5 hown hK hP (by decide) wx_at_h rfl 3 (by decide) mX5_coins_1 rfl dX5_coins_42 ?_
    refine hj_get (ci := 2) (v := .int ((σ 11).1 4)) (C := RX2) (T := TX2) (N := 6) hx hb hts iX5_coins_X2 hown hK hP (by decide) (wx_at_r wx_R_11 rfl) rfl 4 (by decide) mX5_coins_2 rfl dX5_coins_45 ?_
    refine lv_iconst (v := (-1)) hx hb dX5_coins_48 (by decide) ?_
    refine lv_ixor hx hb dX5_coins_49 ?_
    refine lv_iand hx hb dX5_coins_50 ?_
    refine lv_if_ne (tgt := 111) hx hb dX5_coins_51 (by decide) (fun c6 => ?_) (fun c6 => ?_)
    · rw [if_neg c6] at hf
      obtain ⟨y7, ey7⟩ : ∃ z : Int32, z = x5 + 1 := ⟨_, rfl⟩
      replace hf := hj_nm_y hf ey7
      refine lv_iinc (v := y7) (lv' := [(5, .int y7), (0, .ref (ad 0)), (1, .int x1), (2, .int x2), (3, .int x3), (4, .int x4)]) hx hb dX5_coins_111 hl (k := 5) rfl (by rw [ey7]; rfl) (by decide) rfl (fun ls hl => ?_)
      refine lv_goto (tgt := 32) hx hb dX5_coins_114 (by decide) ?_
      exact KI _ _ _ (Option.some.inj hf).symm _ _ _ hP hS (lv_sub hl [1, 2, 3, 4, 5, 0] rfl)
    · rw [if_pos c6] at hf
      refine lv_iload_n hx hb dX5_coins_54 rfl (lv_at hl 2 rfl) ?_
      refine lv_iload hx hb dX5_coins_55 (lv_at hl 5 rfl) ?_
      obtain ⟨r8, hc, hf⟩ := hj_o1_s hf
      refine hj_callSi (nL := 7) (As := [.int x5]) (rest := [.int x2]) ⟨hx, hb, hml, hown, hts⟩ (ctJ6_bitCount_0f7a4 l g (n := 73) (ad := ad) (w := (hj_wx g ad σ bf sd)) hc) (va_cwS 1 hts gX5_coins_J6_bitCount_0f7a4 rfl rfl rfl (by decide +kernel) ⟨Nat.le_of_ble_eq_true rfl, Nat.le_of_ble_eq_true rfl⟩) hj_Xb0 (fun _ _ _ => trivial) hK hP hS rfl hl.1 rfl (Nat.le_of_ble_eq_true rfl) dX5_coins_57 (fun H locs hP hS => ?_)
      obtain ⟨r9, hc, hf⟩ := hj_o1_s hf
      refine hj_callSi (nL := 7) (As := [.int x2, .int r8]) (rest := []) ⟨hx, hb, hml, hown, hts⟩ (ctX5_power l g (n := 73) (ad := ad) (w := (hj_wx g ad σ bf sd)) hc) (va_cwS 2 hts gX5_coins_X5_power rfl rfl rfl (by decide +kernel) ⟨Nat.le_of_ble_eq_true rfl, Nat.le_of_ble_eq_true rfl⟩) hj_Xb0 (fun _ _ _ => trivial) hK hP hS rfl hl.1 rfl (Nat.le_of_ble_eq_true rfl) dX5_coins_60 (fun H locs hP hS => ?_)
      refine lv_bipush (v := 10) hx hb dX5_coins_63 (by decide) ?_
      refine lv_iload_n hx hb dX5_coins_65 rfl (lv_at hl 2 rfl) ?_
      refine lv_isub hx hb dX5_coins_66 ?_
      refine lv_aload_n hx hb dX5_coins_67 rfl (lv_at hl 0 rfl) ?_
      refine hj_get (ci := 5) (v := .ref (ad 11)) (C := RX5) (T := TX5) (N := 10) hx hb hts iX5_coins_X5 hown hK hP (by decide) wx_at_h rfl 3 (by decide) mX5_coins_1 rfl dX5_coins_68 ?_
      refine hj_get (ci := 2) (v := .int ((σ 11).1 4)) (C := RX2) (T := TX2) (N := 6) hx hb hts iX5_coins_X2 hown hK hP (by decide) (wx_at_r wx_R_11 rfl) rfl 4 (by decide) mX5_coins_2 rfl dX5_coins_71 ?_
      refine lv_iload hx hb dX5_coins_74 (lv_at hl 5 rfl) ?_
      refine lv_iconst (v := (-1)) hx hb dX5_coins_76 (by decide) ?_
      refine lv_ixor hx hb dX5_coins_77 ?_
      refine lv_iand hx hb dX5_coins_78 ?_
      obtain ⟨r10, hc, hf⟩ := hj_o1_s hf
      refine hj_callSi (nL := 7) (As := [.int (((σ 11).1 4) &&& (x5 ^^^ (-1)))]) (rest := [.int (10 - x2), .int r9]) ⟨hx, hb, hml, hown, hts⟩ (ctJ6_bitCount_0f7a4 l g (n := 73) (ad := ad) (w := (hj_wx g ad σ bf sd)) hc) (va_cwS 1 hts gX5_coins_J6_bitCount_0f7a4 rfl rfl rfl (by decide +kernel) ⟨Nat.le_of_ble_eq_true rfl, Nat.le_of_ble_eq_true rfl⟩) hj_Xb0 (fun _ _ _ => trivial) hK hP hS rfl hl.1 rfl (Nat.le_of_ble_eq_true rfl) dX5_coins_79 (fun H locs hP hS => ?_)
      obtain ⟨r11, hc, hf⟩ := hj_o1_s hf
      refine hj_callSi (nL := 7) (As := [.int (10 - x2), .int r10]) (rest := [.int r9]) ⟨hx, hb, hml, hown, hts⟩ (ctX5_power l g (n := 73) (ad := ad) (w := (hj_wx g ad σ bf sd)) hc) (va_cwS 2 hts gX5_coins_X5_power rfl rfl rfl (by decide +kernel) ⟨Nat.le_of_ble_eq_true rfl, Nat.le_of_ble_eq_true rfl⟩) hj_Xb0 (fun _ _ _ => trivial) hK hP hS rfl hl.1 rfl (Nat.le_of_ble_eq_true rfl) dX5_coins_82 (fun H locs hP hS => ?_)
      refine lv_imul hx hb dX5_coins_85 ?_
      refine lv_topi (fun y12 ey12 => ?_)
      replace hf := hj_nm_y hf ey12
      refine lv_istore (lv' := [(6, .int y12), (0, .ref (ad 0)), (1, .int x1), (2, .int x2), (3, .int x3), (4, .int x4), (5, .int x5)]) hx hb dX5_coins_86 hl (by decide) rfl (fun ls hl => ?_)
      refine lv_iload hx hb dX5_coins_88 (lv_at hl 0 rfl) ?_
      refine lv_if_le (tgt := 111) hx hb dX5_coins_90 (by decide) (fun c13 => ?_) (fun c13 => ?_)
      · rw [if_pos c13] at hf
        obtain ⟨y14, ey14⟩ : ∃ z : Int32, z = x5 + 1 := ⟨_, rfl⟩
        replace hf := hj_nm_y hf ey14
        refine lv_iinc (v := y14) (lv' := [(5, .int y14), (6, .int y12), (0, .ref (ad 0)), (1, .int x1), (2, .int x2), (3, .int x3), (4, .int x4)]) hx hb dX5_coins_111 hl (k := 6) rfl (by rw [ey14]; rfl) (by decide) rfl (fun ls hl => ?_)
        refine lv_goto (tgt := 32) hx hb dX5_coins_114 (by decide) ?_
        exact KI _ _ _ (Option.some.inj hf).symm _ _ _ hP hS (lv_sub hl [2, 3, 4, 5, 6, 0] rfl)
      · rw [if_neg c13] at hf
        refine lv_aload_n hx hb dX5_coins_93 rfl (lv_at hl 1 rfl) ?_
        refine lv_iconst (v := 4) hx hb dX5_coins_94 (by decide) ?_
        refine lv_iload hx hb dX5_coins_95 (lv_at hl 6 rfl) ?_
        obtain ⟨r15, σ16, hc, hf⟩ := hj_o2_s hf
        refine hj_callVi (nL := 7) (As := [.int 4, .int x5]) (rest := []) (i0 := 0) (C := RX5) (T := TX5) (N := 10) (ci := 5) ⟨hx, hb, hml, hown, hts⟩ (ctX5_endAfter l g hI hc) (cwV 2 hts gX5_coins_X5_endAfter rfl rfl rfl (by decide +kernel) ⟨Nat.le_of_ble_eq_true rfl, Nat.le_of_ble_eq_true rfl⟩) hj_Xb0 (fun _ _ _ => trivial) hK hP hS (by decide) wx_at_h rfl rfl hl.1 rfl (Nat.le_of_ble_eq_true rfl) dX5_coins_97 (fun H locs hP hS => ?_)
        refine lv_iload_n hx hb dX5_coins_100 rfl (lv_at hl 2 rfl) ?_
        refine lv_icmp_ne (tgt := 111) hx hb dX5_coins_101 (by decide) (fun c17 => ?_) (fun c17 => ?_)
        · rw [if_neg c17] at hf
          obtain ⟨y18, ey18⟩ : ∃ z : Int32, z = x5 + 1 := ⟨_, rfl⟩
          replace hf := hj_nm_y hf ey18
          refine lv_iinc (v := y18) (lv' := [(5, .int y18), (6, .int y12), (0, .ref (ad 0)), (1, .int x1), (2, .int x2), (3, .int x3), (4, .int x4)]) hx hb dX5_coins_111 hl (k := 6) rfl (by rw [ey18]; rfl) (by decide) rfl (fun ls hl => ?_)
          refine lv_goto (tgt := 32) hx hb dX5_coins_114 (by decide) ?_
          exact KI _ _ _ (Option.some.inj hf).symm _ _ _ hP hS (lv_sub hl [2, 3, 4, 5, 6, 0] rfl)
        · rw [if_pos c17] at hf
          refine lv_iload hx hb dX5_coins_104 (lv_at hl 5 rfl) ?_
          refine lv_iload hx hb dX5_coins_106 (lv_at hl 0 rfl) ?_
          refine lv_iadd hx hb dX5_coins_108 ?_
          refine lv_topi (fun y19 ey19 => ?_)
          replace hf := hj_nm_y hf ey19
          refine lv_istore (lv' := [(4, .int y19), (6, .int y12), (0, .ref (ad 0)), (1, .int x1), (2, .int x2), (3, .int x3), (5, .int x5)]) hx hb dX5_coins_109 hl (by decide) rfl (fun ls hl => ?_)
          obtain ⟨y20, ey20⟩ : ∃ z : Int32, z = x5 + 1 := ⟨_, rfl⟩
          replace hf := hj_nm_y hf ey20
          refine lv_iinc (v := y20) (lv' := [(5, .int y20), (4, .int y19), (6, .int y12), (0, .ref (ad 0)), (1, .int x1), (2, .int x2), (3, .int x3)]) hx hb dX5_coins_111 hl (k := 6) rfl (by rw [ey20]; rfl) (by decide) rfl (fun ls hl => ?_)
          refine lv_goto (tgt := 32) hx hb dX5_coins_114 (by decide) ?_
          exact KI _ _ _ (Option.some.inj hf).symm _ _ _ hP hS (lv_sub hl [3, 4, 5, 6, 1, 0] rfl)
set_option maxHeartbeats 4000000 in
set_option maxRecDepth 100000 in
theorem wX5_coins_32 {p : Program} {l : Launch} {e : Env} {s : State} {m : MethodId} {args : Array Value} {below : List Frame} {meth : Method} {c : Code} {g : hj_G} {ad : Nat → Nat} (hI : hj_I 73 ad) (C : hj_C p s m args meth c cX5_coins RX5 wsX5_coins 7 (some .int)) (hK : hj_K g s) {bf : Nat → Nat} {sd : Int64} {x1 : Int32} {x2 : Int32} {x3 : Int32} {rF : Int32} {σF : Nat → hj_Ob} {e4 : Int32} {σe : Nat → hj_Ob} :
    ∀ (fu : Nat) (x4 : Int32) (x5 : Int32) (σ : Nat → hj_Ob), hj_lp (fun q : (Int32 × Int32 × (Nat → hj_Ob)) => fX5_coins_32 q.2.2 bf sd x1 x2 x3 q.1 q.2.1) fu (x4, x5, σ) = some (e4, σe) → (∀ (H : Heap) (locs : List Loc) (ls : Array Slot), hj_P g 73 ad (hj_wx g ad σe bf sd) H → hj_S 73 ad s H locs → lv_has ls 7 [(0, .ref (ad 0)), (3, .int x3), (4, .int e4)] → W p l e rmX5_coins s m args below meth c H locs 0 0 (MQ below (hj_QI g 73 ad (hj_wx g ad σF bf sd) rF s.heap.size) args s 0 0 (hj_A 73 ad s.heap.size)) (F0 m 117 ls [])) → ∀ (H : Heap) (locs : List Loc) (ls : Array Slot), hj_P g 73 ad (hj_wx g ad σ bf sd) H → hj_S 73 ad s H locs → lv_has ls 7 [(0, .ref (ad 0)), (1, .int x1), (2, .int x2), (3, .int x3), (4, .int x4), (5, .int x5)] →
    W p l e rmX5_coins s m args below meth c H locs 0 0 (MQ below (hj_QI g 73 ad (hj_wx g ad σF bf sd) rF s.heap.size) args s 0 0 (hj_A 73 ad s.heap.size)) (F0 m 32 ls []) := by
  intro fu
  induction fu with
  | zero => intro x4 x5 σ hq; cases hq
  | succ fu ih =>
    intro x4 x5 σ hq KX H locs ls hP hS hl
    obtain ⟨y, hy, h1, h2⟩ := hj_lp_s hq
    exact wX5_coins_32b hI C hK  hy (fun v4 σ' hv H locs ls hP hS hl => by have hw := h1 _ hv; obtain ⟨rfl, rfl⟩ := Prod.mk.inj hw; exact KX H locs ls hP hS hl) (fun v4 v5 σ' hv H locs ls hP hS hl => ih v4 v5 σ' (h2 _ hv) KX H locs ls hP hS hl) hP hS hl
def fX5_coins_13 (σ : Nat → hj_Ob) (bf : Nat → Nat) (sd : Int64) (x1 : Int32) (x2 : Int32) (x3 : Int32) : Option (Int32 × (Nat → hj_Ob)) :=
  if x2 < 0 then (some ((-2), σ)) else (if x2 ≤ 10 then (hj_o2 (hj_lp (fun q : (Int32 × Int32 × (Nat → hj_Ob)) => fX5_coins_32 q.2.2 bf sd x1 x2 x3 q.1 q.2.1) 100 (0, 0, σ)) fun e21 σ22 => (hj_o1 (fJ6_bitCount_0f7a4 ((σ22 11).1 4)) fun r23 => hj_o1 (fX5_power 10 r23) fun r24 => hj_o1 (fX5_partOfFraction e21 r24 x3) fun r25 => some (r25, σ22))) else (some ((-2), σ)))
set_option maxHeartbeats 4000000 in
set_option maxRecDepth 100000 in
theorem wX5_coins_13 {p : Program} {l : Launch} {e : Env} {s : State} {m : MethodId} {args : Array Value} {below : List Frame} {meth : Method} {c : Code} {g : hj_G} {ad : Nat → Nat} (hI : hj_I 73 ad) (C : hj_C p s m args meth c cX5_coins RX5 wsX5_coins 7 (some .int)) (hK : hj_K g s) {σ : Nat → hj_Ob} {bf : Nat → Nat} {sd : Int64} {x1 : Int32} {x2 : Int32} {x3 : Int32} {rF : Int32} {σF : Nat → hj_Ob}
    (hf : fX5_coins_13 σ bf sd x1 x2 x3 = some (rF, σF)) {H : Heap} {locs : List Loc} {ls : Array Slot} (hP : hj_P g 73 ad (hj_wx g ad σ bf sd) H) (hS : hj_S 73 ad s H locs) (hl : lv_has ls 7 [(0, .ref (ad 0)), (1, .int x1), (2, .int x2), (3, .int x3)]) :
    W p l e rmX5_coins s m args below meth c H locs 0 0 (MQ below (hj_QI g 73 ad (hj_wx g ad σF bf sd) rF s.heap.size) args s 0 0 (hj_A 73 ad s.heap.size)) (F0 m 13 ls []) := by
  obtain ⟨hx, hb, hr, hml, hown, hts, hlocks⟩ := id C
  unfold fX5_coins_13 at hf
  refine lv_iload_n hx hb dX5_coins_13 rfl (lv_at hl 2 rfl) ?_
  refine lv_if_lt (tgt := 23) hx hb dX5_coins_14 (by decide) (fun c3 => ?_) (fun c3 => ?_)
  · rw [if_pos c3] at hf
    refine lv_bipush (v := (-2)) hx hb dX5_coins_23 (by decide) ?_
    have hq := Option.some.inj hf
    obtain ⟨rfl, rfl⟩ := Prod.mk.inj hq
    exact hj_reti C hP hK hS dX5_coins_25
  · rw [if_neg c3] at hf
    refine lv_iload_n hx hb dX5_coins_17 rfl (lv_at hl 2 rfl) ?_
    refine lv_bipush (v := 10) hx hb dX5_coins_18 (by decide) ?_
    refine lv_icmp_le (tgt := 26) hx hb dX5_coins_20 (by decide) (fun c4 => ?_) (fun c4 => ?_)
    · rw [if_pos c4] at hf
      refine lv_iconst (v := 0) hx hb dX5_coins_26 (by decide) ?_
      refine lv_istore (lv' := [(4, .int 0), (0, .ref (ad 0)), (1, .int x1), (2, .int x2), (3, .int x3)]) hx hb dX5_coins_27 hl (by decide) rfl (fun ls hl => ?_)
      refine lv_iconst (v := 0) hx hb dX5_coins_29 (by decide) ?_
      refine lv_istore (lv' := [(5, .int 0), (4, .int 0), (0, .ref (ad 0)), (1, .int x1), (2, .int x2), (3, .int x3)]) hx hb dX5_coins_30 hl (by decide) rfl (fun ls hl => ?_)
      obtain ⟨e21, σ22, hlx, hf⟩ := hj_o2_s hf
      refine wX5_coins_32 hI C hK  100 0 0 σ hlx (fun H locs ls hP hS hl => ?_) H locs ls hP hS (lv_sub hl [2, 3, 4, 5, 1, 0] rfl)
      refine lv_iload hx hb dX5_coins_117 (lv_at hl 2 rfl) ?_
      refine lv_bipush (v := 10) hx hb dX5_coins_119 (by decide) ?_
      refine lv_aload_n hx hb dX5_coins_121 rfl (lv_at hl 0 rfl) ?_
      refine hj_get (ci := 5) (v := .ref (ad 11)) (C := RX5) (T := TX5) (N := 10) hx hb hts iX5_coins_X5 hown hK hP (by decide) wx_at_h rfl 3 (by decide) mX5_coins_1 rfl dX5_coins_122 ?_
      refine hj_get (ci := 2) (v := .int ((σ22 11).1 4)) (C := RX2) (T := TX2) (N := 6) hx hb hts iX5_coins_X2 hown hK hP (by decide) (wx_at_r wx_R_11 rfl) rfl 4 (by decide) mX5_coins_2 rfl dX5_coins_125 ?_
      obtain ⟨r23, hc, hf⟩ := hj_o1_s hf
      refine hj_callSi (nL := 7) (As := [.int ((σ22 11).1 4)]) (rest := [.int 10, .int e21]) ⟨hx, hb, hml, hown, hts⟩ (ctJ6_bitCount_0f7a4 l g (n := 73) (ad := ad) (w := (hj_wx g ad σ22 bf sd)) hc) (va_cwS 1 hts gX5_coins_J6_bitCount_0f7a4 rfl rfl rfl (by decide +kernel) ⟨Nat.le_of_ble_eq_true rfl, Nat.le_of_ble_eq_true rfl⟩) hj_Xb0 (fun _ _ _ => trivial) hK hP hS rfl hl.1 rfl (Nat.le_of_ble_eq_true rfl) dX5_coins_128 (fun H locs hP hS => ?_)
      obtain ⟨r24, hc, hf⟩ := hj_o1_s hf
      refine hj_callSi (nL := 7) (As := [.int 10, .int r23]) (rest := [.int e21]) ⟨hx, hb, hml, hown, hts⟩ (ctX5_power l g (n := 73) (ad := ad) (w := (hj_wx g ad σ22 bf sd)) hc) (va_cwS 2 hts gX5_coins_X5_power rfl rfl rfl (by decide +kernel) ⟨Nat.le_of_ble_eq_true rfl, Nat.le_of_ble_eq_true rfl⟩) hj_Xb0 (fun _ _ _ => trivial) hK hP hS rfl hl.1 rfl (Nat.le_of_ble_eq_true rfl) dX5_coins_131 (fun H locs hP hS => ?_)
      refine lv_iload_n hx hb dX5_coins_134 rfl (lv_at hl 1 rfl) ?_
      obtain ⟨r25, hc, hf⟩ := hj_o1_s hf
      refine hj_callSi (nL := 7) (As := [.int e21, .int r24, .int x3]) (rest := []) ⟨hx, hb, hml, hown, hts⟩ (ctX5_partOfFraction l g (n := 73) (ad := ad) (w := (hj_wx g ad σ22 bf sd)) hc) (va_cwS 3 hts gX5_coins_X5_partOfFraction rfl rfl rfl (by decide +kernel) ⟨Nat.le_of_ble_eq_true rfl, Nat.le_of_ble_eq_true rfl⟩) hj_Xb0 (fun _ _ _ => trivial) hK hP hS rfl hl.1 rfl (Nat.le_of_ble_eq_true rfl) dX5_coins_135 (fun H locs hP hS => ?_)
      have hq := Option.some.inj hf
      obtain ⟨rfl, rfl⟩ := Prod.mk.inj hq
      exact hj_reti C hP hK hS dX5_coins_138
    · rw [if_neg c4] at hf
      refine lv_bipush (v := (-2)) hx hb dX5_coins_23 (by decide) ?_
      have hq := Option.some.inj hf
      obtain ⟨rfl, rfl⟩ := Prod.mk.inj hq
      exact hj_reti C hP hK hS dX5_coins_25
def fX5_coins (σ : Nat → hj_Ob) (bf : Nat → Nat) (sd : Int64) (x1 : Int32) (x2 : Int32) (x3 : Int32) : Option (Int32 × (Nat → hj_Ob)) :=
  hj_o1 (fX5_isSide x1) fun r1 => if r1 = 0 then (if x1 = 9 then (fX5_coins_13 σ bf sd x1 x2 x3) else (some ((-2), σ))) else (fX5_coins_13 σ bf sd x1 x2 x3)
set_option maxHeartbeats 4000000 in
set_option maxRecDepth 100000 in
theorem wX5_coins {p : Program} {l : Launch} {e : Env} {s : State} {m : MethodId} {args : Array Value} {below : List Frame} {meth : Method} {c : Code} {g : hj_G} {ad : Nat → Nat} (hI : hj_I 73 ad) (C : hj_C p s m args meth c cX5_coins RX5 wsX5_coins 7 (some .int)) (hK : hj_K g s) {σ : Nat → hj_Ob} {bf : Nat → Nat} {sd : Int64} {x1 : Int32} {x2 : Int32} {x3 : Int32} {rF : Int32} {σF : Nat → hj_Ob}
    (hf : fX5_coins σ bf sd x1 x2 x3 = some (rF, σF)) {H : Heap} {locs : List Loc} {ls : Array Slot} (hP : hj_P g 73 ad (hj_wx g ad σ bf sd) H) (hS : hj_S 73 ad s H locs) (hl : lv_has ls 7 [(0, .ref (ad 0)), (1, .int x1), (2, .int x2), (3, .int x3)]) :
    W p l e rmX5_coins s m args below meth c H locs 0 0 (MQ below (hj_QI g 73 ad (hj_wx g ad σF bf sd) rF s.heap.size) args s 0 0 (hj_A 73 ad s.heap.size)) (F0 m 0 ls []) := by
  obtain ⟨hx, hb, hr, hml, hown, hts, hlocks⟩ := id C
  unfold fX5_coins at hf
  refine lv_iload_n hx hb dX5_coins_0 rfl (lv_at hl 1 rfl) ?_
  obtain ⟨r1, hc, hf⟩ := hj_o1_s hf
  refine hj_callSi (nL := 7) (As := [.int x1]) (rest := []) ⟨hx, hb, hml, hown, hts⟩ (ctX5_isSide l g (n := 73) (ad := ad) (w := (hj_wx g ad σ bf sd)) hc) (va_cwS 1 hts gX5_coins_X5_isSide rfl rfl rfl (by decide +kernel) ⟨Nat.le_of_ble_eq_true rfl, Nat.le_of_ble_eq_true rfl⟩) hj_Xb0 (fun _ _ _ => trivial) hK hP hS rfl hl.1 rfl (Nat.le_of_ble_eq_true rfl) dX5_coins_1 (fun H locs hP hS => ?_)
  refine lv_if_ne (tgt := 13) hx hb dX5_coins_4 (by decide) (fun c2 => ?_) (fun c2 => ?_)
  · rw [if_neg c2] at hf
    exact wX5_coins_13 hI C hK  hf hP hS (lv_sub hl [0, 1, 2, 3] rfl)
  · rw [if_pos c2] at hf
    refine lv_iload_n hx hb dX5_coins_7 rfl (lv_at hl 1 rfl) ?_
    refine lv_bipush (v := 9) hx hb dX5_coins_8 (by decide) ?_
    refine lv_icmp_ne (tgt := 23) hx hb dX5_coins_10 (by decide) (fun c26 => ?_) (fun c26 => ?_)
    · rw [if_neg c26] at hf
      refine lv_bipush (v := (-2)) hx hb dX5_coins_23 (by decide) ?_
      have hq := Option.some.inj hf
      obtain ⟨rfl, rfl⟩ := Prod.mk.inj hq
      exact hj_reti C hP hK hS dX5_coins_25
    · rw [if_pos c26] at hf
      exact wX5_coins_13 hI C hK  hf hP hS (lv_sub hl [0, 1, 2, 3] rfl)
set_option maxHeartbeats 4000000 in
set_option maxRecDepth 100000 in
theorem ctX5_coins (l : Launch) (g : hj_G) {ad : Nat → Nat} (hI : hj_I 73 ad) {σ : Nat → hj_Ob} {bf : Nat → Nat} {sd : Int64} {x1 : Int32} {x2 : Int32} {x3 : Int32} {rF : Int32} {σF : Nat → hj_Ob} (hf : fX5_coins σ bf sd x1 x2 x3 = some (rF, σF)) :
    hj_MI l yX5_coins wsX5_coins rmX5_coins g 73 ad hj_X0 [.ref (ad 0), .int x1, .int x2, .int x3] (hj_wx g ad σ bf sd) rF (hj_wx g ad σF bf sd) := by
  refine hj_ofI (cc := cX5_coins) (maxL := 7) (ret := (some .int)) (by decide) rfl (Nat.le_of_ble_eq_true rfl) ?_
  intro p e s m args below meth c ls C hP hK hX hl
  exact wX5_coins hI C hK hf hP va_S.rf hl

/-! X5_seed -/
abbrev rmX5_seed : Room := { frames := 0, cells := 0, slots := 0, locals := 0 }
theorem iX5_seed_X5 : ∀ w ∈ wsX50, w ∈ wsX5_seed := fun _ h => List.mem_cons_of_mem _ (List.mem_append_right _ h)
theorem mX5_seed_1 : Cond.fieldLink RX5 196 "HungryJury" "theSeed" "J" ∈ wsX5_seed := List.mem_of_getElem? (i := 1) rfl
def fX5_seed (σ : Nat → hj_Ob) (bf : Nat → Nat) (sd : Int64) (x1 : Int64) : Option (Int64 × Int64) :=
  some (sd, x1)
set_option maxHeartbeats 4000000 in
set_option maxRecDepth 100000 in
theorem wX5_seed {p : Program} {l : Launch} {e : Env} {s : State} {m : MethodId} {args : Array Value} {below : List Frame} {meth : Method} {c : Code} {g : hj_G} {ad : Nat → Nat} (hI : hj_I 73 ad) (C : hj_C p s m args meth c cX5_seed RX5 wsX5_seed 5 (some .long)) (hK : hj_K g s) {σ : Nat → hj_Ob} {bf : Nat → Nat} {sd : Int64} {x1 : Int64} {rF : Int64} {sdF : Int64}
    (hf : fX5_seed σ bf sd x1 = some (rF, sdF)) {H : Heap} {locs : List Loc} {ls : Array Slot} (hP : hj_P g 73 ad (hj_wx g ad σ bf sd) H) (hS : hj_S 73 ad s H locs) (hl : lv_has ls 5 [(0, .ref (ad 0)), (1, .long x1)]) :
    W p l e rmX5_seed s m args below meth c H locs 0 0 (MQ below (hj_QL g 73 ad (hj_wx g ad σ bf sdF) rF s.heap.size) args s 0 0 (hj_A 73 ad s.heap.size)) (F0 m 0 ls []) := by
  obtain ⟨hx, hb, hr, hml, hown, hts, hlocks⟩ := id C
  unfold fX5_seed at hf
  refine lv_aload_n hx hb dX5_seed_0 rfl (lv_at hl 0 rfl) ?_
  refine hj_get (ci := 5) (v := .long sd) (C := RX5) (T := TX5) (N := 10) hx hb hts iX5_seed_X5 hown hK hP (by decide) wx_at_h rfl 9 (by decide) mX5_seed_1 rfl dX5_seed_1 ?_
  refine lv_lstore_n (lv' := [(3, .long sd), (0, .ref (ad 0)), (1, .long x1)]) hx hb dX5_seed_4 rfl hl (by decide) rfl (fun ls hl => ?_)
  refine lv_aload_n hx hb dX5_seed_5 rfl (lv_at hl 1 rfl) ?_
  refine lv_lload_n hx hb dX5_seed_6 rfl (lv_at hl 2 rfl) ?_
  refine hj_put (ci := 5) (v := .long x1) (C := RX5) (T := TX5) (N := 10) hx hb hts iX5_seed_X5 tyX5 tyX5_ok nmX5 hown hK hI hP hS (by decide) wx_at_h rfl 9 (by decide) mX5_seed_1 rfl rfl rfl (Nat.le_of_ble_eq_true rfl) dX5_seed_7 wx_s_d (fun H locs hP hS => ?_)
  refine lv_lload_n hx hb dX5_seed_10 rfl (lv_at hl 0 rfl) ?_
  have hq := Option.some.inj hf
  obtain ⟨rfl, rfl⟩ := Prod.mk.inj hq
  exact hj_retl C hP hK hS dX5_seed_11
set_option maxHeartbeats 4000000 in
set_option maxRecDepth 100000 in
theorem ctX5_seed (l : Launch) (g : hj_G) {ad : Nat → Nat} (hI : hj_I 73 ad) {σ : Nat → hj_Ob} {bf : Nat → Nat} {sd : Int64} {x1 : Int64} {rF : Int64} {sdF : Int64} (hf : fX5_seed σ bf sd x1 = some (rF, sdF)) :
    hj_ML l yX5_seed wsX5_seed rmX5_seed g 73 ad hj_X0 [.ref (ad 0), .long x1] (hj_wx g ad σ bf sd) rF (hj_wx g ad σ bf sdF) := by
  refine hj_ofL (cc := cX5_seed) (maxL := 5) (ret := (some .long)) (by decide) rfl (Nat.le_of_ble_eq_true rfl) ?_
  intro p e s m args below meth c ls C hP hK hX hl
  exact wX5_seed hI C hK hf hP va_S.rf hl

/-! X5_assizes -/
abbrev rmX5_assizes : Room := { frames := 4, cells := 0, slots := 0, locals := 90 }
theorem iX5_assizes_X5 : ∀ w ∈ wsX50, w ∈ wsX5_assizes := fun _ h => List.mem_cons_of_mem _ (List.mem_append_left _ (List.mem_append_left _ (List.mem_append_right _ h)))
theorem mX5_assizes_1 : Cond.fieldLink RX5 35 "HungryJury" "trial" "LHungryJury$Room;" ∈ wsX5_assizes := List.mem_of_getElem? (i := 1) rfl
theorem mX5_assizes_2 : Cond.fieldLink RX5 31 "HungryJury" "now" "LHungryJury$Room;" ∈ wsX5_assizes := List.mem_of_getElem? (i := 2) rfl
theorem mX5_assizes_3 : Cond.fieldLink RX5 196 "HungryJury" "theSeed" "J" ∈ wsX5_assizes := List.mem_of_getElem? (i := 3) rfl
theorem mX5_assizes_4 : Cond.constantLong RX5 200 (6364136223846793005) ∈ wsX5_assizes := List.mem_of_getElem? (i := 4) rfl
theorem mX5_assizes_5 : Cond.constantLong RX5 202 (1442695040888963407) ∈ wsX5_assizes := List.mem_of_getElem? (i := 5) rfl
theorem mX5_assizes_6 : Cond.constantLong RX5 204 (9) ∈ wsX5_assizes := List.mem_of_getElem? (i := 6) rfl
def fX5_assizes_104 (σ : Nat → hj_Ob) (bf : Nat → Nat) (sd : Int64) (x1 : Int32) (x2 : Int32) (x3 : Int32) : Option ((Int32 × (Nat → hj_Ob) × Int64) ⊕ (Int32 × Int32 × (Nat → hj_Ob) × Int64)) :=
  hj_o1 (fX2_verdict (σ 3) (σ 14)) fun r11 => if r11 = 9 then (hj_nm (x2 + 0) fun y15 => hj_nm (x3 + 1) fun y16 => some (.inr (y15, y16, σ, sd))) else (hj_nm (x2 + 1) fun y13 => hj_nm (x3 + 1) fun y14 => some (.inr (y13, y14, σ, sd)))
set_option maxHeartbeats 4000000 in
set_option maxRecDepth 100000 in
theorem wX5_assizes_104 {p : Program} {l : Launch} {e : Env} {s : State} {m : MethodId} {args : Array Value} {below : List Frame} {meth : Method} {c : Code} {g : hj_G} {ad : Nat → Nat} (hI : hj_I 73 ad) (C : hj_C p s m args meth c cX5_assizes RX5 wsX5_assizes 5 (some .int)) (hK : hj_K g s) {σ : Nat → hj_Ob} {bf : Nat → Nat} {sd : Int64} {x1 : Int32} {x2 : Int32} {x3 : Int32} {y : (Int32 × (Nat → hj_Ob) × Int64) ⊕ (Int32 × Int32 × (Nat → hj_Ob) × Int64)} {rF : Int32} {σF : Nat → hj_Ob} {sdF : Int64}
    (hf : fX5_assizes_104 σ bf sd x1 x2 x3 = some y) (KX : ∀ (v2 : Int32) (σ' : Nat → hj_Ob) (sd' : Int64), y = .inl (v2, σ', sd') → ∀ (H : Heap) (locs : List Loc) (ls : Array Slot), hj_P g 73 ad (hj_wx g ad σ' bf sd') H → hj_S 73 ad s H locs → lv_has ls 5 [(2, .int v2)] → W p l e rmX5_assizes s m args below meth c H locs 0 0 (MQ below (hj_QI g 73 ad (hj_wx g ad σF bf sdF) rF s.heap.size) args s 0 0 (hj_A 73 ad s.heap.size)) (F0 m 130 ls [])) (KI : ∀ (v2 : Int32) (v3 : Int32) (σ' : Nat → hj_Ob) (sd' : Int64), y = .inr (v2, v3, σ', sd') → ∀ (H : Heap) (locs : List Loc) (ls : Array Slot), hj_P g 73 ad (hj_wx g ad σ' bf sd') H → hj_S 73 ad s H locs → lv_has ls 5 [(0, .ref (ad 0)), (1, .int x1), (2, .int v2), (3, .int v3)] → W p l e rmX5_assizes s m args below meth c H locs 0 0 (MQ below (hj_QI g 73 ad (hj_wx g ad σF bf sdF) rF s.heap.size) args s 0 0 (hj_A 73 ad s.heap.size)) (F0 m 29 ls [])) {H : Heap} {locs : List Loc} {ls : Array Slot} (hP : hj_P g 73 ad (hj_wx g ad σ bf sd) H) (hS : hj_S 73 ad s H locs) (hl : lv_has ls 5 [(0, .ref (ad 0)), (1, .int x1), (2, .int x2), (3, .int x3)]) :
    W p l e rmX5_assizes s m args below meth c H locs 0 0 (MQ below (hj_QI g 73 ad (hj_wx g ad σF bf sdF) rF s.heap.size) args s 0 0 (hj_A 73 ad s.heap.size)) (F0 m 104 ls []) := by
  obtain ⟨hx, hb, hr, hml, hown, hts, hlocks⟩ := id C
  unfold fX5_assizes_104 at hf
  refine lv_iload_n hx hb dX5_assizes_104 rfl (lv_at hl 2 rfl) ?_
  refine lv_aload_n hx hb dX5_assizes_105 rfl (lv_at hl 0 rfl) ?_
  refine hj_get (ci := 5) (v := .ref (ad 14)) (C := RX5) (T := TX5) (N := 10) hx hb hts iX5_assizes_X5 hown hK hP (by decide) wx_at_h rfl 4 (by decide) mX5_assizes_1 rfl dX5_assizes_106 ?_
  obtain ⟨r11, hc, hf⟩ := hj_o1_s hf
  refine hj_callVi (nL := 5) (As := []) (rest := [.int x2]) (i0 := 14) (C := RX2) (T := TX2) (N := 6) (ci := 2) ⟨hx, hb, hml, hown, hts⟩ (ctX2_verdict l g hI (σ := σ) (bf := bf) (sd := sd) wx_R_14 rfl rfl hc) (cwV 0 hts gX5_assizes_X2_verdict rfl rfl rfl (by decide +kernel) ⟨Nat.le_of_ble_eq_true rfl, Nat.le_of_ble_eq_true rfl⟩) hj_Xb0 (fun _ _ _ => trivial) hK hP hS (by decide) (wx_at_r wx_R_14 rfl) rfl rfl hl.1 rfl (Nat.le_of_ble_eq_true rfl) dX5_assizes_109 (fun H locs hP hS => ?_)
  refine lv_bipush (v := 9) hx hb dX5_assizes_112 (by decide) ?_
  refine lv_icmp_ne (tgt := 121) hx hb dX5_assizes_114 (by decide) (fun c12 => ?_) (fun c12 => ?_)
  · rw [if_neg c12] at hf
    refine lv_iconst (v := 1) hx hb dX5_assizes_121 (by decide) ?_
    refine lv_iadd hx hb dX5_assizes_122 ?_
    refine lv_topi (fun y13 ey13 => ?_)
    replace hf := hj_nm_y hf ey13
    refine lv_istore_n (lv' := [(2, .int y13), (0, .ref (ad 0)), (1, .int x1), (3, .int x3)]) hx hb dX5_assizes_123 rfl hl (by decide) rfl (fun ls hl => ?_)
    obtain ⟨y14, ey14⟩ : ∃ z : Int32, z = x3 + 1 := ⟨_, rfl⟩
    replace hf := hj_nm_y hf ey14
    refine lv_iinc (v := y14) (lv' := [(3, .int y14), (2, .int y13), (0, .ref (ad 0)), (1, .int x1)]) hx hb dX5_assizes_124 hl (k := 3) rfl (by rw [ey14]; rfl) (by decide) rfl (fun ls hl => ?_)
    refine lv_goto (tgt := 29) hx hb dX5_assizes_127 (by decide) ?_
    exact KI _ _ _ _ (Option.some.inj hf).symm _ _ _ hP hS (lv_sub hl [2, 3, 1, 0] rfl)
  · rw [if_pos c12] at hf
    refine lv_iconst (v := 0) hx hb dX5_assizes_117 (by decide) ?_
    refine lv_goto (tgt := 122) hx hb dX5_assizes_118 (by decide) ?_
    refine lv_iadd hx hb dX5_assizes_122 ?_
    refine lv_topi (fun y15 ey15 => ?_)
    replace hf := hj_nm_y hf ey15
    refine lv_istore_n (lv' := [(2, .int y15), (0, .ref (ad 0)), (1, .int x1), (3, .int x3)]) hx hb dX5_assizes_123 rfl hl (by decide) rfl (fun ls hl => ?_)
    obtain ⟨y16, ey16⟩ : ∃ z : Int32, z = x3 + 1 := ⟨_, rfl⟩
    replace hf := hj_nm_y hf ey16
    refine lv_iinc (v := y16) (lv' := [(3, .int y16), (2, .int y15), (0, .ref (ad 0)), (1, .int x1)]) hx hb dX5_assizes_124 hl (k := 3) rfl (by rw [ey16]; rfl) (by decide) rfl (fun ls hl => ?_)
    refine lv_goto (tgt := 29) hx hb dX5_assizes_127 (by decide) ?_
    exact KI _ _ _ _ (Option.some.inj hf).symm _ _ _ hP hS (lv_sub hl [2, 3, 1, 0] rfl)
def fX5_assizes_29 (σ : Nat → hj_Ob) (bf : Nat → Nat) (sd : Int64) (x1 : Int32) (x2 : Int32) (x3 : Int32) : Option ((Int32 × (Nat → hj_Ob) × Int64) ⊕ (Int32 × Int32 × (Nat → hj_Ob) × Int64)) :=
  if x1 ≤ x3 then (some (.inl (x2, σ, sd))) else (hj_nm ((sd * 6364136223846793005) + 1442695040888963407) fun sd6 => hj_nm ((((sd6.toUInt64 >>> ((33 : Int32).toInt64.toUInt64 &&& Int64.toUInt64 63)).toInt64) - ((sd6.toUInt64 >>> ((33 : Int32).toInt64.toUInt64 &&& Int64.toUInt64 63)).toInt64) / 9 * 9).toInt32) fun y7 => if y7 < 6 then (hj_o1 (fX2_isThere (σ 3) (σ 14) y7) fun r9 => if r9 = 0 then (fX5_assizes_104 σ bf sd6 x1 x2 x3) else (hj_o1 (fX2_carryOut (σ 3) (σ 14) 4 y7) fun ρ17 => hj_nm (va_up σ 14 ρ17) fun σ18 => fX5_assizes_104 σ18 bf sd6 x1 x2 x3)) else (hj_o2 (fX2_passHour (σ 3) (σ 14)) fun r19 ρ20 => hj_nm (va_up σ 14 ρ20) fun σ21 => fX5_assizes_104 σ21 bf sd6 x1 x2 x3))
set_option maxHeartbeats 4000000 in
set_option maxRecDepth 100000 in
theorem wX5_assizes_29b {p : Program} {l : Launch} {e : Env} {s : State} {m : MethodId} {args : Array Value} {below : List Frame} {meth : Method} {c : Code} {g : hj_G} {ad : Nat → Nat} (hI : hj_I 73 ad) (C : hj_C p s m args meth c cX5_assizes RX5 wsX5_assizes 5 (some .int)) (hK : hj_K g s) {σ : Nat → hj_Ob} {bf : Nat → Nat} {sd : Int64} {x1 : Int32} {x2 : Int32} {x3 : Int32} {y : (Int32 × (Nat → hj_Ob) × Int64) ⊕ (Int32 × Int32 × (Nat → hj_Ob) × Int64)} {rF : Int32} {σF : Nat → hj_Ob} {sdF : Int64}
    (hf : fX5_assizes_29 σ bf sd x1 x2 x3 = some y) (KX : ∀ (v2 : Int32) (σ' : Nat → hj_Ob) (sd' : Int64), y = .inl (v2, σ', sd') → ∀ (H : Heap) (locs : List Loc) (ls : Array Slot), hj_P g 73 ad (hj_wx g ad σ' bf sd') H → hj_S 73 ad s H locs → lv_has ls 5 [(2, .int v2)] → W p l e rmX5_assizes s m args below meth c H locs 0 0 (MQ below (hj_QI g 73 ad (hj_wx g ad σF bf sdF) rF s.heap.size) args s 0 0 (hj_A 73 ad s.heap.size)) (F0 m 130 ls [])) (KI : ∀ (v2 : Int32) (v3 : Int32) (σ' : Nat → hj_Ob) (sd' : Int64), y = .inr (v2, v3, σ', sd') → ∀ (H : Heap) (locs : List Loc) (ls : Array Slot), hj_P g 73 ad (hj_wx g ad σ' bf sd') H → hj_S 73 ad s H locs → lv_has ls 5 [(0, .ref (ad 0)), (1, .int x1), (2, .int v2), (3, .int v3)] → W p l e rmX5_assizes s m args below meth c H locs 0 0 (MQ below (hj_QI g 73 ad (hj_wx g ad σF bf sdF) rF s.heap.size) args s 0 0 (hj_A 73 ad s.heap.size)) (F0 m 29 ls [])) {H : Heap} {locs : List Loc} {ls : Array Slot} (hP : hj_P g 73 ad (hj_wx g ad σ bf sd) H) (hS : hj_S 73 ad s H locs) (hl : lv_has ls 5 [(0, .ref (ad 0)), (1, .int x1), (2, .int x2), (3, .int x3)]) :
    W p l e rmX5_assizes s m args below meth c H locs 0 0 (MQ below (hj_QI g 73 ad (hj_wx g ad σF bf sdF) rF s.heap.size) args s 0 0 (hj_A 73 ad s.heap.size)) (F0 m 29 ls []) := by
  obtain ⟨hx, hb, hr, hml, hown, hts, hlocks⟩ := id C
  unfold fX5_assizes_29 at hf
  refine lv_iload_n hx hb dX5_assizes_29 rfl (lv_at hl 3 rfl) ?_
  refine lv_iload_n hx hb dX5_assizes_30 rfl (lv_at hl 1 rfl) ?_
  refine lv_icmp_ge (tgt := 130) hx hb dX5_assizes_31 (by decide) (fun c5 => ?_) (fun c5 => ?_)
  · rw [if_pos c5] at hf
    exact KX _ _ _ (Option.some.inj hf).symm _ _ _ hP hS (lv_sub hl [2] rfl)
  · rw [if_neg c5] at hf
    refine lv_aload_n hx hb dX5_assizes_34 rfl (lv_at hl 0 rfl) ?_
    refine lv_aload_n hx hb dX5_assizes_35 rfl (lv_at hl 0 rfl) ?_
    refine hj_get (ci := 5) (v := .long sd) (C := RX5) (T := TX5) (N := 10) hx hb hts iX5_assizes_X5 hown hK hP (by decide) wx_at_h rfl 9 (by decide) mX5_assizes_3 rfl dX5_assizes_36 ?_
    refine lv_ldc2 hx hb hown (hts _ mX5_assizes_4) dX5_assizes_39 ?_
    refine lv_lmul hx hb dX5_assizes_42 ?_
    refine lv_ldc2 hx hb hown (hts _ mX5_assizes_5) dX5_assizes_43 ?_
    refine lv_ladd hx hb dX5_assizes_46 ?_
    refine hj_put (ci := 5) (v := .long ((sd * 6364136223846793005) + 1442695040888963407)) (C := RX5) (T := TX5) (N := 10) hx hb hts iX5_assizes_X5 tyX5 tyX5_ok nmX5 hown hK hI hP hS (by decide) wx_at_h rfl 9 (by decide) mX5_assizes_3 rfl rfl rfl (Nat.le_of_ble_eq_true rfl) dX5_assizes_47 wx_s_d (fun H locs hP hS => ?_)
    obtain ⟨sd6, esd6⟩ : ∃ z : Int64, z = (sd * 6364136223846793005) + 1442695040888963407 := ⟨_, rfl⟩
    replace hf := hj_nm_y hf esd6
    rw [← esd6] at hP
    refine lv_aload_n hx hb dX5_assizes_50 rfl (lv_at hl 0 rfl) ?_
    refine hj_get (ci := 5) (v := .long sd6) (C := RX5) (T := TX5) (N := 10) hx hb hts iX5_assizes_X5 hown hK hP (by decide) wx_at_h rfl 9 (by decide) mX5_assizes_3 rfl dX5_assizes_51 ?_
    refine lv_bipush (v := 33) hx hb dX5_assizes_54 (by decide) ?_
    refine lv_lushr (v := (sd6.toUInt64 >>> ((33 : Int32).toInt64.toUInt64 &&& Int64.toUInt64 63)).toInt64) hx hb dX5_assizes_56 rfl ?_
    refine lv_ldc2 hx hb hown (hts _ mX5_assizes_6) dX5_assizes_57 ?_
    refine lv_lrem hx hb dX5_assizes_60 (by decide) ?_
    refine lv_l2i (v := (((sd6.toUInt64 >>> ((33 : Int32).toInt64.toUInt64 &&& Int64.toUInt64 63)).toInt64) - ((sd6.toUInt64 >>> ((33 : Int32).toInt64.toUInt64 &&& Int64.toUInt64 63)).toInt64) / 9 * 9).toInt32) hx hb dX5_assizes_61 rfl ?_
    refine lv_topi (fun y7 ey7 => ?_)
    replace hf := hj_nm_y hf ey7
    refine lv_istore (lv' := [(4, .int y7), (0, .ref (ad 0)), (1, .int x1), (2, .int x2), (3, .int x3)]) hx hb dX5_assizes_62 hl (by decide) rfl (fun ls hl => ?_)
    refine lv_iload hx hb dX5_assizes_64 (lv_at hl 0 rfl) ?_
    refine lv_bipush (v := 6) hx hb dX5_assizes_66 (by decide) ?_
    refine lv_icmp_lt (tgt := 82) hx hb dX5_assizes_68 (by decide) (fun c8 => ?_) (fun c8 => ?_)
    · rw [if_pos c8] at hf
      refine lv_aload_n hx hb dX5_assizes_82 rfl (lv_at hl 1 rfl) ?_
      refine hj_get (ci := 5) (v := .ref (ad 14)) (C := RX5) (T := TX5) (N := 10) hx hb hts iX5_assizes_X5 hown hK hP (by decide) wx_at_h rfl 4 (by decide) mX5_assizes_1 rfl dX5_assizes_83 ?_
      refine lv_iload hx hb dX5_assizes_86 (lv_at hl 0 rfl) ?_
      obtain ⟨r9, hc, hf⟩ := hj_o1_s hf
      refine hj_callVi (nL := 5) (As := [.int y7]) (rest := []) (i0 := 14) (C := RX2) (T := TX2) (N := 6) (ci := 2) ⟨hx, hb, hml, hown, hts⟩ (ctX2_isThere l g hI (σ := σ) (bf := bf) (sd := sd6) wx_R_14 rfl rfl hc) (cwV 1 hts gX5_assizes_X2_isThere rfl rfl rfl (by decide +kernel) ⟨Nat.le_of_ble_eq_true rfl, Nat.le_of_ble_eq_true rfl⟩) hj_Xb0 (fun _ _ _ => trivial) hK hP hS (by decide) (wx_at_r wx_R_14 rfl) rfl rfl hl.1 rfl (Nat.le_of_ble_eq_true rfl) dX5_assizes_88 (fun H locs hP hS => ?_)
      refine lv_if_eq (tgt := 104) hx hb dX5_assizes_91 (by decide) (fun c10 => ?_) (fun c10 => ?_)
      · rw [if_pos c10] at hf
        exact wX5_assizes_104 hI C hK  hf KX KI hP hS (lv_sub hl [1, 2, 3, 4] rfl)
      · rw [if_neg c10] at hf
        refine lv_aload_n hx hb dX5_assizes_94 rfl (lv_at hl 1 rfl) ?_
        refine hj_get (ci := 5) (v := .ref (ad 14)) (C := RX5) (T := TX5) (N := 10) hx hb hts iX5_assizes_X5 hown hK hP (by decide) wx_at_h rfl 4 (by decide) mX5_assizes_1 rfl dX5_assizes_95 ?_
        refine lv_iconst (v := 4) hx hb dX5_assizes_98 (by decide) ?_
        refine lv_iload hx hb dX5_assizes_99 (lv_at hl 0 rfl) ?_
        obtain ⟨ρ17, hc, hf⟩ := hj_o1_s hf
        refine hj_callVv (nL := 5) (As := [.int 4, .int y7]) (rest := []) (i0 := 14) (C := RX2) (T := TX2) (N := 6) (ci := 2) ⟨hx, hb, hml, hown, hts⟩ (ctX2_carryOut l g hI (σ := σ) (bf := bf) (sd := sd6) wx_R_14 rfl rfl hc) (cwV 2 hts gX5_assizes_X2_carryOut rfl rfl rfl (by decide +kernel) ⟨Nat.le_of_ble_eq_true rfl, Nat.le_of_ble_eq_true rfl⟩) hj_Xb0 (fun _ _ _ => trivial) hK hP hS (by decide) (wx_at_r wx_R_14 rfl) rfl rfl hl.1 rfl (Nat.le_of_ble_eq_true rfl) dX5_assizes_101 (fun H locs hP hS => ?_)
        obtain ⟨σ18, eσ18⟩ : ∃ z : Nat → hj_Ob, z = va_up σ 14 ρ17 := ⟨_, rfl⟩
        replace hf := hj_nm_y hf eσ18
        rw [← eσ18] at hP
        exact wX5_assizes_104 hI C hK  hf KX KI hP hS (lv_sub hl [1, 2, 3, 4] rfl)
    · rw [if_neg c8] at hf
      refine lv_aload_n hx hb dX5_assizes_71 rfl (lv_at hl 1 rfl) ?_
      refine hj_get (ci := 5) (v := .ref (ad 14)) (C := RX5) (T := TX5) (N := 10) hx hb hts iX5_assizes_X5 hown hK hP (by decide) wx_at_h rfl 4 (by decide) mX5_assizes_1 rfl dX5_assizes_72 ?_
      obtain ⟨r19, ρ20, hc, hf⟩ := hj_o2_s hf
      refine hj_callVi (nL := 5) (As := []) (rest := []) (i0 := 14) (C := RX2) (T := TX2) (N := 6) (ci := 2) ⟨hx, hb, hml, hown, hts⟩ (ctX2_passHour l g hI (σ := σ) (bf := bf) (sd := sd6) wx_R_14 rfl rfl hc) (cwV 0 hts gX5_assizes_X2_passHour rfl rfl rfl (by decide +kernel) ⟨Nat.le_of_ble_eq_true rfl, Nat.le_of_ble_eq_true rfl⟩) hj_Xb0 (fun _ _ _ => trivial) hK hP hS (by decide) (wx_at_r wx_R_14 rfl) rfl rfl hl.1 rfl (Nat.le_of_ble_eq_true rfl) dX5_assizes_75 (fun H locs hP hS => ?_)
      obtain ⟨σ21, eσ21⟩ : ∃ z : Nat → hj_Ob, z = va_up σ 14 ρ20 := ⟨_, rfl⟩
      replace hf := hj_nm_y hf eσ21
      rw [← eσ21] at hP
      refine lv_pop hx hb dX5_assizes_78 rfl ?_
      refine lv_goto (tgt := 104) hx hb dX5_assizes_79 (by decide) ?_
      exact wX5_assizes_104 hI C hK  hf KX KI hP hS (lv_sub hl [1, 2, 3, 4] rfl)
set_option maxHeartbeats 4000000 in
set_option maxRecDepth 100000 in
theorem wX5_assizes_29 {p : Program} {l : Launch} {e : Env} {s : State} {m : MethodId} {args : Array Value} {below : List Frame} {meth : Method} {c : Code} {g : hj_G} {ad : Nat → Nat} (hI : hj_I 73 ad) (C : hj_C p s m args meth c cX5_assizes RX5 wsX5_assizes 5 (some .int)) (hK : hj_K g s) {bf : Nat → Nat} {x1 : Int32} {rF : Int32} {σF : Nat → hj_Ob} {sdF : Int64} {e2 : Int32} {σe : Nat → hj_Ob} {sde : Int64} :
    ∀ (fu : Nat) (x2 : Int32) (x3 : Int32) (σ : Nat → hj_Ob) (sd : Int64), hj_lp (fun q : (Int32 × Int32 × (Nat → hj_Ob) × Int64) => fX5_assizes_29 q.2.2.1 bf q.2.2.2 x1 q.1 q.2.1) fu (x2, x3, σ, sd) = some (e2, σe, sde) → (∀ (H : Heap) (locs : List Loc) (ls : Array Slot), hj_P g 73 ad (hj_wx g ad σe bf sde) H → hj_S 73 ad s H locs → lv_has ls 5 [(2, .int e2)] → W p l e rmX5_assizes s m args below meth c H locs 0 0 (MQ below (hj_QI g 73 ad (hj_wx g ad σF bf sdF) rF s.heap.size) args s 0 0 (hj_A 73 ad s.heap.size)) (F0 m 130 ls [])) → ∀ (H : Heap) (locs : List Loc) (ls : Array Slot), hj_P g 73 ad (hj_wx g ad σ bf sd) H → hj_S 73 ad s H locs → lv_has ls 5 [(0, .ref (ad 0)), (1, .int x1), (2, .int x2), (3, .int x3)] →
    W p l e rmX5_assizes s m args below meth c H locs 0 0 (MQ below (hj_QI g 73 ad (hj_wx g ad σF bf sdF) rF s.heap.size) args s 0 0 (hj_A 73 ad s.heap.size)) (F0 m 29 ls []) := by
  intro fu
  induction fu with
  | zero => intro x2 x3 σ sd hq; cases hq
  | succ fu ih =>
    intro x2 x3 σ sd hq KX H locs ls hP hS hl
    obtain ⟨y, hy, h1, h2⟩ := hj_lp_s hq
    exact wX5_assizes_29b hI C hK  hy (fun v2 σ' sd' hv H locs ls hP hS hl => by have hw := h1 _ hv; obtain ⟨rfl, hw0⟩ := Prod.mk.inj hw; obtain ⟨rfl, rfl⟩ := Prod.mk.inj hw0; exact KX H locs ls hP hS hl) (fun v2 v3 σ' sd' hv H locs ls hP hS hl => ih v2 v3 σ' sd' (h2 _ hv) KX H locs ls hP hS hl) hP hS hl
def fX5_assizes (σ : Nat → hj_Ob) (bf : Nat → Nat) (sd : Int64) (x1 : Int32) : Option (Int32 × (Nat → hj_Ob) × Int64) :=
  if x1 < 1 then (some ((-2), σ, sd)) else (if x1 ≤ 20 then (hj_o1 (fX2_copyFrom (σ 3) (σ 11) (σ 14)) fun ρ3 => hj_nm (va_up σ 14 ρ3) fun σ4 => hj_o3 (hj_lp (fun q : (Int32 × Int32 × (Nat → hj_Ob) × Int64) => fX5_assizes_29 q.2.2.1 bf q.2.2.2 x1 q.1 q.2.1) 100 (0, 0, σ4, sd)) fun e22 σ23 sd24 => (some (e22, σ23, sd24))) else (some ((-2), σ, sd)))
set_option maxHeartbeats 4000000 in
set_option maxRecDepth 100000 in
theorem wX5_assizes {p : Program} {l : Launch} {e : Env} {s : State} {m : MethodId} {args : Array Value} {below : List Frame} {meth : Method} {c : Code} {g : hj_G} {ad : Nat → Nat} (hI : hj_I 73 ad) (C : hj_C p s m args meth c cX5_assizes RX5 wsX5_assizes 5 (some .int)) (hK : hj_K g s) {σ : Nat → hj_Ob} {bf : Nat → Nat} {sd : Int64} {x1 : Int32} {rF : Int32} {σF : Nat → hj_Ob} {sdF : Int64}
    (hf : fX5_assizes σ bf sd x1 = some (rF, σF, sdF)) {H : Heap} {locs : List Loc} {ls : Array Slot} (hP : hj_P g 73 ad (hj_wx g ad σ bf sd) H) (hS : hj_S 73 ad s H locs) (hl : lv_has ls 5 [(0, .ref (ad 0)), (1, .int x1)]) :
    W p l e rmX5_assizes s m args below meth c H locs 0 0 (MQ below (hj_QI g 73 ad (hj_wx g ad σF bf sdF) rF s.heap.size) args s 0 0 (hj_A 73 ad s.heap.size)) (F0 m 0 ls []) := by
  obtain ⟨hx, hb, hr, hml, hown, hts, hlocks⟩ := id C
  unfold fX5_assizes at hf
  refine lv_iload_n hx hb dX5_assizes_0 rfl (lv_at hl 1 rfl) ?_
  refine lv_iconst (v := 1) hx hb dX5_assizes_1 (by decide) ?_
  refine lv_icmp_lt (tgt := 11) hx hb dX5_assizes_2 (by decide) (fun c1 => ?_) (fun c1 => ?_)
  · rw [if_pos c1] at hf
    refine lv_bipush (v := (-2)) hx hb dX5_assizes_11 (by decide) ?_
    have hq := Option.some.inj hf
    obtain ⟨rfl, hq0⟩ := Prod.mk.inj hq
    obtain ⟨rfl, rfl⟩ := Prod.mk.inj hq0
    exact hj_reti C hP hK hS dX5_assizes_13
  · rw [if_neg c1] at hf
    refine lv_iload_n hx hb dX5_assizes_5 rfl (lv_at hl 1 rfl) ?_
    refine lv_bipush (v := 20) hx hb dX5_assizes_6 (by decide) ?_
    refine lv_icmp_le (tgt := 14) hx hb dX5_assizes_8 (by decide) (fun c2 => ?_) (fun c2 => ?_)
    · rw [if_pos c2] at hf
      refine lv_aload_n hx hb dX5_assizes_14 rfl (lv_at hl 0 rfl) ?_
      refine hj_get (ci := 5) (v := .ref (ad 14)) (C := RX5) (T := TX5) (N := 10) hx hb hts iX5_assizes_X5 hown hK hP (by decide) wx_at_h rfl 4 (by decide) mX5_assizes_1 rfl dX5_assizes_15 ?_
      refine lv_aload_n hx hb dX5_assizes_18 rfl (lv_at hl 0 rfl) ?_
      refine hj_get (ci := 5) (v := .ref (ad 11)) (C := RX5) (T := TX5) (N := 10) hx hb hts iX5_assizes_X5 hown hK hP (by decide) wx_at_h rfl 3 (by decide) mX5_assizes_2 rfl dX5_assizes_19 ?_
      obtain ⟨ρ3, hc, hf⟩ := hj_o1_s hf
      refine hj_callVv (nL := 5) (As := [.ref (ad 11)]) (rest := []) (i0 := 14) (C := RX2) (T := TX2) (N := 6) (ci := 2) ⟨hx, hb, hml, hown, hts⟩ (ctX2_copyFrom l g hI (σ := σ) (bf := bf) (sd := sd) wx_R_14 rfl wx_R_11 (by decide) rfl rfl hc) (cwV 1 hts gX5_assizes_X2_copyFrom rfl rfl rfl (by decide +kernel) ⟨Nat.le_of_ble_eq_true rfl, Nat.le_of_ble_eq_true rfl⟩) hj_Xb0 (fun _ _ _ => trivial) hK hP hS (by decide) (wx_at_r wx_R_14 rfl) rfl rfl hl.1 rfl (Nat.le_of_ble_eq_true rfl) dX5_assizes_22 (fun H locs hP hS => ?_)
      obtain ⟨σ4, eσ4⟩ : ∃ z : Nat → hj_Ob, z = va_up σ 14 ρ3 := ⟨_, rfl⟩
      replace hf := hj_nm_y hf eσ4
      rw [← eσ4] at hP
      refine lv_iconst (v := 0) hx hb dX5_assizes_25 (by decide) ?_
      refine lv_istore_n (lv' := [(2, .int 0), (0, .ref (ad 0)), (1, .int x1)]) hx hb dX5_assizes_26 rfl hl (by decide) rfl (fun ls hl => ?_)
      refine lv_iconst (v := 0) hx hb dX5_assizes_27 (by decide) ?_
      refine lv_istore_n (lv' := [(3, .int 0), (2, .int 0), (0, .ref (ad 0)), (1, .int x1)]) hx hb dX5_assizes_28 rfl hl (by decide) rfl (fun ls hl => ?_)
      obtain ⟨e22, σ23, sd24, hlx, hf⟩ := hj_o3_s hf
      refine wX5_assizes_29 hI C hK  100 0 0 σ4 sd hlx (fun H locs ls hP hS hl => ?_) H locs ls hP hS (lv_sub hl [2, 3, 1, 0] rfl)
      refine lv_iload_n hx hb dX5_assizes_130 rfl (lv_at hl 0 rfl) ?_
      have hq := Option.some.inj hf
      obtain ⟨rfl, hq0⟩ := Prod.mk.inj hq
      obtain ⟨rfl, rfl⟩ := Prod.mk.inj hq0
      exact hj_reti C hP hK hS dX5_assizes_131
    · rw [if_neg c2] at hf
      refine lv_bipush (v := (-2)) hx hb dX5_assizes_11 (by decide) ?_
      have hq := Option.some.inj hf
      obtain ⟨rfl, hq0⟩ := Prod.mk.inj hq
      obtain ⟨rfl, rfl⟩ := Prod.mk.inj hq0
      exact hj_reti C hP hK hS dX5_assizes_13
set_option maxHeartbeats 4000000 in
set_option maxRecDepth 100000 in
theorem ctX5_assizes (l : Launch) (g : hj_G) {ad : Nat → Nat} (hI : hj_I 73 ad) {σ : Nat → hj_Ob} {bf : Nat → Nat} {sd : Int64} {x1 : Int32} {rF : Int32} {σF : Nat → hj_Ob} {sdF : Int64} (hf : fX5_assizes σ bf sd x1 = some (rF, σF, sdF)) :
    hj_MI l yX5_assizes wsX5_assizes rmX5_assizes g 73 ad hj_X0 [.ref (ad 0), .int x1] (hj_wx g ad σ bf sd) rF (hj_wx g ad σF bf sdF) := by
  refine hj_ofI (cc := cX5_assizes) (maxL := 5) (ret := (some .int)) (by decide) rfl (Nat.le_of_ble_eq_true rfl) ?_
  intro p e s m args below meth c ls C hP hK hX hl
  exact wX5_assizes hI C hK hf hP va_S.rf hl

/-! X5_keep -/
abbrev rmX5_keep : Room := { frames := 1, cells := 0, slots := 0, locals := 22 }
theorem iX5_keep_X5 : ∀ w ∈ wsX50, w ∈ wsX5_keep := fun _ h => List.mem_cons_of_mem _ (List.mem_append_left _ (List.mem_append_right _ h))
theorem mX5_keep_1 : Cond.fieldLink RX5 45 "HungryJury" "slots" "[LHungryJury$Room;" ∈ wsX5_keep := List.mem_of_getElem? (i := 1) rfl
theorem mX5_keep_2 : Cond.fieldLink RX5 31 "HungryJury" "now" "LHungryJury$Room;" ∈ wsX5_keep := List.mem_of_getElem? (i := 2) rfl
theorem mX5_keep_3 : Cond.fieldLink RX5 49 "HungryJury" "isKept" "[Z" ∈ wsX5_keep := List.mem_of_getElem? (i := 3) rfl
theorem iX5_keep_X2 : ∀ w ∈ wsX20, w ∈ wsX5_keep := fun _ h => List.mem_cons_of_mem _ (List.mem_append_right _ h)
theorem mX5_keep_4 : Cond.fieldLink RX5 206 "HungryJury$Room" "theHour" "I" ∈ wsX5_keep := List.mem_of_getElem? (i := 4) rfl
def fX5_keep (σ : Nat → hj_Ob) (bf : Nat → Nat) (sd : Int64) (x1 : Int32) : Option (Int32 × (Nat → hj_Ob)) :=
  if x1 < 0 then (some ((-1), σ)) else (if x1 < 2 then (hj_ck x1 2 (hj_nm (67 + 3 * x1.toNatClampNeg) fun b4 => hj_o1 (fX2_copyFrom (σ 3) (σ 11) (σ b4)) fun ρ5 => hj_nm (va_up σ b4 ρ5) fun σ6 => hj_ck x1 2 (hj_nm (va_up σ6 0 (hj_a (σ6 0) 7 x1 (vp_nar .boolean 1))) fun σ8 => some ((σ8 11).1 5, σ8)))) else (some ((-1), σ)))
set_option maxHeartbeats 4000000 in
set_option maxRecDepth 100000 in
theorem wX5_keep {p : Program} {l : Launch} {e : Env} {s : State} {m : MethodId} {args : Array Value} {below : List Frame} {meth : Method} {c : Code} {g : hj_G} {ad : Nat → Nat} (hI : hj_I 73 ad) (C : hj_C p s m args meth c cX5_keep RX5 wsX5_keep 2 (some .int)) (hK : hj_K g s) {σ : Nat → hj_Ob} {bf : Nat → Nat} {sd : Int64} {x1 : Int32} {rF : Int32} {σF : Nat → hj_Ob}
    (hf : fX5_keep σ bf sd x1 = some (rF, σF)) {H : Heap} {locs : List Loc} {ls : Array Slot} (hP : hj_P g 73 ad (hj_wx g ad σ bf sd) H) (hS : hj_S 73 ad s H locs) (hl : lv_has ls 2 [(0, .ref (ad 0)), (1, .int x1)]) :
    W p l e rmX5_keep s m args below meth c H locs 0 0 (MQ below (hj_QI g 73 ad (hj_wx g ad σF bf sd) rF s.heap.size) args s 0 0 (hj_A 73 ad s.heap.size)) (F0 m 0 ls []) := by
  obtain ⟨hx, hb, hr, hml, hown, hts, hlocks⟩ := id C
  unfold fX5_keep at hf
  refine lv_iload_n hx hb dX5_keep_0 rfl (lv_at hl 1 rfl) ?_
  refine lv_if_lt (tgt := 9) hx hb dX5_keep_1 (by decide) (fun c1 => ?_) (fun c1 => ?_)
  · rw [if_pos c1] at hf
    refine lv_iconst (v := (-1)) hx hb dX5_keep_9 (by decide) ?_
    have hq := Option.some.inj hf
    obtain ⟨rfl, rfl⟩ := Prod.mk.inj hq
    exact hj_reti C hP hK hS dX5_keep_10
  · rw [if_neg c1] at hf
    refine lv_iload_n hx hb dX5_keep_4 rfl (lv_at hl 1 rfl) ?_
    refine lv_iconst (v := 2) hx hb dX5_keep_5 (by decide) ?_
    refine lv_icmp_lt (tgt := 11) hx hb dX5_keep_6 (by decide) (fun c2 => ?_) (fun c2 => ?_)
    · rw [if_pos c2] at hf
      refine lv_aload_n hx hb dX5_keep_11 rfl (lv_at hl 0 rfl) ?_
      refine hj_get (ci := 5) (v := .ref (ad 61)) (C := RX5) (T := TX5) (N := 10) hx hb hts iX5_keep_X5 hown hK hP (by decide) wx_at_h rfl 6 (by decide) mX5_keep_1 rfl dX5_keep_12 ?_
      refine lv_iload_n hx hb dX5_keep_15 rfl (lv_at hl 1 rfl) ?_
      obtain ⟨hk3, hf⟩ := hj_ck_s hf
      obtain ⟨b4, eb4⟩ : ∃ z : Nat, z = 67 + 3 * x1.toNatClampNeg := ⟨_, rfl⟩
      replace hf := hj_nm_y hf eb4
      have hb4 : wx_R b4 := by rw [eb4]; exact wx_R_sl (hj_in_lt hk3)
      have ob4 : b4 ≠ 11 := by omega
      refine hj_ral (b := ad b4) hx hb hK hP (by decide) wx_at_sl hk3 (by rw [eb4]) dX5_keep_16 ?_
      refine lv_aload_n hx hb dX5_keep_17 rfl (lv_at hl 0 rfl) ?_
      refine hj_get (ci := 5) (v := .ref (ad 11)) (C := RX5) (T := TX5) (N := 10) hx hb hts iX5_keep_X5 hown hK hP (by decide) wx_at_h rfl 3 (by decide) mX5_keep_2 rfl dX5_keep_18 ?_
      obtain ⟨ρ5, hc, hf⟩ := hj_o1_s hf
      refine hj_callVv (nL := 2) (As := [.ref (ad 11)]) (rest := []) (i0 := b4) (C := RX2) (T := TX2) (N := 6) (ci := 2) ⟨hx, hb, hml, hown, hts⟩ (ctX2_copyFrom l g hI (σ := σ) (bf := bf) (sd := sd) hb4 rfl wx_R_11 (Ne.symm ob4) rfl rfl hc) (cwV 1 hts gX5_keep_X2_copyFrom rfl rfl rfl (by decide +kernel) ⟨Nat.le_of_ble_eq_true rfl, Nat.le_of_ble_eq_true rfl⟩) hj_Xb0 (fun _ _ _ => trivial) hK hP hS (wx_R_lt (k := 0) hb4 (by decide)) (wx_at_r hb4 rfl) rfl rfl hl.1 rfl (Nat.le_of_ble_eq_true rfl) dX5_keep_21 (fun H locs hP hS => ?_)
      obtain ⟨σ6, eσ6⟩ : ∃ z : Nat → hj_Ob, z = va_up σ b4 ρ5 := ⟨_, rfl⟩
      replace hf := hj_nm_y hf eσ6
      rw [← eσ6] at hP
      refine lv_aload_n hx hb dX5_keep_24 rfl (lv_at hl 0 rfl) ?_
      refine hj_get (ci := 5) (v := .ref (ad 62)) (C := RX5) (T := TX5) (N := 10) hx hb hts iX5_keep_X5 hown hK hP (by decide) wx_at_h rfl 7 (by decide) mX5_keep_3 rfl dX5_keep_25 ?_
      refine lv_iload_n hx hb dX5_keep_28 rfl (lv_at hl 1 rfl) ?_
      refine lv_iconst (v := 1) hx hb dX5_keep_29 (by decide) ?_
      obtain ⟨hk7, hf⟩ := hj_ck_s hf
      refine hj_zas (f := (σ6 0).2 7) (v := 1) hx hb hK hI hP hS (by decide) (wx_at_k rfl) hk7 dX5_keep_30 (wx_a_k (x := x1) (v := (vp_nar .boolean 1)) rfl) (fun H locs hP hS => ?_)
      obtain ⟨σ8, eσ8⟩ : ∃ z : Nat → hj_Ob, z = va_up σ6 0 (hj_a (σ6 0) 7 x1 (vp_nar .boolean 1)) := ⟨_, rfl⟩
      replace hf := hj_nm_y hf eσ8
      rw [← eσ8] at hP
      refine lv_aload_n hx hb dX5_keep_31 rfl (lv_at hl 0 rfl) ?_
      refine hj_get (ci := 5) (v := .ref (ad 11)) (C := RX5) (T := TX5) (N := 10) hx hb hts iX5_keep_X5 hown hK hP (by decide) wx_at_h rfl 3 (by decide) mX5_keep_2 rfl dX5_keep_32 ?_
      refine hj_get (ci := 2) (v := .int ((σ8 11).1 5)) (C := RX2) (T := TX2) (N := 6) hx hb hts iX5_keep_X2 hown hK hP (by decide) (wx_at_r wx_R_11 rfl) rfl 5 (by decide) mX5_keep_4 rfl dX5_keep_35 ?_
      have hq := Option.some.inj hf
      obtain ⟨rfl, rfl⟩ := Prod.mk.inj hq
      exact hj_reti C hP hK hS dX5_keep_38
    · rw [if_neg c2] at hf
      refine lv_iconst (v := (-1)) hx hb dX5_keep_9 (by decide) ?_
      have hq := Option.some.inj hf
      obtain ⟨rfl, rfl⟩ := Prod.mk.inj hq
      exact hj_reti C hP hK hS dX5_keep_10
set_option maxHeartbeats 4000000 in
set_option maxRecDepth 100000 in
theorem ctX5_keep (l : Launch) (g : hj_G) {ad : Nat → Nat} (hI : hj_I 73 ad) {σ : Nat → hj_Ob} {bf : Nat → Nat} {sd : Int64} {x1 : Int32} {rF : Int32} {σF : Nat → hj_Ob} (hf : fX5_keep σ bf sd x1 = some (rF, σF)) :
    hj_MI l yX5_keep wsX5_keep rmX5_keep g 73 ad hj_X0 [.ref (ad 0), .int x1] (hj_wx g ad σ bf sd) rF (hj_wx g ad σF bf sd) := by
  refine hj_ofI (cc := cX5_keep) (maxL := 2) (ret := (some .int)) (by decide) rfl (Nat.le_of_ble_eq_true rfl) ?_
  intro p e s m args below meth c ls C hP hK hX hl
  exact wX5_keep hI C hK hf hP va_S.rf hl
