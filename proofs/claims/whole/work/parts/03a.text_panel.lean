/-! X4_letterAt -/
abbrev rmX4_letterAt : Room := { frames := 0, cells := 0, slots := 0, locals := 0 }
theorem iX4_letterAt_X4 : ∀ w ∈ wsX40, w ∈ wsX4_letterAt := fun _ h => List.mem_cons_of_mem _ (List.mem_append_right _ h)
theorem mX4_letterAt_1 : Cond.fieldLink RX4 15 "HungryJury$Text" "length" "I" ∈ wsX4_letterAt := List.mem_of_getElem? (i := 1) rfl
theorem mX4_letterAt_2 : Cond.fieldLink RX4 9 "HungryJury$Text" "letters" "[I" ∈ wsX4_letterAt := List.mem_of_getElem? (i := 2) rfl
def fX4_letterAt (ρ : hj_Ob) (x1 : Int32) : Option Int32 :=
  if x1 < 0 then (some (-1)) else (if (ρ.1 1) ≤ x1 then (some (-1)) else (if x1 < 56 then (hj_ck x1 56 (some (ρ.2 0 x1.toNatClampNeg))) else (some (-1))))
set_option maxHeartbeats 4000000 in
set_option maxRecDepth 100000 in
theorem wX4_letterAt {p : Program} {l : Launch} {e : Env} {s : State} {m : MethodId} {args : Array Value} {below : List Frame} {meth : Method} {c : Code} {g : hj_G} {ad : Nat → Nat} (hI : hj_I 73 ad) (C : hj_C p s m args meth c cX4_letterAt RX4 wsX4_letterAt 2 (some .int)) (hK : hj_K g s) {σ : Nat → hj_Ob} {bf : Nat → Nat} {sd : Int64} {ρ : hj_Ob} (hρ : σ 1 = ρ) {x1 : Int32} {rF : Int32}
    (hf : fX4_letterAt ρ x1 = some rF) {H : Heap} {locs : List Loc} {ls : Array Slot} (hP : hj_P g 73 ad (hj_wx g ad σ bf sd) H) (hS : hj_S 73 ad s H locs) (hl : lv_has ls 2 [(0, .ref (ad 1)), (1, .int x1)]) :
    W p l e rmX4_letterAt s m args below meth c H locs 0 0 (MQ below (hj_QI g 73 ad (hj_wx g ad σ bf sd) rF s.heap.size) args s 0 0 (hj_A 73 ad s.heap.size)) (F0 m 0 ls []) := by
  obtain ⟨hx, hb, hr, hml, hown, hts, hlocks⟩ := id C
  unfold fX4_letterAt at hf
  refine lv_iload_n hx hb dX4_letterAt_0 rfl (lv_at hl 1 rfl) ?_
  refine lv_if_lt (tgt := 18) hx hb dX4_letterAt_1 (by decide) (fun c1 => ?_) (fun c1 => ?_)
  · rw [if_pos c1] at hf
    refine lv_iconst (v := (-1)) hx hb dX4_letterAt_18 (by decide) ?_
    refine lv_goto (tgt := 28) hx hb dX4_letterAt_19 (by decide) ?_
    have hq := Option.some.inj hf
    obtain rfl := hq
    exact hj_reti C hP hK hS dX4_letterAt_28
  · rw [if_neg c1] at hf
    refine lv_iload_n hx hb dX4_letterAt_4 rfl (lv_at hl 1 rfl) ?_
    refine lv_aload_n hx hb dX4_letterAt_5 rfl (lv_at hl 0 rfl) ?_
    refine hj_get (ci := 4) (v := .int (ρ.1 1)) (C := RX4) (T := TX4) (N := 2) hx hb hts iX4_letterAt_X4 hown hK hP (by decide) (wx_at_t hρ) rfl 1 (by decide) mX4_letterAt_1 rfl dX4_letterAt_6 ?_
    refine lv_icmp_ge (tgt := 18) hx hb dX4_letterAt_9 (by decide) (fun c2 => ?_) (fun c2 => ?_)
    · rw [if_pos c2] at hf
      refine lv_iconst (v := (-1)) hx hb dX4_letterAt_18 (by decide) ?_
      refine lv_goto (tgt := 28) hx hb dX4_letterAt_19 (by decide) ?_
      have hq := Option.some.inj hf
      obtain rfl := hq
      exact hj_reti C hP hK hS dX4_letterAt_28
    · rw [if_neg c2] at hf
      refine lv_iload_n hx hb dX4_letterAt_12 rfl (lv_at hl 1 rfl) ?_
      refine lv_bipush (v := 56) hx hb dX4_letterAt_13 (by decide) ?_
      refine lv_icmp_lt (tgt := 22) hx hb dX4_letterAt_15 (by decide) (fun c3 => ?_) (fun c3 => ?_)
      · rw [if_pos c3] at hf
        refine lv_aload_n hx hb dX4_letterAt_22 rfl (lv_at hl 0 rfl) ?_
        refine hj_get (ci := 4) (v := .ref (ad 2)) (C := RX4) (T := TX4) (N := 2) hx hb hts iX4_letterAt_X4 hown hK hP (by decide) (wx_at_t hρ) rfl 0 (by decide) mX4_letterAt_2 rfl dX4_letterAt_23 ?_
        refine lv_iload_n hx hb dX4_letterAt_26 rfl (lv_at hl 1 rfl) ?_
        obtain ⟨hk4, hf⟩ := hj_ck_s hf
        refine hj_ial (f := ρ.2 0) hx hb hK hP (by decide) (wx_at_ta hρ) hk4 dX4_letterAt_27 ?_
        have hq := Option.some.inj hf
        obtain rfl := hq
        exact hj_reti C hP hK hS dX4_letterAt_28
      · rw [if_neg c3] at hf
        refine lv_iconst (v := (-1)) hx hb dX4_letterAt_18 (by decide) ?_
        refine lv_goto (tgt := 28) hx hb dX4_letterAt_19 (by decide) ?_
        have hq := Option.some.inj hf
        obtain rfl := hq
        exact hj_reti C hP hK hS dX4_letterAt_28
set_option maxHeartbeats 4000000 in
set_option maxRecDepth 100000 in
theorem ctX4_letterAt (l : Launch) (g : hj_G) {ad : Nat → Nat} (hI : hj_I 73 ad) {σ : Nat → hj_Ob} {bf : Nat → Nat} {sd : Int64} {ρ : hj_Ob} (hρ : σ 1 = ρ) {x1 : Int32} {rF : Int32} (hf : fX4_letterAt ρ x1 = some rF) :
    hj_MI l yX4_letterAt wsX4_letterAt rmX4_letterAt g 73 ad hj_X0 [.ref (ad 1), .int x1] (hj_wx g ad σ bf sd) rF (hj_wx g ad σ bf sd) := by
  refine hj_ofI (cc := cX4_letterAt) (maxL := 2) (ret := (some .int)) (by decide) rfl (Nat.le_of_ble_eq_true rfl) ?_
  intro p e s m args below meth c ls C hP hK hX hl
  exact wX4_letterAt hI C hK hρ hf hP va_S.rf hl

/-! X4_isFigure -/
abbrev rmX4_isFigure : Room := { frames := 1, cells := 0, slots := 0, locals := 21 }
def fX4_isFigure (ρ : hj_Ob) (x1 : Int32) (x2 : Int32) (x3 : Int32) : Option Int32 :=
  hj_o1 (fX4_letterAt ρ x1) fun r1 => if r1 < (48 + x2) then (some 0) else (if (48 + x3) < r1 then (some 0) else (some 1))
set_option maxHeartbeats 4000000 in
set_option maxRecDepth 100000 in
theorem wX4_isFigure {p : Program} {l : Launch} {e : Env} {s : State} {m : MethodId} {args : Array Value} {below : List Frame} {meth : Method} {c : Code} {g : hj_G} {ad : Nat → Nat} (hI : hj_I 73 ad) (C : hj_C p s m args meth c cX4_isFigure RX4 wsX4_isFigure 5 (some .boolean)) (hK : hj_K g s) {σ : Nat → hj_Ob} {bf : Nat → Nat} {sd : Int64} {ρ : hj_Ob} (hρ : σ 1 = ρ) {x1 : Int32} {x2 : Int32} {x3 : Int32} {rF : Int32}
    (hf : fX4_isFigure ρ x1 x2 x3 = some rF) {H : Heap} {locs : List Loc} {ls : Array Slot} (hP : hj_P g 73 ad (hj_wx g ad σ bf sd) H) (hS : hj_S 73 ad s H locs) (hl : lv_has ls 5 [(0, .ref (ad 1)), (1, .int x1), (2, .int x2), (3, .int x3)]) :
    W p l e rmX4_isFigure s m args below meth c H locs 0 0 (MQ below (hj_QI g 73 ad (hj_wx g ad σ bf sd) rF s.heap.size) args s 0 0 (hj_A 73 ad s.heap.size)) (F0 m 0 ls []) := by
  obtain ⟨hx, hb, hr, hml, hown, hts, hlocks⟩ := id C
  unfold fX4_isFigure at hf
  refine lv_aload_n hx hb dX4_isFigure_0 rfl (lv_at hl 0 rfl) ?_
  refine lv_iload_n hx hb dX4_isFigure_1 rfl (lv_at hl 1 rfl) ?_
  obtain ⟨r1, hc, hf⟩ := hj_o1_s hf
  refine hj_callVi (nL := 5) (As := [.int x1]) (rest := []) (i0 := 1) (C := RX4) (T := TX4) (N := 2) (ci := 4) ⟨hx, hb, hml, hown, hts⟩ (ctX4_letterAt l g hI (σ := σ) (bf := bf) (sd := sd) hρ hc) (cwV 1 hts gX4_isFigure_X4_letterAt rfl rfl rfl (by decide +kernel) ⟨Nat.le_of_ble_eq_true rfl, Nat.le_of_ble_eq_true rfl⟩) hj_Xb0 (fun _ _ _ => trivial) hK hP hS (by decide) (wx_at_t hρ) rfl rfl hl.1 rfl (Nat.le_of_ble_eq_true rfl) dX4_isFigure_2 (fun H locs hP hS => ?_)
  refine lv_istore (lv' := [(4, .int r1), (0, .ref (ad 1)), (1, .int x1), (2, .int x2), (3, .int x3)]) hx hb dX4_isFigure_5 hl (by decide) rfl (fun ls hl => ?_)
  refine lv_iload hx hb dX4_isFigure_7 (lv_at hl 0 rfl) ?_
  refine lv_bipush (v := 48) hx hb dX4_isFigure_9 (by decide) ?_
  refine lv_iload_n hx hb dX4_isFigure_11 rfl (lv_at hl 3 rfl) ?_
  refine lv_iadd hx hb dX4_isFigure_12 ?_
  refine lv_icmp_lt (tgt := 29) hx hb dX4_isFigure_13 (by decide) (fun c2 => ?_) (fun c2 => ?_)
  · rw [if_pos c2] at hf
    refine lv_iconst (v := 0) hx hb dX4_isFigure_29 (by decide) ?_
    have hq := Option.some.inj hf
    obtain rfl := hq
    exact hj_retz (Or.inl rfl)  C hP hK hS dX4_isFigure_30
  · rw [if_neg c2] at hf
    refine lv_iload hx hb dX4_isFigure_16 (lv_at hl 0 rfl) ?_
    refine lv_bipush (v := 48) hx hb dX4_isFigure_18 (by decide) ?_
    refine lv_iload_n hx hb dX4_isFigure_20 rfl (lv_at hl 4 rfl) ?_
    refine lv_iadd hx hb dX4_isFigure_21 ?_
    refine lv_icmp_gt (tgt := 29) hx hb dX4_isFigure_22 (by decide) (fun c3 => ?_) (fun c3 => ?_)
    · rw [if_pos c3] at hf
      refine lv_iconst (v := 0) hx hb dX4_isFigure_29 (by decide) ?_
      have hq := Option.some.inj hf
      obtain rfl := hq
      exact hj_retz (Or.inl rfl)  C hP hK hS dX4_isFigure_30
    · rw [if_neg c3] at hf
      refine lv_iconst (v := 1) hx hb dX4_isFigure_25 (by decide) ?_
      refine lv_goto (tgt := 30) hx hb dX4_isFigure_26 (by decide) ?_
      have hq := Option.some.inj hf
      obtain rfl := hq
      exact hj_retz (Or.inr rfl)  C hP hK hS dX4_isFigure_30
set_option maxHeartbeats 4000000 in
set_option maxRecDepth 100000 in
theorem ctX4_isFigure (l : Launch) (g : hj_G) {ad : Nat → Nat} (hI : hj_I 73 ad) {σ : Nat → hj_Ob} {bf : Nat → Nat} {sd : Int64} {ρ : hj_Ob} (hρ : σ 1 = ρ) {x1 : Int32} {x2 : Int32} {x3 : Int32} {rF : Int32} (hf : fX4_isFigure ρ x1 x2 x3 = some rF) :
    hj_MI l yX4_isFigure wsX4_isFigure rmX4_isFigure g 73 ad hj_X0 [.ref (ad 1), .int x1, .int x2, .int x3] (hj_wx g ad σ bf sd) rF (hj_wx g ad σ bf sd) := by
  refine hj_ofI (cc := cX4_isFigure) (maxL := 5) (ret := (some .boolean)) (by decide) rfl (Nat.le_of_ble_eq_true rfl) ?_
  intro p e s m args below meth c ls C hP hK hX hl
  exact wX4_isFigure hI C hK hρ hf hP va_S.rf hl

/-! X4_figureAt -/
abbrev rmX4_figureAt : Room := { frames := 1, cells := 0, slots := 0, locals := 21 }
def fX4_figureAt (ρ : hj_Ob) (x1 : Int32) : Option Int32 :=
  hj_o1 (fX4_letterAt ρ x1) fun r1 => some (r1 - 48)
set_option maxHeartbeats 4000000 in
set_option maxRecDepth 100000 in
theorem wX4_figureAt {p : Program} {l : Launch} {e : Env} {s : State} {m : MethodId} {args : Array Value} {below : List Frame} {meth : Method} {c : Code} {g : hj_G} {ad : Nat → Nat} (hI : hj_I 73 ad) (C : hj_C p s m args meth c cX4_figureAt RX4 wsX4_figureAt 2 (some .int)) (hK : hj_K g s) {σ : Nat → hj_Ob} {bf : Nat → Nat} {sd : Int64} {ρ : hj_Ob} (hρ : σ 1 = ρ) {x1 : Int32} {rF : Int32}
    (hf : fX4_figureAt ρ x1 = some rF) {H : Heap} {locs : List Loc} {ls : Array Slot} (hP : hj_P g 73 ad (hj_wx g ad σ bf sd) H) (hS : hj_S 73 ad s H locs) (hl : lv_has ls 2 [(0, .ref (ad 1)), (1, .int x1)]) :
    W p l e rmX4_figureAt s m args below meth c H locs 0 0 (MQ below (hj_QI g 73 ad (hj_wx g ad σ bf sd) rF s.heap.size) args s 0 0 (hj_A 73 ad s.heap.size)) (F0 m 0 ls []) := by
  obtain ⟨hx, hb, hr, hml, hown, hts, hlocks⟩ := id C
  unfold fX4_figureAt at hf
  refine lv_aload_n hx hb dX4_figureAt_0 rfl (lv_at hl 0 rfl) ?_
  refine lv_iload_n hx hb dX4_figureAt_1 rfl (lv_at hl 1 rfl) ?_
  obtain ⟨r1, hc, hf⟩ := hj_o1_s hf
  refine hj_callVi (nL := 2) (As := [.int x1]) (rest := []) (i0 := 1) (C := RX4) (T := TX4) (N := 2) (ci := 4) ⟨hx, hb, hml, hown, hts⟩ (ctX4_letterAt l g hI (σ := σ) (bf := bf) (sd := sd) hρ hc) (cwV 1 hts gX4_figureAt_X4_letterAt rfl rfl rfl (by decide +kernel) ⟨Nat.le_of_ble_eq_true rfl, Nat.le_of_ble_eq_true rfl⟩) hj_Xb0 (fun _ _ _ => trivial) hK hP hS (by decide) (wx_at_t hρ) rfl rfl hl.1 rfl (Nat.le_of_ble_eq_true rfl) dX4_figureAt_2 (fun H locs hP hS => ?_)
  refine lv_bipush (v := 48) hx hb dX4_figureAt_5 (by decide) ?_
  refine lv_isub hx hb dX4_figureAt_7 ?_
  have hq := Option.some.inj hf
  obtain rfl := hq
  exact hj_reti C hP hK hS dX4_figureAt_8
set_option maxHeartbeats 4000000 in
set_option maxRecDepth 100000 in
theorem ctX4_figureAt (l : Launch) (g : hj_G) {ad : Nat → Nat} (hI : hj_I 73 ad) {σ : Nat → hj_Ob} {bf : Nat → Nat} {sd : Int64} {ρ : hj_Ob} (hρ : σ 1 = ρ) {x1 : Int32} {rF : Int32} (hf : fX4_figureAt ρ x1 = some rF) :
    hj_MI l yX4_figureAt wsX4_figureAt rmX4_figureAt g 73 ad hj_X0 [.ref (ad 1), .int x1] (hj_wx g ad σ bf sd) rF (hj_wx g ad σ bf sd) := by
  refine hj_ofI (cc := cX4_figureAt) (maxL := 2) (ret := (some .int)) (by decide) rfl (Nat.le_of_ble_eq_true rfl) ?_
  intro p e s m args below meth c ls C hP hK hX hl
  exact wX4_figureAt hI C hK hρ hf hP va_S.rf hl

/-! X1_readJuror -/
abbrev rmX1_readJuror : Room := { frames := 2, cells := 0, slots := 0, locals := 45 }
theorem iX1_readJuror_X1 : ∀ w ∈ wsX10, w ∈ wsX1_readJuror := fun _ h => List.mem_cons_of_mem _ (List.mem_append_left _ (List.mem_append_right _ h))
theorem mX1_readJuror_1 : Cond.fieldLink RX1 25 "HungryJury$Panel" "jurors" "I" ∈ wsX1_readJuror := List.mem_of_getElem? (i := 1) rfl
theorem mX1_readJuror_2 : Cond.fieldLink RX1 28 "HungryJury$Panel" "yes" "I" ∈ wsX1_readJuror := List.mem_of_getElem? (i := 2) rfl
theorem mX1_readJuror_3 : Cond.fieldLink RX1 9 "HungryJury$Panel" "stubborn" "[I" ∈ wsX1_readJuror := List.mem_of_getElem? (i := 3) rfl
theorem mX1_readJuror_4 : Cond.fieldLink RX1 15 "HungryJury$Panel" "kind" "[I" ∈ wsX1_readJuror := List.mem_of_getElem? (i := 4) rfl
theorem mX1_readJuror_5 : Cond.fieldLink RX1 18 "HungryJury$Panel" "heeded" "[I" ∈ wsX1_readJuror := List.mem_of_getElem? (i := 5) rfl
def fX1_readJuror (t : hj_Ob) (ρ : hj_Ob) (x2 : Int32) : Option (Int32 × hj_Ob) :=
  if (ρ.1 3) < 0 then (some (x2, ρ)) else (if (ρ.1 3) < 6 then (hj_o1 (fX4_isFigure t (x2 + 1) 0 1) fun r3 => if r3 = 0 then (some (x2 + 1, ρ)) else (hj_o1 (fX4_isFigure t (x2 + 2) 1 9) fun r5 => if r5 = 0 then (some (x2 + 2, ρ)) else (hj_o1 (fX4_isFigure t (x2 + 3) 0 3) fun r7 => if r7 = 0 then (some (x2 + 3, ρ)) else (hj_o1 (fX4_figureAt t (x2 + 1)) fun r9 => hj_nm (hj_s ρ 5 ((ρ.1 5) ||| (r9 <<< ((ρ.1 3) &&& 31)))) fun ρ10 => hj_o1 (fX4_figureAt t (x2 + 2)) fun r11 => hj_ck (ρ10.1 3) 6 (hj_nm (hj_a ρ10 0 (ρ10.1 3) r11) fun ρ13 => hj_o1 (fX4_figureAt t (x2 + 3)) fun r14 => hj_ck (ρ13.1 3) 6 (hj_nm (hj_a ρ13 1 (ρ13.1 3) r14) fun ρ16 => hj_ck (ρ16.1 3) 6 (hj_nm (hj_a ρ16 2 (ρ16.1 3) 0) fun ρ18 => hj_nm (hj_s ρ18 3 ((ρ18.1 3) + 1)) fun ρ19 => some ((-9), ρ19)))))))) else (some (x2, ρ)))
set_option maxHeartbeats 4000000 in
set_option maxRecDepth 100000 in
theorem wX1_readJuror {p : Program} {l : Launch} {e : Env} {s : State} {m : MethodId} {args : Array Value} {below : List Frame} {meth : Method} {c : Code} {g : hj_G} {ad : Nat → Nat} (hI : hj_I 73 ad) (C : hj_C p s m args meth c cX1_readJuror RX1 wsX1_readJuror 3 (some .int)) (hK : hj_K g s) {σ : Nat → hj_Ob} {bf : Nat → Nat} {sd : Int64} {o : Nat} (ho : wx_B o) {t : hj_Ob} (ht : σ 1 = t) {ρ : hj_Ob} {x2 : Int32} {rF : Int32} {ρF : hj_Ob}
    (hf : fX1_readJuror t ρ x2 = some (rF, ρF)) {H : Heap} {locs : List Loc} {ls : Array Slot} (hP : hj_P g 73 ad (hj_wx g ad (va_up σ o ρ) bf sd) H) (hS : hj_S 73 ad s H locs) (hl : lv_has ls 3 [(0, .ref (ad o)), (1, .ref (ad 1)), (2, .int x2)]) :
    W p l e rmX1_readJuror s m args below meth c H locs 0 0 (MQ below (hj_QI g 73 ad (hj_wx g ad (va_up σ o ρF) bf sd) rF s.heap.size) args s 0 0 (hj_A 73 ad s.heap.size)) (F0 m 0 ls []) := by
  obtain ⟨hx, hb, hr, hml, hown, hts, hlocks⟩ := id C
  unfold fX1_readJuror at hf
  refine lv_aload_n hx hb dX1_readJuror_0 rfl (lv_at hl 0 rfl) ?_
  refine hj_get (ci := 1) (v := .int (ρ.1 3)) (C := RX1) (T := TX1) (N := 6) hx hb hts iX1_readJuror_X1 hown hK hP (wx_B_lt (k := 0) ho (by decide)) (wx_at_b ho (va_up_self _ _ _)) rfl 3 (by decide) mX1_readJuror_1 rfl dX1_readJuror_1 ?_
  refine lv_if_lt (tgt := 16) hx hb dX1_readJuror_4 (by decide) (fun c1 => ?_) (fun c1 => ?_)
  · rw [if_pos c1] at hf
    refine lv_iload_n hx hb dX1_readJuror_16 rfl (lv_at hl 2 rfl) ?_
    have hq := Option.some.inj hf
    obtain ⟨rfl, rfl⟩ := Prod.mk.inj hq
    exact hj_reti C hP hK hS dX1_readJuror_17
  · rw [if_neg c1] at hf
    refine lv_aload_n hx hb dX1_readJuror_7 rfl (lv_at hl 0 rfl) ?_
    refine hj_get (ci := 1) (v := .int (ρ.1 3)) (C := RX1) (T := TX1) (N := 6) hx hb hts iX1_readJuror_X1 hown hK hP (wx_B_lt (k := 0) ho (by decide)) (wx_at_b ho (va_up_self _ _ _)) rfl 3 (by decide) mX1_readJuror_1 rfl dX1_readJuror_8 ?_
    refine lv_bipush (v := 6) hx hb dX1_readJuror_11 (by decide) ?_
    refine lv_icmp_lt (tgt := 18) hx hb dX1_readJuror_13 (by decide) (fun c2 => ?_) (fun c2 => ?_)
    · rw [if_pos c2] at hf
      refine lv_aload_n hx hb dX1_readJuror_18 rfl (lv_at hl 1 rfl) ?_
      refine lv_iload_n hx hb dX1_readJuror_19 rfl (lv_at hl 2 rfl) ?_
      refine lv_iconst (v := 1) hx hb dX1_readJuror_20 (by decide) ?_
      refine lv_iadd hx hb dX1_readJuror_21 ?_
      refine lv_iconst (v := 0) hx hb dX1_readJuror_22 (by decide) ?_
      refine lv_iconst (v := 1) hx hb dX1_readJuror_23 (by decide) ?_
      obtain ⟨r3, hc, hf⟩ := hj_o1_s hf
      refine hj_callVi (nL := 3) (As := [.int (x2 + 1), .int 0, .int 1]) (rest := []) (i0 := 1) (C := RX4) (T := TX4) (N := 2) (ci := 4) ⟨hx, hb, hml, hown, hts⟩ (ctX4_isFigure l g hI (σ := (va_up σ o ρ)) (bf := bf) (sd := sd) ((va_up_ne _ _ (wx_B_1 ho)).trans ht) hc) (cwV 3 hts gX1_readJuror_X4_isFigure rfl rfl rfl (by decide +kernel) ⟨Nat.le_of_ble_eq_true rfl, Nat.le_of_ble_eq_true rfl⟩) hj_Xb0 (fun _ _ _ => trivial) hK hP hS (by decide) (wx_at_t ((va_up_ne _ _ (wx_B_1 ho)).trans ht)) rfl rfl hl.1 rfl (Nat.le_of_ble_eq_true rfl) dX1_readJuror_24 (fun H locs hP hS => ?_)
      refine lv_if_ne (tgt := 34) hx hb dX1_readJuror_27 (by decide) (fun c4 => ?_) (fun c4 => ?_)
      · rw [if_neg c4] at hf
        refine lv_aload_n hx hb dX1_readJuror_34 rfl (lv_at hl 1 rfl) ?_
        refine lv_iload_n hx hb dX1_readJuror_35 rfl (lv_at hl 2 rfl) ?_
        refine lv_iconst (v := 2) hx hb dX1_readJuror_36 (by decide) ?_
        refine lv_iadd hx hb dX1_readJuror_37 ?_
        refine lv_iconst (v := 1) hx hb dX1_readJuror_38 (by decide) ?_
        refine lv_bipush (v := 9) hx hb dX1_readJuror_39 (by decide) ?_
        obtain ⟨r5, hc, hf⟩ := hj_o1_s hf
        refine hj_callVi (nL := 3) (As := [.int (x2 + 2), .int 1, .int 9]) (rest := []) (i0 := 1) (C := RX4) (T := TX4) (N := 2) (ci := 4) ⟨hx, hb, hml, hown, hts⟩ (ctX4_isFigure l g hI (σ := (va_up σ o ρ)) (bf := bf) (sd := sd) ((va_up_ne _ _ (wx_B_1 ho)).trans ht) hc) (cwV 3 hts gX1_readJuror_X4_isFigure rfl rfl rfl (by decide +kernel) ⟨Nat.le_of_ble_eq_true rfl, Nat.le_of_ble_eq_true rfl⟩) hj_Xb0 (fun _ _ _ => trivial) hK hP hS (by decide) (wx_at_t ((va_up_ne _ _ (wx_B_1 ho)).trans ht)) rfl rfl hl.1 rfl (Nat.le_of_ble_eq_true rfl) dX1_readJuror_41 (fun H locs hP hS => ?_)
        refine lv_if_ne (tgt := 51) hx hb dX1_readJuror_44 (by decide) (fun c6 => ?_) (fun c6 => ?_)
        · rw [if_neg c6] at hf
          refine lv_aload_n hx hb dX1_readJuror_51 rfl (lv_at hl 1 rfl) ?_
          refine lv_iload_n hx hb dX1_readJuror_52 rfl (lv_at hl 2 rfl) ?_
          refine lv_iconst (v := 3) hx hb dX1_readJuror_53 (by decide) ?_
          refine lv_iadd hx hb dX1_readJuror_54 ?_
          refine lv_iconst (v := 0) hx hb dX1_readJuror_55 (by decide) ?_
          refine lv_iconst (v := 3) hx hb dX1_readJuror_56 (by decide) ?_
          obtain ⟨r7, hc, hf⟩ := hj_o1_s hf
          refine hj_callVi (nL := 3) (As := [.int (x2 + 3), .int 0, .int 3]) (rest := []) (i0 := 1) (C := RX4) (T := TX4) (N := 2) (ci := 4) ⟨hx, hb, hml, hown, hts⟩ (ctX4_isFigure l g hI (σ := (va_up σ o ρ)) (bf := bf) (sd := sd) ((va_up_ne _ _ (wx_B_1 ho)).trans ht) hc) (cwV 3 hts gX1_readJuror_X4_isFigure rfl rfl rfl (by decide +kernel) ⟨Nat.le_of_ble_eq_true rfl, Nat.le_of_ble_eq_true rfl⟩) hj_Xb0 (fun _ _ _ => trivial) hK hP hS (by decide) (wx_at_t ((va_up_ne _ _ (wx_B_1 ho)).trans ht)) rfl rfl hl.1 rfl (Nat.le_of_ble_eq_true rfl) dX1_readJuror_57 (fun H locs hP hS => ?_)
          refine lv_if_ne (tgt := 67) hx hb dX1_readJuror_60 (by decide) (fun c8 => ?_) (fun c8 => ?_)
          · rw [if_neg c8] at hf
            refine lv_aload_n hx hb dX1_readJuror_67 rfl (lv_at hl 0 rfl) ?_
            refine lv_dup hx hb dX1_readJuror_68 rfl ?_
            refine hj_get (ci := 1) (v := .int (ρ.1 5)) (C := RX1) (T := TX1) (N := 6) hx hb hts iX1_readJuror_X1 hown hK hP (wx_B_lt (k := 0) ho (by decide)) (wx_at_b ho (va_up_self _ _ _)) rfl 5 (by decide) mX1_readJuror_2 rfl dX1_readJuror_69 ?_
            refine lv_aload_n hx hb dX1_readJuror_72 rfl (lv_at hl 1 rfl) ?_
            refine lv_iload_n hx hb dX1_readJuror_73 rfl (lv_at hl 2 rfl) ?_
            refine lv_iconst (v := 1) hx hb dX1_readJuror_74 (by decide) ?_
            refine lv_iadd hx hb dX1_readJuror_75 ?_
            obtain ⟨r9, hc, hf⟩ := hj_o1_s hf
            refine hj_callVi (nL := 3) (As := [.int (x2 + 1)]) (rest := [.int (ρ.1 5), .ref (ad o)]) (i0 := 1) (C := RX4) (T := TX4) (N := 2) (ci := 4) ⟨hx, hb, hml, hown, hts⟩ (ctX4_figureAt l g hI (σ := (va_up σ o ρ)) (bf := bf) (sd := sd) ((va_up_ne _ _ (wx_B_1 ho)).trans ht) hc) (cwV 1 hts gX1_readJuror_X4_figureAt rfl rfl rfl (by decide +kernel) ⟨Nat.le_of_ble_eq_true rfl, Nat.le_of_ble_eq_true rfl⟩) hj_Xb0 (fun _ _ _ => trivial) hK hP hS (by decide) (wx_at_t ((va_up_ne _ _ (wx_B_1 ho)).trans ht)) rfl rfl hl.1 rfl (Nat.le_of_ble_eq_true rfl) dX1_readJuror_76 (fun H locs hP hS => ?_)
            refine lv_aload_n hx hb dX1_readJuror_79 rfl (lv_at hl 0 rfl) ?_
            refine hj_get (ci := 1) (v := .int (ρ.1 3)) (C := RX1) (T := TX1) (N := 6) hx hb hts iX1_readJuror_X1 hown hK hP (wx_B_lt (k := 0) ho (by decide)) (wx_at_b ho (va_up_self _ _ _)) rfl 3 (by decide) mX1_readJuror_1 rfl dX1_readJuror_80 ?_
            refine lv_ishl hx hb dX1_readJuror_83 ?_
            refine lv_ior hx hb dX1_readJuror_84 ?_
            refine hj_put (ci := 1) (v := .int ((ρ.1 5) ||| (r9 <<< ((ρ.1 3) &&& 31)))) (C := RX1) (T := TX1) (N := 6) hx hb hts iX1_readJuror_X1 tyX1 tyX1_ok nmX1 hown hK hI hP hS (wx_B_lt (k := 0) ho (by decide)) (wx_at_b ho (va_up_self _ _ _)) rfl 5 (by decide) mX1_readJuror_2 rfl rfl rfl (Nat.le_of_ble_eq_true rfl) dX1_readJuror_85 ((wx_s_b (k := 5) (v := (ρ.1 5) ||| (r9 <<< ((ρ.1 3) &&& 31))) ho (va_up_self _ _ _) rfl).trans (by rw [hj_uu])) (fun H locs hP hS => ?_)
            obtain ⟨ρ10, eρ10⟩ : ∃ z : hj_Ob, z = hj_s ρ 5 ((ρ.1 5) ||| (r9 <<< ((ρ.1 3) &&& 31))) := ⟨_, rfl⟩
            replace hf := hj_nm_y hf eρ10
            rw [← eρ10] at hP
            refine lv_aload_n hx hb dX1_readJuror_88 rfl (lv_at hl 0 rfl) ?_
            refine hj_get (ci := 1) (v := .ref (ad (o + 1))) (C := RX1) (T := TX1) (N := 6) hx hb hts iX1_readJuror_X1 hown hK hP (wx_B_lt (k := 0) ho (by decide)) (wx_at_b ho (va_up_self _ _ _)) rfl 0 (by decide) mX1_readJuror_3 rfl dX1_readJuror_89 ?_
            refine lv_aload_n hx hb dX1_readJuror_92 rfl (lv_at hl 0 rfl) ?_
            refine hj_get (ci := 1) (v := .int (ρ10.1 3)) (C := RX1) (T := TX1) (N := 6) hx hb hts iX1_readJuror_X1 hown hK hP (wx_B_lt (k := 0) ho (by decide)) (wx_at_b ho (va_up_self _ _ _)) rfl 3 (by decide) mX1_readJuror_1 rfl dX1_readJuror_93 ?_
            refine lv_aload_n hx hb dX1_readJuror_96 rfl (lv_at hl 1 rfl) ?_
            refine lv_iload_n hx hb dX1_readJuror_97 rfl (lv_at hl 2 rfl) ?_
            refine lv_iconst (v := 2) hx hb dX1_readJuror_98 (by decide) ?_
            refine lv_iadd hx hb dX1_readJuror_99 ?_
            obtain ⟨r11, hc, hf⟩ := hj_o1_s hf
            refine hj_callVi (nL := 3) (As := [.int (x2 + 2)]) (rest := [.int (ρ10.1 3), .ref (ad (o + 1))]) (i0 := 1) (C := RX4) (T := TX4) (N := 2) (ci := 4) ⟨hx, hb, hml, hown, hts⟩ (ctX4_figureAt l g hI (σ := (va_up σ o ρ10)) (bf := bf) (sd := sd) ((va_up_ne _ _ (wx_B_1 ho)).trans ht) hc) (cwV 1 hts gX1_readJuror_X4_figureAt rfl rfl rfl (by decide +kernel) ⟨Nat.le_of_ble_eq_true rfl, Nat.le_of_ble_eq_true rfl⟩) hj_Xb0 (fun _ _ _ => trivial) hK hP hS (by decide) (wx_at_t ((va_up_ne _ _ (wx_B_1 ho)).trans ht)) rfl rfl hl.1 rfl (Nat.le_of_ble_eq_true rfl) dX1_readJuror_100 (fun H locs hP hS => ?_)
            obtain ⟨hk12, hf⟩ := hj_ck_s hf
            refine hj_ias (f := ρ10.2 0) (v := r11) hx hb hK hI hP hS (wx_B_lt (k := 1) ho (by decide)) (wx_at_ba 0 ho (by decide) (va_up_self _ _ _)) hk12 dX1_readJuror_103 ((wx_a_b (x := (ρ10.1 3)) (v := r11) 0 ho (by decide) (va_up_self _ _ _)).trans (by rw [hj_uu])) (fun H locs hP hS => ?_)
            obtain ⟨ρ13, eρ13⟩ : ∃ z : hj_Ob, z = hj_a ρ10 0 (ρ10.1 3) r11 := ⟨_, rfl⟩
            replace hf := hj_nm_y hf eρ13
            rw [← eρ13] at hP
            refine lv_aload_n hx hb dX1_readJuror_104 rfl (lv_at hl 0 rfl) ?_
            refine hj_get (ci := 1) (v := .ref (ad (o + 2))) (C := RX1) (T := TX1) (N := 6) hx hb hts iX1_readJuror_X1 hown hK hP (wx_B_lt (k := 0) ho (by decide)) (wx_at_b ho (va_up_self _ _ _)) rfl 1 (by decide) mX1_readJuror_4 rfl dX1_readJuror_105 ?_
            refine lv_aload_n hx hb dX1_readJuror_108 rfl (lv_at hl 0 rfl) ?_
            refine hj_get (ci := 1) (v := .int (ρ13.1 3)) (C := RX1) (T := TX1) (N := 6) hx hb hts iX1_readJuror_X1 hown hK hP (wx_B_lt (k := 0) ho (by decide)) (wx_at_b ho (va_up_self _ _ _)) rfl 3 (by decide) mX1_readJuror_1 rfl dX1_readJuror_109 ?_
            refine lv_aload_n hx hb dX1_readJuror_112 rfl (lv_at hl 1 rfl) ?_
            refine lv_iload_n hx hb dX1_readJuror_113 rfl (lv_at hl 2 rfl) ?_
            refine lv_iconst (v := 3) hx hb dX1_readJuror_114 (by decide) ?_
            refine lv_iadd hx hb dX1_readJuror_115 ?_
            obtain ⟨r14, hc, hf⟩ := hj_o1_s hf
            refine hj_callVi (nL := 3) (As := [.int (x2 + 3)]) (rest := [.int (ρ13.1 3), .ref (ad (o + 2))]) (i0 := 1) (C := RX4) (T := TX4) (N := 2) (ci := 4) ⟨hx, hb, hml, hown, hts⟩ (ctX4_figureAt l g hI (σ := (va_up σ o ρ13)) (bf := bf) (sd := sd) ((va_up_ne _ _ (wx_B_1 ho)).trans ht) hc) (cwV 1 hts gX1_readJuror_X4_figureAt rfl rfl rfl (by decide +kernel) ⟨Nat.le_of_ble_eq_true rfl, Nat.le_of_ble_eq_true rfl⟩) hj_Xb0 (fun _ _ _ => trivial) hK hP hS (by decide) (wx_at_t ((va_up_ne _ _ (wx_B_1 ho)).trans ht)) rfl rfl hl.1 rfl (Nat.le_of_ble_eq_true rfl) dX1_readJuror_116 (fun H locs hP hS => ?_)
            obtain ⟨hk15, hf⟩ := hj_ck_s hf
            refine hj_ias (f := ρ13.2 1) (v := r14) hx hb hK hI hP hS (wx_B_lt (k := 2) ho (by decide)) (wx_at_ba 1 ho (by decide) (va_up_self _ _ _)) hk15 dX1_readJuror_119 ((wx_a_b (x := (ρ13.1 3)) (v := r14) 1 ho (by decide) (va_up_self _ _ _)).trans (by rw [hj_uu])) (fun H locs hP hS => ?_)
            obtain ⟨ρ16, eρ16⟩ : ∃ z : hj_Ob, z = hj_a ρ13 1 (ρ13.1 3) r14 := ⟨_, rfl⟩
            replace hf := hj_nm_y hf eρ16
            rw [← eρ16] at hP
            refine lv_aload_n hx hb dX1_readJuror_120 rfl (lv_at hl 0 rfl) ?_
            refine hj_get (ci := 1) (v := .ref (ad (o + 3))) (C := RX1) (T := TX1) (N := 6) hx hb hts iX1_readJuror_X1 hown hK hP (wx_B_lt (k := 0) ho (by decide)) (wx_at_b ho (va_up_self _ _ _)) rfl 2 (by decide) mX1_readJuror_5 rfl dX1_readJuror_121 ?_
            refine lv_aload_n hx hb dX1_readJuror_124 rfl (lv_at hl 0 rfl) ?_
            refine hj_get (ci := 1) (v := .int (ρ16.1 3)) (C := RX1) (T := TX1) (N := 6) hx hb hts iX1_readJuror_X1 hown hK hP (wx_B_lt (k := 0) ho (by decide)) (wx_at_b ho (va_up_self _ _ _)) rfl 3 (by decide) mX1_readJuror_1 rfl dX1_readJuror_125 ?_
            refine lv_iconst (v := 0) hx hb dX1_readJuror_128 (by decide) ?_
            obtain ⟨hk17, hf⟩ := hj_ck_s hf
            refine hj_ias (f := ρ16.2 2) (v := 0) hx hb hK hI hP hS (wx_B_lt (k := 3) ho (by decide)) (wx_at_ba 2 ho (by decide) (va_up_self _ _ _)) hk17 dX1_readJuror_129 ((wx_a_b (x := (ρ16.1 3)) (v := 0) 2 ho (by decide) (va_up_self _ _ _)).trans (by rw [hj_uu])) (fun H locs hP hS => ?_)
            obtain ⟨ρ18, eρ18⟩ : ∃ z : hj_Ob, z = hj_a ρ16 2 (ρ16.1 3) 0 := ⟨_, rfl⟩
            replace hf := hj_nm_y hf eρ18
            rw [← eρ18] at hP
            refine lv_aload_n hx hb dX1_readJuror_130 rfl (lv_at hl 0 rfl) ?_
            refine lv_dup hx hb dX1_readJuror_131 rfl ?_
            refine hj_get (ci := 1) (v := .int (ρ18.1 3)) (C := RX1) (T := TX1) (N := 6) hx hb hts iX1_readJuror_X1 hown hK hP (wx_B_lt (k := 0) ho (by decide)) (wx_at_b ho (va_up_self _ _ _)) rfl 3 (by decide) mX1_readJuror_1 rfl dX1_readJuror_132 ?_
            refine lv_iconst (v := 1) hx hb dX1_readJuror_135 (by decide) ?_
            refine lv_iadd hx hb dX1_readJuror_136 ?_
            refine hj_put (ci := 1) (v := .int ((ρ18.1 3) + 1)) (C := RX1) (T := TX1) (N := 6) hx hb hts iX1_readJuror_X1 tyX1 tyX1_ok nmX1 hown hK hI hP hS (wx_B_lt (k := 0) ho (by decide)) (wx_at_b ho (va_up_self _ _ _)) rfl 3 (by decide) mX1_readJuror_1 rfl rfl rfl (Nat.le_of_ble_eq_true rfl) dX1_readJuror_137 ((wx_s_b (k := 3) (v := (ρ18.1 3) + 1) ho (va_up_self _ _ _) rfl).trans (by rw [hj_uu])) (fun H locs hP hS => ?_)
            obtain ⟨ρ19, eρ19⟩ : ∃ z : hj_Ob, z = hj_s ρ18 3 ((ρ18.1 3) + 1) := ⟨_, rfl⟩
            replace hf := hj_nm_y hf eρ19
            rw [← eρ19] at hP
            refine lv_bipush (v := (-9)) hx hb dX1_readJuror_140 (by decide) ?_
            have hq := Option.some.inj hf
            obtain ⟨rfl, rfl⟩ := Prod.mk.inj hq
            exact hj_reti C hP hK hS dX1_readJuror_142
          · rw [if_pos c8] at hf
            refine lv_iload_n hx hb dX1_readJuror_63 rfl (lv_at hl 2 rfl) ?_
            refine lv_iconst (v := 3) hx hb dX1_readJuror_64 (by decide) ?_
            refine lv_iadd hx hb dX1_readJuror_65 ?_
            have hq := Option.some.inj hf
            obtain ⟨rfl, rfl⟩ := Prod.mk.inj hq
            exact hj_reti C hP hK hS dX1_readJuror_66
        · rw [if_pos c6] at hf
          refine lv_iload_n hx hb dX1_readJuror_47 rfl (lv_at hl 2 rfl) ?_
          refine lv_iconst (v := 2) hx hb dX1_readJuror_48 (by decide) ?_
          refine lv_iadd hx hb dX1_readJuror_49 ?_
          have hq := Option.some.inj hf
          obtain ⟨rfl, rfl⟩ := Prod.mk.inj hq
          exact hj_reti C hP hK hS dX1_readJuror_50
      · rw [if_pos c4] at hf
        refine lv_iload_n hx hb dX1_readJuror_30 rfl (lv_at hl 2 rfl) ?_
        refine lv_iconst (v := 1) hx hb dX1_readJuror_31 (by decide) ?_
        refine lv_iadd hx hb dX1_readJuror_32 ?_
        have hq := Option.some.inj hf
        obtain ⟨rfl, rfl⟩ := Prod.mk.inj hq
        exact hj_reti C hP hK hS dX1_readJuror_33
    · rw [if_neg c2] at hf
      refine lv_iload_n hx hb dX1_readJuror_16 rfl (lv_at hl 2 rfl) ?_
      have hq := Option.some.inj hf
      obtain ⟨rfl, rfl⟩ := Prod.mk.inj hq
      exact hj_reti C hP hK hS dX1_readJuror_17
set_option maxHeartbeats 4000000 in
set_option maxRecDepth 100000 in
theorem ctX1_readJuror (l : Launch) (g : hj_G) {ad : Nat → Nat} (hI : hj_I 73 ad) {σ : Nat → hj_Ob} {bf : Nat → Nat} {sd : Int64} {o : Nat} (ho : wx_B o) {t : hj_Ob} (ht : σ 1 = t) {ρ : hj_Ob} (hρ : σ o = ρ) {x2 : Int32} {rF : Int32} {ρF : hj_Ob} (hf : fX1_readJuror t ρ x2 = some (rF, ρF)) :
    hj_MI l yX1_readJuror wsX1_readJuror rmX1_readJuror g 73 ad hj_X0 [.ref (ad o), .ref (ad 1), .int x2] (hj_wx g ad σ bf sd) rF (hj_wx g ad (va_up σ o ρF) bf sd) := by
  refine hj_ofI (cc := cX1_readJuror) (maxL := 3) (ret := (some .int)) (by decide) rfl (Nat.le_of_ble_eq_true rfl) ?_
  intro p e s m args below meth c ls C hP hK hX hl
  have hP : hj_P g 73 ad (hj_wx g ad (va_up σ o ρ) bf sd) s.heap := by rw [hj_ue σ _ hρ]; exact hP
  exact wX1_readJuror hI C hK ho ht hf hP va_S.rf hl

/-! X1_pairsLeft -/
abbrev rmX1_pairsLeft : Room := { frames := 0, cells := 0, slots := 0, locals := 0 }
theorem iX1_pairsLeft_X1 : ∀ w ∈ wsX10, w ∈ wsX1_pairsLeft := fun _ h => List.mem_cons_of_mem _ (List.mem_append_right _ h)
theorem mX1_pairsLeft_1 : Cond.fieldLink RX1 25 "HungryJury$Panel" "jurors" "I" ∈ wsX1_pairsLeft := List.mem_of_getElem? (i := 1) rfl
theorem mX1_pairsLeft_2 : Cond.fieldLink RX1 18 "HungryJury$Panel" "heeded" "[I" ∈ wsX1_pairsLeft := List.mem_of_getElem? (i := 2) rfl
def fX1_pairsLeft (t : hj_Ob) (ρ : hj_Ob) (x1 : Int32) : Option Int32 :=
  if x1 < 0 then (some 0) else (if (ρ.1 3) ≤ x1 then (some 0) else (if x1 < 6 then (hj_ck x1 6 (some (((((1 : Int32) <<< ((ρ.1 3) &&& 31)) - 1) &&& (((1 : Int32) <<< (x1 &&& 31)) ^^^ (-1))) &&& ((ρ.2 2 x1.toNatClampNeg) ^^^ (-1))))) else (some 0)))
set_option maxHeartbeats 4000000 in
set_option maxRecDepth 100000 in
theorem wX1_pairsLeft {p : Program} {l : Launch} {e : Env} {s : State} {m : MethodId} {args : Array Value} {below : List Frame} {meth : Method} {c : Code} {g : hj_G} {ad : Nat → Nat} (hI : hj_I 73 ad) (C : hj_C p s m args meth c cX1_pairsLeft RX1 wsX1_pairsLeft 2 (some .int)) (hK : hj_K g s) {σ : Nat → hj_Ob} {bf : Nat → Nat} {sd : Int64} {o : Nat} (ho : wx_B o) {t : hj_Ob} (ht : σ 1 = t) {ρ : hj_Ob} (hρ : σ o = ρ) {x1 : Int32} {rF : Int32}
    (hf : fX1_pairsLeft t ρ x1 = some rF) {H : Heap} {locs : List Loc} {ls : Array Slot} (hP : hj_P g 73 ad (hj_wx g ad σ bf sd) H) (hS : hj_S 73 ad s H locs) (hl : lv_has ls 2 [(0, .ref (ad o)), (1, .int x1)]) :
    W p l e rmX1_pairsLeft s m args below meth c H locs 0 0 (MQ below (hj_QI g 73 ad (hj_wx g ad σ bf sd) rF s.heap.size) args s 0 0 (hj_A 73 ad s.heap.size)) (F0 m 0 ls []) := by
  obtain ⟨hx, hb, hr, hml, hown, hts, hlocks⟩ := id C
  unfold fX1_pairsLeft at hf
  refine lv_iload_n hx hb dX1_pairsLeft_0 rfl (lv_at hl 1 rfl) ?_
  refine lv_if_lt (tgt := 18) hx hb dX1_pairsLeft_1 (by decide) (fun c1 => ?_) (fun c1 => ?_)
  · rw [if_pos c1] at hf
    refine lv_iconst (v := 0) hx hb dX1_pairsLeft_18 (by decide) ?_
    have hq := Option.some.inj hf
    obtain rfl := hq
    exact hj_reti C hP hK hS dX1_pairsLeft_19
  · rw [if_neg c1] at hf
    refine lv_iload_n hx hb dX1_pairsLeft_4 rfl (lv_at hl 1 rfl) ?_
    refine lv_aload_n hx hb dX1_pairsLeft_5 rfl (lv_at hl 0 rfl) ?_
    refine hj_get (ci := 1) (v := .int (ρ.1 3)) (C := RX1) (T := TX1) (N := 6) hx hb hts iX1_pairsLeft_X1 hown hK hP (wx_B_lt (k := 0) ho (by decide)) (wx_at_b ho hρ) rfl 3 (by decide) mX1_pairsLeft_1 rfl dX1_pairsLeft_6 ?_
    refine lv_icmp_ge (tgt := 18) hx hb dX1_pairsLeft_9 (by decide) (fun c2 => ?_) (fun c2 => ?_)
    · rw [if_pos c2] at hf
      refine lv_iconst (v := 0) hx hb dX1_pairsLeft_18 (by decide) ?_
      have hq := Option.some.inj hf
      obtain rfl := hq
      exact hj_reti C hP hK hS dX1_pairsLeft_19
    · rw [if_neg c2] at hf
      refine lv_iload_n hx hb dX1_pairsLeft_12 rfl (lv_at hl 1 rfl) ?_
      refine lv_bipush (v := 6) hx hb dX1_pairsLeft_13 (by decide) ?_
      refine lv_icmp_lt (tgt := 20) hx hb dX1_pairsLeft_15 (by decide) (fun c3 => ?_) (fun c3 => ?_)
      · rw [if_pos c3] at hf
        refine lv_iconst (v := 1) hx hb dX1_pairsLeft_20 (by decide) ?_
        refine lv_aload_n hx hb dX1_pairsLeft_21 rfl (lv_at hl 0 rfl) ?_
        refine hj_get (ci := 1) (v := .int (ρ.1 3)) (C := RX1) (T := TX1) (N := 6) hx hb hts iX1_pairsLeft_X1 hown hK hP (wx_B_lt (k := 0) ho (by decide)) (wx_at_b ho hρ) rfl 3 (by decide) mX1_pairsLeft_1 rfl dX1_pairsLeft_22 ?_
        refine lv_ishl hx hb dX1_pairsLeft_25 ?_
        refine lv_iconst (v := 1) hx hb dX1_pairsLeft_26 (by decide) ?_
        refine lv_isub hx hb dX1_pairsLeft_27 ?_
        refine lv_iconst (v := 1) hx hb dX1_pairsLeft_28 (by decide) ?_
        refine lv_iload_n hx hb dX1_pairsLeft_29 rfl (lv_at hl 1 rfl) ?_
        refine lv_ishl hx hb dX1_pairsLeft_30 ?_
        refine lv_iconst (v := (-1)) hx hb dX1_pairsLeft_31 (by decide) ?_
        refine lv_ixor hx hb dX1_pairsLeft_32 ?_
        refine lv_iand hx hb dX1_pairsLeft_33 ?_
        refine lv_aload_n hx hb dX1_pairsLeft_34 rfl (lv_at hl 0 rfl) ?_
        refine hj_get (ci := 1) (v := .ref (ad (o + 3))) (C := RX1) (T := TX1) (N := 6) hx hb hts iX1_pairsLeft_X1 hown hK hP (wx_B_lt (k := 0) ho (by decide)) (wx_at_b ho hρ) rfl 2 (by decide) mX1_pairsLeft_2 rfl dX1_pairsLeft_35 ?_
        refine lv_iload_n hx hb dX1_pairsLeft_38 rfl (lv_at hl 1 rfl) ?_
        obtain ⟨hk4, hf⟩ := hj_ck_s hf
        refine hj_ial (f := ρ.2 2) hx hb hK hP (wx_B_lt (k := 3) ho (by decide)) (wx_at_ba 2 ho (by decide) hρ) hk4 dX1_pairsLeft_39 ?_
        refine lv_iconst (v := (-1)) hx hb dX1_pairsLeft_40 (by decide) ?_
        refine lv_ixor hx hb dX1_pairsLeft_41 ?_
        refine lv_iand hx hb dX1_pairsLeft_42 ?_
        have hq := Option.some.inj hf
        obtain rfl := hq
        exact hj_reti C hP hK hS dX1_pairsLeft_43
      · rw [if_neg c3] at hf
        refine lv_iconst (v := 0) hx hb dX1_pairsLeft_18 (by decide) ?_
        have hq := Option.some.inj hf
        obtain rfl := hq
        exact hj_reti C hP hK hS dX1_pairsLeft_19
set_option maxHeartbeats 4000000 in
set_option maxRecDepth 100000 in
theorem ctX1_pairsLeft (l : Launch) (g : hj_G) {ad : Nat → Nat} (hI : hj_I 73 ad) {σ : Nat → hj_Ob} {bf : Nat → Nat} {sd : Int64} {o : Nat} (ho : wx_B o) {t : hj_Ob} (ht : σ 1 = t) {ρ : hj_Ob} (hρ : σ o = ρ) {x1 : Int32} {rF : Int32} (hf : fX1_pairsLeft t ρ x1 = some rF) :
    hj_MI l yX1_pairsLeft wsX1_pairsLeft rmX1_pairsLeft g 73 ad hj_X0 [.ref (ad o), .int x1] (hj_wx g ad σ bf sd) rF (hj_wx g ad σ bf sd) := by
  refine hj_ofI (cc := cX1_pairsLeft) (maxL := 2) (ret := (some .int)) (by decide) rfl (Nat.le_of_ble_eq_true rfl) ?_
  intro p e s m args below meth c ls C hP hK hX hl
  exact wX1_pairsLeft hI C hK ho ht hρ hf hP va_S.rf hl

/-! X1_hasPairLeft -/
abbrev rmX1_hasPairLeft : Room := { frames := 1, cells := 0, slots := 0, locals := 21 }
theorem iX1_hasPairLeft_X1 : ∀ w ∈ wsX10, w ∈ wsX1_hasPairLeft := fun _ h => List.mem_cons_of_mem _ (List.mem_append_right _ h)
theorem mX1_hasPairLeft_1 : Cond.fieldLink RX1 25 "HungryJury$Panel" "jurors" "I" ∈ wsX1_hasPairLeft := List.mem_of_getElem? (i := 1) rfl
def fX1_hasPairLeft_2 (t : hj_Ob) (ρ : hj_Ob) (x1 : Int32) : Option ((Int32 ⊕ Unit) ⊕ Int32) :=
  if (ρ.1 3) ≤ x1 then (some (.inl (.inr ()))) else (hj_o1 (fX1_pairsLeft t ρ x1) fun r2 => if r2 = 0 then (hj_nm (x1 + 1) fun y4 => some (.inr y4)) else (some (.inl (.inl 1))))
set_option maxHeartbeats 4000000 in
set_option maxRecDepth 100000 in
theorem wX1_hasPairLeft_2b {p : Program} {l : Launch} {e : Env} {s : State} {m : MethodId} {args : Array Value} {below : List Frame} {meth : Method} {c : Code} {g : hj_G} {ad : Nat → Nat} (hI : hj_I 73 ad) (C : hj_C p s m args meth c cX1_hasPairLeft RX1 wsX1_hasPairLeft 2 (some .boolean)) (hK : hj_K g s) {σ : Nat → hj_Ob} {bf : Nat → Nat} {sd : Int64} {o : Nat} (ho : wx_B o) {t : hj_Ob} (ht : σ 1 = t) {ρ : hj_Ob} (hρ : σ o = ρ) {x1 : Int32} {y : (Int32 ⊕ Unit) ⊕ Int32} {rF : Int32}
    (hf : fX1_hasPairLeft_2 t ρ x1 = some y) (KR : ∀ r, y = .inl (.inl r) → r = rF) (KX : y = .inl (.inr ()) → ∀ (H : Heap) (locs : List Loc) (ls : Array Slot), hj_P g 73 ad (hj_wx g ad σ bf sd) H → hj_S 73 ad s H locs → lv_has ls 2 [] → W p l e rmX1_hasPairLeft s m args below meth c H locs 0 0 (MQ below (hj_QI g 73 ad (hj_wx g ad σ bf sd) rF s.heap.size) args s 0 0 (hj_A 73 ad s.heap.size)) (F0 m 26 ls [])) (KI : ∀ (v1 : Int32), y = .inr v1 → ∀ (H : Heap) (locs : List Loc) (ls : Array Slot), hj_P g 73 ad (hj_wx g ad σ bf sd) H → hj_S 73 ad s H locs → lv_has ls 2 [(0, .ref (ad o)), (1, .int v1)] → W p l e rmX1_hasPairLeft s m args below meth c H locs 0 0 (MQ below (hj_QI g 73 ad (hj_wx g ad σ bf sd) rF s.heap.size) args s 0 0 (hj_A 73 ad s.heap.size)) (F0 m 2 ls [])) {H : Heap} {locs : List Loc} {ls : Array Slot} (hP : hj_P g 73 ad (hj_wx g ad σ bf sd) H) (hS : hj_S 73 ad s H locs) (hl : lv_has ls 2 [(0, .ref (ad o)), (1, .int x1)]) :
    W p l e rmX1_hasPairLeft s m args below meth c H locs 0 0 (MQ below (hj_QI g 73 ad (hj_wx g ad σ bf sd) rF s.heap.size) args s 0 0 (hj_A 73 ad s.heap.size)) (F0 m 2 ls []) := by
  obtain ⟨hx, hb, hr, hml, hown, hts, hlocks⟩ := id C
  unfold fX1_hasPairLeft_2 at hf
  refine lv_iload_n hx hb dX1_hasPairLeft_2 rfl (lv_at hl 1 rfl) ?_
  refine lv_aload_n hx hb dX1_hasPairLeft_3 rfl (lv_at hl 0 rfl) ?_
  refine hj_get (ci := 1) (v := .int (ρ.1 3)) (C := RX1) (T := TX1) (N := 6) hx hb hts iX1_hasPairLeft_X1 hown hK hP (wx_B_lt (k := 0) ho (by decide)) (wx_at_b ho hρ) rfl 3 (by decide) mX1_hasPairLeft_1 rfl dX1_hasPairLeft_4 ?_
  refine lv_icmp_ge (tgt := 26) hx hb dX1_hasPairLeft_7 (by decide) (fun c1 => ?_) (fun c1 => ?_)
  · rw [if_pos c1] at hf
    exact KX  (Option.some.inj hf).symm _ _ _ hP hS (lv_sub hl [] rfl)
  · rw [if_neg c1] at hf
    refine lv_aload_n hx hb dX1_hasPairLeft_10 rfl (lv_at hl 0 rfl) ?_
    refine lv_iload_n hx hb dX1_hasPairLeft_11 rfl (lv_at hl 1 rfl) ?_
    obtain ⟨r2, hc, hf⟩ := hj_o1_s hf
    refine hj_callVi (nL := 2) (As := [.int x1]) (rest := []) (i0 := o) (C := RX1) (T := TX1) (N := 6) (ci := 1) ⟨hx, hb, hml, hown, hts⟩ (ctX1_pairsLeft l g hI (σ := σ) (bf := bf) (sd := sd) ho ht hρ hc) (cwV 1 hts gX1_hasPairLeft_X1_pairsLeft rfl rfl rfl (by decide +kernel) ⟨Nat.le_of_ble_eq_true rfl, Nat.le_of_ble_eq_true rfl⟩) hj_Xb0 (fun _ _ _ => trivial) hK hP hS (wx_B_lt (k := 0) ho (by decide)) (wx_at_b ho hρ) rfl rfl hl.1 rfl (Nat.le_of_ble_eq_true rfl) dX1_hasPairLeft_12 (fun H locs hP hS => ?_)
    refine lv_if_eq (tgt := 20) hx hb dX1_hasPairLeft_15 (by decide) (fun c3 => ?_) (fun c3 => ?_)
    · rw [if_pos c3] at hf
      obtain ⟨y4, ey4⟩ : ∃ z : Int32, z = x1 + 1 := ⟨_, rfl⟩
      replace hf := hj_nm_y hf ey4
      refine lv_iinc (v := y4) (lv' := [(1, .int y4), (0, .ref (ad o))]) hx hb dX1_hasPairLeft_20 hl (k := 1) rfl (by rw [ey4]; rfl) (by decide) rfl (fun ls hl => ?_)
      refine lv_goto (tgt := 2) hx hb dX1_hasPairLeft_23 (by decide) ?_
      exact KI _ (Option.some.inj hf).symm _ _ _ hP hS (lv_sub hl [1, 0] rfl)
    · rw [if_neg c3] at hf
      refine lv_iconst (v := 1) hx hb dX1_hasPairLeft_18 (by decide) ?_
      have hq := KR _ (Option.some.inj hf).symm
      obtain rfl := hq
      exact hj_retz (Or.inr rfl)  C hP hK hS dX1_hasPairLeft_19
set_option maxHeartbeats 4000000 in
set_option maxRecDepth 100000 in
theorem wX1_hasPairLeft_2 {p : Program} {l : Launch} {e : Env} {s : State} {m : MethodId} {args : Array Value} {below : List Frame} {meth : Method} {c : Code} {g : hj_G} {ad : Nat → Nat} (hI : hj_I 73 ad) (C : hj_C p s m args meth c cX1_hasPairLeft RX1 wsX1_hasPairLeft 2 (some .boolean)) (hK : hj_K g s) {σ : Nat → hj_Ob} {bf : Nat → Nat} {sd : Int64} {o : Nat} (ho : wx_B o) {t : hj_Ob} (ht : σ 1 = t) {ρ : hj_Ob} (hρ : σ o = ρ) {rF : Int32} {ex : (Int32 ⊕ Unit)} :
    ∀ (fu : Nat) (x1 : Int32), hj_lp (fun q : Int32 => fX1_hasPairLeft_2 t ρ q) fu x1 = some ex → (∀ r, ex = .inl r → r = rF) → (ex = .inr () → ∀ (H : Heap) (locs : List Loc) (ls : Array Slot), hj_P g 73 ad (hj_wx g ad σ bf sd) H → hj_S 73 ad s H locs → lv_has ls 2 [] → W p l e rmX1_hasPairLeft s m args below meth c H locs 0 0 (MQ below (hj_QI g 73 ad (hj_wx g ad σ bf sd) rF s.heap.size) args s 0 0 (hj_A 73 ad s.heap.size)) (F0 m 26 ls [])) → ∀ (H : Heap) (locs : List Loc) (ls : Array Slot), hj_P g 73 ad (hj_wx g ad σ bf sd) H → hj_S 73 ad s H locs → lv_has ls 2 [(0, .ref (ad o)), (1, .int x1)] →
    W p l e rmX1_hasPairLeft s m args below meth c H locs 0 0 (MQ below (hj_QI g 73 ad (hj_wx g ad σ bf sd) rF s.heap.size) args s 0 0 (hj_A 73 ad s.heap.size)) (F0 m 2 ls []) := by
  intro fu
  induction fu with
  | zero => intro x1 hq; cases hq
  | succ fu ih =>
    intro x1 hq KR KX H locs ls hP hS hl
    obtain ⟨y, hy, h1, h2⟩ := hj_lp_s hq
    exact wX1_hasPairLeft_2b hI C hK ho ht hρ  hy (fun r hr => KR r (h1 _ hr).symm) (fun  hv => KX  (h1 _ hv).symm) (fun v1 hv H locs ls hP hS hl => ih v1 (h2 _ hv) KR KX H locs ls hP hS hl) hP hS hl
def fX1_hasPairLeft (t : hj_Ob) (ρ : hj_Ob) : Option Int32 :=
  hj_oe (fun r => r) (hj_lp (fun q : Int32 => fX1_hasPairLeft_2 t ρ q) 100 0) (fun ex5 => some 0)
set_option maxHeartbeats 4000000 in
set_option maxRecDepth 100000 in
theorem wX1_hasPairLeft {p : Program} {l : Launch} {e : Env} {s : State} {m : MethodId} {args : Array Value} {below : List Frame} {meth : Method} {c : Code} {g : hj_G} {ad : Nat → Nat} (hI : hj_I 73 ad) (C : hj_C p s m args meth c cX1_hasPairLeft RX1 wsX1_hasPairLeft 2 (some .boolean)) (hK : hj_K g s) {σ : Nat → hj_Ob} {bf : Nat → Nat} {sd : Int64} {o : Nat} (ho : wx_B o) {t : hj_Ob} (ht : σ 1 = t) {ρ : hj_Ob} (hρ : σ o = ρ) {rF : Int32}
    (hf : fX1_hasPairLeft t ρ = some rF) {H : Heap} {locs : List Loc} {ls : Array Slot} (hP : hj_P g 73 ad (hj_wx g ad σ bf sd) H) (hS : hj_S 73 ad s H locs) (hl : lv_has ls 2 [(0, .ref (ad o))]) :
    W p l e rmX1_hasPairLeft s m args below meth c H locs 0 0 (MQ below (hj_QI g 73 ad (hj_wx g ad σ bf sd) rF s.heap.size) args s 0 0 (hj_A 73 ad s.heap.size)) (F0 m 0 ls []) := by
  obtain ⟨hx, hb, hr, hml, hown, hts, hlocks⟩ := id C
  unfold fX1_hasPairLeft at hf
  refine lv_iconst (v := 0) hx hb dX1_hasPairLeft_0 (by decide) ?_
  refine lv_istore_n (lv' := [(1, .int 0), (0, .ref (ad o))]) hx hb dX1_hasPairLeft_1 rfl hl (by decide) rfl (fun ls hl => ?_)
  obtain ⟨exx, hlx, hlr, hfx⟩ := hj_oe_s hf
  refine wX1_hasPairLeft_2 hI C hK ho ht hρ  100 0 hlx hlr (fun hxe H locs ls hP hS hl => ?_) H locs ls hP hS (lv_sub hl [1, 0] rfl)
  replace hf := hfx _ hxe
  refine lv_iconst (v := 0) hx hb dX1_hasPairLeft_26 (by decide) ?_
  have hq := Option.some.inj hf
  obtain rfl := hq
  exact hj_retz (Or.inl rfl)  C hP hK hS dX1_hasPairLeft_27
set_option maxHeartbeats 4000000 in
set_option maxRecDepth 100000 in
theorem ctX1_hasPairLeft (l : Launch) (g : hj_G) {ad : Nat → Nat} (hI : hj_I 73 ad) {σ : Nat → hj_Ob} {bf : Nat → Nat} {sd : Int64} {o : Nat} (ho : wx_B o) {t : hj_Ob} (ht : σ 1 = t) {ρ : hj_Ob} (hρ : σ o = ρ) {rF : Int32} (hf : fX1_hasPairLeft t ρ = some rF) :
    hj_MI l yX1_hasPairLeft wsX1_hasPairLeft rmX1_hasPairLeft g 73 ad hj_X0 [.ref (ad o)] (hj_wx g ad σ bf sd) rF (hj_wx g ad σ bf sd) := by
  refine hj_ofI (cc := cX1_hasPairLeft) (maxL := 2) (ret := (some .boolean)) (by decide) rfl (Nat.le_of_ble_eq_true rfl) ?_
  intro p e s m args below meth c ls C hP hK hX hl
  exact wX1_hasPairLeft hI C hK ho ht hρ hf hP va_S.rf hl

/-! X1_readPair -/
abbrev rmX1_readPair : Room := { frames := 2, cells := 0, slots := 0, locals := 42 }
theorem iX1_readPair_X1 : ∀ w ∈ wsX10, w ∈ wsX1_readPair := fun _ h => List.mem_cons_of_mem _ (List.mem_append_left _ (List.mem_append_right _ h))
theorem mX1_readPair_1 : Cond.fieldLink RX1 18 "HungryJury$Panel" "heeded" "[I" ∈ wsX1_readPair := List.mem_of_getElem? (i := 1) rfl
def fX1_readPair (t : hj_Ob) (ρ : hj_Ob) (x2 : Int32) : Option (Int32 × hj_Ob) :=
  hj_o1 (fX4_letterAt t x2) fun r1 => if r1 = 72 then (hj_o1 (fX1_hasPairLeft t ρ) fun r3 => if r3 = 0 then (some (x2, ρ)) else (hj_o1 (fX4_figureAt t (x2 + 1)) fun r5 => hj_o1 (fX1_pairsLeft t ρ r5) fun r6 => if r6 = 0 then (some (x2 + 1, ρ)) else (hj_o1 (fX4_figureAt t (x2 + 2)) fun r8 => if r8 < 0 then (some (x2 + 2, ρ)) else (if 6 ≤ r8 then (some (x2 + 2, ρ)) else (hj_o1 (fX1_pairsLeft t ρ r5) fun r11 => if ((r11 >>> (r8 &&& 31)) &&& 1) = 0 then (some (x2 + 2, ρ)) else (if r5 < 0 then (some ((-9), ρ)) else (if 6 ≤ r5 then (some ((-9), ρ)) else (hj_ck r5 6 (hj_ck r5 6 (hj_nm (hj_a ρ 2 r5 ((ρ.2 2 r5.toNatClampNeg) ||| ((1 : Int32) <<< (r8 &&& 31)))) fun ρ17 => some ((-9), ρ17))))))))))) else (some (x2, ρ))
set_option maxHeartbeats 4000000 in
set_option maxRecDepth 100000 in
theorem wX1_readPair {p : Program} {l : Launch} {e : Env} {s : State} {m : MethodId} {args : Array Value} {below : List Frame} {meth : Method} {c : Code} {g : hj_G} {ad : Nat → Nat} (hI : hj_I 73 ad) (C : hj_C p s m args meth c cX1_readPair RX1 wsX1_readPair 5 (some .int)) (hK : hj_K g s) {σ : Nat → hj_Ob} {bf : Nat → Nat} {sd : Int64} {o : Nat} (ho : wx_B o) {t : hj_Ob} (ht : σ 1 = t) {ρ : hj_Ob} {x2 : Int32} {rF : Int32} {ρF : hj_Ob}
    (hf : fX1_readPair t ρ x2 = some (rF, ρF)) {H : Heap} {locs : List Loc} {ls : Array Slot} (hP : hj_P g 73 ad (hj_wx g ad (va_up σ o ρ) bf sd) H) (hS : hj_S 73 ad s H locs) (hl : lv_has ls 5 [(0, .ref (ad o)), (1, .ref (ad 1)), (2, .int x2)]) :
    W p l e rmX1_readPair s m args below meth c H locs 0 0 (MQ below (hj_QI g 73 ad (hj_wx g ad (va_up σ o ρF) bf sd) rF s.heap.size) args s 0 0 (hj_A 73 ad s.heap.size)) (F0 m 0 ls []) := by
  obtain ⟨hx, hb, hr, hml, hown, hts, hlocks⟩ := id C
  unfold fX1_readPair at hf
  refine lv_aload_n hx hb dX1_readPair_0 rfl (lv_at hl 1 rfl) ?_
  refine lv_iload_n hx hb dX1_readPair_1 rfl (lv_at hl 2 rfl) ?_
  obtain ⟨r1, hc, hf⟩ := hj_o1_s hf
  refine hj_callVi (nL := 5) (As := [.int x2]) (rest := []) (i0 := 1) (C := RX4) (T := TX4) (N := 2) (ci := 4) ⟨hx, hb, hml, hown, hts⟩ (ctX4_letterAt l g hI (σ := (va_up σ o ρ)) (bf := bf) (sd := sd) ((va_up_ne _ _ (wx_B_1 ho)).trans ht) hc) (cwV 1 hts gX1_readPair_X4_letterAt rfl rfl rfl (by decide +kernel) ⟨Nat.le_of_ble_eq_true rfl, Nat.le_of_ble_eq_true rfl⟩) hj_Xb0 (fun _ _ _ => trivial) hK hP hS (by decide) (wx_at_t ((va_up_ne _ _ (wx_B_1 ho)).trans ht)) rfl rfl hl.1 rfl (Nat.le_of_ble_eq_true rfl) dX1_readPair_2 (fun H locs hP hS => ?_)
  refine lv_bipush (v := 72) hx hb dX1_readPair_5 (by decide) ?_
  refine lv_icmp_ne (tgt := 17) hx hb dX1_readPair_7 (by decide) (fun c2 => ?_) (fun c2 => ?_)
  · rw [if_neg c2] at hf
    refine lv_iload_n hx hb dX1_readPair_17 rfl (lv_at hl 2 rfl) ?_
    have hq := Option.some.inj hf
    obtain ⟨rfl, rfl⟩ := Prod.mk.inj hq
    exact hj_reti C hP hK hS dX1_readPair_18
  · rw [if_pos c2] at hf
    refine lv_aload_n hx hb dX1_readPair_10 rfl (lv_at hl 0 rfl) ?_
    obtain ⟨r3, hc, hf⟩ := hj_o1_s hf
    refine hj_callVi (nL := 5) (As := []) (rest := []) (i0 := o) (C := RX1) (T := TX1) (N := 6) (ci := 1) ⟨hx, hb, hml, hown, hts⟩ (ctX1_hasPairLeft l g hI (σ := (va_up σ o ρ)) (bf := bf) (sd := sd) ho ((va_up_ne _ _ (wx_B_1 ho)).trans ht) (va_up_self _ _ _) hc) (cwV 0 hts gX1_readPair_X1_hasPairLeft rfl rfl rfl (by decide +kernel) ⟨Nat.le_of_ble_eq_true rfl, Nat.le_of_ble_eq_true rfl⟩) hj_Xb0 (fun _ _ _ => trivial) hK hP hS (wx_B_lt (k := 0) ho (by decide)) (wx_at_b ho (va_up_self _ _ _)) rfl rfl hl.1 rfl (Nat.le_of_ble_eq_true rfl) dX1_readPair_11 (fun H locs hP hS => ?_)
    refine lv_if_ne (tgt := 19) hx hb dX1_readPair_14 (by decide) (fun c4 => ?_) (fun c4 => ?_)
    · rw [if_neg c4] at hf
      refine lv_aload_n hx hb dX1_readPair_19 rfl (lv_at hl 1 rfl) ?_
      refine lv_iload_n hx hb dX1_readPair_20 rfl (lv_at hl 2 rfl) ?_
      refine lv_iconst (v := 1) hx hb dX1_readPair_21 (by decide) ?_
      refine lv_iadd hx hb dX1_readPair_22 ?_
      obtain ⟨r5, hc, hf⟩ := hj_o1_s hf
      refine hj_callVi (nL := 5) (As := [.int (x2 + 1)]) (rest := []) (i0 := 1) (C := RX4) (T := TX4) (N := 2) (ci := 4) ⟨hx, hb, hml, hown, hts⟩ (ctX4_figureAt l g hI (σ := (va_up σ o ρ)) (bf := bf) (sd := sd) ((va_up_ne _ _ (wx_B_1 ho)).trans ht) hc) (cwV 1 hts gX1_readPair_X4_figureAt rfl rfl rfl (by decide +kernel) ⟨Nat.le_of_ble_eq_true rfl, Nat.le_of_ble_eq_true rfl⟩) hj_Xb0 (fun _ _ _ => trivial) hK hP hS (by decide) (wx_at_t ((va_up_ne _ _ (wx_B_1 ho)).trans ht)) rfl rfl hl.1 rfl (Nat.le_of_ble_eq_true rfl) dX1_readPair_23 (fun H locs hP hS => ?_)
      refine lv_istore_n (lv' := [(3, .int r5), (0, .ref (ad o)), (1, .ref (ad 1)), (2, .int x2)]) hx hb dX1_readPair_26 rfl hl (by decide) rfl (fun ls hl => ?_)
      refine lv_aload_n hx hb dX1_readPair_27 rfl (lv_at hl 1 rfl) ?_
      refine lv_iload_n hx hb dX1_readPair_28 rfl (lv_at hl 0 rfl) ?_
      obtain ⟨r6, hc, hf⟩ := hj_o1_s hf
      refine hj_callVi (nL := 5) (As := [.int r5]) (rest := []) (i0 := o) (C := RX1) (T := TX1) (N := 6) (ci := 1) ⟨hx, hb, hml, hown, hts⟩ (ctX1_pairsLeft l g hI (σ := (va_up σ o ρ)) (bf := bf) (sd := sd) ho ((va_up_ne _ _ (wx_B_1 ho)).trans ht) (va_up_self _ _ _) hc) (cwV 1 hts gX1_readPair_X1_pairsLeft rfl rfl rfl (by decide +kernel) ⟨Nat.le_of_ble_eq_true rfl, Nat.le_of_ble_eq_true rfl⟩) hj_Xb0 (fun _ _ _ => trivial) hK hP hS (wx_B_lt (k := 0) ho (by decide)) (wx_at_b ho (va_up_self _ _ _)) rfl rfl hl.1 rfl (Nat.le_of_ble_eq_true rfl) dX1_readPair_29 (fun H locs hP hS => ?_)
      refine lv_if_ne (tgt := 39) hx hb dX1_readPair_32 (by decide) (fun c7 => ?_) (fun c7 => ?_)
      · rw [if_neg c7] at hf
        refine lv_aload_n hx hb dX1_readPair_39 rfl (lv_at hl 2 rfl) ?_
        refine lv_iload_n hx hb dX1_readPair_40 rfl (lv_at hl 3 rfl) ?_
        refine lv_iconst (v := 2) hx hb dX1_readPair_41 (by decide) ?_
        refine lv_iadd hx hb dX1_readPair_42 ?_
        obtain ⟨r8, hc, hf⟩ := hj_o1_s hf
        refine hj_callVi (nL := 5) (As := [.int (x2 + 2)]) (rest := []) (i0 := 1) (C := RX4) (T := TX4) (N := 2) (ci := 4) ⟨hx, hb, hml, hown, hts⟩ (ctX4_figureAt l g hI (σ := (va_up σ o ρ)) (bf := bf) (sd := sd) ((va_up_ne _ _ (wx_B_1 ho)).trans ht) hc) (cwV 1 hts gX1_readPair_X4_figureAt rfl rfl rfl (by decide +kernel) ⟨Nat.le_of_ble_eq_true rfl, Nat.le_of_ble_eq_true rfl⟩) hj_Xb0 (fun _ _ _ => trivial) hK hP hS (by decide) (wx_at_t ((va_up_ne _ _ (wx_B_1 ho)).trans ht)) rfl rfl hl.1 rfl (Nat.le_of_ble_eq_true rfl) dX1_readPair_43 (fun H locs hP hS => ?_)
        refine lv_istore (lv' := [(4, .int r8), (3, .int r5), (0, .ref (ad o)), (1, .ref (ad 1)), (2, .int x2)]) hx hb dX1_readPair_46 hl (by decide) rfl (fun ls hl => ?_)
        refine lv_iload hx hb dX1_readPair_48 (lv_at hl 0 rfl) ?_
        refine lv_if_lt (tgt := 73) hx hb dX1_readPair_50 (by decide) (fun c9 => ?_) (fun c9 => ?_)
        · rw [if_pos c9] at hf
          refine lv_iload_n hx hb dX1_readPair_73 rfl (lv_at hl 4 rfl) ?_
          refine lv_iconst (v := 2) hx hb dX1_readPair_74 (by decide) ?_
          refine lv_iadd hx hb dX1_readPair_75 ?_
          have hq := Option.some.inj hf
          obtain ⟨rfl, rfl⟩ := Prod.mk.inj hq
          exact hj_reti C hP hK hS dX1_readPair_76
        · rw [if_neg c9] at hf
          refine lv_iload hx hb dX1_readPair_53 (lv_at hl 0 rfl) ?_
          refine lv_bipush (v := 6) hx hb dX1_readPair_55 (by decide) ?_
          refine lv_icmp_ge (tgt := 73) hx hb dX1_readPair_57 (by decide) (fun c10 => ?_) (fun c10 => ?_)
          · rw [if_pos c10] at hf
            refine lv_iload_n hx hb dX1_readPair_73 rfl (lv_at hl 4 rfl) ?_
            refine lv_iconst (v := 2) hx hb dX1_readPair_74 (by decide) ?_
            refine lv_iadd hx hb dX1_readPair_75 ?_
            have hq := Option.some.inj hf
            obtain ⟨rfl, rfl⟩ := Prod.mk.inj hq
            exact hj_reti C hP hK hS dX1_readPair_76
          · rw [if_neg c10] at hf
            refine lv_aload_n hx hb dX1_readPair_60 rfl (lv_at hl 2 rfl) ?_
            refine lv_iload_n hx hb dX1_readPair_61 rfl (lv_at hl 1 rfl) ?_
            obtain ⟨r11, hc, hf⟩ := hj_o1_s hf
            refine hj_callVi (nL := 5) (As := [.int r5]) (rest := []) (i0 := o) (C := RX1) (T := TX1) (N := 6) (ci := 1) ⟨hx, hb, hml, hown, hts⟩ (ctX1_pairsLeft l g hI (σ := (va_up σ o ρ)) (bf := bf) (sd := sd) ho ((va_up_ne _ _ (wx_B_1 ho)).trans ht) (va_up_self _ _ _) hc) (cwV 1 hts gX1_readPair_X1_pairsLeft rfl rfl rfl (by decide +kernel) ⟨Nat.le_of_ble_eq_true rfl, Nat.le_of_ble_eq_true rfl⟩) hj_Xb0 (fun _ _ _ => trivial) hK hP hS (wx_B_lt (k := 0) ho (by decide)) (wx_at_b ho (va_up_self _ _ _)) rfl rfl hl.1 rfl (Nat.le_of_ble_eq_true rfl) dX1_readPair_62 (fun H locs hP hS => ?_)
            refine lv_iload hx hb dX1_readPair_65 (lv_at hl 0 rfl) ?_
            refine lv_ishr hx hb dX1_readPair_67 ?_
            refine lv_iconst (v := 1) hx hb dX1_readPair_68 (by decide) ?_
            refine lv_iand hx hb dX1_readPair_69 ?_
            refine lv_if_ne (tgt := 77) hx hb dX1_readPair_70 (by decide) (fun c12 => ?_) (fun c12 => ?_)
            · rw [if_neg c12] at hf
              refine lv_iload_n hx hb dX1_readPair_77 rfl (lv_at hl 1 rfl) ?_
              refine lv_if_lt (tgt := 100) hx hb dX1_readPair_78 (by decide) (fun c13 => ?_) (fun c13 => ?_)
              · rw [if_pos c13] at hf
                refine lv_bipush (v := (-9)) hx hb dX1_readPair_100 (by decide) ?_
                have hq := Option.some.inj hf
                obtain ⟨rfl, rfl⟩ := Prod.mk.inj hq
                exact hj_reti C hP hK hS dX1_readPair_102
              · rw [if_neg c13] at hf
                refine lv_iload_n hx hb dX1_readPair_81 rfl (lv_at hl 1 rfl) ?_
                refine lv_bipush (v := 6) hx hb dX1_readPair_82 (by decide) ?_
                refine lv_icmp_ge (tgt := 100) hx hb dX1_readPair_84 (by decide) (fun c14 => ?_) (fun c14 => ?_)
                · rw [if_pos c14] at hf
                  refine lv_bipush (v := (-9)) hx hb dX1_readPair_100 (by decide) ?_
                  have hq := Option.some.inj hf
                  obtain ⟨rfl, rfl⟩ := Prod.mk.inj hq
                  exact hj_reti C hP hK hS dX1_readPair_102
                · rw [if_neg c14] at hf
                  refine lv_aload_n hx hb dX1_readPair_87 rfl (lv_at hl 2 rfl) ?_
                  refine hj_get (ci := 1) (v := .ref (ad (o + 3))) (C := RX1) (T := TX1) (N := 6) hx hb hts iX1_readPair_X1 hown hK hP (wx_B_lt (k := 0) ho (by decide)) (wx_at_b ho (va_up_self _ _ _)) rfl 2 (by decide) mX1_readPair_1 rfl dX1_readPair_88 ?_
                  refine lv_iload_n hx hb dX1_readPair_91 rfl (lv_at hl 1 rfl) ?_
                  refine lv_dup2_11 hx hb dX1_readPair_92 rfl rfl ?_
                  obtain ⟨hk15, hf⟩ := hj_ck_s hf
                  refine hj_ial (f := ρ.2 2) hx hb hK hP (wx_B_lt (k := 3) ho (by decide)) (wx_at_ba 2 ho (by decide) (va_up_self _ _ _)) hk15 dX1_readPair_93 ?_
                  refine lv_iconst (v := 1) hx hb dX1_readPair_94 (by decide) ?_
                  refine lv_iload hx hb dX1_readPair_95 (lv_at hl 0 rfl) ?_
                  refine lv_ishl hx hb dX1_readPair_97 ?_
                  refine lv_ior hx hb dX1_readPair_98 ?_
                  obtain ⟨hk16, hf⟩ := hj_ck_s hf
                  refine hj_ias (f := ρ.2 2) (v := ((ρ.2 2 r5.toNatClampNeg) ||| ((1 : Int32) <<< (r8 &&& 31)))) hx hb hK hI hP hS (wx_B_lt (k := 3) ho (by decide)) (wx_at_ba 2 ho (by decide) (va_up_self _ _ _)) hk16 dX1_readPair_99 ((wx_a_b (x := r5) (v := ((ρ.2 2 r5.toNatClampNeg) ||| ((1 : Int32) <<< (r8 &&& 31)))) 2 ho (by decide) (va_up_self _ _ _)).trans (by rw [hj_uu])) (fun H locs hP hS => ?_)
                  obtain ⟨ρ17, eρ17⟩ : ∃ z : hj_Ob, z = hj_a ρ 2 r5 ((ρ.2 2 r5.toNatClampNeg) ||| ((1 : Int32) <<< (r8 &&& 31))) := ⟨_, rfl⟩
                  replace hf := hj_nm_y hf eρ17
                  rw [← eρ17] at hP
                  refine lv_bipush (v := (-9)) hx hb dX1_readPair_100 (by decide) ?_
                  have hq := Option.some.inj hf
                  obtain ⟨rfl, rfl⟩ := Prod.mk.inj hq
                  exact hj_reti C hP hK hS dX1_readPair_102
            · rw [if_pos c12] at hf
              refine lv_iload_n hx hb dX1_readPair_73 rfl (lv_at hl 4 rfl) ?_
              refine lv_iconst (v := 2) hx hb dX1_readPair_74 (by decide) ?_
              refine lv_iadd hx hb dX1_readPair_75 ?_
              have hq := Option.some.inj hf
              obtain ⟨rfl, rfl⟩ := Prod.mk.inj hq
              exact hj_reti C hP hK hS dX1_readPair_76
      · rw [if_pos c7] at hf
        refine lv_iload_n hx hb dX1_readPair_35 rfl (lv_at hl 3 rfl) ?_
        refine lv_iconst (v := 1) hx hb dX1_readPair_36 (by decide) ?_
        refine lv_iadd hx hb dX1_readPair_37 ?_
        have hq := Option.some.inj hf
        obtain ⟨rfl, rfl⟩ := Prod.mk.inj hq
        exact hj_reti C hP hK hS dX1_readPair_38
    · rw [if_pos c4] at hf
      refine lv_iload_n hx hb dX1_readPair_17 rfl (lv_at hl 2 rfl) ?_
      have hq := Option.some.inj hf
      obtain ⟨rfl, rfl⟩ := Prod.mk.inj hq
      exact hj_reti C hP hK hS dX1_readPair_18
set_option maxHeartbeats 4000000 in
set_option maxRecDepth 100000 in
theorem ctX1_readPair (l : Launch) (g : hj_G) {ad : Nat → Nat} (hI : hj_I 73 ad) {σ : Nat → hj_Ob} {bf : Nat → Nat} {sd : Int64} {o : Nat} (ho : wx_B o) {t : hj_Ob} (ht : σ 1 = t) {ρ : hj_Ob} (hρ : σ o = ρ) {x2 : Int32} {rF : Int32} {ρF : hj_Ob} (hf : fX1_readPair t ρ x2 = some (rF, ρF)) :
    hj_MI l yX1_readPair wsX1_readPair rmX1_readPair g 73 ad hj_X0 [.ref (ad o), .ref (ad 1), .int x2] (hj_wx g ad σ bf sd) rF (hj_wx g ad (va_up σ o ρF) bf sd) := by
  refine hj_ofI (cc := cX1_readPair) (maxL := 5) (ret := (some .int)) (by decide) rfl (Nat.le_of_ble_eq_true rfl) ?_
  intro p e s m args below meth c ls C hP hK hX hl
  have hP : hj_P g 73 ad (hj_wx g ad (va_up σ o ρ) bf sd) s.heap := by rw [hj_ue σ _ hρ]; exact hP
  exact wX1_readPair hI C hK ho ht hf hP va_S.rf hl

/-! X1_readFrom -/
abbrev rmX1_readFrom : Room := { frames := 3, cells := 0, slots := 0, locals := 67 }
theorem iX1_readFrom_X1 : ∀ w ∈ wsX10, w ∈ wsX1_readFrom := fun _ h => List.mem_cons_of_mem _ (List.mem_append_left _ (List.mem_append_right _ h))
theorem mX1_readFrom_1 : Cond.fieldLink RX1 25 "HungryJury$Panel" "jurors" "I" ∈ wsX1_readFrom := List.mem_of_getElem? (i := 1) rfl
theorem mX1_readFrom_2 : Cond.fieldLink RX1 28 "HungryJury$Panel" "yes" "I" ∈ wsX1_readFrom := List.mem_of_getElem? (i := 2) rfl
theorem mX1_readFrom_3 : Cond.fieldLink RX1 21 "HungryJury$Panel" "need" "I" ∈ wsX1_readFrom := List.mem_of_getElem? (i := 3) rfl
theorem iX1_readFrom_X4 : ∀ w ∈ wsX40, w ∈ wsX1_readFrom := fun _ h => List.mem_cons_of_mem _ (List.mem_append_right _ h)
theorem mX1_readFrom_4 : Cond.fieldLink RX1 44 "HungryJury$Text" "length" "I" ∈ wsX1_readFrom := List.mem_of_getElem? (i := 4) rfl
def fX1_readFrom_94 (t : hj_Ob) (ρ : hj_Ob) (x2 : Int32) (x3 : Int32) (z0 : Int32) : Option (((Int32 × hj_Ob) ⊕ hj_Ob) ⊕ (Int32 × hj_Ob)) :=
  if z0 = (-9) then (if x3 = 0 then (hj_nm (x2 + 3) fun y18 => some (.inr (y18, ρ))) else (hj_nm (x2 + 4) fun y19 => some (.inr (y19, ρ)))) else (some (.inl (.inl (z0, ρ))))
set_option maxHeartbeats 4000000 in
set_option maxRecDepth 100000 in
theorem wX1_readFrom_94 {p : Program} {l : Launch} {e : Env} {s : State} {m : MethodId} {args : Array Value} {below : List Frame} {meth : Method} {c : Code} {g : hj_G} {ad : Nat → Nat} (hI : hj_I 73 ad) (C : hj_C p s m args meth c cX1_readFrom RX1 wsX1_readFrom 5 (some .int)) (hK : hj_K g s) {σ : Nat → hj_Ob} {bf : Nat → Nat} {sd : Int64} {o : Nat} (ho : wx_B o) {t : hj_Ob} (ht : σ 1 = t) {ρ : hj_Ob} {x2 : Int32} {x3 : Int32} {z0 : Int32} {y : ((Int32 × hj_Ob) ⊕ hj_Ob) ⊕ (Int32 × hj_Ob)} {rF : Int32} {ρF : hj_Ob}
    (hf : fX1_readFrom_94 t ρ x2 x3 z0 = some y) (KR : ∀ r, y = .inl (.inl r) → r = (rF, ρF)) (KX : ∀ (ρ' : hj_Ob), y = .inl (.inr ρ') → ∀ (H : Heap) (locs : List Loc) (ls : Array Slot), hj_P g 73 ad (hj_wx g ad (va_up σ o ρ') bf sd) H → hj_S 73 ad s H locs → lv_has ls 5 [] → W p l e rmX1_readFrom s m args below meth c H locs 0 0 (MQ below (hj_QI g 73 ad (hj_wx g ad (va_up σ o ρF) bf sd) rF s.heap.size) args s 0 0 (hj_A 73 ad s.heap.size)) (F0 m 121 ls [])) (KI : ∀ (v2 : Int32) (ρ' : hj_Ob), y = .inr (v2, ρ') → ∀ (H : Heap) (locs : List Loc) (ls : Array Slot), hj_P g 73 ad (hj_wx g ad (va_up σ o ρ') bf sd) H → hj_S 73 ad s H locs → lv_has ls 5 [(0, .ref (ad o)), (1, .ref (ad 1)), (2, .int v2)] → W p l e rmX1_readFrom s m args below meth c H locs 0 0 (MQ below (hj_QI g 73 ad (hj_wx g ad (va_up σ o ρF) bf sd) rF s.heap.size) args s 0 0 (hj_A 73 ad s.heap.size)) (F0 m 51 ls [])) {H : Heap} {locs : List Loc} {ls : Array Slot} (hP : hj_P g 73 ad (hj_wx g ad (va_up σ o ρ) bf sd) H) (hS : hj_S 73 ad s H locs) (hl : lv_has ls 5 [(0, .ref (ad o)), (1, .ref (ad 1)), (2, .int x2), (3, .int x3)]) :
    W p l e rmX1_readFrom s m args below meth c H locs 0 0 (MQ below (hj_QI g 73 ad (hj_wx g ad (va_up σ o ρF) bf sd) rF s.heap.size) args s 0 0 (hj_A 73 ad s.heap.size)) (F0 m 94 ls [.int z0]) := by
  obtain ⟨hx, hb, hr, hml, hown, hts, hlocks⟩ := id C
  unfold fX1_readFrom_94 at hf
  refine lv_istore (lv' := [(4, .int z0), (0, .ref (ad o)), (1, .ref (ad 1)), (2, .int x2), (3, .int x3)]) hx hb dX1_readFrom_94 hl (by decide) rfl (fun ls hl => ?_)
  refine lv_iload hx hb dX1_readFrom_96 (lv_at hl 0 rfl) ?_
  refine lv_bipush (v := (-9)) hx hb dX1_readFrom_98 (by decide) ?_
  refine lv_icmp_eq (tgt := 106) hx hb dX1_readFrom_100 (by decide) (fun c16 => ?_) (fun c16 => ?_)
  · rw [if_pos c16] at hf
    refine lv_iload_n hx hb dX1_readFrom_106 rfl (lv_at hl 3 rfl) ?_
    refine lv_iload_n hx hb dX1_readFrom_107 rfl (lv_at hl 4 rfl) ?_
    refine lv_if_eq (tgt := 115) hx hb dX1_readFrom_108 (by decide) (fun c17 => ?_) (fun c17 => ?_)
    · rw [if_pos c17] at hf
      refine lv_iconst (v := 3) hx hb dX1_readFrom_115 (by decide) ?_
      refine lv_iadd hx hb dX1_readFrom_116 ?_
      refine lv_topi (fun y18 ey18 => ?_)
      replace hf := hj_nm_y hf ey18
      refine lv_istore_n (lv' := [(2, .int y18), (4, .int z0), (0, .ref (ad o)), (1, .ref (ad 1)), (3, .int x3)]) hx hb dX1_readFrom_117 rfl hl (by decide) rfl (fun ls hl => ?_)
      refine lv_goto (tgt := 51) hx hb dX1_readFrom_118 (by decide) ?_
      exact KI _ _ (Option.some.inj hf).symm _ _ _ hP hS (lv_sub hl [2, 3, 0] rfl)
    · rw [if_neg c17] at hf
      refine lv_iconst (v := 4) hx hb dX1_readFrom_111 (by decide) ?_
      refine lv_goto (tgt := 116) hx hb dX1_readFrom_112 (by decide) ?_
      refine lv_iadd hx hb dX1_readFrom_116 ?_
      refine lv_topi (fun y19 ey19 => ?_)
      replace hf := hj_nm_y hf ey19
      refine lv_istore_n (lv' := [(2, .int y19), (4, .int z0), (0, .ref (ad o)), (1, .ref (ad 1)), (3, .int x3)]) hx hb dX1_readFrom_117 rfl hl (by decide) rfl (fun ls hl => ?_)
      refine lv_goto (tgt := 51) hx hb dX1_readFrom_118 (by decide) ?_
      exact KI _ _ (Option.some.inj hf).symm _ _ _ hP hS (lv_sub hl [2, 3, 0] rfl)
  · rw [if_neg c16] at hf
    refine lv_iload hx hb dX1_readFrom_103 (lv_at hl 0 rfl) ?_
    have hq := KR _ (Option.some.inj hf).symm
    obtain ⟨rfl, rfl⟩ := Prod.mk.inj hq
    exact hj_reti C hP hK hS dX1_readFrom_105
def fX1_readFrom_74 (t : hj_Ob) (ρ : hj_Ob) (x2 : Int32) (z0 : Int32) : Option (((Int32 × hj_Ob) ⊕ hj_Ob) ⊕ (Int32 × hj_Ob)) :=
  if z0 = 0 then (hj_o2 (fX1_readPair t ρ x2) fun r14 ρ15 => fX1_readFrom_94 t ρ15 x2 z0 r14) else (hj_o2 (fX1_readJuror t ρ x2) fun r20 ρ21 => fX1_readFrom_94 t ρ21 x2 z0 r20)
set_option maxHeartbeats 4000000 in
set_option maxRecDepth 100000 in
theorem wX1_readFrom_74 {p : Program} {l : Launch} {e : Env} {s : State} {m : MethodId} {args : Array Value} {below : List Frame} {meth : Method} {c : Code} {g : hj_G} {ad : Nat → Nat} (hI : hj_I 73 ad) (C : hj_C p s m args meth c cX1_readFrom RX1 wsX1_readFrom 5 (some .int)) (hK : hj_K g s) {σ : Nat → hj_Ob} {bf : Nat → Nat} {sd : Int64} {o : Nat} (ho : wx_B o) {t : hj_Ob} (ht : σ 1 = t) {ρ : hj_Ob} {x2 : Int32} {z0 : Int32} {y : ((Int32 × hj_Ob) ⊕ hj_Ob) ⊕ (Int32 × hj_Ob)} {rF : Int32} {ρF : hj_Ob}
    (hf : fX1_readFrom_74 t ρ x2 z0 = some y) (KR : ∀ r, y = .inl (.inl r) → r = (rF, ρF)) (KX : ∀ (ρ' : hj_Ob), y = .inl (.inr ρ') → ∀ (H : Heap) (locs : List Loc) (ls : Array Slot), hj_P g 73 ad (hj_wx g ad (va_up σ o ρ') bf sd) H → hj_S 73 ad s H locs → lv_has ls 5 [] → W p l e rmX1_readFrom s m args below meth c H locs 0 0 (MQ below (hj_QI g 73 ad (hj_wx g ad (va_up σ o ρF) bf sd) rF s.heap.size) args s 0 0 (hj_A 73 ad s.heap.size)) (F0 m 121 ls [])) (KI : ∀ (v2 : Int32) (ρ' : hj_Ob), y = .inr (v2, ρ') → ∀ (H : Heap) (locs : List Loc) (ls : Array Slot), hj_P g 73 ad (hj_wx g ad (va_up σ o ρ') bf sd) H → hj_S 73 ad s H locs → lv_has ls 5 [(0, .ref (ad o)), (1, .ref (ad 1)), (2, .int v2)] → W p l e rmX1_readFrom s m args below meth c H locs 0 0 (MQ below (hj_QI g 73 ad (hj_wx g ad (va_up σ o ρF) bf sd) rF s.heap.size) args s 0 0 (hj_A 73 ad s.heap.size)) (F0 m 51 ls [])) {H : Heap} {locs : List Loc} {ls : Array Slot} (hP : hj_P g 73 ad (hj_wx g ad (va_up σ o ρ) bf sd) H) (hS : hj_S 73 ad s H locs) (hl : lv_has ls 5 [(0, .ref (ad o)), (1, .ref (ad 1)), (2, .int x2)]) :
    W p l e rmX1_readFrom s m args below meth c H locs 0 0 (MQ below (hj_QI g 73 ad (hj_wx g ad (va_up σ o ρF) bf sd) rF s.heap.size) args s 0 0 (hj_A 73 ad s.heap.size)) (F0 m 74 ls [.int z0]) := by
  obtain ⟨hx, hb, hr, hml, hown, hts, hlocks⟩ := id C
  unfold fX1_readFrom_74 at hf
  refine lv_istore_n (lv' := [(3, .int z0), (0, .ref (ad o)), (1, .ref (ad 1)), (2, .int x2)]) hx hb dX1_readFrom_74 rfl hl (by decide) rfl (fun ls hl => ?_)
  refine lv_iload_n hx hb dX1_readFrom_75 rfl (lv_at hl 0 rfl) ?_
  refine lv_if_eq (tgt := 88) hx hb dX1_readFrom_76 (by decide) (fun c13 => ?_) (fun c13 => ?_)
  · rw [if_pos c13] at hf
    refine lv_aload_n hx hb dX1_readFrom_88 rfl (lv_at hl 1 rfl) ?_
    refine lv_aload_n hx hb dX1_readFrom_89 rfl (lv_at hl 2 rfl) ?_
    refine lv_iload_n hx hb dX1_readFrom_90 rfl (lv_at hl 3 rfl) ?_
    obtain ⟨r14, ρ15, hc, hf⟩ := hj_o2_s hf
    refine hj_callVi (nL := 5) (As := [.ref (ad 1), .int x2]) (rest := []) (i0 := o) (C := RX1) (T := TX1) (N := 6) (ci := 1) ⟨hx, hb, hml, hown, hts⟩ (ctX1_readPair l g hI (σ := (va_up σ o ρ)) (bf := bf) (sd := sd) ho ((va_up_ne _ _ (wx_B_1 ho)).trans ht) (va_up_self _ _ _) hc) (cwV 2 hts gX1_readFrom_X1_readPair rfl rfl rfl (by decide +kernel) ⟨Nat.le_of_ble_eq_true rfl, Nat.le_of_ble_eq_true rfl⟩) hj_Xb0 (fun _ _ _ => trivial) hK hP hS (wx_B_lt (k := 0) ho (by decide)) (wx_at_b ho (va_up_self _ _ _)) rfl rfl hl.1 rfl (Nat.le_of_ble_eq_true rfl) dX1_readFrom_91 (fun H locs hP hS => ?_)
    rw [hj_uu] at hP
    exact wX1_readFrom_94 hI C hK ho ht  hf KR KX KI hP hS (lv_sub hl [1, 2, 3, 0] rfl)
  · rw [if_neg c13] at hf
    refine lv_aload_n hx hb dX1_readFrom_79 rfl (lv_at hl 1 rfl) ?_
    refine lv_aload_n hx hb dX1_readFrom_80 rfl (lv_at hl 2 rfl) ?_
    refine lv_iload_n hx hb dX1_readFrom_81 rfl (lv_at hl 3 rfl) ?_
    obtain ⟨r20, ρ21, hc, hf⟩ := hj_o2_s hf
    refine hj_callVi (nL := 5) (As := [.ref (ad 1), .int x2]) (rest := []) (i0 := o) (C := RX1) (T := TX1) (N := 6) (ci := 1) ⟨hx, hb, hml, hown, hts⟩ (ctX1_readJuror l g hI (σ := (va_up σ o ρ)) (bf := bf) (sd := sd) ho ((va_up_ne _ _ (wx_B_1 ho)).trans ht) (va_up_self _ _ _) hc) (cwV 2 hts gX1_readFrom_X1_readJuror rfl rfl rfl (by decide +kernel) ⟨Nat.le_of_ble_eq_true rfl, Nat.le_of_ble_eq_true rfl⟩) hj_Xb0 (fun _ _ _ => trivial) hK hP hS (wx_B_lt (k := 0) ho (by decide)) (wx_at_b ho (va_up_self _ _ _)) rfl rfl hl.1 rfl (Nat.le_of_ble_eq_true rfl) dX1_readFrom_82 (fun H locs hP hS => ?_)
    rw [hj_uu] at hP
    refine lv_goto (tgt := 94) hx hb dX1_readFrom_85 (by decide) ?_
    exact wX1_readFrom_94 hI C hK ho ht  hf KR KX KI hP hS (lv_sub hl [1, 2, 3, 0] rfl)
def fX1_readFrom_51 (t : hj_Ob) (ρ : hj_Ob) (x2 : Int32) : Option (((Int32 × hj_Ob) ⊕ hj_Ob) ⊕ (Int32 × hj_Ob)) :=
  if (t.1 1) ≤ x2 then (some (.inl (.inr ρ))) else (hj_o1 (fX4_letterAt t x2) fun r11 => if r11 = 80 then (fX1_readFrom_74 t ρ x2 1) else (fX1_readFrom_74 t ρ x2 0))
set_option maxHeartbeats 4000000 in
set_option maxRecDepth 100000 in
theorem wX1_readFrom_51b {p : Program} {l : Launch} {e : Env} {s : State} {m : MethodId} {args : Array Value} {below : List Frame} {meth : Method} {c : Code} {g : hj_G} {ad : Nat → Nat} (hI : hj_I 73 ad) (C : hj_C p s m args meth c cX1_readFrom RX1 wsX1_readFrom 5 (some .int)) (hK : hj_K g s) {σ : Nat → hj_Ob} {bf : Nat → Nat} {sd : Int64} {o : Nat} (ho : wx_B o) {t : hj_Ob} (ht : σ 1 = t) {ρ : hj_Ob} {x2 : Int32} {y : ((Int32 × hj_Ob) ⊕ hj_Ob) ⊕ (Int32 × hj_Ob)} {rF : Int32} {ρF : hj_Ob}
    (hf : fX1_readFrom_51 t ρ x2 = some y) (KR : ∀ r, y = .inl (.inl r) → r = (rF, ρF)) (KX : ∀ (ρ' : hj_Ob), y = .inl (.inr ρ') → ∀ (H : Heap) (locs : List Loc) (ls : Array Slot), hj_P g 73 ad (hj_wx g ad (va_up σ o ρ') bf sd) H → hj_S 73 ad s H locs → lv_has ls 5 [] → W p l e rmX1_readFrom s m args below meth c H locs 0 0 (MQ below (hj_QI g 73 ad (hj_wx g ad (va_up σ o ρF) bf sd) rF s.heap.size) args s 0 0 (hj_A 73 ad s.heap.size)) (F0 m 121 ls [])) (KI : ∀ (v2 : Int32) (ρ' : hj_Ob), y = .inr (v2, ρ') → ∀ (H : Heap) (locs : List Loc) (ls : Array Slot), hj_P g 73 ad (hj_wx g ad (va_up σ o ρ') bf sd) H → hj_S 73 ad s H locs → lv_has ls 5 [(0, .ref (ad o)), (1, .ref (ad 1)), (2, .int v2)] → W p l e rmX1_readFrom s m args below meth c H locs 0 0 (MQ below (hj_QI g 73 ad (hj_wx g ad (va_up σ o ρF) bf sd) rF s.heap.size) args s 0 0 (hj_A 73 ad s.heap.size)) (F0 m 51 ls [])) {H : Heap} {locs : List Loc} {ls : Array Slot} (hP : hj_P g 73 ad (hj_wx g ad (va_up σ o ρ) bf sd) H) (hS : hj_S 73 ad s H locs) (hl : lv_has ls 5 [(0, .ref (ad o)), (1, .ref (ad 1)), (2, .int x2)]) :
    W p l e rmX1_readFrom s m args below meth c H locs 0 0 (MQ below (hj_QI g 73 ad (hj_wx g ad (va_up σ o ρF) bf sd) rF s.heap.size) args s 0 0 (hj_A 73 ad s.heap.size)) (F0 m 51 ls []) := by
  obtain ⟨hx, hb, hr, hml, hown, hts, hlocks⟩ := id C
  unfold fX1_readFrom_51 at hf
  refine lv_iload_n hx hb dX1_readFrom_51 rfl (lv_at hl 2 rfl) ?_
  refine lv_aload_n hx hb dX1_readFrom_52 rfl (lv_at hl 1 rfl) ?_
  refine hj_get (ci := 4) (v := .int (t.1 1)) (C := RX4) (T := TX4) (N := 2) hx hb hts iX1_readFrom_X4 hown hK hP (by decide) (wx_at_t ((va_up_ne _ _ (wx_B_1 ho)).trans ht)) rfl 1 (by decide) mX1_readFrom_4 rfl dX1_readFrom_53 ?_
  refine lv_icmp_ge (tgt := 121) hx hb dX1_readFrom_56 (by decide) (fun c10 => ?_) (fun c10 => ?_)
  · rw [if_pos c10] at hf
    exact KX _ (Option.some.inj hf).symm _ _ _ hP hS (lv_sub hl [] rfl)
  · rw [if_neg c10] at hf
    refine lv_aload_n hx hb dX1_readFrom_59 rfl (lv_at hl 1 rfl) ?_
    refine lv_iload_n hx hb dX1_readFrom_60 rfl (lv_at hl 2 rfl) ?_
    obtain ⟨r11, hc, hf⟩ := hj_o1_s hf
    refine hj_callVi (nL := 5) (As := [.int x2]) (rest := []) (i0 := 1) (C := RX4) (T := TX4) (N := 2) (ci := 4) ⟨hx, hb, hml, hown, hts⟩ (ctX4_letterAt l g hI (σ := (va_up σ o ρ)) (bf := bf) (sd := sd) ((va_up_ne _ _ (wx_B_1 ho)).trans ht) hc) (cwV 1 hts gX1_readFrom_X4_letterAt rfl rfl rfl (by decide +kernel) ⟨Nat.le_of_ble_eq_true rfl, Nat.le_of_ble_eq_true rfl⟩) hj_Xb0 (fun _ _ _ => trivial) hK hP hS (by decide) (wx_at_t ((va_up_ne _ _ (wx_B_1 ho)).trans ht)) rfl rfl hl.1 rfl (Nat.le_of_ble_eq_true rfl) dX1_readFrom_61 (fun H locs hP hS => ?_)
    refine lv_bipush (v := 80) hx hb dX1_readFrom_64 (by decide) ?_
    refine lv_icmp_ne (tgt := 73) hx hb dX1_readFrom_66 (by decide) (fun c12 => ?_) (fun c12 => ?_)
    · rw [if_neg c12] at hf
      refine lv_iconst (v := 0) hx hb dX1_readFrom_73 (by decide) ?_
      exact wX1_readFrom_74 hI C hK ho ht  hf KR KX KI hP hS (lv_sub hl [0, 1, 2] rfl)
    · rw [if_pos c12] at hf
      refine lv_iconst (v := 1) hx hb dX1_readFrom_69 (by decide) ?_
      refine lv_goto (tgt := 74) hx hb dX1_readFrom_70 (by decide) ?_
      exact wX1_readFrom_74 hI C hK ho ht  hf KR KX KI hP hS (lv_sub hl [0, 1, 2] rfl)
set_option maxHeartbeats 4000000 in
set_option maxRecDepth 100000 in
theorem wX1_readFrom_51 {p : Program} {l : Launch} {e : Env} {s : State} {m : MethodId} {args : Array Value} {below : List Frame} {meth : Method} {c : Code} {g : hj_G} {ad : Nat → Nat} (hI : hj_I 73 ad) (C : hj_C p s m args meth c cX1_readFrom RX1 wsX1_readFrom 5 (some .int)) (hK : hj_K g s) {σ : Nat → hj_Ob} {bf : Nat → Nat} {sd : Int64} {o : Nat} (ho : wx_B o) {t : hj_Ob} (ht : σ 1 = t) {rF : Int32} {ρF : hj_Ob} {ex : ((Int32 × hj_Ob) ⊕ hj_Ob)} :
    ∀ (fu : Nat) (x2 : Int32) (ρ : hj_Ob), hj_lp (fun q : (Int32 × hj_Ob) => fX1_readFrom_51 t q.2 q.1) fu (x2, ρ) = some ex → (∀ r, ex = .inl r → r = (rF, ρF)) → (∀ (ρ' : hj_Ob), ex = .inr ρ' → ∀ (H : Heap) (locs : List Loc) (ls : Array Slot), hj_P g 73 ad (hj_wx g ad (va_up σ o ρ') bf sd) H → hj_S 73 ad s H locs → lv_has ls 5 [] → W p l e rmX1_readFrom s m args below meth c H locs 0 0 (MQ below (hj_QI g 73 ad (hj_wx g ad (va_up σ o ρF) bf sd) rF s.heap.size) args s 0 0 (hj_A 73 ad s.heap.size)) (F0 m 121 ls [])) → ∀ (H : Heap) (locs : List Loc) (ls : Array Slot), hj_P g 73 ad (hj_wx g ad (va_up σ o ρ) bf sd) H → hj_S 73 ad s H locs → lv_has ls 5 [(0, .ref (ad o)), (1, .ref (ad 1)), (2, .int x2)] →
    W p l e rmX1_readFrom s m args below meth c H locs 0 0 (MQ below (hj_QI g 73 ad (hj_wx g ad (va_up σ o ρF) bf sd) rF s.heap.size) args s 0 0 (hj_A 73 ad s.heap.size)) (F0 m 51 ls []) := by
  intro fu
  induction fu with
  | zero => intro x2 ρ hq; cases hq
  | succ fu ih =>
    intro x2 ρ hq KR KX H locs ls hP hS hl
    obtain ⟨y, hy, h1, h2⟩ := hj_lp_s hq
    exact wX1_readFrom_51b hI C hK ho ht  hy (fun r hr => KR r (h1 _ hr).symm) (fun ρ' hv => KX ρ' (h1 _ hv).symm) (fun v2 ρ' hv H locs ls hP hS hl => ih v2 ρ' (h2 _ hv) KR KX H locs ls hP hS hl) hP hS hl
def fX1_readFrom (t : hj_Ob) (ρ : hj_Ob) : Option (Int32 × hj_Ob) :=
  hj_nm (hj_s ρ 3 0) fun ρ1 => hj_nm (hj_s ρ1 5 0) fun ρ2 => hj_nm (hj_s ρ2 4 1) fun ρ3 => hj_o1 (fX4_letterAt t 0) fun r4 => if r4 = 74 then (hj_o1 (fX4_isFigure t 1 1 6) fun r6 => if r6 = 0 then (some (1, ρ3)) else (hj_o1 (fX4_figureAt t 1) fun r8 => hj_nm (hj_s ρ3 4 r8) fun ρ9 => hj_oe (fun r => r) (hj_lp (fun q : (Int32 × hj_Ob) => fX1_readFrom_51 t q.2 q.1) 100 (2, ρ9)) (fun ex23 => hj_nm ex23 fun ρ22 => some ((-9), ρ22)))) else (some (0, ρ3))
set_option maxHeartbeats 4000000 in
set_option maxRecDepth 100000 in
theorem wX1_readFrom {p : Program} {l : Launch} {e : Env} {s : State} {m : MethodId} {args : Array Value} {below : List Frame} {meth : Method} {c : Code} {g : hj_G} {ad : Nat → Nat} (hI : hj_I 73 ad) (C : hj_C p s m args meth c cX1_readFrom RX1 wsX1_readFrom 5 (some .int)) (hK : hj_K g s) {σ : Nat → hj_Ob} {bf : Nat → Nat} {sd : Int64} {o : Nat} (ho : wx_B o) {t : hj_Ob} (ht : σ 1 = t) {ρ : hj_Ob} {rF : Int32} {ρF : hj_Ob}
    (hf : fX1_readFrom t ρ = some (rF, ρF)) {H : Heap} {locs : List Loc} {ls : Array Slot} (hP : hj_P g 73 ad (hj_wx g ad (va_up σ o ρ) bf sd) H) (hS : hj_S 73 ad s H locs) (hl : lv_has ls 5 [(0, .ref (ad o)), (1, .ref (ad 1))]) :
    W p l e rmX1_readFrom s m args below meth c H locs 0 0 (MQ below (hj_QI g 73 ad (hj_wx g ad (va_up σ o ρF) bf sd) rF s.heap.size) args s 0 0 (hj_A 73 ad s.heap.size)) (F0 m 0 ls []) := by
  obtain ⟨hx, hb, hr, hml, hown, hts, hlocks⟩ := id C
  unfold fX1_readFrom at hf
  refine lv_aload_n hx hb dX1_readFrom_0 rfl (lv_at hl 0 rfl) ?_
  refine lv_iconst (v := 0) hx hb dX1_readFrom_1 (by decide) ?_
  refine hj_put (ci := 1) (v := .int 0) (C := RX1) (T := TX1) (N := 6) hx hb hts iX1_readFrom_X1 tyX1 tyX1_ok nmX1 hown hK hI hP hS (wx_B_lt (k := 0) ho (by decide)) (wx_at_b ho (va_up_self _ _ _)) rfl 3 (by decide) mX1_readFrom_1 rfl rfl rfl (Nat.le_of_ble_eq_true rfl) dX1_readFrom_2 ((wx_s_b (k := 3) (v := 0) ho (va_up_self _ _ _) rfl).trans (by rw [hj_uu])) (fun H locs hP hS => ?_)
  obtain ⟨ρ1, eρ1⟩ : ∃ z : hj_Ob, z = hj_s ρ 3 0 := ⟨_, rfl⟩
  replace hf := hj_nm_y hf eρ1
  rw [← eρ1] at hP
  refine lv_aload_n hx hb dX1_readFrom_5 rfl (lv_at hl 0 rfl) ?_
  refine lv_iconst (v := 0) hx hb dX1_readFrom_6 (by decide) ?_
  refine hj_put (ci := 1) (v := .int 0) (C := RX1) (T := TX1) (N := 6) hx hb hts iX1_readFrom_X1 tyX1 tyX1_ok nmX1 hown hK hI hP hS (wx_B_lt (k := 0) ho (by decide)) (wx_at_b ho (va_up_self _ _ _)) rfl 5 (by decide) mX1_readFrom_2 rfl rfl rfl (Nat.le_of_ble_eq_true rfl) dX1_readFrom_7 ((wx_s_b (k := 5) (v := 0) ho (va_up_self _ _ _) rfl).trans (by rw [hj_uu])) (fun H locs hP hS => ?_)
  obtain ⟨ρ2, eρ2⟩ : ∃ z : hj_Ob, z = hj_s ρ1 5 0 := ⟨_, rfl⟩
  replace hf := hj_nm_y hf eρ2
  rw [← eρ2] at hP
  refine lv_aload_n hx hb dX1_readFrom_10 rfl (lv_at hl 0 rfl) ?_
  refine lv_iconst (v := 1) hx hb dX1_readFrom_11 (by decide) ?_
  refine hj_put (ci := 1) (v := .int 1) (C := RX1) (T := TX1) (N := 6) hx hb hts iX1_readFrom_X1 tyX1 tyX1_ok nmX1 hown hK hI hP hS (wx_B_lt (k := 0) ho (by decide)) (wx_at_b ho (va_up_self _ _ _)) rfl 4 (by decide) mX1_readFrom_3 rfl rfl rfl (Nat.le_of_ble_eq_true rfl) dX1_readFrom_12 ((wx_s_b (k := 4) (v := 1) ho (va_up_self _ _ _) rfl).trans (by rw [hj_uu])) (fun H locs hP hS => ?_)
  obtain ⟨ρ3, eρ3⟩ : ∃ z : hj_Ob, z = hj_s ρ2 4 1 := ⟨_, rfl⟩
  replace hf := hj_nm_y hf eρ3
  rw [← eρ3] at hP
  refine lv_aload_n hx hb dX1_readFrom_15 rfl (lv_at hl 1 rfl) ?_
  refine lv_iconst (v := 0) hx hb dX1_readFrom_16 (by decide) ?_
  obtain ⟨r4, hc, hf⟩ := hj_o1_s hf
  refine hj_callVi (nL := 5) (As := [.int 0]) (rest := []) (i0 := 1) (C := RX4) (T := TX4) (N := 2) (ci := 4) ⟨hx, hb, hml, hown, hts⟩ (ctX4_letterAt l g hI (σ := (va_up σ o ρ3)) (bf := bf) (sd := sd) ((va_up_ne _ _ (wx_B_1 ho)).trans ht) hc) (cwV 1 hts gX1_readFrom_X4_letterAt rfl rfl rfl (by decide +kernel) ⟨Nat.le_of_ble_eq_true rfl, Nat.le_of_ble_eq_true rfl⟩) hj_Xb0 (fun _ _ _ => trivial) hK hP hS (by decide) (wx_at_t ((va_up_ne _ _ (wx_B_1 ho)).trans ht)) rfl rfl hl.1 rfl (Nat.le_of_ble_eq_true rfl) dX1_readFrom_17 (fun H locs hP hS => ?_)
  refine lv_bipush (v := 74) hx hb dX1_readFrom_20 (by decide) ?_
  refine lv_icmp_eq (tgt := 27) hx hb dX1_readFrom_22 (by decide) (fun c5 => ?_) (fun c5 => ?_)
  · rw [if_pos c5] at hf
    refine lv_aload_n hx hb dX1_readFrom_27 rfl (lv_at hl 1 rfl) ?_
    refine lv_iconst (v := 1) hx hb dX1_readFrom_28 (by decide) ?_
    refine lv_iconst (v := 1) hx hb dX1_readFrom_29 (by decide) ?_
    refine lv_bipush (v := 6) hx hb dX1_readFrom_30 (by decide) ?_
    obtain ⟨r6, hc, hf⟩ := hj_o1_s hf
    refine hj_callVi (nL := 5) (As := [.int 1, .int 1, .int 6]) (rest := []) (i0 := 1) (C := RX4) (T := TX4) (N := 2) (ci := 4) ⟨hx, hb, hml, hown, hts⟩ (ctX4_isFigure l g hI (σ := (va_up σ o ρ3)) (bf := bf) (sd := sd) ((va_up_ne _ _ (wx_B_1 ho)).trans ht) hc) (cwV 3 hts gX1_readFrom_X4_isFigure rfl rfl rfl (by decide +kernel) ⟨Nat.le_of_ble_eq_true rfl, Nat.le_of_ble_eq_true rfl⟩) hj_Xb0 (fun _ _ _ => trivial) hK hP hS (by decide) (wx_at_t ((va_up_ne _ _ (wx_B_1 ho)).trans ht)) rfl rfl hl.1 rfl (Nat.le_of_ble_eq_true rfl) dX1_readFrom_32 (fun H locs hP hS => ?_)
    refine lv_if_ne (tgt := 40) hx hb dX1_readFrom_35 (by decide) (fun c7 => ?_) (fun c7 => ?_)
    · rw [if_neg c7] at hf
      refine lv_aload_n hx hb dX1_readFrom_40 rfl (lv_at hl 0 rfl) ?_
      refine lv_aload_n hx hb dX1_readFrom_41 rfl (lv_at hl 1 rfl) ?_
      refine lv_iconst (v := 1) hx hb dX1_readFrom_42 (by decide) ?_
      obtain ⟨r8, hc, hf⟩ := hj_o1_s hf
      refine hj_callVi (nL := 5) (As := [.int 1]) (rest := [.ref (ad o)]) (i0 := 1) (C := RX4) (T := TX4) (N := 2) (ci := 4) ⟨hx, hb, hml, hown, hts⟩ (ctX4_figureAt l g hI (σ := (va_up σ o ρ3)) (bf := bf) (sd := sd) ((va_up_ne _ _ (wx_B_1 ho)).trans ht) hc) (cwV 1 hts gX1_readFrom_X4_figureAt rfl rfl rfl (by decide +kernel) ⟨Nat.le_of_ble_eq_true rfl, Nat.le_of_ble_eq_true rfl⟩) hj_Xb0 (fun _ _ _ => trivial) hK hP hS (by decide) (wx_at_t ((va_up_ne _ _ (wx_B_1 ho)).trans ht)) rfl rfl hl.1 rfl (Nat.le_of_ble_eq_true rfl) dX1_readFrom_43 (fun H locs hP hS => ?_)
      refine hj_put (ci := 1) (v := .int r8) (C := RX1) (T := TX1) (N := 6) hx hb hts iX1_readFrom_X1 tyX1 tyX1_ok nmX1 hown hK hI hP hS (wx_B_lt (k := 0) ho (by decide)) (wx_at_b ho (va_up_self _ _ _)) rfl 4 (by decide) mX1_readFrom_3 rfl rfl rfl (Nat.le_of_ble_eq_true rfl) dX1_readFrom_46 ((wx_s_b (k := 4) (v := r8) ho (va_up_self _ _ _) rfl).trans (by rw [hj_uu])) (fun H locs hP hS => ?_)
      obtain ⟨ρ9, eρ9⟩ : ∃ z : hj_Ob, z = hj_s ρ3 4 r8 := ⟨_, rfl⟩
      replace hf := hj_nm_y hf eρ9
      rw [← eρ9] at hP
      refine lv_iconst (v := 2) hx hb dX1_readFrom_49 (by decide) ?_
      refine lv_istore_n (lv' := [(2, .int 2), (0, .ref (ad o)), (1, .ref (ad 1))]) hx hb dX1_readFrom_50 rfl hl (by decide) rfl (fun ls hl => ?_)
      obtain ⟨exx, hlx, hlr, hfx⟩ := hj_oe_s hf
      refine wX1_readFrom_51 hI C hK ho ht  100 2 ρ9 hlx hlr (fun ρ22 hxe H locs ls hP hS hl => ?_) H locs ls hP hS (lv_sub hl [1, 2, 0] rfl)
      replace hf := hfx _ hxe
      replace hf := hj_nm_y (y := ρ22) hf rfl
      refine lv_bipush (v := (-9)) hx hb dX1_readFrom_121 (by decide) ?_
      have hq := Option.some.inj hf
      obtain ⟨rfl, rfl⟩ := Prod.mk.inj hq
      exact hj_reti C hP hK hS dX1_readFrom_123
    · rw [if_pos c7] at hf
      refine lv_iconst (v := 1) hx hb dX1_readFrom_38 (by decide) ?_
      have hq := Option.some.inj hf
      obtain ⟨rfl, rfl⟩ := Prod.mk.inj hq
      exact hj_reti C hP hK hS dX1_readFrom_39
  · rw [if_neg c5] at hf
    refine lv_iconst (v := 0) hx hb dX1_readFrom_25 (by decide) ?_
    have hq := Option.some.inj hf
    obtain ⟨rfl, rfl⟩ := Prod.mk.inj hq
    exact hj_reti C hP hK hS dX1_readFrom_26
set_option maxHeartbeats 4000000 in
set_option maxRecDepth 100000 in
theorem ctX1_readFrom (l : Launch) (g : hj_G) {ad : Nat → Nat} (hI : hj_I 73 ad) {σ : Nat → hj_Ob} {bf : Nat → Nat} {sd : Int64} {o : Nat} (ho : wx_B o) {t : hj_Ob} (ht : σ 1 = t) {ρ : hj_Ob} (hρ : σ o = ρ) {rF : Int32} {ρF : hj_Ob} (hf : fX1_readFrom t ρ = some (rF, ρF)) :
    hj_MI l yX1_readFrom wsX1_readFrom rmX1_readFrom g 73 ad hj_X0 [.ref (ad o), .ref (ad 1)] (hj_wx g ad σ bf sd) rF (hj_wx g ad (va_up σ o ρF) bf sd) := by
  refine hj_ofI (cc := cX1_readFrom) (maxL := 5) (ret := (some .int)) (by decide) rfl (Nat.le_of_ble_eq_true rfl) ?_
  intro p e s m args below meth c ls C hP hK hX hl
  have hP : hj_P g 73 ad (hj_wx g ad (va_up σ o ρ) bf sd) s.heap := by rw [hj_ue σ _ hρ]; exact hP
  exact wX1_readFrom hI C hK ho ht hf hP va_S.rf hl

/-! J6_bitCount_0f7a4 -/
abbrev rmJ6_bitCount_0f7a4 : Room := { frames := 0, cells := 0, slots := 0, locals := 0 }
theorem mJ6_bitCount_0f7a4_1 : Cond.constant RJ6 265 (1431655765) ∈ wsJ6_bitCount_0f7a4 := List.mem_of_getElem? (i := 1) rfl
theorem mJ6_bitCount_0f7a4_2 : Cond.constant RJ6 266 (858993459) ∈ wsJ6_bitCount_0f7a4 := List.mem_of_getElem? (i := 2) rfl
theorem mJ6_bitCount_0f7a4_3 : Cond.constant RJ6 267 (252645135) ∈ wsJ6_bitCount_0f7a4 := List.mem_of_getElem? (i := 3) rfl
def fJ6_bitCount_0f7a4 (x0 : Int32) : Option Int32 :=
  hj_nm (x0 - (((x0.toUInt32 >>> ((1 : Int32).toUInt32 &&& Int32.toUInt32 31)).toInt32) &&& 1431655765)) fun y1 => hj_nm ((y1 &&& 858993459) + (((y1.toUInt32 >>> ((2 : Int32).toUInt32 &&& Int32.toUInt32 31)).toInt32) &&& 858993459)) fun y2 => hj_nm ((y2 + ((y2.toUInt32 >>> ((4 : Int32).toUInt32 &&& Int32.toUInt32 31)).toInt32)) &&& 252645135) fun y3 => hj_nm (y3 + ((y3.toUInt32 >>> ((8 : Int32).toUInt32 &&& Int32.toUInt32 31)).toInt32)) fun y4 => hj_nm (y4 + ((y4.toUInt32 >>> ((16 : Int32).toUInt32 &&& Int32.toUInt32 31)).toInt32)) fun y5 => some (y5 &&& 63)
set_option maxHeartbeats 4000000 in
set_option maxRecDepth 100000 in
theorem wJ6_bitCount_0f7a4 {p : Program} {l : Launch} {e : Env} {s : State} {m : MethodId} {args : Array Value} {below : List Frame} {meth : Method} {c : Code} {g : hj_G} {ad : Nat → Nat} {n : Nat} {w : Nat → va_E} (C : hj_C p s m args meth c cJ6_bitCount_0f7a4 RJ6 wsJ6_bitCount_0f7a4 1 (some .int)) (hK : hj_K g s) {x0 : Int32} {rF : Int32}
    (hf : fJ6_bitCount_0f7a4 x0 = some rF) {H : Heap} {locs : List Loc} {ls : Array Slot} (hP : hj_P g n ad w H) (hS : hj_S n ad s H locs) (hl : lv_has ls 1 [(0, .int x0)]) :
    W p l e rmJ6_bitCount_0f7a4 s m args below meth c H locs 0 0 (MQ below (hj_QI g n ad w rF s.heap.size) args s 0 0 (hj_A n ad s.heap.size)) (F0 m 0 ls []) := by
  obtain ⟨hx, hb, hr, hml, hown, hts, hlocks⟩ := id C
  unfold fJ6_bitCount_0f7a4 at hf
  refine lv_iload_n hx hb dJ6_bitCount_0f7a4_0 rfl (lv_at hl 0 rfl) ?_
  refine lv_iload_n hx hb dJ6_bitCount_0f7a4_1 rfl (lv_at hl 0 rfl) ?_
  refine lv_iconst (v := 1) hx hb dJ6_bitCount_0f7a4_2 (by decide) ?_
  refine lv_iushr (v := (x0.toUInt32 >>> ((1 : Int32).toUInt32 &&& Int32.toUInt32 31)).toInt32) hx hb dJ6_bitCount_0f7a4_3 rfl ?_
  refine lv_ldcw hx hb hown (hts _ mJ6_bitCount_0f7a4_1) dJ6_bitCount_0f7a4_4 ?_
  refine lv_iand hx hb dJ6_bitCount_0f7a4_7 ?_
  refine lv_isub hx hb dJ6_bitCount_0f7a4_8 ?_
  refine lv_topi (fun y1 ey1 => ?_)
  replace hf := hj_nm_y hf ey1
  refine lv_istore_n (lv' := [(0, .int y1)]) hx hb dJ6_bitCount_0f7a4_9 rfl hl (by decide) rfl (fun ls hl => ?_)
  refine lv_iload_n hx hb dJ6_bitCount_0f7a4_10 rfl (lv_at hl 0 rfl) ?_
  refine lv_ldcw hx hb hown (hts _ mJ6_bitCount_0f7a4_2) dJ6_bitCount_0f7a4_11 ?_
  refine lv_iand hx hb dJ6_bitCount_0f7a4_14 ?_
  refine lv_iload_n hx hb dJ6_bitCount_0f7a4_15 rfl (lv_at hl 0 rfl) ?_
  refine lv_iconst (v := 2) hx hb dJ6_bitCount_0f7a4_16 (by decide) ?_
  refine lv_iushr (v := (y1.toUInt32 >>> ((2 : Int32).toUInt32 &&& Int32.toUInt32 31)).toInt32) hx hb dJ6_bitCount_0f7a4_17 rfl ?_
  refine lv_ldcw hx hb hown (hts _ mJ6_bitCount_0f7a4_2) dJ6_bitCount_0f7a4_18 ?_
  refine lv_iand hx hb dJ6_bitCount_0f7a4_21 ?_
  refine lv_iadd hx hb dJ6_bitCount_0f7a4_22 ?_
  refine lv_topi (fun y2 ey2 => ?_)
  replace hf := hj_nm_y hf ey2
  refine lv_istore_n (lv' := [(0, .int y2)]) hx hb dJ6_bitCount_0f7a4_23 rfl hl (by decide) rfl (fun ls hl => ?_)
  refine lv_iload_n hx hb dJ6_bitCount_0f7a4_24 rfl (lv_at hl 0 rfl) ?_
  refine lv_iload_n hx hb dJ6_bitCount_0f7a4_25 rfl (lv_at hl 0 rfl) ?_
  refine lv_iconst (v := 4) hx hb dJ6_bitCount_0f7a4_26 (by decide) ?_
  refine lv_iushr (v := (y2.toUInt32 >>> ((4 : Int32).toUInt32 &&& Int32.toUInt32 31)).toInt32) hx hb dJ6_bitCount_0f7a4_27 rfl ?_
  refine lv_iadd hx hb dJ6_bitCount_0f7a4_28 ?_
  refine lv_ldcw hx hb hown (hts _ mJ6_bitCount_0f7a4_3) dJ6_bitCount_0f7a4_29 ?_
  refine lv_iand hx hb dJ6_bitCount_0f7a4_32 ?_
  refine lv_topi (fun y3 ey3 => ?_)
  replace hf := hj_nm_y hf ey3
  refine lv_istore_n (lv' := [(0, .int y3)]) hx hb dJ6_bitCount_0f7a4_33 rfl hl (by decide) rfl (fun ls hl => ?_)
  refine lv_iload_n hx hb dJ6_bitCount_0f7a4_34 rfl (lv_at hl 0 rfl) ?_
  refine lv_iload_n hx hb dJ6_bitCount_0f7a4_35 rfl (lv_at hl 0 rfl) ?_
  refine lv_bipush (v := 8) hx hb dJ6_bitCount_0f7a4_36 (by decide) ?_
  refine lv_iushr (v := (y3.toUInt32 >>> ((8 : Int32).toUInt32 &&& Int32.toUInt32 31)).toInt32) hx hb dJ6_bitCount_0f7a4_38 rfl ?_
  refine lv_iadd hx hb dJ6_bitCount_0f7a4_39 ?_
  refine lv_topi (fun y4 ey4 => ?_)
  replace hf := hj_nm_y hf ey4
  refine lv_istore_n (lv' := [(0, .int y4)]) hx hb dJ6_bitCount_0f7a4_40 rfl hl (by decide) rfl (fun ls hl => ?_)
  refine lv_iload_n hx hb dJ6_bitCount_0f7a4_41 rfl (lv_at hl 0 rfl) ?_
  refine lv_iload_n hx hb dJ6_bitCount_0f7a4_42 rfl (lv_at hl 0 rfl) ?_
  refine lv_bipush (v := 16) hx hb dJ6_bitCount_0f7a4_43 (by decide) ?_
  refine lv_iushr (v := (y4.toUInt32 >>> ((16 : Int32).toUInt32 &&& Int32.toUInt32 31)).toInt32) hx hb dJ6_bitCount_0f7a4_45 rfl ?_
  refine lv_iadd hx hb dJ6_bitCount_0f7a4_46 ?_
  refine lv_topi (fun y5 ey5 => ?_)
  replace hf := hj_nm_y hf ey5
  refine lv_istore_n (lv' := [(0, .int y5)]) hx hb dJ6_bitCount_0f7a4_47 rfl hl (by decide) rfl (fun ls hl => ?_)
  refine lv_iload_n hx hb dJ6_bitCount_0f7a4_48 rfl (lv_at hl 0 rfl) ?_
  refine lv_bipush (v := 63) hx hb dJ6_bitCount_0f7a4_49 (by decide) ?_
  refine lv_iand hx hb dJ6_bitCount_0f7a4_51 ?_
  have hq := Option.some.inj hf
  obtain rfl := hq
  exact hj_reti C hP hK hS dJ6_bitCount_0f7a4_52
set_option maxHeartbeats 4000000 in
set_option maxRecDepth 100000 in
theorem ctJ6_bitCount_0f7a4 (l : Launch) (g : hj_G) {ad : Nat → Nat} {n : Nat} {w : Nat → va_E} {x0 : Int32} {rF : Int32} (hf : fJ6_bitCount_0f7a4 x0 = some rF) :
    hj_MI l yJ6_bitCount_0f7a4 wsJ6_bitCount_0f7a4 rmJ6_bitCount_0f7a4 g n ad hj_X0 [.int x0] w rF w := by
  refine hj_ofI (cc := cJ6_bitCount_0f7a4) (maxL := 1) (ret := (some .int)) (by decide) rfl (Nat.le_of_ble_eq_true rfl) ?_
  intro p e s m args below meth c ls C hP hK hX hl
  exact wJ6_bitCount_0f7a4 C hK hf hP va_S.rf hl

/-! X4_add -/
abbrev rmX4_add : Room := { frames := 0, cells := 0, slots := 0, locals := 0 }
theorem iX4_add_X4 : ∀ w ∈ wsX40, w ∈ wsX4_add := fun _ h => List.mem_cons_of_mem _ (List.mem_append_right _ h)
theorem mX4_add_1 : Cond.fieldLink RX4 15 "HungryJury$Text" "length" "I" ∈ wsX4_add := List.mem_of_getElem? (i := 1) rfl
theorem mX4_add_2 : Cond.fieldLink RX4 9 "HungryJury$Text" "letters" "[I" ∈ wsX4_add := List.mem_of_getElem? (i := 2) rfl
def fX4_add (ρ : hj_Ob) (x1 : Int32) : Option (Int32 × hj_Ob) :=
  if (ρ.1 1) < 0 then (some (0, ρ)) else (if (ρ.1 1) < 56 then (hj_ck (ρ.1 1) 56 (hj_nm (hj_a ρ 0 (ρ.1 1) x1) fun ρ4 => hj_nm (hj_s ρ4 1 ((ρ4.1 1) + 1)) fun ρ5 => some (1, ρ5))) else (some (0, ρ)))
set_option maxHeartbeats 4000000 in
set_option maxRecDepth 100000 in
theorem wX4_add {p : Program} {l : Launch} {e : Env} {s : State} {m : MethodId} {args : Array Value} {below : List Frame} {meth : Method} {c : Code} {g : hj_G} {ad : Nat → Nat} (hI : hj_I 73 ad) (C : hj_C p s m args meth c cX4_add RX4 wsX4_add 2 (some .boolean)) (hK : hj_K g s) {σ : Nat → hj_Ob} {bf : Nat → Nat} {sd : Int64} {ρ : hj_Ob} {x1 : Int32} {rF : Int32} {ρF : hj_Ob}
    (hf : fX4_add ρ x1 = some (rF, ρF)) {H : Heap} {locs : List Loc} {ls : Array Slot} (hP : hj_P g 73 ad (hj_wx g ad (va_up σ 1 ρ) bf sd) H) (hS : hj_S 73 ad s H locs) (hl : lv_has ls 2 [(0, .ref (ad 1)), (1, .int x1)]) :
    W p l e rmX4_add s m args below meth c H locs 0 0 (MQ below (hj_QI g 73 ad (hj_wx g ad (va_up σ 1 ρF) bf sd) rF s.heap.size) args s 0 0 (hj_A 73 ad s.heap.size)) (F0 m 0 ls []) := by
  obtain ⟨hx, hb, hr, hml, hown, hts, hlocks⟩ := id C
  unfold fX4_add at hf
  refine lv_aload_n hx hb dX4_add_0 rfl (lv_at hl 0 rfl) ?_
  refine hj_get (ci := 4) (v := .int (ρ.1 1)) (C := RX4) (T := TX4) (N := 2) hx hb hts iX4_add_X4 hown hK hP (by decide) (wx_at_t (va_up_self _ _ _)) rfl 1 (by decide) mX4_add_1 rfl dX4_add_1 ?_
  refine lv_if_lt (tgt := 16) hx hb dX4_add_4 (by decide) (fun c1 => ?_) (fun c1 => ?_)
  · rw [if_pos c1] at hf
    refine lv_iconst (v := 0) hx hb dX4_add_16 (by decide) ?_
    have hq := Option.some.inj hf
    obtain ⟨rfl, rfl⟩ := Prod.mk.inj hq
    exact hj_retz (Or.inl rfl)  C hP hK hS dX4_add_17
  · rw [if_neg c1] at hf
    refine lv_aload_n hx hb dX4_add_7 rfl (lv_at hl 0 rfl) ?_
    refine hj_get (ci := 4) (v := .int (ρ.1 1)) (C := RX4) (T := TX4) (N := 2) hx hb hts iX4_add_X4 hown hK hP (by decide) (wx_at_t (va_up_self _ _ _)) rfl 1 (by decide) mX4_add_1 rfl dX4_add_8 ?_
    refine lv_bipush (v := 56) hx hb dX4_add_11 (by decide) ?_
    refine lv_icmp_lt (tgt := 18) hx hb dX4_add_13 (by decide) (fun c2 => ?_) (fun c2 => ?_)
    · rw [if_pos c2] at hf
      refine lv_aload_n hx hb dX4_add_18 rfl (lv_at hl 0 rfl) ?_
      refine hj_get (ci := 4) (v := .ref (ad 2)) (C := RX4) (T := TX4) (N := 2) hx hb hts iX4_add_X4 hown hK hP (by decide) (wx_at_t (va_up_self _ _ _)) rfl 0 (by decide) mX4_add_2 rfl dX4_add_19 ?_
      refine lv_aload_n hx hb dX4_add_22 rfl (lv_at hl 0 rfl) ?_
      refine hj_get (ci := 4) (v := .int (ρ.1 1)) (C := RX4) (T := TX4) (N := 2) hx hb hts iX4_add_X4 hown hK hP (by decide) (wx_at_t (va_up_self _ _ _)) rfl 1 (by decide) mX4_add_1 rfl dX4_add_23 ?_
      refine lv_iload_n hx hb dX4_add_26 rfl (lv_at hl 1 rfl) ?_
      obtain ⟨hk3, hf⟩ := hj_ck_s hf
      refine hj_ias (f := ρ.2 0) (v := x1) hx hb hK hI hP hS (by decide) (wx_at_ta (va_up_self _ _ _)) hk3 dX4_add_27 ((wx_a_t (x := (ρ.1 1)) (v := x1) (va_up_self _ _ _)).trans (by rw [hj_uu])) (fun H locs hP hS => ?_)
      obtain ⟨ρ4, eρ4⟩ : ∃ z : hj_Ob, z = hj_a ρ 0 (ρ.1 1) x1 := ⟨_, rfl⟩
      replace hf := hj_nm_y hf eρ4
      rw [← eρ4] at hP
      refine lv_aload_n hx hb dX4_add_28 rfl (lv_at hl 0 rfl) ?_
      refine lv_dup hx hb dX4_add_29 rfl ?_
      refine hj_get (ci := 4) (v := .int (ρ4.1 1)) (C := RX4) (T := TX4) (N := 2) hx hb hts iX4_add_X4 hown hK hP (by decide) (wx_at_t (va_up_self _ _ _)) rfl 1 (by decide) mX4_add_1 rfl dX4_add_30 ?_
      refine lv_iconst (v := 1) hx hb dX4_add_33 (by decide) ?_
      refine lv_iadd hx hb dX4_add_34 ?_
      refine hj_put (ci := 4) (v := .int ((ρ4.1 1) + 1)) (C := RX4) (T := TX4) (N := 2) hx hb hts iX4_add_X4 tyX4 tyX4_ok nmX4 hown hK hI hP hS (by decide) (wx_at_t (va_up_self _ _ _)) rfl 1 (by decide) mX4_add_1 rfl rfl rfl (Nat.le_of_ble_eq_true rfl) dX4_add_35 ((wx_s_t (va_up_self _ _ _)).trans (by rw [hj_uu])) (fun H locs hP hS => ?_)
      obtain ⟨ρ5, eρ5⟩ : ∃ z : hj_Ob, z = hj_s ρ4 1 ((ρ4.1 1) + 1) := ⟨_, rfl⟩
      replace hf := hj_nm_y hf eρ5
      rw [← eρ5] at hP
      refine lv_iconst (v := 1) hx hb dX4_add_38 (by decide) ?_
      have hq := Option.some.inj hf
      obtain ⟨rfl, rfl⟩ := Prod.mk.inj hq
      exact hj_retz (Or.inr rfl)  C hP hK hS dX4_add_39
    · rw [if_neg c2] at hf
      refine lv_iconst (v := 0) hx hb dX4_add_16 (by decide) ?_
      have hq := Option.some.inj hf
      obtain ⟨rfl, rfl⟩ := Prod.mk.inj hq
      exact hj_retz (Or.inl rfl)  C hP hK hS dX4_add_17
set_option maxHeartbeats 4000000 in
set_option maxRecDepth 100000 in
theorem ctX4_add (l : Launch) (g : hj_G) {ad : Nat → Nat} (hI : hj_I 73 ad) {σ : Nat → hj_Ob} {bf : Nat → Nat} {sd : Int64} {ρ : hj_Ob} (hρ : σ 1 = ρ) {x1 : Int32} {rF : Int32} {ρF : hj_Ob} (hf : fX4_add ρ x1 = some (rF, ρF)) :
    hj_MI l yX4_add wsX4_add rmX4_add g 73 ad hj_X0 [.ref (ad 1), .int x1] (hj_wx g ad σ bf sd) rF (hj_wx g ad (va_up σ 1 ρF) bf sd) := by
  refine hj_ofI (cc := cX4_add) (maxL := 2) (ret := (some .boolean)) (by decide) rfl (Nat.le_of_ble_eq_true rfl) ?_
  intro p e s m args below meth c ls C hP hK hX hl
  have hP : hj_P g 73 ad (hj_wx g ad (va_up σ 1 ρ) bf sd) s.heap := by rw [hj_ue σ _ hρ]; exact hP
  exact wX4_add hI C hK hf hP va_S.rf hl
