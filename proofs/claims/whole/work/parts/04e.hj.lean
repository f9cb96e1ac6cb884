/-! X5_again -/
abbrev rmX5_again : Room := { frames := 1, cells := 0, slots := 0, locals := 22 }
theorem iX5_again_X5 : ∀ w ∈ wsX50, w ∈ wsX5_again := fun _ h => List.mem_cons_of_mem _ (List.mem_append_left _ (List.mem_append_left _ (List.mem_append_right _ h)))
theorem mX5_again_1 : Cond.fieldLink RX5 49 "HungryJury" "isKept" "[Z" ∈ wsX5_again := List.mem_of_getElem? (i := 1) rfl
theorem mX5_again_2 : Cond.fieldLink RX5 31 "HungryJury" "now" "LHungryJury$Room;" ∈ wsX5_again := List.mem_of_getElem? (i := 2) rfl
theorem mX5_again_3 : Cond.fieldLink RX5 45 "HungryJury" "slots" "[LHungryJury$Room;" ∈ wsX5_again := List.mem_of_getElem? (i := 3) rfl
theorem mX5_again_4 : Cond.fieldLink RX5 41 "HungryJury" "acts" "LHungryJury$Acts;" ∈ wsX5_again := List.mem_of_getElem? (i := 4) rfl
theorem iX5_again_X2 : ∀ w ∈ wsX20, w ∈ wsX5_again := fun _ h => List.mem_cons_of_mem _ (List.mem_append_left _ (List.mem_append_right _ h))
theorem mX5_again_5 : Cond.fieldLink RX5 206 "HungryJury$Room" "theHour" "I" ∈ wsX5_again := List.mem_of_getElem? (i := 5) rfl
def fX5_again (σ : Nat → hj_Ob) (bf : Nat → Nat) (sd : Int64) (x1 : Int32) : Option (Int32 × (Nat → hj_Ob)) :=
  if x1 < 0 then (some ((-1), σ)) else (if x1 < 2 then (hj_ck x1 2 (if ((σ 0).2 7 x1.toNatClampNeg) = 0 then (some ((-3), σ)) else (hj_ck x1 2 (hj_nm (67 + 3 * x1.toNatClampNeg) fun b6 => hj_o1 (fX2_copyFrom (σ 3) (σ b6) (σ 11)) fun ρ7 => hj_nm (va_up σ 11 ρ7) fun σ8 => hj_o1 (fX0_forgetAll σ8 bf) fun σ9 => some ((σ9 11).1 5, σ9))))) else (some ((-1), σ)))
set_option maxHeartbeats 4000000 in
set_option maxRecDepth 100000 in
theorem wX5_again {p : Program} {l : Launch} {e : Env} {s : State} {m : MethodId} {args : Array Value} {below : List Frame} {meth : Method} {c : Code} {g : hj_G} {ad : Nat → Nat} (hI : hj_I 73 ad) (C : hj_C p s m args meth c cX5_again RX5 wsX5_again 2 (some .int)) (hK : hj_K g s) {σ : Nat → hj_Ob} {bf : Nat → Nat} {sd : Int64} {x1 : Int32} {rF : Int32} {σF : Nat → hj_Ob}
    (hf : fX5_again σ bf sd x1 = some (rF, σF)) {H : Heap} {locs : List Loc} {ls : Array Slot} (hP : hj_P g 73 ad (hj_wx g ad σ bf sd) H) (hS : hj_S 73 ad s H locs) (hl : lv_has ls 2 [(0, .ref (ad 0)), (1, .int x1)]) :
    W p l e rmX5_again s m args below meth c H locs 0 0 (MQ below (hj_QI g 73 ad (hj_wx g ad σF bf sd) rF s.heap.size) args s 0 0 (hj_A 73 ad s.heap.size)) (F0 m 0 ls []) := by
  obtain ⟨hx, hb, hr, hml, hown, hts, hlocks⟩ := id C
  unfold fX5_again at hf
  refine lv_iload_n hx hb dX5_again_0 rfl (lv_at hl 1 rfl) ?_
  refine lv_if_lt (tgt := 9) hx hb dX5_again_1 (by decide) (fun c1 => ?_) (fun c1 => ?_)
  · rw [if_pos c1] at hf
    refine lv_iconst (v := (-1)) hx hb dX5_again_9 (by decide) ?_
    have hq := Option.some.inj hf
    obtain ⟨rfl, rfl⟩ := Prod.mk.inj hq
    exact hj_reti C hP hK hS dX5_again_10
  · rw [if_neg c1] at hf
    refine lv_iload_n hx hb dX5_again_4 rfl (lv_at hl 1 rfl) ?_
    refine lv_iconst (v := 2) hx hb dX5_again_5 (by decide) ?_
    refine lv_icmp_lt (tgt := 11) hx hb dX5_again_6 (by decide) (fun c2 => ?_) (fun c2 => ?_)
    · rw [if_pos c2] at hf
      refine lv_aload_n hx hb dX5_again_11 rfl (lv_at hl 0 rfl) ?_
      refine hj_get (ci := 5) (v := .ref (ad 62)) (C := RX5) (T := TX5) (N := 10) hx hb hts iX5_again_X5 hown hK hP (by decide) wx_at_h rfl 7 (by decide) mX5_again_1 rfl dX5_again_12 ?_
      refine lv_iload_n hx hb dX5_again_15 rfl (lv_at hl 1 rfl) ?_
      obtain ⟨hk3, hf⟩ := hj_ck_s hf
      refine hj_zal (f := (σ 0).2 7) hx hb hK hP (by decide) (wx_at_k rfl) hk3 dX5_again_16 ?_
      refine lv_if_ne (tgt := 23) hx hb dX5_again_17 (by decide) (fun c4 => ?_) (fun c4 => ?_)
      · rw [if_neg c4] at hf
        refine lv_aload_n hx hb dX5_again_23 rfl (lv_at hl 0 rfl) ?_
        refine hj_get (ci := 5) (v := .ref (ad 11)) (C := RX5) (T := TX5) (N := 10) hx hb hts iX5_again_X5 hown hK hP (by decide) wx_at_h rfl 3 (by decide) mX5_again_2 rfl dX5_again_24 ?_
        refine lv_aload_n hx hb dX5_again_27 rfl (lv_at hl 0 rfl) ?_
        refine hj_get (ci := 5) (v := .ref (ad 61)) (C := RX5) (T := TX5) (N := 10) hx hb hts iX5_again_X5 hown hK hP (by decide) wx_at_h rfl 6 (by decide) mX5_again_3 rfl dX5_again_28 ?_
        refine lv_iload_n hx hb dX5_again_31 rfl (lv_at hl 1 rfl) ?_
        obtain ⟨hk5, hf⟩ := hj_ck_s hf
        obtain ⟨b6, eb6⟩ : ∃ z : Nat, z = 67 + 3 * x1.toNatClampNeg := ⟨_, rfl⟩
        replace hf := hj_nm_y hf eb6
        have hb6 : wx_R b6 := by rw [eb6]; exact wx_R_sl (hj_in_lt hk5)
        have ob6 : b6 ≠ 11 := by omega
        refine hj_ral (b := ad b6) hx hb hK hP (by decide) wx_at_sl hk5 (by rw [eb6]) dX5_again_32 ?_
        obtain ⟨ρ7, hc, hf⟩ := hj_o1_s hf
        refine hj_callVv (nL := 2) (As := [.ref (ad b6)]) (rest := []) (i0 := 11) (C := RX2) (T := TX2) (N := 6) (ci := 2) ⟨hx, hb, hml, hown, hts⟩ (ctX2_copyFrom l g hI (σ := σ) (bf := bf) (sd := sd) wx_R_11 rfl hb6 ob6 rfl rfl hc) (cwV 1 hts gX5_again_X2_copyFrom rfl rfl rfl (by decide +kernel) ⟨Nat.le_of_ble_eq_true rfl, Nat.le_of_ble_eq_true rfl⟩) hj_Xb0 (fun _ _ _ => trivial) hK hP hS (by decide) (wx_at_r wx_R_11 rfl) rfl rfl hl.1 rfl (Nat.le_of_ble_eq_true rfl) dX5_again_33 (fun H locs hP hS => ?_)
        obtain ⟨σ8, eσ8⟩ : ∃ z : Nat → hj_Ob, z = va_up σ 11 ρ7 := ⟨_, rfl⟩
        replace hf := hj_nm_y hf eσ8
        rw [← eσ8] at hP
        refine lv_aload_n hx hb dX5_again_36 rfl (lv_at hl 0 rfl) ?_
        refine hj_get (ci := 5) (v := .ref (ad 17)) (C := RX5) (T := TX5) (N := 10) hx hb hts iX5_again_X5 hown hK hP (by decide) wx_at_h rfl 5 (by decide) mX5_again_4 rfl dX5_again_37 ?_
        obtain ⟨σ9, hc, hf⟩ := hj_o1_s hf
        refine hj_callVv (nL := 2) (As := []) (rest := []) (i0 := 17) (C := RX0) (T := TX0) (N := 2) (ci := 0) ⟨hx, hb, hml, hown, hts⟩ (ctX0_forgetAll l g hI (sd := sd) hc) (cwV 0 hts gX5_again_X0_forgetAll rfl rfl rfl (by decide +kernel) ⟨Nat.le_of_ble_eq_true rfl, Nat.le_of_ble_eq_true rfl⟩) hj_Xb0 (fun _ _ _ => trivial) hK hP hS (by decide) (wx_at_a rfl) rfl rfl hl.1 rfl (Nat.le_of_ble_eq_true rfl) dX5_again_40 (fun H locs hP hS => ?_)
        refine lv_aload_n hx hb dX5_again_43 rfl (lv_at hl 0 rfl) ?_
        refine hj_get (ci := 5) (v := .ref (ad 11)) (C := RX5) (T := TX5) (N := 10) hx hb hts iX5_again_X5 hown hK hP (by decide) wx_at_h rfl 3 (by decide) mX5_again_2 rfl dX5_again_44 ?_
        refine hj_get (ci := 2) (v := .int ((σ9 11).1 5)) (C := RX2) (T := TX2) (N := 6) hx hb hts iX5_again_X2 hown hK hP (by decide) (wx_at_r wx_R_11 rfl) rfl 5 (by decide) mX5_again_5 rfl dX5_again_47 ?_
        have hq := Option.some.inj hf
        obtain ⟨rfl, rfl⟩ := Prod.mk.inj hq
        exact hj_reti C hP hK hS dX5_again_50
      · rw [if_pos c4] at hf
        refine lv_bipush (v := (-3)) hx hb dX5_again_20 (by decide) ?_
        have hq := Option.some.inj hf
        obtain ⟨rfl, rfl⟩ := Prod.mk.inj hq
        exact hj_reti C hP hK hS dX5_again_22
    · rw [if_neg c2] at hf
      refine lv_iconst (v := (-1)) hx hb dX5_again_9 (by decide) ?_
      have hq := Option.some.inj hf
      obtain ⟨rfl, rfl⟩ := Prod.mk.inj hq
      exact hj_reti C hP hK hS dX5_again_10
set_option maxHeartbeats 4000000 in
set_option maxRecDepth 100000 in
theorem ctX5_again (l : Launch) (g : hj_G) {ad : Nat → Nat} (hI : hj_I 73 ad) {σ : Nat → hj_Ob} {bf : Nat → Nat} {sd : Int64} {x1 : Int32} {rF : Int32} {σF : Nat → hj_Ob} (hf : fX5_again σ bf sd x1 = some (rF, σF)) :
    hj_MI l yX5_again wsX5_again rmX5_again g 73 ad hj_X0 [.ref (ad 0), .int x1] (hj_wx g ad σ bf sd) rF (hj_wx g ad σF bf sd) := by
  refine hj_ofI (cc := cX5_again) (maxL := 2) (ret := (some .int)) (by decide) rfl (Nat.le_of_ble_eq_true rfl) ?_
  intro p e s m args below meth c ls C hP hK hX hl
  exact wX5_again hI C hK hf hP va_S.rf hl

/-! X5_count -/
abbrev rmX5_count : Room := { frames := 2, cells := 0, slots := 0, locals := 44 }
theorem iX5_count_X5 : ∀ w ∈ wsX50, w ∈ wsX5_count := fun _ h => List.mem_cons_of_mem _ (List.mem_append_left _ (List.mem_append_left _ (List.mem_append_left _ (List.mem_append_left _ (List.mem_append_left _ (List.mem_append_right _ h))))))
theorem mX5_count_1 : Cond.fieldLink RX5 12 "HungryJury" "text" "LHungryJury$Text;" ∈ wsX5_count := List.mem_of_getElem? (i := 1) rfl
theorem iX5_count_X4 : ∀ w ∈ wsX40, w ∈ wsX5_count := fun _ h => List.mem_cons_of_mem _ (List.mem_append_left _ (List.mem_append_left _ (List.mem_append_left _ (List.mem_append_left _ (List.mem_append_right _ h)))))
theorem mX5_count_2 : Cond.fieldLink RX5 64 "HungryJury$Text" "length" "I" ∈ wsX5_count := List.mem_of_getElem? (i := 2) rfl
theorem mX5_count_3 : Cond.fieldLink RX5 19 "HungryJury" "panel" "LHungryJury$Panel;" ∈ wsX5_count := List.mem_of_getElem? (i := 3) rfl
theorem iX5_count_X1 : ∀ w ∈ wsX10, w ∈ wsX5_count := fun _ h => List.mem_cons_of_mem _ (List.mem_append_left _ (List.mem_append_left _ (List.mem_append_left _ (List.mem_append_right _ h))))
theorem mX5_count_4 : Cond.fieldLink RX5 78 "HungryJury$Panel" "jurors" "I" ∈ wsX5_count := List.mem_of_getElem? (i := 4) rfl
theorem mX5_count_5 : Cond.fieldLink RX5 209 "HungryJury$Panel" "need" "I" ∈ wsX5_count := List.mem_of_getElem? (i := 5) rfl
theorem mX5_count_6 : Cond.fieldLink RX5 31 "HungryJury" "now" "LHungryJury$Room;" ∈ wsX5_count := List.mem_of_getElem? (i := 6) rfl
theorem iX5_count_X2 : ∀ w ∈ wsX20, w ∈ wsX5_count := fun _ h => List.mem_cons_of_mem _ (List.mem_append_left _ (List.mem_append_left _ (List.mem_append_right _ h)))
theorem mX5_count_7 : Cond.fieldLink RX5 206 "HungryJury$Room" "theHour" "I" ∈ wsX5_count := List.mem_of_getElem? (i := 7) rfl
theorem mX5_count_8 : Cond.fieldLink RX5 121 "HungryJury$Room" "there" "I" ∈ wsX5_count := List.mem_of_getElem? (i := 8) rfl
theorem mX5_count_9 : Cond.fieldLink RX5 41 "HungryJury" "acts" "LHungryJury$Acts;" ∈ wsX5_count := List.mem_of_getElem? (i := 9) rfl
theorem iX5_count_X0 : ∀ w ∈ wsX00, w ∈ wsX5_count := fun _ h => List.mem_cons_of_mem _ (List.mem_append_left _ (List.mem_append_right _ h))
theorem mX5_count_10 : Cond.fieldLink RX5 128 "HungryJury$Acts" "size" "I" ∈ wsX5_count := List.mem_of_getElem? (i := 10) rfl
theorem mX5_count_11 : Cond.fieldLink RX5 56 "HungryJury" "sights" "LHungryJury$Sights;" ∈ wsX5_count := List.mem_of_getElem? (i := 11) rfl
theorem iX5_count_X3 : ∀ w ∈ wsX30, w ∈ wsX5_count := fun _ h => List.mem_cons_of_mem _ (List.mem_append_right _ h)
theorem mX5_count_12 : Cond.fieldLink RX5 169 "HungryJury$Sights" "size" "I" ∈ wsX5_count := List.mem_of_getElem? (i := 12) rfl
def fX5_count (σ : Nat → hj_Ob) (bf : Nat → Nat) (sd : Int64) (x1 : Int32) : Option Int32 :=
  if x1 = 0 then (some ((σ 1).1 1)) else (if x1 = 1 then (some ((σ 3).1 3)) else (if x1 = 2 then (some ((σ 3).1 4)) else (if x1 = 3 then (some ((σ 11).1 5)) else (if x1 = 4 then (some ((σ 11).1 4)) else (if x1 = 5 then (hj_o1 (fX2_yesThere (σ 3) (σ 11)) fun r7 => some r7) else (if x1 = 6 then (hj_o1 (fX2_verdict (σ 3) (σ 11)) fun r9 => some r9) else (if x1 = 7 then (some ((σ 17).1 1)) else (if x1 = 8 then (some ((σ 63).1 3)) else (some (-2))))))))))
set_option maxHeartbeats 4000000 in
set_option maxRecDepth 100000 in
theorem wX5_count {p : Program} {l : Launch} {e : Env} {s : State} {m : MethodId} {args : Array Value} {below : List Frame} {meth : Method} {c : Code} {g : hj_G} {ad : Nat → Nat} (hI : hj_I 73 ad) (C : hj_C p s m args meth c cX5_count RX5 wsX5_count 2 (some .int)) (hK : hj_K g s) {σ : Nat → hj_Ob} {bf : Nat → Nat} {sd : Int64} {x1 : Int32} {rF : Int32}
    (hf : fX5_count σ bf sd x1 = some rF) {H : Heap} {locs : List Loc} {ls : Array Slot} (hP : hj_P g 73 ad (hj_wx g ad σ bf sd) H) (hS : hj_S 73 ad s H locs) (hl : lv_has ls 2 [(0, .ref (ad 0)), (1, .int x1)]) :
    W p l e rmX5_count s m args below meth c H locs 0 0 (MQ below (hj_QI g 73 ad (hj_wx g ad σ bf sd) rF s.heap.size) args s 0 0 (hj_A 73 ad s.heap.size)) (F0 m 0 ls []) := by
  obtain ⟨hx, hb, hr, hml, hown, hts, hlocks⟩ := id C
  unfold fX5_count at hf
  refine lv_iload_n hx hb dX5_count_0 rfl (lv_at hl 1 rfl) ?_
  by_cases c1 : x1 = 0
  · rw [if_pos c1] at hf
    refine lv_tableIn (tgt := 52) hx hb dX5_count_1 (by rw [c1]; decide) (by rw [c1]; decide) (by rw [c1]; rfl) (by decide) ?_
    refine lv_aload_n hx hb dX5_count_52 rfl (lv_at hl 0 rfl) ?_
    refine hj_get (ci := 5) (v := .ref (ad 1)) (C := RX5) (T := TX5) (N := 10) hx hb hts iX5_count_X5 hown hK hP (by decide) wx_at_h rfl 0 (by decide) mX5_count_1 rfl dX5_count_53 ?_
    refine hj_get (ci := 4) (v := .int ((σ 1).1 1)) (C := RX4) (T := TX4) (N := 2) hx hb hts iX5_count_X4 hown hK hP (by decide) (wx_at_t rfl) rfl 1 (by decide) mX5_count_2 rfl dX5_count_56 ?_
    have hq := Option.some.inj hf
    obtain rfl := hq
    exact hj_reti C hP hK hS dX5_count_59
  rw [if_neg c1] at hf
  by_cases c2 : x1 = 1
  · rw [if_pos c2] at hf
    refine lv_tableIn (tgt := 60) hx hb dX5_count_1 (by rw [c2]; decide) (by rw [c2]; decide) (by rw [c2]; rfl) (by decide) ?_
    refine lv_aload_n hx hb dX5_count_60 rfl (lv_at hl 0 rfl) ?_
    refine hj_get (ci := 5) (v := .ref (ad 3)) (C := RX5) (T := TX5) (N := 10) hx hb hts iX5_count_X5 hown hK hP (by decide) wx_at_h rfl 1 (by decide) mX5_count_3 rfl dX5_count_61 ?_
    refine hj_get (ci := 1) (v := .int ((σ 3).1 3)) (C := RX1) (T := TX1) (N := 6) hx hb hts iX5_count_X1 hown hK hP (by decide) (wx_at_b (Or.inl rfl) rfl) rfl 3 (by decide) mX5_count_4 rfl dX5_count_64 ?_
    have hq := Option.some.inj hf
    obtain rfl := hq
    exact hj_reti C hP hK hS dX5_count_67
  rw [if_neg c2] at hf
  by_cases c3 : x1 = 2
  · rw [if_pos c3] at hf
    refine lv_tableIn (tgt := 68) hx hb dX5_count_1 (by rw [c3]; decide) (by rw [c3]; decide) (by rw [c3]; rfl) (by decide) ?_
    refine lv_aload_n hx hb dX5_count_68 rfl (lv_at hl 0 rfl) ?_
    refine hj_get (ci := 5) (v := .ref (ad 3)) (C := RX5) (T := TX5) (N := 10) hx hb hts iX5_count_X5 hown hK hP (by decide) wx_at_h rfl 1 (by decide) mX5_count_3 rfl dX5_count_69 ?_
    refine hj_get (ci := 1) (v := .int ((σ 3).1 4)) (C := RX1) (T := TX1) (N := 6) hx hb hts iX5_count_X1 hown hK hP (by decide) (wx_at_b (Or.inl rfl) rfl) rfl 4 (by decide) mX5_count_5 rfl dX5_count_72 ?_
    have hq := Option.some.inj hf
    obtain rfl := hq
    exact hj_reti C hP hK hS dX5_count_75
  rw [if_neg c3] at hf
  by_cases c4 : x1 = 3
  · rw [if_pos c4] at hf
    refine lv_tableIn (tgt := 76) hx hb dX5_count_1 (by rw [c4]; decide) (by rw [c4]; decide) (by rw [c4]; rfl) (by decide) ?_
    refine lv_aload_n hx hb dX5_count_76 rfl (lv_at hl 0 rfl) ?_
    refine hj_get (ci := 5) (v := .ref (ad 11)) (C := RX5) (T := TX5) (N := 10) hx hb hts iX5_count_X5 hown hK hP (by decide) wx_at_h rfl 3 (by decide) mX5_count_6 rfl dX5_count_77 ?_
    refine hj_get (ci := 2) (v := .int ((σ 11).1 5)) (C := RX2) (T := TX2) (N := 6) hx hb hts iX5_count_X2 hown hK hP (by decide) (wx_at_r wx_R_11 rfl) rfl 5 (by decide) mX5_count_7 rfl dX5_count_80 ?_
    have hq := Option.some.inj hf
    obtain rfl := hq
    exact hj_reti C hP hK hS dX5_count_83
  rw [if_neg c4] at hf
  by_cases c5 : x1 = 4
  · rw [if_pos c5] at hf
    refine lv_tableIn (tgt := 84) hx hb dX5_count_1 (by rw [c5]; decide) (by rw [c5]; decide) (by rw [c5]; rfl) (by decide) ?_
    refine lv_aload_n hx hb dX5_count_84 rfl (lv_at hl 0 rfl) ?_
    refine hj_get (ci := 5) (v := .ref (ad 11)) (C := RX5) (T := TX5) (N := 10) hx hb hts iX5_count_X5 hown hK hP (by decide) wx_at_h rfl 3 (by decide) mX5_count_6 rfl dX5_count_85 ?_
    refine hj_get (ci := 2) (v := .int ((σ 11).1 4)) (C := RX2) (T := TX2) (N := 6) hx hb hts iX5_count_X2 hown hK hP (by decide) (wx_at_r wx_R_11 rfl) rfl 4 (by decide) mX5_count_8 rfl dX5_count_88 ?_
    have hq := Option.some.inj hf
    obtain rfl := hq
    exact hj_reti C hP hK hS dX5_count_91
  rw [if_neg c5] at hf
  by_cases c6 : x1 = 5
  · rw [if_pos c6] at hf
    refine lv_tableIn (tgt := 92) hx hb dX5_count_1 (by rw [c6]; decide) (by rw [c6]; decide) (by rw [c6]; rfl) (by decide) ?_
    refine lv_aload_n hx hb dX5_count_92 rfl (lv_at hl 0 rfl) ?_
    refine hj_get (ci := 5) (v := .ref (ad 11)) (C := RX5) (T := TX5) (N := 10) hx hb hts iX5_count_X5 hown hK hP (by decide) wx_at_h rfl 3 (by decide) mX5_count_6 rfl dX5_count_93 ?_
    obtain ⟨r7, hc, hf⟩ := hj_o1_s hf
    refine hj_callVi (nL := 2) (As := []) (rest := []) (i0 := 11) (C := RX2) (T := TX2) (N := 6) (ci := 2) ⟨hx, hb, hml, hown, hts⟩ (ctX2_yesThere l g hI (σ := σ) (bf := bf) (sd := sd) wx_R_11 rfl rfl hc) (cwV 0 hts gX5_count_X2_yesThere rfl rfl rfl (by decide +kernel) ⟨Nat.le_of_ble_eq_true rfl, Nat.le_of_ble_eq_true rfl⟩) hj_Xb0 (fun _ _ _ => trivial) hK hP hS (by decide) (wx_at_r wx_R_11 rfl) rfl rfl hl.1 rfl (Nat.le_of_ble_eq_true rfl) dX5_count_96 (fun H locs hP hS => ?_)
    have hq := Option.some.inj hf
    obtain rfl := hq
    exact hj_reti C hP hK hS dX5_count_99
  rw [if_neg c6] at hf
  by_cases c8 : x1 = 6
  · rw [if_pos c8] at hf
    refine lv_tableIn (tgt := 100) hx hb dX5_count_1 (by rw [c8]; decide) (by rw [c8]; decide) (by rw [c8]; rfl) (by decide) ?_
    refine lv_aload_n hx hb dX5_count_100 rfl (lv_at hl 0 rfl) ?_
    refine hj_get (ci := 5) (v := .ref (ad 11)) (C := RX5) (T := TX5) (N := 10) hx hb hts iX5_count_X5 hown hK hP (by decide) wx_at_h rfl 3 (by decide) mX5_count_6 rfl dX5_count_101 ?_
    obtain ⟨r9, hc, hf⟩ := hj_o1_s hf
    refine hj_callVi (nL := 2) (As := []) (rest := []) (i0 := 11) (C := RX2) (T := TX2) (N := 6) (ci := 2) ⟨hx, hb, hml, hown, hts⟩ (ctX2_verdict l g hI (σ := σ) (bf := bf) (sd := sd) wx_R_11 rfl rfl hc) (cwV 0 hts gX5_count_X2_verdict rfl rfl rfl (by decide +kernel) ⟨Nat.le_of_ble_eq_true rfl, Nat.le_of_ble_eq_true rfl⟩) hj_Xb0 (fun _ _ _ => trivial) hK hP hS (by decide) (wx_at_r wx_R_11 rfl) rfl rfl hl.1 rfl (Nat.le_of_ble_eq_true rfl) dX5_count_104 (fun H locs hP hS => ?_)
    have hq := Option.some.inj hf
    obtain rfl := hq
    exact hj_reti C hP hK hS dX5_count_107
  rw [if_neg c8] at hf
  by_cases c10 : x1 = 7
  · rw [if_pos c10] at hf
    refine lv_tableIn (tgt := 108) hx hb dX5_count_1 (by rw [c10]; decide) (by rw [c10]; decide) (by rw [c10]; rfl) (by decide) ?_
    refine lv_aload_n hx hb dX5_count_108 rfl (lv_at hl 0 rfl) ?_
    refine hj_get (ci := 5) (v := .ref (ad 17)) (C := RX5) (T := TX5) (N := 10) hx hb hts iX5_count_X5 hown hK hP (by decide) wx_at_h rfl 5 (by decide) mX5_count_9 rfl dX5_count_109 ?_
    refine hj_get (ci := 0) (v := .int ((σ 17).1 1)) (C := RX0) (T := TX0) (N := 2) hx hb hts iX5_count_X0 hown hK hP (by decide) (wx_at_a rfl) rfl 1 (by decide) mX5_count_10 rfl dX5_count_112 ?_
    have hq := Option.some.inj hf
    obtain rfl := hq
    exact hj_reti C hP hK hS dX5_count_115
  rw [if_neg c10] at hf
  by_cases c11 : x1 = 8
  · rw [if_pos c11] at hf
    refine lv_tableIn (tgt := 116) hx hb dX5_count_1 (by rw [c11]; decide) (by rw [c11]; decide) (by rw [c11]; rfl) (by decide) ?_
    refine lv_aload_n hx hb dX5_count_116 rfl (lv_at hl 0 rfl) ?_
    refine hj_get (ci := 5) (v := .ref (ad 63)) (C := RX5) (T := TX5) (N := 10) hx hb hts iX5_count_X5 hown hK hP (by decide) wx_at_h rfl 8 (by decide) mX5_count_11 rfl dX5_count_117 ?_
    refine hj_get (ci := 3) (v := .int ((σ 63).1 3)) (C := RX3) (T := TX3) (N := 4) hx hb hts iX5_count_X3 hown hK hP (by decide) (wx_at_s rfl) rfl 3 (by decide) mX5_count_12 rfl dX5_count_120 ?_
    have hq := Option.some.inj hf
    obtain rfl := hq
    exact hj_reti C hP hK hS dX5_count_123
  rw [if_neg c11] at hf
  refine lv_tableOut (tgt := 124) hx hb dX5_count_1 (by have qc1 := lv_neT c1 (k := 0) (a := 0) (by decide); have qc2 := lv_neT c2 (k := 1) (a := 1) (by decide); have qc3 := lv_neT c3 (k := 2) (a := 2) (by decide); have qc4 := lv_neT c4 (k := 3) (a := 3) (by decide); have qc5 := lv_neT c5 (k := 4) (a := 4) (by decide); have qc6 := lv_neT c6 (k := 5) (a := 5) (by decide); have qc8 := lv_neT c8 (k := 6) (a := 6) (by decide); have qc10 := lv_neT c10 (k := 7) (a := 7) (by decide); have qc11 := lv_neT c11 (k := 8) (a := 8) (by decide); omega) (by decide) ?_
  refine lv_bipush (v := (-2)) hx hb dX5_count_124 (by decide) ?_
  have hq := Option.some.inj hf
  obtain rfl := hq
  exact hj_reti C hP hK hS dX5_count_126
set_option maxHeartbeats 4000000 in
set_option maxRecDepth 100000 in
theorem ctX5_count (l : Launch) (g : hj_G) {ad : Nat → Nat} (hI : hj_I 73 ad) {σ : Nat → hj_Ob} {bf : Nat → Nat} {sd : Int64} {x1 : Int32} {rF : Int32} (hf : fX5_count σ bf sd x1 = some rF) :
    hj_MI l yX5_count wsX5_count rmX5_count g 73 ad hj_X0 [.ref (ad 0), .int x1] (hj_wx g ad σ bf sd) rF (hj_wx g ad σ bf sd) := by
  refine hj_ofI (cc := cX5_count) (maxL := 2) (ret := (some .int)) (by decide) rfl (Nat.le_of_ble_eq_true rfl) ?_
  intro p e s m args below meth c ls C hP hK hX hl
  exact wX5_count hI C hK hf hP va_S.rf hl
