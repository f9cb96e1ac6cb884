/-! X5_write -/
abbrev rmX5_write : Room := { frames := 1, cells := 0, slots := 0, locals := 21 }
theorem iX5_write_X5 : ∀ w ∈ wsX50, w ∈ wsX5_write := fun _ h => List.mem_cons_of_mem _ (List.mem_append_left _ (List.mem_append_right _ h))
theorem mX5_write_1 : Cond.fieldLink RX5 12 "HungryJury" "text" "LHungryJury$Text;" ∈ wsX5_write := List.mem_of_getElem? (i := 1) rfl
theorem iX5_write_X4 : ∀ w ∈ wsX40, w ∈ wsX5_write := fun _ h => List.mem_cons_of_mem _ (List.mem_append_right _ h)
theorem mX5_write_2 : Cond.fieldLink RX5 64 "HungryJury$Text" "length" "I" ∈ wsX5_write := List.mem_of_getElem? (i := 2) rfl
def fX5_write (σ : Nat → hj_Ob) (bf : Nat → Nat) (sd : Int64) (x1 : Int32) : Option (Int32 × (Nat → hj_Ob)) :=
  if x1 < 0 then (some ((-2), σ)) else (if x1 ≤ 255 then (hj_o2 (fX4_add (σ 1) x1) fun r3 ρ4 => hj_nm (va_up σ 1 ρ4) fun σ5 => if r3 = 0 then (some ((-4), σ5)) else (some ((σ5 1).1 1, σ5))) else (some ((-2), σ)))
set_option maxHeartbeats 4000000 in
set_option maxRecDepth 100000 in
theorem wX5_write {p : Program} {l : Launch} {e : Env} {s : State} {m : MethodId} {args : Array Value} {below : List Frame} {meth : Method} {c : Code} {g : hj_G} {ad : Nat → Nat} (hI : hj_I 73 ad) (C : hj_C p s m args meth c cX5_write RX5 wsX5_write 2 (some .int)) (hK : hj_K g s) {σ : Nat → hj_Ob} {bf : Nat → Nat} {sd : Int64} {x1 : Int32} {rF : Int32} {σF : Nat → hj_Ob}
    (hf : fX5_write σ bf sd x1 = some (rF, σF)) {H : Heap} {locs : List Loc} {ls : Array Slot} (hP : hj_P g 73 ad (hj_wx g ad σ bf sd) H) (hS : hj_S 73 ad s H locs) (hl : lv_has ls 2 [(0, .ref (ad 0)), (1, .int x1)]) :
    W p l e rmX5_write s m args below meth c H locs 0 0 (MQ below (hj_QI g 73 ad (hj_wx g ad σF bf sd) rF s.heap.size) args s 0 0 (hj_A 73 ad s.heap.size)) (F0 m 0 ls []) := by
  obtain ⟨hx, hb, hr, hml, hown, hts, hlocks⟩ := id C
  unfold fX5_write at hf
  refine lv_iload_n hx hb dX5_write_0 rfl (lv_at hl 1 rfl) ?_
  refine lv_if_lt (tgt := 11) hx hb dX5_write_1 (by decide) (fun c1 => ?_) (fun c1 => ?_)
  · rw [if_pos c1] at hf
    refine lv_bipush (v := (-2)) hx hb dX5_write_11 (by decide) ?_
    have hq := Option.some.inj hf
    obtain ⟨rfl, rfl⟩ := Prod.mk.inj hq
    exact hj_reti C hP hK hS dX5_write_13
  · rw [if_neg c1] at hf
    refine lv_iload_n hx hb dX5_write_4 rfl (lv_at hl 1 rfl) ?_
    refine lv_sipush (v := 255) hx hb dX5_write_5 (by decide) ?_
    refine lv_icmp_le (tgt := 14) hx hb dX5_write_8 (by decide) (fun c2 => ?_) (fun c2 => ?_)
    · rw [if_pos c2] at hf
      refine lv_aload_n hx hb dX5_write_14 rfl (lv_at hl 0 rfl) ?_
      refine hj_get (ci := 5) (v := .ref (ad 1)) (C := RX5) (T := TX5) (N := 10) hx hb hts iX5_write_X5 hown hK hP (by decide) wx_at_h rfl 0 (by decide) mX5_write_1 rfl dX5_write_15 ?_
      refine lv_iload_n hx hb dX5_write_18 rfl (lv_at hl 1 rfl) ?_
      obtain ⟨r3, ρ4, hc, hf⟩ := hj_o2_s hf
      refine hj_callVi (nL := 2) (As := [.int x1]) (rest := []) (i0 := 1) (C := RX4) (T := TX4) (N := 2) (ci := 4) ⟨hx, hb, hml, hown, hts⟩ (ctX4_add l g hI (σ := σ) (bf := bf) (sd := sd) rfl hc) (cwV 1 hts gX5_write_X4_add rfl rfl rfl (by decide +kernel) ⟨Nat.le_of_ble_eq_true rfl, Nat.le_of_ble_eq_true rfl⟩) hj_Xb0 (fun _ _ _ => trivial) hK hP hS (by decide) (wx_at_t rfl) rfl rfl hl.1 rfl (Nat.le_of_ble_eq_true rfl) dX5_write_19 (fun H locs hP hS => ?_)
      obtain ⟨σ5, eσ5⟩ : ∃ z : Nat → hj_Ob, z = va_up σ 1 ρ4 := ⟨_, rfl⟩
      replace hf := hj_nm_y hf eσ5
      rw [← eσ5] at hP
      refine lv_if_eq (tgt := 35) hx hb dX5_write_22 (by decide) (fun c6 => ?_) (fun c6 => ?_)
      · rw [if_pos c6] at hf
        refine lv_bipush (v := (-4)) hx hb dX5_write_35 (by decide) ?_
        have hq := Option.some.inj hf
        obtain ⟨rfl, rfl⟩ := Prod.mk.inj hq
        exact hj_reti C hP hK hS dX5_write_37
      · rw [if_neg c6] at hf
        refine lv_aload_n hx hb dX5_write_25 rfl (lv_at hl 0 rfl) ?_
        refine hj_get (ci := 5) (v := .ref (ad 1)) (C := RX5) (T := TX5) (N := 10) hx hb hts iX5_write_X5 hown hK hP (by decide) wx_at_h rfl 0 (by decide) mX5_write_1 rfl dX5_write_26 ?_
        refine hj_get (ci := 4) (v := .int ((σ5 1).1 1)) (C := RX4) (T := TX4) (N := 2) hx hb hts iX5_write_X4 hown hK hP (by decide) (wx_at_t rfl) rfl 1 (by decide) mX5_write_2 rfl dX5_write_29 ?_
        refine lv_goto (tgt := 37) hx hb dX5_write_32 (by decide) ?_
        have hq := Option.some.inj hf
        obtain ⟨rfl, rfl⟩ := Prod.mk.inj hq
        exact hj_reti C hP hK hS dX5_write_37
    · rw [if_neg c2] at hf
      refine lv_bipush (v := (-2)) hx hb dX5_write_11 (by decide) ?_
      have hq := Option.some.inj hf
      obtain ⟨rfl, rfl⟩ := Prod.mk.inj hq
      exact hj_reti C hP hK hS dX5_write_13
set_option maxHeartbeats 4000000 in
set_option maxRecDepth 100000 in
theorem ctX5_write (l : Launch) (g : hj_G) {ad : Nat → Nat} (hI : hj_I 73 ad) {σ : Nat → hj_Ob} {bf : Nat → Nat} {sd : Int64} {x1 : Int32} {rF : Int32} {σF : Nat → hj_Ob} (hf : fX5_write σ bf sd x1 = some (rF, σF)) :
    hj_MI l yX5_write wsX5_write rmX5_write g 73 ad hj_X0 [.ref (ad 0), .int x1] (hj_wx g ad σ bf sd) rF (hj_wx g ad σF bf sd) := by
  refine hj_ofI (cc := cX5_write) (maxL := 2) (ret := (some .int)) (by decide) rfl (Nat.le_of_ble_eq_true rfl) ?_
  intro p e s m args below meth c ls C hP hK hX hl
  exact wX5_write hI C hK hf hP va_S.rf hl

/-! X5_wipe -/
abbrev rmX5_wipe : Room := { frames := 0, cells := 0, slots := 0, locals := 0 }
theorem iX5_wipe_X5 : ∀ w ∈ wsX50, w ∈ wsX5_wipe := fun _ h => List.mem_cons_of_mem _ (List.mem_append_left _ (List.mem_append_right _ h))
theorem mX5_wipe_1 : Cond.fieldLink RX5 12 "HungryJury" "text" "LHungryJury$Text;" ∈ wsX5_wipe := List.mem_of_getElem? (i := 1) rfl
theorem iX5_wipe_X4 : ∀ w ∈ wsX40, w ∈ wsX5_wipe := fun _ h => List.mem_cons_of_mem _ (List.mem_append_right _ h)
theorem mX5_wipe_2 : Cond.fieldLink RX5 64 "HungryJury$Text" "length" "I" ∈ wsX5_wipe := List.mem_of_getElem? (i := 2) rfl
def fX5_wipe (σ : Nat → hj_Ob) (bf : Nat → Nat) (sd : Int64) : Option (Int32 × (Nat → hj_Ob)) :=
  hj_nm ((σ 1).1 1) fun y1 => hj_nm (va_up σ 1 (hj_s (σ 1) 1 0)) fun σ2 => some (y1, σ2)
set_option maxHeartbeats 4000000 in
set_option maxRecDepth 100000 in
theorem wX5_wipe {p : Program} {l : Launch} {e : Env} {s : State} {m : MethodId} {args : Array Value} {below : List Frame} {meth : Method} {c : Code} {g : hj_G} {ad : Nat → Nat} (hI : hj_I 73 ad) (C : hj_C p s m args meth c cX5_wipe RX5 wsX5_wipe 2 (some .int)) (hK : hj_K g s) {σ : Nat → hj_Ob} {bf : Nat → Nat} {sd : Int64} {rF : Int32} {σF : Nat → hj_Ob}
    (hf : fX5_wipe σ bf sd = some (rF, σF)) {H : Heap} {locs : List Loc} {ls : Array Slot} (hP : hj_P g 73 ad (hj_wx g ad σ bf sd) H) (hS : hj_S 73 ad s H locs) (hl : lv_has ls 2 [(0, .ref (ad 0))]) :
    W p l e rmX5_wipe s m args below meth c H locs 0 0 (MQ below (hj_QI g 73 ad (hj_wx g ad σF bf sd) rF s.heap.size) args s 0 0 (hj_A 73 ad s.heap.size)) (F0 m 0 ls []) := by
  obtain ⟨hx, hb, hr, hml, hown, hts, hlocks⟩ := id C
  unfold fX5_wipe at hf
  refine lv_aload_n hx hb dX5_wipe_0 rfl (lv_at hl 0 rfl) ?_
  refine hj_get (ci := 5) (v := .ref (ad 1)) (C := RX5) (T := TX5) (N := 10) hx hb hts iX5_wipe_X5 hown hK hP (by decide) wx_at_h rfl 0 (by decide) mX5_wipe_1 rfl dX5_wipe_1 ?_
  refine hj_get (ci := 4) (v := .int ((σ 1).1 1)) (C := RX4) (T := TX4) (N := 2) hx hb hts iX5_wipe_X4 hown hK hP (by decide) (wx_at_t rfl) rfl 1 (by decide) mX5_wipe_2 rfl dX5_wipe_4 ?_
  refine lv_topi (fun y1 ey1 => ?_)
  replace hf := hj_nm_y hf ey1
  refine lv_istore_n (lv' := [(1, .int y1), (0, .ref (ad 0))]) hx hb dX5_wipe_7 rfl hl (by decide) rfl (fun ls hl => ?_)
  refine lv_aload_n hx hb dX5_wipe_8 rfl (lv_at hl 1 rfl) ?_
  refine hj_get (ci := 5) (v := .ref (ad 1)) (C := RX5) (T := TX5) (N := 10) hx hb hts iX5_wipe_X5 hown hK hP (by decide) wx_at_h rfl 0 (by decide) mX5_wipe_1 rfl dX5_wipe_9 ?_
  refine lv_iconst (v := 0) hx hb dX5_wipe_12 (by decide) ?_
  refine hj_put (ci := 4) (v := .int 0) (C := RX4) (T := TX4) (N := 2) hx hb hts iX5_wipe_X4 tyX4 tyX4_ok nmX4 hown hK hI hP hS (by decide) (wx_at_t rfl) rfl 1 (by decide) mX5_wipe_2 rfl rfl rfl (Nat.le_of_ble_eq_true rfl) dX5_wipe_13 (wx_s_t rfl) (fun H locs hP hS => ?_)
  obtain ⟨σ2, eσ2⟩ : ∃ z : Nat → hj_Ob, z = va_up σ 1 (hj_s (σ 1) 1 0) := ⟨_, rfl⟩
  replace hf := hj_nm_y hf eσ2
  rw [← eσ2] at hP
  refine lv_iload_n hx hb dX5_wipe_16 rfl (lv_at hl 0 rfl) ?_
  have hq := Option.some.inj hf
  obtain ⟨rfl, rfl⟩ := Prod.mk.inj hq
  exact hj_reti C hP hK hS dX5_wipe_17
set_option maxHeartbeats 4000000 in
set_option maxRecDepth 100000 in
theorem ctX5_wipe (l : Launch) (g : hj_G) {ad : Nat → Nat} (hI : hj_I 73 ad) {σ : Nat → hj_Ob} {bf : Nat → Nat} {sd : Int64} {rF : Int32} {σF : Nat → hj_Ob} (hf : fX5_wipe σ bf sd = some (rF, σF)) :
    hj_MI l yX5_wipe wsX5_wipe rmX5_wipe g 73 ad hj_X0 [.ref (ad 0)] (hj_wx g ad σ bf sd) rF (hj_wx g ad σF bf sd) := by
  refine hj_ofI (cc := cX5_wipe) (maxL := 2) (ret := (some .int)) (by decide) rfl (Nat.le_of_ble_eq_true rfl) ?_
  intro p e s m args below meth c ls C hP hK hX hl
  exact wX5_wipe hI C hK hf hP va_S.rf hl

/-! X5_fault -/
abbrev rmX5_fault : Room := { frames := 4, cells := 0, slots := 0, locals := 91 }
theorem iX5_fault_X5 : ∀ w ∈ wsX50, w ∈ wsX5_fault := fun _ h => List.mem_cons_of_mem _ (List.mem_append_left _ (List.mem_append_left _ (List.mem_append_right _ h)))
theorem mX5_fault_1 : Cond.fieldLink RX5 23 "HungryJury" "draft" "LHungryJury$Panel;" ∈ wsX5_fault := List.mem_of_getElem? (i := 1) rfl
theorem mX5_fault_2 : Cond.fieldLink RX5 12 "HungryJury" "text" "LHungryJury$Text;" ∈ wsX5_fault := List.mem_of_getElem? (i := 2) rfl
def fX5_fault (σ : Nat → hj_Ob) (bf : Nat → Nat) (sd : Int64) : Option (Int32 × (Nat → hj_Ob)) :=
  hj_o2 (fX1_readFrom (σ 1) (σ 7)) fun r1 ρ2 => hj_nm (va_up σ 7 ρ2) fun σ3 => some (r1, σ3)
set_option maxHeartbeats 4000000 in
set_option maxRecDepth 100000 in
theorem wX5_fault {p : Program} {l : Launch} {e : Env} {s : State} {m : MethodId} {args : Array Value} {below : List Frame} {meth : Method} {c : Code} {g : hj_G} {ad : Nat → Nat} (hI : hj_I 73 ad) (C : hj_C p s m args meth c cX5_fault RX5 wsX5_fault 1 (some .int)) (hK : hj_K g s) {σ : Nat → hj_Ob} {bf : Nat → Nat} {sd : Int64} {rF : Int32} {σF : Nat → hj_Ob}
    (hf : fX5_fault σ bf sd = some (rF, σF)) {H : Heap} {locs : List Loc} {ls : Array Slot} (hP : hj_P g 73 ad (hj_wx g ad σ bf sd) H) (hS : hj_S 73 ad s H locs) (hl : lv_has ls 1 [(0, .ref (ad 0))]) :
    W p l e rmX5_fault s m args below meth c H locs 0 0 (MQ below (hj_QI g 73 ad (hj_wx g ad σF bf sd) rF s.heap.size) args s 0 0 (hj_A 73 ad s.heap.size)) (F0 m 0 ls []) := by
  obtain ⟨hx, hb, hr, hml, hown, hts, hlocks⟩ := id C
  unfold fX5_fault at hf
  refine lv_aload_n hx hb dX5_fault_0 rfl (lv_at hl 0 rfl) ?_
  refine hj_get (ci := 5) (v := .ref (ad 7)) (C := RX5) (T := TX5) (N := 10) hx hb hts iX5_fault_X5 hown hK hP (by decide) wx_at_h rfl 2 (by decide) mX5_fault_1 rfl dX5_fault_1 ?_
  refine lv_aload_n hx hb dX5_fault_4 rfl (lv_at hl 0 rfl) ?_
  refine hj_get (ci := 5) (v := .ref (ad 1)) (C := RX5) (T := TX5) (N := 10) hx hb hts iX5_fault_X5 hown hK hP (by decide) wx_at_h rfl 0 (by decide) mX5_fault_2 rfl dX5_fault_5 ?_
  obtain ⟨r1, ρ2, hc, hf⟩ := hj_o2_s hf
  refine hj_callVi (nL := 1) (As := [.ref (ad 1)]) (rest := []) (i0 := 7) (C := RX1) (T := TX1) (N := 6) (ci := 1) ⟨hx, hb, hml, hown, hts⟩ (ctX1_readFrom l g hI (σ := σ) (bf := bf) (sd := sd) (Or.inr rfl) rfl rfl hc) (cwV 1 hts gX5_fault_X1_readFrom rfl rfl rfl (by decide +kernel) ⟨Nat.le_of_ble_eq_true rfl, Nat.le_of_ble_eq_true rfl⟩) hj_Xb0 (fun _ _ _ => trivial) hK hP hS (by decide) (wx_at_b (Or.inr rfl) rfl) rfl rfl hl.1 rfl (Nat.le_of_ble_eq_true rfl) dX5_fault_8 (fun H locs hP hS => ?_)
  obtain ⟨σ3, eσ3⟩ : ∃ z : Nat → hj_Ob, z = va_up σ 7 ρ2 := ⟨_, rfl⟩
  replace hf := hj_nm_y hf eσ3
  rw [← eσ3] at hP
  have hq := Option.some.inj hf
  obtain ⟨rfl, rfl⟩ := Prod.mk.inj hq
  exact hj_reti C hP hK hS dX5_fault_11
set_option maxHeartbeats 4000000 in
set_option maxRecDepth 100000 in
theorem ctX5_fault (l : Launch) (g : hj_G) {ad : Nat → Nat} (hI : hj_I 73 ad) {σ : Nat → hj_Ob} {bf : Nat → Nat} {sd : Int64} {rF : Int32} {σF : Nat → hj_Ob} (hf : fX5_fault σ bf sd = some (rF, σF)) :
    hj_MI l yX5_fault wsX5_fault rmX5_fault g 73 ad hj_X0 [.ref (ad 0)] (hj_wx g ad σ bf sd) rF (hj_wx g ad σF bf sd) := by
  refine hj_ofI (cc := cX5_fault) (maxL := 1) (ret := (some .int)) (by decide) rfl (Nat.le_of_ble_eq_true rfl) ?_
  intro p e s m args below meth c ls C hP hK hX hl
  exact wX5_fault hI C hK hf hP va_S.rf hl

/-! X5_jury -/
abbrev rmX5_jury : Room := { frames := 4, cells := 0, slots := 0, locals := 91 }
theorem iX5_jury_X5 : ∀ w ∈ wsX50, w ∈ wsX5_jury := fun _ h => List.mem_cons_of_mem _ (List.mem_append_left _ (List.mem_append_left _ (List.mem_append_left _ (List.mem_append_left _ (List.mem_append_right _ h)))))
theorem mX5_jury_1 : Cond.fieldLink RX5 23 "HungryJury" "draft" "LHungryJury$Panel;" ∈ wsX5_jury := List.mem_of_getElem? (i := 1) rfl
theorem mX5_jury_2 : Cond.fieldLink RX5 12 "HungryJury" "text" "LHungryJury$Text;" ∈ wsX5_jury := List.mem_of_getElem? (i := 2) rfl
theorem mX5_jury_3 : Cond.fieldLink RX5 19 "HungryJury" "panel" "LHungryJury$Panel;" ∈ wsX5_jury := List.mem_of_getElem? (i := 3) rfl
theorem mX5_jury_4 : Cond.fieldLink RX5 31 "HungryJury" "now" "LHungryJury$Room;" ∈ wsX5_jury := List.mem_of_getElem? (i := 4) rfl
theorem mX5_jury_5 : Cond.fieldLink RX5 41 "HungryJury" "acts" "LHungryJury$Acts;" ∈ wsX5_jury := List.mem_of_getElem? (i := 5) rfl
theorem mX5_jury_6 : Cond.fieldLink RX5 49 "HungryJury" "isKept" "[Z" ∈ wsX5_jury := List.mem_of_getElem? (i := 6) rfl
theorem iX5_jury_X1 : ∀ w ∈ wsX10, w ∈ wsX5_jury := fun _ h => List.mem_cons_of_mem _ (List.mem_append_left _ (List.mem_append_left _ (List.mem_append_left _ (List.mem_append_right _ h))))
theorem mX5_jury_7 : Cond.fieldLink RX5 78 "HungryJury$Panel" "jurors" "I" ∈ wsX5_jury := List.mem_of_getElem? (i := 7) rfl
def fX5_jury_47 (σ : Nat → hj_Ob) (bf : Nat → Nat) (sd : Int64) (x1 : Int32) : Option ((Nat → hj_Ob) ⊕ (Int32 × (Nat → hj_Ob))) :=
  if 2 ≤ x1 then (some (.inl σ)) else (hj_ck x1 2 (hj_nm (va_up σ 0 (hj_a (σ 0) 7 x1 (vp_nar .boolean 0))) fun σ13 => hj_nm (x1 + 1) fun y14 => some (.inr (y14, σ13))))
set_option maxHeartbeats 4000000 in
set_option maxRecDepth 100000 in
theorem wX5_jury_47b {p : Program} {l : Launch} {e : Env} {s : State} {m : MethodId} {args : Array Value} {below : List Frame} {meth : Method} {c : Code} {g : hj_G} {ad : Nat → Nat} (hI : hj_I 73 ad) (C : hj_C p s m args meth c cX5_jury RX5 wsX5_jury 2 (some .int)) (hK : hj_K g s) {σ : Nat → hj_Ob} {bf : Nat → Nat} {sd : Int64} {x1 : Int32} {y : (Nat → hj_Ob) ⊕ (Int32 × (Nat → hj_Ob))} {rF : Int32} {σF : Nat → hj_Ob}
    (hf : fX5_jury_47 σ bf sd x1 = some y) (KX : ∀ (σ' : Nat → hj_Ob), y = .inl σ' → ∀ (H : Heap) (locs : List Loc) (ls : Array Slot), hj_P g 73 ad (hj_wx g ad σ' bf sd) H → hj_S 73 ad s H locs → lv_has ls 2 [(0, .ref (ad 0))] → W p l e rmX5_jury s m args below meth c H locs 0 0 (MQ below (hj_QI g 73 ad (hj_wx g ad σF bf sd) rF s.heap.size) args s 0 0 (hj_A 73 ad s.heap.size)) (F0 m 65 ls [])) (KI : ∀ (v1 : Int32) (σ' : Nat → hj_Ob), y = .inr (v1, σ') → ∀ (H : Heap) (locs : List Loc) (ls : Array Slot), hj_P g 73 ad (hj_wx g ad σ' bf sd) H → hj_S 73 ad s H locs → lv_has ls 2 [(0, .ref (ad 0)), (1, .int v1)] → W p l e rmX5_jury s m args below meth c H locs 0 0 (MQ below (hj_QI g 73 ad (hj_wx g ad σF bf sd) rF s.heap.size) args s 0 0 (hj_A 73 ad s.heap.size)) (F0 m 47 ls [])) {H : Heap} {locs : List Loc} {ls : Array Slot} (hP : hj_P g 73 ad (hj_wx g ad σ bf sd) H) (hS : hj_S 73 ad s H locs) (hl : lv_has ls 2 [(0, .ref (ad 0)), (1, .int x1)]) :
    W p l e rmX5_jury s m args below meth c H locs 0 0 (MQ below (hj_QI g 73 ad (hj_wx g ad σF bf sd) rF s.heap.size) args s 0 0 (hj_A 73 ad s.heap.size)) (F0 m 47 ls []) := by
  obtain ⟨hx, hb, hr, hml, hown, hts, hlocks⟩ := id C
  unfold fX5_jury_47 at hf
  refine lv_iload_n hx hb dX5_jury_47 rfl (lv_at hl 1 rfl) ?_
  refine lv_iconst (v := 2) hx hb dX5_jury_48 (by decide) ?_
  refine lv_icmp_ge (tgt := 65) hx hb dX5_jury_49 (by decide) (fun c11 => ?_) (fun c11 => ?_)
  · rw [if_pos c11] at hf
    exact KX _ (Option.some.inj hf).symm _ _ _ hP hS (lv_sub hl [0] rfl)
  · rw [if_neg c11] at hf
    refine lv_aload_n hx hb dX5_jury_52 rfl (lv_at hl 0 rfl) ?_
    refine hj_get (ci := 5) (v := .ref (ad 62)) (C := RX5) (T := TX5) (N := 10) hx hb hts iX5_jury_X5 hown hK hP (by decide) wx_at_h rfl 7 (by decide) mX5_jury_6 rfl dX5_jury_53 ?_
    refine lv_iload_n hx hb dX5_jury_56 rfl (lv_at hl 1 rfl) ?_
    refine lv_iconst (v := 0) hx hb dX5_jury_57 (by decide) ?_
    obtain ⟨hk12, hf⟩ := hj_ck_s hf
    refine hj_zas (f := (σ 0).2 7) (v := 0) hx hb hK hI hP hS (by decide) (wx_at_k rfl) hk12 dX5_jury_58 (wx_a_k (x := x1) (v := (vp_nar .boolean 0)) rfl) (fun H locs hP hS => ?_)
    obtain ⟨σ13, eσ13⟩ : ∃ z : Nat → hj_Ob, z = va_up σ 0 (hj_a (σ 0) 7 x1 (vp_nar .boolean 0)) := ⟨_, rfl⟩
    replace hf := hj_nm_y hf eσ13
    rw [← eσ13] at hP
    obtain ⟨y14, ey14⟩ : ∃ z : Int32, z = x1 + 1 := ⟨_, rfl⟩
    replace hf := hj_nm_y hf ey14
    refine lv_iinc (v := y14) (lv' := [(1, .int y14), (0, .ref (ad 0))]) hx hb dX5_jury_59 hl (k := 1) rfl (by rw [ey14]; rfl) (by decide) rfl (fun ls hl => ?_)
    refine lv_goto (tgt := 47) hx hb dX5_jury_62 (by decide) ?_
    exact KI _ _ (Option.some.inj hf).symm _ _ _ hP hS (lv_sub hl [1, 0] rfl)
set_option maxHeartbeats 4000000 in
set_option maxRecDepth 100000 in
theorem wX5_jury_47 {p : Program} {l : Launch} {e : Env} {s : State} {m : MethodId} {args : Array Value} {below : List Frame} {meth : Method} {c : Code} {g : hj_G} {ad : Nat → Nat} (hI : hj_I 73 ad) (C : hj_C p s m args meth c cX5_jury RX5 wsX5_jury 2 (some .int)) (hK : hj_K g s) {bf : Nat → Nat} {sd : Int64} {rF : Int32} {σF : Nat → hj_Ob} {σe : Nat → hj_Ob} :
    ∀ (fu : Nat) (x1 : Int32) (σ : Nat → hj_Ob), hj_lp (fun q : (Int32 × (Nat → hj_Ob)) => fX5_jury_47 q.2 bf sd q.1) fu (x1, σ) = some σe → (∀ (H : Heap) (locs : List Loc) (ls : Array Slot), hj_P g 73 ad (hj_wx g ad σe bf sd) H → hj_S 73 ad s H locs → lv_has ls 2 [(0, .ref (ad 0))] → W p l e rmX5_jury s m args below meth c H locs 0 0 (MQ below (hj_QI g 73 ad (hj_wx g ad σF bf sd) rF s.heap.size) args s 0 0 (hj_A 73 ad s.heap.size)) (F0 m 65 ls [])) → ∀ (H : Heap) (locs : List Loc) (ls : Array Slot), hj_P g 73 ad (hj_wx g ad σ bf sd) H → hj_S 73 ad s H locs → lv_has ls 2 [(0, .ref (ad 0)), (1, .int x1)] →
    W p l e rmX5_jury s m args below meth c H locs 0 0 (MQ below (hj_QI g 73 ad (hj_wx g ad σF bf sd) rF s.heap.size) args s 0 0 (hj_A 73 ad s.heap.size)) (F0 m 47 ls []) := by
  intro fu
  induction fu with
  | zero => intro x1 σ hq; cases hq
  | succ fu ih =>
    intro x1 σ hq KX H locs ls hP hS hl
    obtain ⟨y, hy, h1, h2⟩ := hj_lp_s hq
    exact wX5_jury_47b hI C hK  hy (fun σ' hv H locs ls hP hS hl => by obtain rfl := h1 _ hv; exact KX H locs ls hP hS hl) (fun v1 σ' hv H locs ls hP hS hl => ih v1 σ' (h2 _ hv) KX H locs ls hP hS hl) hP hS hl
def fX5_jury (σ : Nat → hj_Ob) (bf : Nat → Nat) (sd : Int64) : Option (Int32 × (Nat → hj_Ob)) :=
  hj_o2 (fX1_readFrom (σ 1) (σ 7)) fun r1 ρ2 => hj_nm (va_up σ 7 ρ2) fun σ3 => if r1 = (-9) then (hj_o2 (fX1_readFrom (σ3 1) (σ3 3)) fun r5 ρ6 => hj_nm (va_up σ3 3 ρ6) fun σ7 => hj_o1 (fX2_beginAnew (σ7 3) (σ7 11)) fun ρ8 => hj_nm (va_up σ7 11 ρ8) fun σ9 => hj_o1 (fX0_forgetAll σ9 bf) fun σ10 => hj_o1 (hj_lp (fun q : (Int32 × (Nat → hj_Ob)) => fX5_jury_47 q.2 bf sd q.1) 100 (0, σ10)) fun σ15 => (some ((σ15 3).1 3, σ15))) else (some ((-3), σ3))
set_option maxHeartbeats 4000000 in
set_option maxRecDepth 100000 in
theorem wX5_jury {p : Program} {l : Launch} {e : Env} {s : State} {m : MethodId} {args : Array Value} {below : List Frame} {meth : Method} {c : Code} {g : hj_G} {ad : Nat → Nat} (hI : hj_I 73 ad) (C : hj_C p s m args meth c cX5_jury RX5 wsX5_jury 2 (some .int)) (hK : hj_K g s) {σ : Nat → hj_Ob} {bf : Nat → Nat} {sd : Int64} {rF : Int32} {σF : Nat → hj_Ob}
    (hf : fX5_jury σ bf sd = some (rF, σF)) {H : Heap} {locs : List Loc} {ls : Array Slot} (hP : hj_P g 73 ad (hj_wx g ad σ bf sd) H) (hS : hj_S 73 ad s H locs) (hl : lv_has ls 2 [(0, .ref (ad 0))]) :
    W p l e rmX5_jury s m args below meth c H locs 0 0 (MQ below (hj_QI g 73 ad (hj_wx g ad σF bf sd) rF s.heap.size) args s 0 0 (hj_A 73 ad s.heap.size)) (F0 m 0 ls []) := by
  obtain ⟨hx, hb, hr, hml, hown, hts, hlocks⟩ := id C
  unfold fX5_jury at hf
  refine lv_aload_n hx hb dX5_jury_0 rfl (lv_at hl 0 rfl) ?_
  refine hj_get (ci := 5) (v := .ref (ad 7)) (C := RX5) (T := TX5) (N := 10) hx hb hts iX5_jury_X5 hown hK hP (by decide) wx_at_h rfl 2 (by decide) mX5_jury_1 rfl dX5_jury_1 ?_
  refine lv_aload_n hx hb dX5_jury_4 rfl (lv_at hl 0 rfl) ?_
  refine hj_get (ci := 5) (v := .ref (ad 1)) (C := RX5) (T := TX5) (N := 10) hx hb hts iX5_jury_X5 hown hK hP (by decide) wx_at_h rfl 0 (by decide) mX5_jury_2 rfl dX5_jury_5 ?_
  obtain ⟨r1, ρ2, hc, hf⟩ := hj_o2_s hf
  refine hj_callVi (nL := 2) (As := [.ref (ad 1)]) (rest := []) (i0 := 7) (C := RX1) (T := TX1) (N := 6) (ci := 1) ⟨hx, hb, hml, hown, hts⟩ (ctX1_readFrom l g hI (σ := σ) (bf := bf) (sd := sd) (Or.inr rfl) rfl rfl hc) (cwV 1 hts gX5_jury_X1_readFrom rfl rfl rfl (by decide +kernel) ⟨Nat.le_of_ble_eq_true rfl, Nat.le_of_ble_eq_true rfl⟩) hj_Xb0 (fun _ _ _ => trivial) hK hP hS (by decide) (wx_at_b (Or.inr rfl) rfl) rfl rfl hl.1 rfl (Nat.le_of_ble_eq_true rfl) dX5_jury_8 (fun H locs hP hS => ?_)
  obtain ⟨σ3, eσ3⟩ : ∃ z : Nat → hj_Ob, z = va_up σ 7 ρ2 := ⟨_, rfl⟩
  replace hf := hj_nm_y hf eσ3
  rw [← eσ3] at hP
  refine lv_bipush (v := (-9)) hx hb dX5_jury_11 (by decide) ?_
  refine lv_icmp_eq (tgt := 19) hx hb dX5_jury_13 (by decide) (fun c4 => ?_) (fun c4 => ?_)
  · rw [if_pos c4] at hf
    refine lv_aload_n hx hb dX5_jury_19 rfl (lv_at hl 0 rfl) ?_
    refine hj_get (ci := 5) (v := .ref (ad 3)) (C := RX5) (T := TX5) (N := 10) hx hb hts iX5_jury_X5 hown hK hP (by decide) wx_at_h rfl 1 (by decide) mX5_jury_3 rfl dX5_jury_20 ?_
    refine lv_aload_n hx hb dX5_jury_23 rfl (lv_at hl 0 rfl) ?_
    refine hj_get (ci := 5) (v := .ref (ad 1)) (C := RX5) (T := TX5) (N := 10) hx hb hts iX5_jury_X5 hown hK hP (by decide) wx_at_h rfl 0 (by decide) mX5_jury_2 rfl dX5_jury_24 ?_
    obtain ⟨r5, ρ6, hc, hf⟩ := hj_o2_s hf
    refine hj_callVi (nL := 2) (As := [.ref (ad 1)]) (rest := []) (i0 := 3) (C := RX1) (T := TX1) (N := 6) (ci := 1) ⟨hx, hb, hml, hown, hts⟩ (ctX1_readFrom l g hI (σ := σ3) (bf := bf) (sd := sd) (Or.inl rfl) rfl rfl hc) (cwV 1 hts gX5_jury_X1_readFrom rfl rfl rfl (by decide +kernel) ⟨Nat.le_of_ble_eq_true rfl, Nat.le_of_ble_eq_true rfl⟩) hj_Xb0 (fun _ _ _ => trivial) hK hP hS (by decide) (wx_at_b (Or.inl rfl) rfl) rfl rfl hl.1 rfl (Nat.le_of_ble_eq_true rfl) dX5_jury_27 (fun H locs hP hS => ?_)
    obtain ⟨σ7, eσ7⟩ : ∃ z : Nat → hj_Ob, z = va_up σ3 3 ρ6 := ⟨_, rfl⟩
    replace hf := hj_nm_y hf eσ7
    rw [← eσ7] at hP
    refine lv_pop hx hb dX5_jury_30 rfl ?_
    refine lv_aload_n hx hb dX5_jury_31 rfl (lv_at hl 0 rfl) ?_
    refine hj_get (ci := 5) (v := .ref (ad 11)) (C := RX5) (T := TX5) (N := 10) hx hb hts iX5_jury_X5 hown hK hP (by decide) wx_at_h rfl 3 (by decide) mX5_jury_4 rfl dX5_jury_32 ?_
    obtain ⟨ρ8, hc, hf⟩ := hj_o1_s hf
    refine hj_callVv (nL := 2) (As := []) (rest := []) (i0 := 11) (C := RX2) (T := TX2) (N := 6) (ci := 2) ⟨hx, hb, hml, hown, hts⟩ (ctX2_beginAnew l g hI (σ := σ7) (bf := bf) (sd := sd) wx_R_11 rfl rfl hc) (cwV 0 hts gX5_jury_X2_beginAnew rfl rfl rfl (by decide +kernel) ⟨Nat.le_of_ble_eq_true rfl, Nat.le_of_ble_eq_true rfl⟩) hj_Xb0 (fun _ _ _ => trivial) hK hP hS (by decide) (wx_at_r wx_R_11 rfl) rfl rfl hl.1 rfl (Nat.le_of_ble_eq_true rfl) dX5_jury_35 (fun H locs hP hS => ?_)
    obtain ⟨σ9, eσ9⟩ : ∃ z : Nat → hj_Ob, z = va_up σ7 11 ρ8 := ⟨_, rfl⟩
    replace hf := hj_nm_y hf eσ9
    rw [← eσ9] at hP
    refine lv_aload_n hx hb dX5_jury_38 rfl (lv_at hl 0 rfl) ?_
    refine hj_get (ci := 5) (v := .ref (ad 17)) (C := RX5) (T := TX5) (N := 10) hx hb hts iX5_jury_X5 hown hK hP (by decide) wx_at_h rfl 5 (by decide) mX5_jury_5 rfl dX5_jury_39 ?_
    obtain ⟨σ10, hc, hf⟩ := hj_o1_s hf
    refine hj_callVv (nL := 2) (As := []) (rest := []) (i0 := 17) (C := RX0) (T := TX0) (N := 2) (ci := 0) ⟨hx, hb, hml, hown, hts⟩ (ctX0_forgetAll l g hI (sd := sd) hc) (cwV 0 hts gX5_jury_X0_forgetAll rfl rfl rfl (by decide +kernel) ⟨Nat.le_of_ble_eq_true rfl, Nat.le_of_ble_eq_true rfl⟩) hj_Xb0 (fun _ _ _ => trivial) hK hP hS (by decide) (wx_at_a rfl) rfl rfl hl.1 rfl (Nat.le_of_ble_eq_true rfl) dX5_jury_42 (fun H locs hP hS => ?_)
    refine lv_iconst (v := 0) hx hb dX5_jury_45 (by decide) ?_
    refine lv_istore_n (lv' := [(1, .int 0), (0, .ref (ad 0))]) hx hb dX5_jury_46 rfl hl (by decide) rfl (fun ls hl => ?_)
    obtain ⟨σ15, hlx, hf⟩ := hj_o1_s hf
    refine wX5_jury_47 hI C hK  100 0 σ10 hlx (fun H locs ls hP hS hl => ?_) H locs ls hP hS (lv_sub hl [1, 0] rfl)
    refine lv_aload_n hx hb dX5_jury_65 rfl (lv_at hl 0 rfl) ?_
    refine hj_get (ci := 5) (v := .ref (ad 3)) (C := RX5) (T := TX5) (N := 10) hx hb hts iX5_jury_X5 hown hK hP (by decide) wx_at_h rfl 1 (by decide) mX5_jury_3 rfl dX5_jury_66 ?_
    refine hj_get (ci := 1) (v := .int ((σ15 3).1 3)) (C := RX1) (T := TX1) (N := 6) hx hb hts iX5_jury_X1 hown hK hP (by decide) (wx_at_b (Or.inl rfl) rfl) rfl 3 (by decide) mX5_jury_7 rfl dX5_jury_69 ?_
    have hq := Option.some.inj hf
    obtain ⟨rfl, rfl⟩ := Prod.mk.inj hq
    exact hj_reti C hP hK hS dX5_jury_72
  · rw [if_neg c4] at hf
    refine lv_bipush (v := (-3)) hx hb dX5_jury_16 (by decide) ?_
    have hq := Option.some.inj hf
    obtain ⟨rfl, rfl⟩ := Prod.mk.inj hq
    exact hj_reti C hP hK hS dX5_jury_18
set_option maxHeartbeats 4000000 in
set_option maxRecDepth 100000 in
theorem ctX5_jury (l : Launch) (g : hj_G) {ad : Nat → Nat} (hI : hj_I 73 ad) {σ : Nat → hj_Ob} {bf : Nat → Nat} {sd : Int64} {rF : Int32} {σF : Nat → hj_Ob} (hf : fX5_jury σ bf sd = some (rF, σF)) :
    hj_MI l yX5_jury wsX5_jury rmX5_jury g 73 ad hj_X0 [.ref (ad 0)] (hj_wx g ad σ bf sd) rF (hj_wx g ad σF bf sd) := by
  refine hj_ofI (cc := cX5_jury) (maxL := 2) (ret := (some .int)) (by decide) rfl (Nat.le_of_ble_eq_true rfl) ?_
  intro p e s m args below meth c ls C hP hK hX hl
  exact wX5_jury hI C hK hf hP va_S.rf hl

/-! X5_isJuror -/
abbrev rmX5_isJuror : Room := { frames := 0, cells := 0, slots := 0, locals := 0 }
theorem iX5_isJuror_X5 : ∀ w ∈ wsX50, w ∈ wsX5_isJuror := fun _ h => List.mem_cons_of_mem _ (List.mem_append_left _ (List.mem_append_right _ h))
theorem mX5_isJuror_1 : Cond.fieldLink RX5 19 "HungryJury" "panel" "LHungryJury$Panel;" ∈ wsX5_isJuror := List.mem_of_getElem? (i := 1) rfl
theorem iX5_isJuror_X1 : ∀ w ∈ wsX10, w ∈ wsX5_isJuror := fun _ h => List.mem_cons_of_mem _ (List.mem_append_right _ h)
theorem mX5_isJuror_2 : Cond.fieldLink RX5 78 "HungryJury$Panel" "jurors" "I" ∈ wsX5_isJuror := List.mem_of_getElem? (i := 2) rfl
def fX5_isJuror (σ : Nat → hj_Ob) (bf : Nat → Nat) (sd : Int64) (x1 : Int32) : Option Int32 :=
  if x1 < 0 then (some 0) else (if ((σ 3).1 3) ≤ x1 then (some 0) else (if 6 ≤ x1 then (some 0) else (some 1)))
set_option maxHeartbeats 4000000 in
set_option maxRecDepth 100000 in
theorem wX5_isJuror {p : Program} {l : Launch} {e : Env} {s : State} {m : MethodId} {args : Array Value} {below : List Frame} {meth : Method} {c : Code} {g : hj_G} {ad : Nat → Nat} (hI : hj_I 73 ad) (C : hj_C p s m args meth c cX5_isJuror RX5 wsX5_isJuror 2 (some .boolean)) (hK : hj_K g s) {σ : Nat → hj_Ob} {bf : Nat → Nat} {sd : Int64} {x1 : Int32} {rF : Int32}
    (hf : fX5_isJuror σ bf sd x1 = some rF) {H : Heap} {locs : List Loc} {ls : Array Slot} (hP : hj_P g 73 ad (hj_wx g ad σ bf sd) H) (hS : hj_S 73 ad s H locs) (hl : lv_has ls 2 [(0, .ref (ad 0)), (1, .int x1)]) :
    W p l e rmX5_isJuror s m args below meth c H locs 0 0 (MQ below (hj_QI g 73 ad (hj_wx g ad σ bf sd) rF s.heap.size) args s 0 0 (hj_A 73 ad s.heap.size)) (F0 m 0 ls []) := by
  obtain ⟨hx, hb, hr, hml, hown, hts, hlocks⟩ := id C
  unfold fX5_isJuror at hf
  refine lv_iload_n hx hb dX5_isJuror_0 rfl (lv_at hl 1 rfl) ?_
  refine lv_if_lt (tgt := 25) hx hb dX5_isJuror_1 (by decide) (fun c1 => ?_) (fun c1 => ?_)
  · rw [if_pos c1] at hf
    refine lv_iconst (v := 0) hx hb dX5_isJuror_25 (by decide) ?_
    have hq := Option.some.inj hf
    obtain rfl := hq
    exact hj_retz (Or.inl rfl)  C hP hK hS dX5_isJuror_26
  · rw [if_neg c1] at hf
    refine lv_iload_n hx hb dX5_isJuror_4 rfl (lv_at hl 1 rfl) ?_
    refine lv_aload_n hx hb dX5_isJuror_5 rfl (lv_at hl 0 rfl) ?_
    refine hj_get (ci := 5) (v := .ref (ad 3)) (C := RX5) (T := TX5) (N := 10) hx hb hts iX5_isJuror_X5 hown hK hP (by decide) wx_at_h rfl 1 (by decide) mX5_isJuror_1 rfl dX5_isJuror_6 ?_
    refine hj_get (ci := 1) (v := .int ((σ 3).1 3)) (C := RX1) (T := TX1) (N := 6) hx hb hts iX5_isJuror_X1 hown hK hP (by decide) (wx_at_b (Or.inl rfl) rfl) rfl 3 (by decide) mX5_isJuror_2 rfl dX5_isJuror_9 ?_
    refine lv_icmp_ge (tgt := 25) hx hb dX5_isJuror_12 (by decide) (fun c2 => ?_) (fun c2 => ?_)
    · rw [if_pos c2] at hf
      refine lv_iconst (v := 0) hx hb dX5_isJuror_25 (by decide) ?_
      have hq := Option.some.inj hf
      obtain rfl := hq
      exact hj_retz (Or.inl rfl)  C hP hK hS dX5_isJuror_26
    · rw [if_neg c2] at hf
      refine lv_iload_n hx hb dX5_isJuror_15 rfl (lv_at hl 1 rfl) ?_
      refine lv_bipush (v := 6) hx hb dX5_isJuror_16 (by decide) ?_
      refine lv_icmp_ge (tgt := 25) hx hb dX5_isJuror_18 (by decide) (fun c3 => ?_) (fun c3 => ?_)
      · rw [if_pos c3] at hf
        refine lv_iconst (v := 0) hx hb dX5_isJuror_25 (by decide) ?_
        have hq := Option.some.inj hf
        obtain rfl := hq
        exact hj_retz (Or.inl rfl)  C hP hK hS dX5_isJuror_26
      · rw [if_neg c3] at hf
        refine lv_iconst (v := 1) hx hb dX5_isJuror_21 (by decide) ?_
        refine lv_goto (tgt := 26) hx hb dX5_isJuror_22 (by decide) ?_
        have hq := Option.some.inj hf
        obtain rfl := hq
        exact hj_retz (Or.inr rfl)  C hP hK hS dX5_isJuror_26
set_option maxHeartbeats 4000000 in
set_option maxRecDepth 100000 in
theorem ctX5_isJuror (l : Launch) (g : hj_G) {ad : Nat → Nat} (hI : hj_I 73 ad) {σ : Nat → hj_Ob} {bf : Nat → Nat} {sd : Int64} {x1 : Int32} {rF : Int32} (hf : fX5_isJuror σ bf sd x1 = some rF) :
    hj_MI l yX5_isJuror wsX5_isJuror rmX5_isJuror g 73 ad hj_X0 [.ref (ad 0), .int x1] (hj_wx g ad σ bf sd) rF (hj_wx g ad σ bf sd) := by
  refine hj_ofI (cc := cX5_isJuror) (maxL := 2) (ret := (some .boolean)) (by decide) rfl (Nat.le_of_ble_eq_true rfl) ?_
  intro p e s m args below meth c ls C hP hK hX hl
  exact wX5_isJuror hI C hK hf hP va_S.rf hl

/-! X5_juror -/
abbrev rmX5_juror : Room := { frames := 1, cells := 0, slots := 0, locals := 21 }
theorem iX5_juror_X5 : ∀ w ∈ wsX50, w ∈ wsX5_juror := fun _ h => List.mem_cons_of_mem _ (List.mem_append_left _ (List.mem_append_left _ (List.mem_append_right _ h)))
theorem mX5_juror_1 : Cond.fieldLink RX5 31 "HungryJury" "now" "LHungryJury$Room;" ∈ wsX5_juror := List.mem_of_getElem? (i := 1) rfl
theorem iX5_juror_X2 : ∀ w ∈ wsX20, w ∈ wsX5_juror := fun _ h => List.mem_cons_of_mem _ (List.mem_append_left _ (List.mem_append_right _ h))
theorem mX5_juror_2 : Cond.fieldLink RX5 87 "HungryJury$Room" "stubborn" "[I" ∈ wsX5_juror := List.mem_of_getElem? (i := 2) rfl
theorem mX5_juror_3 : Cond.fieldLink RX5 19 "HungryJury" "panel" "LHungryJury$Panel;" ∈ wsX5_juror := List.mem_of_getElem? (i := 3) rfl
theorem iX5_juror_X1 : ∀ w ∈ wsX10, w ∈ wsX5_juror := fun _ h => List.mem_cons_of_mem _ (List.mem_append_right _ h)
theorem mX5_juror_4 : Cond.fieldLink RX5 91 "HungryJury$Panel" "kind" "[I" ∈ wsX5_juror := List.mem_of_getElem? (i := 4) rfl
theorem mX5_juror_5 : Cond.fieldLink RX5 94 "HungryJury$Room" "hunger" "[I" ∈ wsX5_juror := List.mem_of_getElem? (i := 5) rfl
theorem mX5_juror_6 : Cond.fieldLink RX5 97 "HungryJury$Panel" "heeded" "[I" ∈ wsX5_juror := List.mem_of_getElem? (i := 6) rfl
def fX5_juror (σ : Nat → hj_Ob) (bf : Nat → Nat) (sd : Int64) (x1 : Int32) (x2 : Int32) : Option Int32 :=
  hj_o1 (fX5_isJuror σ bf sd x1) fun r1 => if r1 = 0 then (some (-1)) else (if x2 = 0 then (hj_o1 (fX2_isYes (σ 3) (σ 11) x1) fun r4 => if r4 = 0 then (some 0) else (some 1)) else (if x2 = 1 then (hj_ck x1 6 (some ((σ 11).2 1 x1.toNatClampNeg))) else (if x2 = 2 then (hj_ck x1 6 (some ((σ 3).2 1 x1.toNatClampNeg))) else (if x2 = 3 then (hj_ck x1 6 (some ((σ 11).2 2 x1.toNatClampNeg))) else (if x2 = 4 then (hj_ck x1 6 (some ((σ 3).2 2 x1.toNatClampNeg))) else (if x2 = 5 then (hj_o1 (fX2_isThere (σ 3) (σ 11) x1) fun r15 => if r15 = 0 then (some 0) else (some 1)) else (some (-2))))))))
set_option maxHeartbeats 4000000 in
set_option maxRecDepth 100000 in
theorem wX5_juror {p : Program} {l : Launch} {e : Env} {s : State} {m : MethodId} {args : Array Value} {below : List Frame} {meth : Method} {c : Code} {g : hj_G} {ad : Nat → Nat} (hI : hj_I 73 ad) (C : hj_C p s m args meth c cX5_juror RX5 wsX5_juror 3 (some .int)) (hK : hj_K g s) {σ : Nat → hj_Ob} {bf : Nat → Nat} {sd : Int64} {x1 : Int32} {x2 : Int32} {rF : Int32}
    (hf : fX5_juror σ bf sd x1 x2 = some rF) {H : Heap} {locs : List Loc} {ls : Array Slot} (hP : hj_P g 73 ad (hj_wx g ad σ bf sd) H) (hS : hj_S 73 ad s H locs) (hl : lv_has ls 3 [(0, .ref (ad 0)), (1, .int x1), (2, .int x2)]) :
    W p l e rmX5_juror s m args below meth c H locs 0 0 (MQ below (hj_QI g 73 ad (hj_wx g ad σ bf sd) rF s.heap.size) args s 0 0 (hj_A 73 ad s.heap.size)) (F0 m 0 ls []) := by
  obtain ⟨hx, hb, hr, hml, hown, hts, hlocks⟩ := id C
  unfold fX5_juror at hf
  refine lv_aload_n hx hb dX5_juror_0 rfl (lv_at hl 0 rfl) ?_
  refine lv_iload_n hx hb dX5_juror_1 rfl (lv_at hl 1 rfl) ?_
  obtain ⟨r1, hc, hf⟩ := hj_o1_s hf
  refine hj_callVi (nL := 3) (As := [.int x1]) (rest := []) (i0 := 0) (C := RX5) (T := TX5) (N := 10) (ci := 5) ⟨hx, hb, hml, hown, hts⟩ (ctX5_isJuror l g hI hc) (cwV 1 hts gX5_juror_X5_isJuror rfl rfl rfl (by decide +kernel) ⟨Nat.le_of_ble_eq_true rfl, Nat.le_of_ble_eq_true rfl⟩) hj_Xb0 (fun _ _ _ => trivial) hK hP hS (by decide) wx_at_h rfl rfl hl.1 rfl (Nat.le_of_ble_eq_true rfl) dX5_juror_2 (fun H locs hP hS => ?_)
  refine lv_if_ne (tgt := 10) hx hb dX5_juror_5 (by decide) (fun c2 => ?_) (fun c2 => ?_)
  · rw [if_neg c2] at hf
    refine lv_iload_n hx hb dX5_juror_10 rfl (lv_at hl 2 rfl) ?_
    by_cases c3 : x2 = 0
    · rw [if_pos c3] at hf
      refine lv_tableIn (tgt := 48) hx hb dX5_juror_11 (by rw [c3]; decide) (by rw [c3]; decide) (by rw [c3]; rfl) (by decide) ?_
      refine lv_aload_n hx hb dX5_juror_48 rfl (lv_at hl 0 rfl) ?_
      refine hj_get (ci := 5) (v := .ref (ad 11)) (C := RX5) (T := TX5) (N := 10) hx hb hts iX5_juror_X5 hown hK hP (by decide) wx_at_h rfl 3 (by decide) mX5_juror_1 rfl dX5_juror_49 ?_
      refine lv_iload_n hx hb dX5_juror_52 rfl (lv_at hl 1 rfl) ?_
      obtain ⟨r4, hc, hf⟩ := hj_o1_s hf
      refine hj_callVi (nL := 3) (As := [.int x1]) (rest := []) (i0 := 11) (C := RX2) (T := TX2) (N := 6) (ci := 2) ⟨hx, hb, hml, hown, hts⟩ (ctX2_isYes l g hI (σ := σ) (bf := bf) (sd := sd) wx_R_11 rfl rfl hc) (cwV 1 hts gX5_juror_X2_isYes rfl rfl rfl (by decide +kernel) ⟨Nat.le_of_ble_eq_true rfl, Nat.le_of_ble_eq_true rfl⟩) hj_Xb0 (fun _ _ _ => trivial) hK hP hS (by decide) (wx_at_r wx_R_11 rfl) rfl rfl hl.1 rfl (Nat.le_of_ble_eq_true rfl) dX5_juror_53 (fun H locs hP hS => ?_)
      refine lv_if_eq (tgt := 63) hx hb dX5_juror_56 (by decide) (fun c5 => ?_) (fun c5 => ?_)
      · rw [if_pos c5] at hf
        refine lv_iconst (v := 0) hx hb dX5_juror_63 (by decide) ?_
        have hq := Option.some.inj hf
        obtain rfl := hq
        exact hj_reti C hP hK hS dX5_juror_64
      · rw [if_neg c5] at hf
        refine lv_iconst (v := 1) hx hb dX5_juror_59 (by decide) ?_
        refine lv_goto (tgt := 64) hx hb dX5_juror_60 (by decide) ?_
        have hq := Option.some.inj hf
        obtain rfl := hq
        exact hj_reti C hP hK hS dX5_juror_64
    rw [if_neg c3] at hf
    by_cases c6 : x2 = 1
    · rw [if_pos c6] at hf
      refine lv_tableIn (tgt := 65) hx hb dX5_juror_11 (by rw [c6]; decide) (by rw [c6]; decide) (by rw [c6]; rfl) (by decide) ?_
      refine lv_aload_n hx hb dX5_juror_65 rfl (lv_at hl 0 rfl) ?_
      refine hj_get (ci := 5) (v := .ref (ad 11)) (C := RX5) (T := TX5) (N := 10) hx hb hts iX5_juror_X5 hown hK hP (by decide) wx_at_h rfl 3 (by decide) mX5_juror_1 rfl dX5_juror_66 ?_
      refine hj_get (ci := 2) (v := .ref (ad (11 + 1))) (C := RX2) (T := TX2) (N := 6) hx hb hts iX5_juror_X2 hown hK hP (by decide) (wx_at_r wx_R_11 rfl) rfl 1 (by decide) mX5_juror_2 rfl dX5_juror_69 ?_
      refine lv_iload_n hx hb dX5_juror_72 rfl (lv_at hl 1 rfl) ?_
      obtain ⟨hk7, hf⟩ := hj_ck_s hf
      refine hj_ial (f := (σ 11).2 1) hx hb hK hP (by decide) (wx_at_ra 1 wx_R_11 (by decide) rfl) hk7 dX5_juror_73 ?_
      have hq := Option.some.inj hf
      obtain rfl := hq
      exact hj_reti C hP hK hS dX5_juror_74
    rw [if_neg c6] at hf
    by_cases c8 : x2 = 2
    · rw [if_pos c8] at hf
      refine lv_tableIn (tgt := 75) hx hb dX5_juror_11 (by rw [c8]; decide) (by rw [c8]; decide) (by rw [c8]; rfl) (by decide) ?_
      refine lv_aload_n hx hb dX5_juror_75 rfl (lv_at hl 0 rfl) ?_
      refine hj_get (ci := 5) (v := .ref (ad 3)) (C := RX5) (T := TX5) (N := 10) hx hb hts iX5_juror_X5 hown hK hP (by decide) wx_at_h rfl 1 (by decide) mX5_juror_3 rfl dX5_juror_76 ?_
      refine hj_get (ci := 1) (v := .ref (ad (3 + 2))) (C := RX1) (T := TX1) (N := 6) hx hb hts iX5_juror_X1 hown hK hP (by decide) (wx_at_b (Or.inl rfl) rfl) rfl 1 (by decide) mX5_juror_4 rfl dX5_juror_79 ?_
      refine lv_iload_n hx hb dX5_juror_82 rfl (lv_at hl 1 rfl) ?_
      obtain ⟨hk9, hf⟩ := hj_ck_s hf
      refine hj_ial (f := (σ 3).2 1) hx hb hK hP (by decide) (wx_at_ba 1 (Or.inl rfl) (by decide) rfl) hk9 dX5_juror_83 ?_
      have hq := Option.some.inj hf
      obtain rfl := hq
      exact hj_reti C hP hK hS dX5_juror_84
    rw [if_neg c8] at hf
    by_cases c10 : x2 = 3
    · rw [if_pos c10] at hf
      refine lv_tableIn (tgt := 85) hx hb dX5_juror_11 (by rw [c10]; decide) (by rw [c10]; decide) (by rw [c10]; rfl) (by decide) ?_
      refine lv_aload_n hx hb dX5_juror_85 rfl (lv_at hl 0 rfl) ?_
      refine hj_get (ci := 5) (v := .ref (ad 11)) (C := RX5) (T := TX5) (N := 10) hx hb hts iX5_juror_X5 hown hK hP (by decide) wx_at_h rfl 3 (by decide) mX5_juror_1 rfl dX5_juror_86 ?_
      refine hj_get (ci := 2) (v := .ref (ad (11 + 2))) (C := RX2) (T := TX2) (N := 6) hx hb hts iX5_juror_X2 hown hK hP (by decide) (wx_at_r wx_R_11 rfl) rfl 2 (by decide) mX5_juror_5 rfl dX5_juror_89 ?_
      refine lv_iload_n hx hb dX5_juror_92 rfl (lv_at hl 1 rfl) ?_
      obtain ⟨hk11, hf⟩ := hj_ck_s hf
      refine hj_ial (f := (σ 11).2 2) hx hb hK hP (by decide) (wx_at_ra 2 wx_R_11 (by decide) rfl) hk11 dX5_juror_93 ?_
      have hq := Option.some.inj hf
      obtain rfl := hq
      exact hj_reti C hP hK hS dX5_juror_94
    rw [if_neg c10] at hf
    by_cases c12 : x2 = 4
    · rw [if_pos c12] at hf
      refine lv_tableIn (tgt := 95) hx hb dX5_juror_11 (by rw [c12]; decide) (by rw [c12]; decide) (by rw [c12]; rfl) (by decide) ?_
      refine lv_aload_n hx hb dX5_juror_95 rfl (lv_at hl 0 rfl) ?_
      refine hj_get (ci := 5) (v := .ref (ad 3)) (C := RX5) (T := TX5) (N := 10) hx hb hts iX5_juror_X5 hown hK hP (by decide) wx_at_h rfl 1 (by decide) mX5_juror_3 rfl dX5_juror_96 ?_
      refine hj_get (ci := 1) (v := .ref (ad (3 + 3))) (C := RX1) (T := TX1) (N := 6) hx hb hts iX5_juror_X1 hown hK hP (by decide) (wx_at_b (Or.inl rfl) rfl) rfl 2 (by decide) mX5_juror_6 rfl dX5_juror_99 ?_
      refine lv_iload_n hx hb dX5_juror_102 rfl (lv_at hl 1 rfl) ?_
      obtain ⟨hk13, hf⟩ := hj_ck_s hf
      refine hj_ial (f := (σ 3).2 2) hx hb hK hP (by decide) (wx_at_ba 2 (Or.inl rfl) (by decide) rfl) hk13 dX5_juror_103 ?_
      have hq := Option.some.inj hf
      obtain rfl := hq
      exact hj_reti C hP hK hS dX5_juror_104
    rw [if_neg c12] at hf
    by_cases c14 : x2 = 5
    · rw [if_pos c14] at hf
      refine lv_tableIn (tgt := 105) hx hb dX5_juror_11 (by rw [c14]; decide) (by rw [c14]; decide) (by rw [c14]; rfl) (by decide) ?_
      refine lv_aload_n hx hb dX5_juror_105 rfl (lv_at hl 0 rfl) ?_
      refine hj_get (ci := 5) (v := .ref (ad 11)) (C := RX5) (T := TX5) (N := 10) hx hb hts iX5_juror_X5 hown hK hP (by decide) wx_at_h rfl 3 (by decide) mX5_juror_1 rfl dX5_juror_106 ?_
      refine lv_iload_n hx hb dX5_juror_109 rfl (lv_at hl 1 rfl) ?_
      obtain ⟨r15, hc, hf⟩ := hj_o1_s hf
      refine hj_callVi (nL := 3) (As := [.int x1]) (rest := []) (i0 := 11) (C := RX2) (T := TX2) (N := 6) (ci := 2) ⟨hx, hb, hml, hown, hts⟩ (ctX2_isThere l g hI (σ := σ) (bf := bf) (sd := sd) wx_R_11 rfl rfl hc) (cwV 1 hts gX5_juror_X2_isThere rfl rfl rfl (by decide +kernel) ⟨Nat.le_of_ble_eq_true rfl, Nat.le_of_ble_eq_true rfl⟩) hj_Xb0 (fun _ _ _ => trivial) hK hP hS (by decide) (wx_at_r wx_R_11 rfl) rfl rfl hl.1 rfl (Nat.le_of_ble_eq_true rfl) dX5_juror_110 (fun H locs hP hS => ?_)
      refine lv_if_eq (tgt := 120) hx hb dX5_juror_113 (by decide) (fun c16 => ?_) (fun c16 => ?_)
      · rw [if_pos c16] at hf
        refine lv_iconst (v := 0) hx hb dX5_juror_120 (by decide) ?_
        have hq := Option.some.inj hf
        obtain rfl := hq
        exact hj_reti C hP hK hS dX5_juror_121
      · rw [if_neg c16] at hf
        refine lv_iconst (v := 1) hx hb dX5_juror_116 (by decide) ?_
        refine lv_goto (tgt := 121) hx hb dX5_juror_117 (by decide) ?_
        have hq := Option.some.inj hf
        obtain rfl := hq
        exact hj_reti C hP hK hS dX5_juror_121
    rw [if_neg c14] at hf
    refine lv_tableOut (tgt := 122) hx hb dX5_juror_11 (by have qc3 := lv_neT c3 (k := 0) (a := 0) (by decide); have qc6 := lv_neT c6 (k := 1) (a := 1) (by decide); have qc8 := lv_neT c8 (k := 2) (a := 2) (by decide); have qc10 := lv_neT c10 (k := 3) (a := 3) (by decide); have qc12 := lv_neT c12 (k := 4) (a := 4) (by decide); have qc14 := lv_neT c14 (k := 5) (a := 5) (by decide); omega) (by decide) ?_
    refine lv_bipush (v := (-2)) hx hb dX5_juror_122 (by decide) ?_
    have hq := Option.some.inj hf
    obtain rfl := hq
    exact hj_reti C hP hK hS dX5_juror_124
  · rw [if_pos c2] at hf
    refine lv_iconst (v := (-1)) hx hb dX5_juror_8 (by decide) ?_
    have hq := Option.some.inj hf
    obtain rfl := hq
    exact hj_reti C hP hK hS dX5_juror_9
set_option maxHeartbeats 4000000 in
set_option maxRecDepth 100000 in
theorem ctX5_juror (l : Launch) (g : hj_G) {ad : Nat → Nat} (hI : hj_I 73 ad) {σ : Nat → hj_Ob} {bf : Nat → Nat} {sd : Int64} {x1 : Int32} {x2 : Int32} {rF : Int32} (hf : fX5_juror σ bf sd x1 x2 = some rF) :
    hj_MI l yX5_juror wsX5_juror rmX5_juror g 73 ad hj_X0 [.ref (ad 0), .int x1, .int x2] (hj_wx g ad σ bf sd) rF (hj_wx g ad σ bf sd) := by
  refine hj_ofI (cc := cX5_juror) (maxL := 3) (ret := (some .int)) (by decide) rfl (Nat.le_of_ble_eq_true rfl) ?_
  intro p e s m args below meth c ls C hP hK hX hl
  exact wX5_juror hI C hK hf hP va_S.rf hl

/-! X5_hour -/
abbrev rmX5_hour : Room := { frames := 3, cells := 0, slots := 0, locals := 68 }
theorem iX5_hour_X5 : ∀ w ∈ wsX50, w ∈ wsX5_hour := fun _ h => List.mem_cons_of_mem _ (List.mem_append_left _ (List.mem_append_left _ (List.mem_append_left _ (List.mem_append_right _ h))))
theorem mX5_hour_1 : Cond.fieldLink RX5 41 "HungryJury" "acts" "LHungryJury$Acts;" ∈ wsX5_hour := List.mem_of_getElem? (i := 1) rfl
theorem mX5_hour_2 : Cond.fieldLink RX5 31 "HungryJury" "now" "LHungryJury$Room;" ∈ wsX5_hour := List.mem_of_getElem? (i := 2) rfl
def fX5_hour (σ : Nat → hj_Ob) (bf : Nat → Nat) (sd : Int64) : Option (Int32 × (Nat → hj_Ob) × (Nat → Nat)) :=
  hj_o2 (fX0_remember σ bf) fun σ1 bf2 => hj_o2 (fX2_passHour (σ1 3) (σ1 11)) fun r3 ρ4 => hj_nm (va_up σ1 11 ρ4) fun σ5 => hj_o1 (fJ6_bitCount_0f7a4 r3) fun r6 => some (r6, σ5, bf2)
set_option maxHeartbeats 4000000 in
set_option maxRecDepth 100000 in
theorem wX5_hour {p : Program} {l : Launch} {e : Env} {s : State} {m : MethodId} {args : Array Value} {below : List Frame} {meth : Method} {c : Code} {g : hj_G} {ad : Nat → Nat} (hI : hj_I 73 ad) (C : hj_C p s m args meth c cX5_hour RX5 wsX5_hour 1 (some .int)) (hK : hj_K g s) {σ : Nat → hj_Ob} {bf : Nat → Nat} {sd : Int64} {rF : Int32} {σF : Nat → hj_Ob} {bfF : Nat → Nat}
    (hf : fX5_hour σ bf sd = some (rF, σF, bfF)) {H : Heap} {locs : List Loc} {ls : Array Slot} (hP : hj_P g 73 ad (hj_wx g ad σ bf sd) H) (hS : hj_S 73 ad s H locs) (hl : lv_has ls 1 [(0, .ref (ad 0))]) :
    W p l e rmX5_hour s m args below meth c H locs 0 0 (MQ below (hj_QI g 73 ad (hj_wx g ad σF bfF sd) rF s.heap.size) args s 0 0 (hj_A 73 ad s.heap.size)) (F0 m 0 ls []) := by
  obtain ⟨hx, hb, hr, hml, hown, hts, hlocks⟩ := id C
  unfold fX5_hour at hf
  refine lv_aload_n hx hb dX5_hour_0 rfl (lv_at hl 0 rfl) ?_
  refine hj_get (ci := 5) (v := .ref (ad 17)) (C := RX5) (T := TX5) (N := 10) hx hb hts iX5_hour_X5 hown hK hP (by decide) wx_at_h rfl 5 (by decide) mX5_hour_1 rfl dX5_hour_1 ?_
  refine lv_aload_n hx hb dX5_hour_4 rfl (lv_at hl 0 rfl) ?_
  refine hj_get (ci := 5) (v := .ref (ad 11)) (C := RX5) (T := TX5) (N := 10) hx hb hts iX5_hour_X5 hown hK hP (by decide) wx_at_h rfl 3 (by decide) mX5_hour_2 rfl dX5_hour_5 ?_
  obtain ⟨σ1, bf2, hc, hf⟩ := hj_o2_s hf
  refine hj_callVv (nL := 1) (As := [.ref (ad 11)]) (rest := []) (i0 := 17) (C := RX0) (T := TX0) (N := 2) (ci := 0) ⟨hx, hb, hml, hown, hts⟩ (ctX0_remember l g hI (sd := sd) hc) (cwV 1 hts gX5_hour_X0_remember rfl rfl rfl (by decide +kernel) ⟨Nat.le_of_ble_eq_true rfl, Nat.le_of_ble_eq_true rfl⟩) hj_Xb0 (fun _ _ _ => trivial) hK hP hS (by decide) (wx_at_a rfl) rfl rfl hl.1 rfl (Nat.le_of_ble_eq_true rfl) dX5_hour_8 (fun H locs hP hS => ?_)
  refine lv_aload_n hx hb dX5_hour_11 rfl (lv_at hl 0 rfl) ?_
  refine hj_get (ci := 5) (v := .ref (ad 11)) (C := RX5) (T := TX5) (N := 10) hx hb hts iX5_hour_X5 hown hK hP (by decide) wx_at_h rfl 3 (by decide) mX5_hour_2 rfl dX5_hour_12 ?_
  obtain ⟨r3, ρ4, hc, hf⟩ := hj_o2_s hf
  refine hj_callVi (nL := 1) (As := []) (rest := []) (i0 := 11) (C := RX2) (T := TX2) (N := 6) (ci := 2) ⟨hx, hb, hml, hown, hts⟩ (ctX2_passHour l g hI (σ := σ1) (bf := bf2) (sd := sd) wx_R_11 rfl rfl hc) (cwV 0 hts gX5_hour_X2_passHour rfl rfl rfl (by decide +kernel) ⟨Nat.le_of_ble_eq_true rfl, Nat.le_of_ble_eq_true rfl⟩) hj_Xb0 (fun _ _ _ => trivial) hK hP hS (by decide) (wx_at_r wx_R_11 rfl) rfl rfl hl.1 rfl (Nat.le_of_ble_eq_true rfl) dX5_hour_15 (fun H locs hP hS => ?_)
  obtain ⟨σ5, eσ5⟩ : ∃ z : Nat → hj_Ob, z = va_up σ1 11 ρ4 := ⟨_, rfl⟩
  replace hf := hj_nm_y hf eσ5
  rw [← eσ5] at hP
  obtain ⟨r6, hc, hf⟩ := hj_o1_s hf
  refine hj_callSi (nL := 1) (As := [.int r3]) (rest := []) ⟨hx, hb, hml, hown, hts⟩ (ctJ6_bitCount_0f7a4 l g (n := 73) (ad := ad) (w := (hj_wx g ad σ5 bf2 sd)) hc) (va_cwS 1 hts gX5_hour_J6_bitCount_0f7a4 rfl rfl rfl (by decide +kernel) ⟨Nat.le_of_ble_eq_true rfl, Nat.le_of_ble_eq_true rfl⟩) hj_Xb0 (fun _ _ _ => trivial) hK hP hS rfl hl.1 rfl (Nat.le_of_ble_eq_true rfl) dX5_hour_18 (fun H locs hP hS => ?_)
  have hq := Option.some.inj hf
  obtain ⟨rfl, hq0⟩ := Prod.mk.inj hq
  obtain ⟨rfl, rfl⟩ := Prod.mk.inj hq0
  exact hj_reti C hP hK hS dX5_hour_21
set_option maxHeartbeats 4000000 in
set_option maxRecDepth 100000 in
theorem ctX5_hour (l : Launch) (g : hj_G) {ad : Nat → Nat} (hI : hj_I 73 ad) {σ : Nat → hj_Ob} {bf : Nat → Nat} {sd : Int64} {rF : Int32} {σF : Nat → hj_Ob} {bfF : Nat → Nat} (hf : fX5_hour σ bf sd = some (rF, σF, bfF)) :
    hj_MI l yX5_hour wsX5_hour rmX5_hour g 73 ad hj_X0 [.ref (ad 0)] (hj_wx g ad σ bf sd) rF (hj_wx g ad σF bfF sd) := by
  refine hj_ofI (cc := cX5_hour) (maxL := 1) (ret := (some .int)) (by decide) rfl (Nat.le_of_ble_eq_true rfl) ?_
  intro p e s m args below meth c ls C hP hK hX hl
  exact wX5_hour hI C hK hf hP va_S.rf hl

/-! X5_doAct -/
abbrev rmX5_doAct : Room := { frames := 4, cells := 0, slots := 0, locals := 90 }
theorem iX5_doAct_X5 : ∀ w ∈ wsX50, w ∈ wsX5_doAct := fun _ h => List.mem_cons_of_mem _ (List.mem_append_left _ (List.mem_append_left _ (List.mem_append_left _ (List.mem_append_right _ h))))
theorem mX5_doAct_1 : Cond.fieldLink RX5 31 "HungryJury" "now" "LHungryJury$Room;" ∈ wsX5_doAct := List.mem_of_getElem? (i := 1) rfl
theorem mX5_doAct_2 : Cond.fieldLink RX5 41 "HungryJury" "acts" "LHungryJury$Acts;" ∈ wsX5_doAct := List.mem_of_getElem? (i := 2) rfl
def fX5_doAct (σ : Nat → hj_Ob) (bf : Nat → Nat) (sd : Int64) (x1 : Int32) (x2 : Int32) : Option (Int32 × (Nat → hj_Ob) × (Nat → Nat)) :=
  hj_o1 (fX5_isJuror σ bf sd x2) fun r1 => if r1 = 0 then (some ((-1), σ, bf)) else (hj_o1 (fX2_canDo (σ 3) (σ 11) x1 x2) fun r3 => if r3 = 0 then (some ((-3), σ, bf)) else (hj_o2 (fX0_remember σ bf) fun σ5 bf6 => hj_o1 (fX2_carryOut (σ5 3) (σ5 11) x1 x2) fun ρ7 => hj_nm (va_up σ5 11 ρ7) fun σ8 => some ((-9), σ8, bf6)))
set_option maxHeartbeats 4000000 in
set_option maxRecDepth 100000 in
theorem wX5_doAct {p : Program} {l : Launch} {e : Env} {s : State} {m : MethodId} {args : Array Value} {below : List Frame} {meth : Method} {c : Code} {g : hj_G} {ad : Nat → Nat} (hI : hj_I 73 ad) (C : hj_C p s m args meth c cX5_doAct RX5 wsX5_doAct 3 (some .int)) (hK : hj_K g s) {σ : Nat → hj_Ob} {bf : Nat → Nat} {sd : Int64} {x1 : Int32} {x2 : Int32} {rF : Int32} {σF : Nat → hj_Ob} {bfF : Nat → Nat}
    (hf : fX5_doAct σ bf sd x1 x2 = some (rF, σF, bfF)) {H : Heap} {locs : List Loc} {ls : Array Slot} (hP : hj_P g 73 ad (hj_wx g ad σ bf sd) H) (hS : hj_S 73 ad s H locs) (hl : lv_has ls 3 [(0, .ref (ad 0)), (1, .int x1), (2, .int x2)]) :
    W p l e rmX5_doAct s m args below meth c H locs 0 0 (MQ below (hj_QI g 73 ad (hj_wx g ad σF bfF sd) rF s.heap.size) args s 0 0 (hj_A 73 ad s.heap.size)) (F0 m 0 ls []) := by
  obtain ⟨hx, hb, hr, hml, hown, hts, hlocks⟩ := id C
  unfold fX5_doAct at hf
  refine lv_aload_n hx hb dX5_doAct_0 rfl (lv_at hl 0 rfl) ?_
  refine lv_iload_n hx hb dX5_doAct_1 rfl (lv_at hl 2 rfl) ?_
  obtain ⟨r1, hc, hf⟩ := hj_o1_s hf
  refine hj_callVi (nL := 3) (As := [.int x2]) (rest := []) (i0 := 0) (C := RX5) (T := TX5) (N := 10) (ci := 5) ⟨hx, hb, hml, hown, hts⟩ (ctX5_isJuror l g hI hc) (cwV 1 hts gX5_doAct_X5_isJuror rfl rfl rfl (by decide +kernel) ⟨Nat.le_of_ble_eq_true rfl, Nat.le_of_ble_eq_true rfl⟩) hj_Xb0 (fun _ _ _ => trivial) hK hP hS (by decide) wx_at_h rfl rfl hl.1 rfl (Nat.le_of_ble_eq_true rfl) dX5_doAct_2 (fun H locs hP hS => ?_)
  refine lv_if_ne (tgt := 10) hx hb dX5_doAct_5 (by decide) (fun c2 => ?_) (fun c2 => ?_)
  · rw [if_neg c2] at hf
    refine lv_aload_n hx hb dX5_doAct_10 rfl (lv_at hl 0 rfl) ?_
    refine hj_get (ci := 5) (v := .ref (ad 11)) (C := RX5) (T := TX5) (N := 10) hx hb hts iX5_doAct_X5 hown hK hP (by decide) wx_at_h rfl 3 (by decide) mX5_doAct_1 rfl dX5_doAct_11 ?_
    refine lv_iload_n hx hb dX5_doAct_14 rfl (lv_at hl 1 rfl) ?_
    refine lv_iload_n hx hb dX5_doAct_15 rfl (lv_at hl 2 rfl) ?_
    obtain ⟨r3, hc, hf⟩ := hj_o1_s hf
    refine hj_callVi (nL := 3) (As := [.int x1, .int x2]) (rest := []) (i0 := 11) (C := RX2) (T := TX2) (N := 6) (ci := 2) ⟨hx, hb, hml, hown, hts⟩ (ctX2_canDo l g hI (σ := σ) (bf := bf) (sd := sd) wx_R_11 rfl rfl hc) (cwV 2 hts gX5_doAct_X2_canDo rfl rfl rfl (by decide +kernel) ⟨Nat.le_of_ble_eq_true rfl, Nat.le_of_ble_eq_true rfl⟩) hj_Xb0 (fun _ _ _ => trivial) hK hP hS (by decide) (wx_at_r wx_R_11 rfl) rfl rfl hl.1 rfl (Nat.le_of_ble_eq_true rfl) dX5_doAct_16 (fun H locs hP hS => ?_)
    refine lv_if_ne (tgt := 25) hx hb dX5_doAct_19 (by decide) (fun c4 => ?_) (fun c4 => ?_)
    · rw [if_neg c4] at hf
      refine lv_aload_n hx hb dX5_doAct_25 rfl (lv_at hl 0 rfl) ?_
      refine hj_get (ci := 5) (v := .ref (ad 17)) (C := RX5) (T := TX5) (N := 10) hx hb hts iX5_doAct_X5 hown hK hP (by decide) wx_at_h rfl 5 (by decide) mX5_doAct_2 rfl dX5_doAct_26 ?_
      refine lv_aload_n hx hb dX5_doAct_29 rfl (lv_at hl 0 rfl) ?_
      refine hj_get (ci := 5) (v := .ref (ad 11)) (C := RX5) (T := TX5) (N := 10) hx hb hts iX5_doAct_X5 hown hK hP (by decide) wx_at_h rfl 3 (by decide) mX5_doAct_1 rfl dX5_doAct_30 ?_
      obtain ⟨σ5, bf6, hc, hf⟩ := hj_o2_s hf
      refine hj_callVv (nL := 3) (As := [.ref (ad 11)]) (rest := []) (i0 := 17) (C := RX0) (T := TX0) (N := 2) (ci := 0) ⟨hx, hb, hml, hown, hts⟩ (ctX0_remember l g hI (sd := sd) hc) (cwV 1 hts gX5_doAct_X0_remember rfl rfl rfl (by decide +kernel) ⟨Nat.le_of_ble_eq_true rfl, Nat.le_of_ble_eq_true rfl⟩) hj_Xb0 (fun _ _ _ => trivial) hK hP hS (by decide) (wx_at_a rfl) rfl rfl hl.1 rfl (Nat.le_of_ble_eq_true rfl) dX5_doAct_33 (fun H locs hP hS => ?_)
      refine lv_aload_n hx hb dX5_doAct_36 rfl (lv_at hl 0 rfl) ?_
      refine hj_get (ci := 5) (v := .ref (ad 11)) (C := RX5) (T := TX5) (N := 10) hx hb hts iX5_doAct_X5 hown hK hP (by decide) wx_at_h rfl 3 (by decide) mX5_doAct_1 rfl dX5_doAct_37 ?_
      refine lv_iload_n hx hb dX5_doAct_40 rfl (lv_at hl 1 rfl) ?_
      refine lv_iload_n hx hb dX5_doAct_41 rfl (lv_at hl 2 rfl) ?_
      obtain ⟨ρ7, hc, hf⟩ := hj_o1_s hf
      refine hj_callVv (nL := 3) (As := [.int x1, .int x2]) (rest := []) (i0 := 11) (C := RX2) (T := TX2) (N := 6) (ci := 2) ⟨hx, hb, hml, hown, hts⟩ (ctX2_carryOut l g hI (σ := σ5) (bf := bf6) (sd := sd) wx_R_11 rfl rfl hc) (cwV 2 hts gX5_doAct_X2_carryOut rfl rfl rfl (by decide +kernel) ⟨Nat.le_of_ble_eq_true rfl, Nat.le_of_ble_eq_true rfl⟩) hj_Xb0 (fun _ _ _ => trivial) hK hP hS (by decide) (wx_at_r wx_R_11 rfl) rfl rfl hl.1 rfl (Nat.le_of_ble_eq_true rfl) dX5_doAct_42 (fun H locs hP hS => ?_)
      obtain ⟨σ8, eσ8⟩ : ∃ z : Nat → hj_Ob, z = va_up σ5 11 ρ7 := ⟨_, rfl⟩
      replace hf := hj_nm_y hf eσ8
      rw [← eσ8] at hP
      refine lv_bipush (v := (-9)) hx hb dX5_doAct_45 (by decide) ?_
      have hq := Option.some.inj hf
      obtain ⟨rfl, hq0⟩ := Prod.mk.inj hq
      obtain ⟨rfl, rfl⟩ := Prod.mk.inj hq0
      exact hj_reti C hP hK hS dX5_doAct_47
    · rw [if_pos c4] at hf
      refine lv_bipush (v := (-3)) hx hb dX5_doAct_22 (by decide) ?_
      have hq := Option.some.inj hf
      obtain ⟨rfl, hq0⟩ := Prod.mk.inj hq
      obtain ⟨rfl, rfl⟩ := Prod.mk.inj hq0
      exact hj_reti C hP hK hS dX5_doAct_24
  · rw [if_pos c2] at hf
    refine lv_iconst (v := (-1)) hx hb dX5_doAct_8 (by decide) ?_
    have hq := Option.some.inj hf
    obtain ⟨rfl, hq0⟩ := Prod.mk.inj hq
    obtain ⟨rfl, rfl⟩ := Prod.mk.inj hq0
    exact hj_reti C hP hK hS dX5_doAct_9
set_option maxHeartbeats 4000000 in
set_option maxRecDepth 100000 in
theorem ctX5_doAct (l : Launch) (g : hj_G) {ad : Nat → Nat} (hI : hj_I 73 ad) {σ : Nat → hj_Ob} {bf : Nat → Nat} {sd : Int64} {x1 : Int32} {x2 : Int32} {rF : Int32} {σF : Nat → hj_Ob} {bfF : Nat → Nat} (hf : fX5_doAct σ bf sd x1 x2 = some (rF, σF, bfF)) :
    hj_MI l yX5_doAct wsX5_doAct rmX5_doAct g 73 ad hj_X0 [.ref (ad 0), .int x1, .int x2] (hj_wx g ad σ bf sd) rF (hj_wx g ad σF bfF sd) := by
  refine hj_ofI (cc := cX5_doAct) (maxL := 3) (ret := (some .int)) (by decide) rfl (Nat.le_of_ble_eq_true rfl) ?_
  intro p e s m args below meth c ls C hP hK hX hl
  exact wX5_doAct hI C hK hf hP va_S.rf hl

/-! X5_argue -/
abbrev rmX5_argue : Room := { frames := 5, cells := 0, slots := 0, locals := 112 }
theorem iX5_argue_X5 : ∀ w ∈ wsX50, w ∈ wsX5_argue := fun _ h => List.mem_cons_of_mem _ (List.mem_append_left _ (List.mem_append_left _ (List.mem_append_left _ (List.mem_append_right _ h))))
theorem mX5_argue_1 : Cond.fieldLink RX5 31 "HungryJury" "now" "LHungryJury$Room;" ∈ wsX5_argue := List.mem_of_getElem? (i := 1) rfl
theorem iX5_argue_X2 : ∀ w ∈ wsX20, w ∈ wsX5_argue := fun _ h => List.mem_cons_of_mem _ (List.mem_append_left _ (List.mem_append_left _ (List.mem_append_right _ h)))
theorem mX5_argue_2 : Cond.fieldLink RX5 87 "HungryJury$Room" "stubborn" "[I" ∈ wsX5_argue := List.mem_of_getElem? (i := 2) rfl
def fX5_argue (σ : Nat → hj_Ob) (bf : Nat → Nat) (sd : Int64) (x1 : Int32) : Option (Int32 × (Nat → hj_Ob) × (Nat → Nat)) :=
  hj_o3 (fX5_doAct σ bf sd 1 x1) fun r1 σ2 bf3 => if r1 = (-9) then (hj_o1 (fX5_isJuror σ2 bf3 sd x1) fun r5 => if r5 = 0 then (some (r1, σ2, bf3)) else (hj_ck x1 6 (some ((σ2 11).2 1 x1.toNatClampNeg, σ2, bf3)))) else (some (r1, σ2, bf3))
set_option maxHeartbeats 4000000 in
set_option maxRecDepth 100000 in
theorem wX5_argue {p : Program} {l : Launch} {e : Env} {s : State} {m : MethodId} {args : Array Value} {below : List Frame} {meth : Method} {c : Code} {g : hj_G} {ad : Nat → Nat} (hI : hj_I 73 ad) (C : hj_C p s m args meth c cX5_argue RX5 wsX5_argue 3 (some .int)) (hK : hj_K g s) {σ : Nat → hj_Ob} {bf : Nat → Nat} {sd : Int64} {x1 : Int32} {rF : Int32} {σF : Nat → hj_Ob} {bfF : Nat → Nat}
    (hf : fX5_argue σ bf sd x1 = some (rF, σF, bfF)) {H : Heap} {locs : List Loc} {ls : Array Slot} (hP : hj_P g 73 ad (hj_wx g ad σ bf sd) H) (hS : hj_S 73 ad s H locs) (hl : lv_has ls 3 [(0, .ref (ad 0)), (1, .int x1)]) :
    W p l e rmX5_argue s m args below meth c H locs 0 0 (MQ below (hj_QI g 73 ad (hj_wx g ad σF bfF sd) rF s.heap.size) args s 0 0 (hj_A 73 ad s.heap.size)) (F0 m 0 ls []) := by
  obtain ⟨hx, hb, hr, hml, hown, hts, hlocks⟩ := id C
  unfold fX5_argue at hf
  refine lv_aload_n hx hb dX5_argue_0 rfl (lv_at hl 0 rfl) ?_
  refine lv_iconst (v := 1) hx hb dX5_argue_1 (by decide) ?_
  refine lv_iload_n hx hb dX5_argue_2 rfl (lv_at hl 1 rfl) ?_
  obtain ⟨r1, σ2, bf3, hc, hf⟩ := hj_o3_s hf
  refine hj_callVi (nL := 3) (As := [.int 1, .int x1]) (rest := []) (i0 := 0) (C := RX5) (T := TX5) (N := 10) (ci := 5) ⟨hx, hb, hml, hown, hts⟩ (ctX5_doAct l g hI hc) (cwV 2 hts gX5_argue_X5_doAct rfl rfl rfl (by decide +kernel) ⟨Nat.le_of_ble_eq_true rfl, Nat.le_of_ble_eq_true rfl⟩) hj_Xb0 (fun _ _ _ => trivial) hK hP hS (by decide) wx_at_h rfl rfl hl.1 rfl (Nat.le_of_ble_eq_true rfl) dX5_argue_3 (fun H locs hP hS => ?_)
  refine lv_istore_n (lv' := [(2, .int r1), (0, .ref (ad 0)), (1, .int x1)]) hx hb dX5_argue_6 rfl hl (by decide) rfl (fun ls hl => ?_)
  refine lv_iload_n hx hb dX5_argue_7 rfl (lv_at hl 0 rfl) ?_
  refine lv_bipush (v := (-9)) hx hb dX5_argue_8 (by decide) ?_
  refine lv_icmp_ne (tgt := 21) hx hb dX5_argue_10 (by decide) (fun c4 => ?_) (fun c4 => ?_)
  · rw [if_neg c4] at hf
    refine lv_iload_n hx hb dX5_argue_21 rfl (lv_at hl 0 rfl) ?_
    have hq := Option.some.inj hf
    obtain ⟨rfl, hq0⟩ := Prod.mk.inj hq
    obtain ⟨rfl, rfl⟩ := Prod.mk.inj hq0
    exact hj_reti C hP hK hS dX5_argue_22
  · rw [if_pos c4] at hf
    refine lv_aload_n hx hb dX5_argue_13 rfl (lv_at hl 1 rfl) ?_
    refine lv_iload_n hx hb dX5_argue_14 rfl (lv_at hl 2 rfl) ?_
    obtain ⟨r5, hc, hf⟩ := hj_o1_s hf
    refine hj_callVi (nL := 3) (As := [.int x1]) (rest := []) (i0 := 0) (C := RX5) (T := TX5) (N := 10) (ci := 5) ⟨hx, hb, hml, hown, hts⟩ (ctX5_isJuror l g hI hc) (cwV 1 hts gX5_argue_X5_isJuror rfl rfl rfl (by decide +kernel) ⟨Nat.le_of_ble_eq_true rfl, Nat.le_of_ble_eq_true rfl⟩) hj_Xb0 (fun _ _ _ => trivial) hK hP hS (by decide) wx_at_h rfl rfl hl.1 rfl (Nat.le_of_ble_eq_true rfl) dX5_argue_15 (fun H locs hP hS => ?_)
    refine lv_if_ne (tgt := 23) hx hb dX5_argue_18 (by decide) (fun c6 => ?_) (fun c6 => ?_)
    · rw [if_neg c6] at hf
      refine lv_aload_n hx hb dX5_argue_23 rfl (lv_at hl 1 rfl) ?_
      refine hj_get (ci := 5) (v := .ref (ad 11)) (C := RX5) (T := TX5) (N := 10) hx hb hts iX5_argue_X5 hown hK hP (by decide) wx_at_h rfl 3 (by decide) mX5_argue_1 rfl dX5_argue_24 ?_
      refine hj_get (ci := 2) (v := .ref (ad (11 + 1))) (C := RX2) (T := TX2) (N := 6) hx hb hts iX5_argue_X2 hown hK hP (by decide) (wx_at_r wx_R_11 rfl) rfl 1 (by decide) mX5_argue_2 rfl dX5_argue_27 ?_
      refine lv_iload_n hx hb dX5_argue_30 rfl (lv_at hl 2 rfl) ?_
      obtain ⟨hk7, hf⟩ := hj_ck_s hf
      refine hj_ial (f := (σ2 11).2 1) hx hb hK hP (by decide) (wx_at_ra 1 wx_R_11 (by decide) rfl) hk7 dX5_argue_31 ?_
      have hq := Option.some.inj hf
      obtain ⟨rfl, hq0⟩ := Prod.mk.inj hq
      obtain ⟨rfl, rfl⟩ := Prod.mk.inj hq0
      exact hj_reti C hP hK hS dX5_argue_32
    · rw [if_pos c6] at hf
      refine lv_iload_n hx hb dX5_argue_21 rfl (lv_at hl 0 rfl) ?_
      have hq := Option.some.inj hf
      obtain ⟨rfl, hq0⟩ := Prod.mk.inj hq
      obtain ⟨rfl, rfl⟩ := Prod.mk.inj hq0
      exact hj_reti C hP hK hS dX5_argue_22
set_option maxHeartbeats 4000000 in
set_option maxRecDepth 100000 in
theorem ctX5_argue (l : Launch) (g : hj_G) {ad : Nat → Nat} (hI : hj_I 73 ad) {σ : Nat → hj_Ob} {bf : Nat → Nat} {sd : Int64} {x1 : Int32} {rF : Int32} {σF : Nat → hj_Ob} {bfF : Nat → Nat} (hf : fX5_argue σ bf sd x1 = some (rF, σF, bfF)) :
    hj_MI l yX5_argue wsX5_argue rmX5_argue g 73 ad hj_X0 [.ref (ad 0), .int x1] (hj_wx g ad σ bf sd) rF (hj_wx g ad σF bfF sd) := by
  refine hj_ofI (cc := cX5_argue) (maxL := 3) (ret := (some .int)) (by decide) rfl (Nat.le_of_ble_eq_true rfl) ?_
  intro p e s m args below meth c ls C hP hK hX hl
  exact wX5_argue hI C hK hf hP va_S.rf hl

/-! X5_feed -/
abbrev rmX5_feed : Room := { frames := 5, cells := 0, slots := 0, locals := 112 }
theorem iX5_feed_X5 : ∀ w ∈ wsX50, w ∈ wsX5_feed := fun _ h => List.mem_cons_of_mem _ (List.mem_append_left _ (List.mem_append_left _ (List.mem_append_left _ (List.mem_append_right _ h))))
theorem mX5_feed_1 : Cond.fieldLink RX5 31 "HungryJury" "now" "LHungryJury$Room;" ∈ wsX5_feed := List.mem_of_getElem? (i := 1) rfl
theorem iX5_feed_X2 : ∀ w ∈ wsX20, w ∈ wsX5_feed := fun _ h => List.mem_cons_of_mem _ (List.mem_append_left _ (List.mem_append_left _ (List.mem_append_right _ h)))
theorem mX5_feed_2 : Cond.fieldLink RX5 94 "HungryJury$Room" "hunger" "[I" ∈ wsX5_feed := List.mem_of_getElem? (i := 2) rfl
def fX5_feed_21 (σ : Nat → hj_Ob) (bf : Nat → Nat) (sd : Int64) (x1 : Int32) (z0 : Int32) : Option (Int32 × (Nat → hj_Ob) × (Nat → Nat)) :=
  hj_o3 (fX5_doAct σ bf sd 2 x1) fun r3 σ4 bf5 => if r3 = (-9) then (some (z0, σ4, bf5)) else (some (r3, σ4, bf5))
set_option maxHeartbeats 4000000 in
set_option maxRecDepth 100000 in
theorem wX5_feed_21 {p : Program} {l : Launch} {e : Env} {s : State} {m : MethodId} {args : Array Value} {below : List Frame} {meth : Method} {c : Code} {g : hj_G} {ad : Nat → Nat} (hI : hj_I 73 ad) (C : hj_C p s m args meth c cX5_feed RX5 wsX5_feed 4 (some .int)) (hK : hj_K g s) {σ : Nat → hj_Ob} {bf : Nat → Nat} {sd : Int64} {x1 : Int32} {z0 : Int32} {rF : Int32} {σF : Nat → hj_Ob} {bfF : Nat → Nat}
    (hf : fX5_feed_21 σ bf sd x1 z0 = some (rF, σF, bfF)) {H : Heap} {locs : List Loc} {ls : Array Slot} (hP : hj_P g 73 ad (hj_wx g ad σ bf sd) H) (hS : hj_S 73 ad s H locs) (hl : lv_has ls 4 [(0, .ref (ad 0)), (1, .int x1)]) :
    W p l e rmX5_feed s m args below meth c H locs 0 0 (MQ below (hj_QI g 73 ad (hj_wx g ad σF bfF sd) rF s.heap.size) args s 0 0 (hj_A 73 ad s.heap.size)) (F0 m 21 ls [.int z0]) := by
  obtain ⟨hx, hb, hr, hml, hown, hts, hlocks⟩ := id C
  unfold fX5_feed_21 at hf
  refine lv_istore_n (lv' := [(2, .int z0), (0, .ref (ad 0)), (1, .int x1)]) hx hb dX5_feed_21 rfl hl (by decide) rfl (fun ls hl => ?_)
  refine lv_aload_n hx hb dX5_feed_22 rfl (lv_at hl 1 rfl) ?_
  refine lv_iconst (v := 2) hx hb dX5_feed_23 (by decide) ?_
  refine lv_iload_n hx hb dX5_feed_24 rfl (lv_at hl 2 rfl) ?_
  obtain ⟨r3, σ4, bf5, hc, hf⟩ := hj_o3_s hf
  refine hj_callVi (nL := 4) (As := [.int 2, .int x1]) (rest := []) (i0 := 0) (C := RX5) (T := TX5) (N := 10) (ci := 5) ⟨hx, hb, hml, hown, hts⟩ (ctX5_doAct l g hI hc) (cwV 2 hts gX5_feed_X5_doAct rfl rfl rfl (by decide +kernel) ⟨Nat.le_of_ble_eq_true rfl, Nat.le_of_ble_eq_true rfl⟩) hj_Xb0 (fun _ _ _ => trivial) hK hP hS (by decide) wx_at_h rfl rfl hl.1 rfl (Nat.le_of_ble_eq_true rfl) dX5_feed_25 (fun H locs hP hS => ?_)
  refine lv_istore_n (lv' := [(3, .int r3), (2, .int z0), (0, .ref (ad 0)), (1, .int x1)]) hx hb dX5_feed_28 rfl hl (by decide) rfl (fun ls hl => ?_)
  refine lv_iload_n hx hb dX5_feed_29 rfl (lv_at hl 0 rfl) ?_
  refine lv_bipush (v := (-9)) hx hb dX5_feed_30 (by decide) ?_
  refine lv_icmp_eq (tgt := 39) hx hb dX5_feed_32 (by decide) (fun c6 => ?_) (fun c6 => ?_)
  · rw [if_pos c6] at hf
    refine lv_iload_n hx hb dX5_feed_39 rfl (lv_at hl 1 rfl) ?_
    have hq := Option.some.inj hf
    obtain ⟨rfl, hq0⟩ := Prod.mk.inj hq
    obtain ⟨rfl, rfl⟩ := Prod.mk.inj hq0
    exact hj_reti C hP hK hS dX5_feed_40
  · rw [if_neg c6] at hf
    refine lv_iload_n hx hb dX5_feed_35 rfl (lv_at hl 0 rfl) ?_
    refine lv_goto (tgt := 40) hx hb dX5_feed_36 (by decide) ?_
    have hq := Option.some.inj hf
    obtain ⟨rfl, hq0⟩ := Prod.mk.inj hq
    obtain ⟨rfl, rfl⟩ := Prod.mk.inj hq0
    exact hj_reti C hP hK hS dX5_feed_40
def fX5_feed (σ : Nat → hj_Ob) (bf : Nat → Nat) (sd : Int64) (x1 : Int32) : Option (Int32 × (Nat → hj_Ob) × (Nat → Nat)) :=
  hj_o1 (fX5_isJuror σ bf sd x1) fun r1 => if r1 = 0 then (fX5_feed_21 σ bf sd x1 0) else (hj_ck x1 6 (fX5_feed_21 σ bf sd x1 ((σ 11).2 2 x1.toNatClampNeg)))
set_option maxHeartbeats 4000000 in
set_option maxRecDepth 100000 in
theorem wX5_feed {p : Program} {l : Launch} {e : Env} {s : State} {m : MethodId} {args : Array Value} {below : List Frame} {meth : Method} {c : Code} {g : hj_G} {ad : Nat → Nat} (hI : hj_I 73 ad) (C : hj_C p s m args meth c cX5_feed RX5 wsX5_feed 4 (some .int)) (hK : hj_K g s) {σ : Nat → hj_Ob} {bf : Nat → Nat} {sd : Int64} {x1 : Int32} {rF : Int32} {σF : Nat → hj_Ob} {bfF : Nat → Nat}
    (hf : fX5_feed σ bf sd x1 = some (rF, σF, bfF)) {H : Heap} {locs : List Loc} {ls : Array Slot} (hP : hj_P g 73 ad (hj_wx g ad σ bf sd) H) (hS : hj_S 73 ad s H locs) (hl : lv_has ls 4 [(0, .ref (ad 0)), (1, .int x1)]) :
    W p l e rmX5_feed s m args below meth c H locs 0 0 (MQ below (hj_QI g 73 ad (hj_wx g ad σF bfF sd) rF s.heap.size) args s 0 0 (hj_A 73 ad s.heap.size)) (F0 m 0 ls []) := by
  obtain ⟨hx, hb, hr, hml, hown, hts, hlocks⟩ := id C
  unfold fX5_feed at hf
  refine lv_aload_n hx hb dX5_feed_0 rfl (lv_at hl 0 rfl) ?_
  refine lv_iload_n hx hb dX5_feed_1 rfl (lv_at hl 1 rfl) ?_
  obtain ⟨r1, hc, hf⟩ := hj_o1_s hf
  refine hj_callVi (nL := 4) (As := [.int x1]) (rest := []) (i0 := 0) (C := RX5) (T := TX5) (N := 10) (ci := 5) ⟨hx, hb, hml, hown, hts⟩ (ctX5_isJuror l g hI hc) (cwV 1 hts gX5_feed_X5_isJuror rfl rfl rfl (by decide +kernel) ⟨Nat.le_of_ble_eq_true rfl, Nat.le_of_ble_eq_true rfl⟩) hj_Xb0 (fun _ _ _ => trivial) hK hP hS (by decide) wx_at_h rfl rfl hl.1 rfl (Nat.le_of_ble_eq_true rfl) dX5_feed_2 (fun H locs hP hS => ?_)
  refine lv_if_eq (tgt := 20) hx hb dX5_feed_5 (by decide) (fun c2 => ?_) (fun c2 => ?_)
  · rw [if_pos c2] at hf
    refine lv_iconst (v := 0) hx hb dX5_feed_20 (by decide) ?_
    exact wX5_feed_21 hI C hK  hf hP hS (lv_sub hl [0, 1] rfl)
  · rw [if_neg c2] at hf
    refine lv_aload_n hx hb dX5_feed_8 rfl (lv_at hl 0 rfl) ?_
    refine hj_get (ci := 5) (v := .ref (ad 11)) (C := RX5) (T := TX5) (N := 10) hx hb hts iX5_feed_X5 hown hK hP (by decide) wx_at_h rfl 3 (by decide) mX5_feed_1 rfl dX5_feed_9 ?_
    refine hj_get (ci := 2) (v := .ref (ad (11 + 2))) (C := RX2) (T := TX2) (N := 6) hx hb hts iX5_feed_X2 hown hK hP (by decide) (wx_at_r wx_R_11 rfl) rfl 2 (by decide) mX5_feed_2 rfl dX5_feed_12 ?_
    refine lv_iload_n hx hb dX5_feed_15 rfl (lv_at hl 1 rfl) ?_
    obtain ⟨hk7, hf⟩ := hj_ck_s hf
    refine hj_ial (f := (σ 11).2 2) hx hb hK hP (by decide) (wx_at_ra 2 wx_R_11 (by decide) rfl) hk7 dX5_feed_16 ?_
    refine lv_goto (tgt := 21) hx hb dX5_feed_17 (by decide) ?_
    exact wX5_feed_21 hI C hK  hf hP hS (lv_sub hl [0, 1] rfl)
set_option maxHeartbeats 4000000 in
set_option maxRecDepth 100000 in
theorem ctX5_feed (l : Launch) (g : hj_G) {ad : Nat → Nat} (hI : hj_I 73 ad) {σ : Nat → hj_Ob} {bf : Nat → Nat} {sd : Int64} {x1 : Int32} {rF : Int32} {σF : Nat → hj_Ob} {bfF : Nat → Nat} (hf : fX5_feed σ bf sd x1 = some (rF, σF, bfF)) :
    hj_MI l yX5_feed wsX5_feed rmX5_feed g 73 ad hj_X0 [.ref (ad 0), .int x1] (hj_wx g ad σ bf sd) rF (hj_wx g ad σF bfF sd) := by
  refine hj_ofI (cc := cX5_feed) (maxL := 4) (ret := (some .int)) (by decide) rfl (Nat.le_of_ble_eq_true rfl) ?_
  intro p e s m args below meth c ls C hP hK hX hl
  exact wX5_feed hI C hK hf hP va_S.rf hl

/-! X5_die -/
abbrev rmX5_die : Room := { frames := 5, cells := 0, slots := 0, locals := 112 }
theorem iX5_die_X5 : ∀ w ∈ wsX50, w ∈ wsX5_die := fun _ h => List.mem_cons_of_mem _ (List.mem_append_left _ (List.mem_append_left _ (List.mem_append_left _ (List.mem_append_right _ h))))
theorem mX5_die_1 : Cond.fieldLink RX5 31 "HungryJury" "now" "LHungryJury$Room;" ∈ wsX5_die := List.mem_of_getElem? (i := 1) rfl
theorem iX5_die_X2 : ∀ w ∈ wsX20, w ∈ wsX5_die := fun _ h => List.mem_cons_of_mem _ (List.mem_append_left _ (List.mem_append_left _ (List.mem_append_right _ h)))
theorem mX5_die_2 : Cond.fieldLink RX5 121 "HungryJury$Room" "there" "I" ∈ wsX5_die := List.mem_of_getElem? (i := 2) rfl
def fX5_die (σ : Nat → hj_Ob) (bf : Nat → Nat) (sd : Int64) (x1 : Int32) : Option (Int32 × (Nat → hj_Ob) × (Nat → Nat)) :=
  hj_o3 (fX5_doAct σ bf sd 3 x1) fun r1 σ2 bf3 => if r1 = (-9) then (hj_o1 (fJ6_bitCount_0f7a4 ((σ2 11).1 4)) fun r5 => some (r5, σ2, bf3)) else (some (r1, σ2, bf3))
set_option maxHeartbeats 4000000 in
set_option maxRecDepth 100000 in
theorem wX5_die {p : Program} {l : Launch} {e : Env} {s : State} {m : MethodId} {args : Array Value} {below : List Frame} {meth : Method} {c : Code} {g : hj_G} {ad : Nat → Nat} (hI : hj_I 73 ad) (C : hj_C p s m args meth c cX5_die RX5 wsX5_die 3 (some .int)) (hK : hj_K g s) {σ : Nat → hj_Ob} {bf : Nat → Nat} {sd : Int64} {x1 : Int32} {rF : Int32} {σF : Nat → hj_Ob} {bfF : Nat → Nat}
    (hf : fX5_die σ bf sd x1 = some (rF, σF, bfF)) {H : Heap} {locs : List Loc} {ls : Array Slot} (hP : hj_P g 73 ad (hj_wx g ad σ bf sd) H) (hS : hj_S 73 ad s H locs) (hl : lv_has ls 3 [(0, .ref (ad 0)), (1, .int x1)]) :
    W p l e rmX5_die s m args below meth c H locs 0 0 (MQ below (hj_QI g 73 ad (hj_wx g ad σF bfF sd) rF s.heap.size) args s 0 0 (hj_A 73 ad s.heap.size)) (F0 m 0 ls []) := by
  obtain ⟨hx, hb, hr, hml, hown, hts, hlocks⟩ := id C
  unfold fX5_die at hf
  refine lv_aload_n hx hb dX5_die_0 rfl (lv_at hl 0 rfl) ?_
  refine lv_iconst (v := 3) hx hb dX5_die_1 (by decide) ?_
  refine lv_iload_n hx hb dX5_die_2 rfl (lv_at hl 1 rfl) ?_
  obtain ⟨r1, σ2, bf3, hc, hf⟩ := hj_o3_s hf
  refine hj_callVi (nL := 3) (As := [.int 3, .int x1]) (rest := []) (i0 := 0) (C := RX5) (T := TX5) (N := 10) (ci := 5) ⟨hx, hb, hml, hown, hts⟩ (ctX5_doAct l g hI hc) (cwV 2 hts gX5_die_X5_doAct rfl rfl rfl (by decide +kernel) ⟨Nat.le_of_ble_eq_true rfl, Nat.le_of_ble_eq_true rfl⟩) hj_Xb0 (fun _ _ _ => trivial) hK hP hS (by decide) wx_at_h rfl rfl hl.1 rfl (Nat.le_of_ble_eq_true rfl) dX5_die_3 (fun H locs hP hS => ?_)
  refine lv_istore_n (lv' := [(2, .int r1), (0, .ref (ad 0)), (1, .int x1)]) hx hb dX5_die_6 rfl hl (by decide) rfl (fun ls hl => ?_)
  refine lv_iload_n hx hb dX5_die_7 rfl (lv_at hl 0 rfl) ?_
  refine lv_bipush (v := (-9)) hx hb dX5_die_8 (by decide) ?_
  refine lv_icmp_eq (tgt := 17) hx hb dX5_die_10 (by decide) (fun c4 => ?_) (fun c4 => ?_)
  · rw [if_pos c4] at hf
    refine lv_aload_n hx hb dX5_die_17 rfl (lv_at hl 1 rfl) ?_
    refine hj_get (ci := 5) (v := .ref (ad 11)) (C := RX5) (T := TX5) (N := 10) hx hb hts iX5_die_X5 hown hK hP (by decide) wx_at_h rfl 3 (by decide) mX5_die_1 rfl dX5_die_18 ?_
    refine hj_get (ci := 2) (v := .int ((σ2 11).1 4)) (C := RX2) (T := TX2) (N := 6) hx hb hts iX5_die_X2 hown hK hP (by decide) (wx_at_r wx_R_11 rfl) rfl 4 (by decide) mX5_die_2 rfl dX5_die_21 ?_
    obtain ⟨r5, hc, hf⟩ := hj_o1_s hf
    refine hj_callSi (nL := 3) (As := [.int ((σ2 11).1 4)]) (rest := []) ⟨hx, hb, hml, hown, hts⟩ (ctJ6_bitCount_0f7a4 l g (n := 73) (ad := ad) (w := (hj_wx g ad σ2 bf3 sd)) hc) (va_cwS 1 hts gX5_die_J6_bitCount_0f7a4 rfl rfl rfl (by decide +kernel) ⟨Nat.le_of_ble_eq_true rfl, Nat.le_of_ble_eq_true rfl⟩) hj_Xb0 (fun _ _ _ => trivial) hK hP hS rfl hl.1 rfl (Nat.le_of_ble_eq_true rfl) dX5_die_24 (fun H locs hP hS => ?_)
    have hq := Option.some.inj hf
    obtain ⟨rfl, hq0⟩ := Prod.mk.inj hq
    obtain ⟨rfl, rfl⟩ := Prod.mk.inj hq0
    exact hj_reti C hP hK hS dX5_die_27
  · rw [if_neg c4] at hf
    refine lv_iload_n hx hb dX5_die_13 rfl (lv_at hl 0 rfl) ?_
    refine lv_goto (tgt := 27) hx hb dX5_die_14 (by decide) ?_
    have hq := Option.some.inj hf
    obtain ⟨rfl, hq0⟩ := Prod.mk.inj hq
    obtain ⟨rfl, rfl⟩ := Prod.mk.inj hq0
    exact hj_reti C hP hK hS dX5_die_27
set_option maxHeartbeats 4000000 in
set_option maxRecDepth 100000 in
theorem ctX5_die (l : Launch) (g : hj_G) {ad : Nat → Nat} (hI : hj_I 73 ad) {σ : Nat → hj_Ob} {bf : Nat → Nat} {sd : Int64} {x1 : Int32} {rF : Int32} {σF : Nat → hj_Ob} {bfF : Nat → Nat} (hf : fX5_die σ bf sd x1 = some (rF, σF, bfF)) :
    hj_MI l yX5_die wsX5_die rmX5_die g 73 ad hj_X0 [.ref (ad 0), .int x1] (hj_wx g ad σ bf sd) rF (hj_wx g ad σF bfF sd) := by
  refine hj_ofI (cc := cX5_die) (maxL := 3) (ret := (some .int)) (by decide) rfl (Nat.le_of_ble_eq_true rfl) ?_
  intro p e s m args below meth c ls C hP hK hX hl
  exact wX5_die hI C hK hf hP va_S.rf hl

/-! X5_toss -/
abbrev rmX5_toss : Room := { frames := 5, cells := 0, slots := 0, locals := 112 }
theorem iX5_toss_X5 : ∀ w ∈ wsX50, w ∈ wsX5_toss := fun _ h => List.mem_cons_of_mem _ (List.mem_append_left _ (List.mem_append_left _ (List.mem_append_left _ (List.mem_append_right _ h))))
theorem mX5_toss_1 : Cond.fieldLink RX5 31 "HungryJury" "now" "LHungryJury$Room;" ∈ wsX5_toss := List.mem_of_getElem? (i := 1) rfl
def fX5_toss (σ : Nat → hj_Ob) (bf : Nat → Nat) (sd : Int64) (x1 : Int32) : Option (Int32 × (Nat → hj_Ob) × (Nat → Nat)) :=
  hj_o3 (fX5_doAct σ bf sd 4 x1) fun r1 σ2 bf3 => if r1 = (-9) then (hj_o1 (fX2_isYes (σ2 3) (σ2 11) x1) fun r5 => if r5 = 0 then (some (0, σ2, bf3)) else (some (1, σ2, bf3))) else (some (r1, σ2, bf3))
set_option maxHeartbeats 4000000 in
set_option maxRecDepth 100000 in
theorem wX5_toss {p : Program} {l : Launch} {e : Env} {s : State} {m : MethodId} {args : Array Value} {below : List Frame} {meth : Method} {c : Code} {g : hj_G} {ad : Nat → Nat} (hI : hj_I 73 ad) (C : hj_C p s m args meth c cX5_toss RX5 wsX5_toss 3 (some .int)) (hK : hj_K g s) {σ : Nat → hj_Ob} {bf : Nat → Nat} {sd : Int64} {x1 : Int32} {rF : Int32} {σF : Nat → hj_Ob} {bfF : Nat → Nat}
    (hf : fX5_toss σ bf sd x1 = some (rF, σF, bfF)) {H : Heap} {locs : List Loc} {ls : Array Slot} (hP : hj_P g 73 ad (hj_wx g ad σ bf sd) H) (hS : hj_S 73 ad s H locs) (hl : lv_has ls 3 [(0, .ref (ad 0)), (1, .int x1)]) :
    W p l e rmX5_toss s m args below meth c H locs 0 0 (MQ below (hj_QI g 73 ad (hj_wx g ad σF bfF sd) rF s.heap.size) args s 0 0 (hj_A 73 ad s.heap.size)) (F0 m 0 ls []) := by
  obtain ⟨hx, hb, hr, hml, hown, hts, hlocks⟩ := id C
  unfold fX5_toss at hf
  refine lv_aload_n hx hb dX5_toss_0 rfl (lv_at hl 0 rfl) ?_
  refine lv_iconst (v := 4) hx hb dX5_toss_1 (by decide) ?_
  refine lv_iload_n hx hb dX5_toss_2 rfl (lv_at hl 1 rfl) ?_
  obtain ⟨r1, σ2, bf3, hc, hf⟩ := hj_o3_s hf
  refine hj_callVi (nL := 3) (As := [.int 4, .int x1]) (rest := []) (i0 := 0) (C := RX5) (T := TX5) (N := 10) (ci := 5) ⟨hx, hb, hml, hown, hts⟩ (ctX5_doAct l g hI hc) (cwV 2 hts gX5_toss_X5_doAct rfl rfl rfl (by decide +kernel) ⟨Nat.le_of_ble_eq_true rfl, Nat.le_of_ble_eq_true rfl⟩) hj_Xb0 (fun _ _ _ => trivial) hK hP hS (by decide) wx_at_h rfl rfl hl.1 rfl (Nat.le_of_ble_eq_true rfl) dX5_toss_3 (fun H locs hP hS => ?_)
  refine lv_istore_n (lv' := [(2, .int r1), (0, .ref (ad 0)), (1, .int x1)]) hx hb dX5_toss_6 rfl hl (by decide) rfl (fun ls hl => ?_)
  refine lv_iload_n hx hb dX5_toss_7 rfl (lv_at hl 0 rfl) ?_
  refine lv_bipush (v := (-9)) hx hb dX5_toss_8 (by decide) ?_
  refine lv_icmp_eq (tgt := 15) hx hb dX5_toss_10 (by decide) (fun c4 => ?_) (fun c4 => ?_)
  · rw [if_pos c4] at hf
    refine lv_aload_n hx hb dX5_toss_15 rfl (lv_at hl 1 rfl) ?_
    refine hj_get (ci := 5) (v := .ref (ad 11)) (C := RX5) (T := TX5) (N := 10) hx hb hts iX5_toss_X5 hown hK hP (by decide) wx_at_h rfl 3 (by decide) mX5_toss_1 rfl dX5_toss_16 ?_
    refine lv_iload_n hx hb dX5_toss_19 rfl (lv_at hl 2 rfl) ?_
    obtain ⟨r5, hc, hf⟩ := hj_o1_s hf
    refine hj_callVi (nL := 3) (As := [.int x1]) (rest := []) (i0 := 11) (C := RX2) (T := TX2) (N := 6) (ci := 2) ⟨hx, hb, hml, hown, hts⟩ (ctX2_isYes l g hI (σ := σ2) (bf := bf3) (sd := sd) wx_R_11 rfl rfl hc) (cwV 1 hts gX5_toss_X2_isYes rfl rfl rfl (by decide +kernel) ⟨Nat.le_of_ble_eq_true rfl, Nat.le_of_ble_eq_true rfl⟩) hj_Xb0 (fun _ _ _ => trivial) hK hP hS (by decide) (wx_at_r wx_R_11 rfl) rfl rfl hl.1 rfl (Nat.le_of_ble_eq_true rfl) dX5_toss_20 (fun H locs hP hS => ?_)
    refine lv_if_eq (tgt := 30) hx hb dX5_toss_23 (by decide) (fun c6 => ?_) (fun c6 => ?_)
    · rw [if_pos c6] at hf
      refine lv_iconst (v := 0) hx hb dX5_toss_30 (by decide) ?_
      have hq := Option.some.inj hf
      obtain ⟨rfl, hq0⟩ := Prod.mk.inj hq
      obtain ⟨rfl, rfl⟩ := Prod.mk.inj hq0
      exact hj_reti C hP hK hS dX5_toss_31
    · rw [if_neg c6] at hf
      refine lv_iconst (v := 1) hx hb dX5_toss_26 (by decide) ?_
      refine lv_goto (tgt := 31) hx hb dX5_toss_27 (by decide) ?_
      have hq := Option.some.inj hf
      obtain ⟨rfl, hq0⟩ := Prod.mk.inj hq
      obtain ⟨rfl, rfl⟩ := Prod.mk.inj hq0
      exact hj_reti C hP hK hS dX5_toss_31
  · rw [if_neg c4] at hf
    refine lv_iload_n hx hb dX5_toss_13 rfl (lv_at hl 0 rfl) ?_
    have hq := Option.some.inj hf
    obtain ⟨rfl, hq0⟩ := Prod.mk.inj hq
    obtain ⟨rfl, rfl⟩ := Prod.mk.inj hq0
    exact hj_reti C hP hK hS dX5_toss_14
set_option maxHeartbeats 4000000 in
set_option maxRecDepth 100000 in
theorem ctX5_toss (l : Launch) (g : hj_G) {ad : Nat → Nat} (hI : hj_I 73 ad) {σ : Nat → hj_Ob} {bf : Nat → Nat} {sd : Int64} {x1 : Int32} {rF : Int32} {σF : Nat → hj_Ob} {bfF : Nat → Nat} (hf : fX5_toss σ bf sd x1 = some (rF, σF, bfF)) :
    hj_MI l yX5_toss wsX5_toss rmX5_toss g 73 ad hj_X0 [.ref (ad 0), .int x1] (hj_wx g ad σ bf sd) rF (hj_wx g ad σF bfF sd) := by
  refine hj_ofI (cc := cX5_toss) (maxL := 3) (ret := (some .int)) (by decide) rfl (Nat.le_of_ble_eq_true rfl) ?_
  intro p e s m args below meth c ls C hP hK hX hl
  exact wX5_toss hI C hK hf hP va_S.rf hl

/-! X5_undo -/
abbrev rmX5_undo : Room := { frames := 2, cells := 0, slots := 0, locals := 43 }
theorem iX5_undo_X5 : ∀ w ∈ wsX50, w ∈ wsX5_undo := fun _ h => List.mem_cons_of_mem _ (List.mem_append_left _ (List.mem_append_left _ (List.mem_append_right _ h)))
theorem mX5_undo_1 : Cond.fieldLink RX5 41 "HungryJury" "acts" "LHungryJury$Acts;" ∈ wsX5_undo := List.mem_of_getElem? (i := 1) rfl
theorem mX5_undo_2 : Cond.fieldLink RX5 31 "HungryJury" "now" "LHungryJury$Room;" ∈ wsX5_undo := List.mem_of_getElem? (i := 2) rfl
theorem iX5_undo_X0 : ∀ w ∈ wsX00, w ∈ wsX5_undo := fun _ h => List.mem_cons_of_mem _ (List.mem_append_left _ (List.mem_append_right _ h))
theorem mX5_undo_3 : Cond.fieldLink RX5 128 "HungryJury$Acts" "size" "I" ∈ wsX5_undo := List.mem_of_getElem? (i := 3) rfl
def fX5_undo (σ : Nat → hj_Ob) (bf : Nat → Nat) (sd : Int64) : Option (Int32 × (Nat → hj_Ob)) :=
  hj_o2 (fX0_takeBack σ bf) fun r1 σ2 => if r1 = 0 then (some ((-3), σ2)) else (some ((σ2 17).1 1, σ2))
set_option maxHeartbeats 4000000 in
set_option maxRecDepth 100000 in
theorem wX5_undo {p : Program} {l : Launch} {e : Env} {s : State} {m : MethodId} {args : Array Value} {below : List Frame} {meth : Method} {c : Code} {g : hj_G} {ad : Nat → Nat} (hI : hj_I 73 ad) (C : hj_C p s m args meth c cX5_undo RX5 wsX5_undo 1 (some .int)) (hK : hj_K g s) {σ : Nat → hj_Ob} {bf : Nat → Nat} {sd : Int64} {rF : Int32} {σF : Nat → hj_Ob}
    (hf : fX5_undo σ bf sd = some (rF, σF)) {H : Heap} {locs : List Loc} {ls : Array Slot} (hP : hj_P g 73 ad (hj_wx g ad σ bf sd) H) (hS : hj_S 73 ad s H locs) (hl : lv_has ls 1 [(0, .ref (ad 0))]) :
    W p l e rmX5_undo s m args below meth c H locs 0 0 (MQ below (hj_QI g 73 ad (hj_wx g ad σF bf sd) rF s.heap.size) args s 0 0 (hj_A 73 ad s.heap.size)) (F0 m 0 ls []) := by
  obtain ⟨hx, hb, hr, hml, hown, hts, hlocks⟩ := id C
  unfold fX5_undo at hf
  refine lv_aload_n hx hb dX5_undo_0 rfl (lv_at hl 0 rfl) ?_
  refine hj_get (ci := 5) (v := .ref (ad 17)) (C := RX5) (T := TX5) (N := 10) hx hb hts iX5_undo_X5 hown hK hP (by decide) wx_at_h rfl 5 (by decide) mX5_undo_1 rfl dX5_undo_1 ?_
  refine lv_aload_n hx hb dX5_undo_4 rfl (lv_at hl 0 rfl) ?_
  refine hj_get (ci := 5) (v := .ref (ad 11)) (C := RX5) (T := TX5) (N := 10) hx hb hts iX5_undo_X5 hown hK hP (by decide) wx_at_h rfl 3 (by decide) mX5_undo_2 rfl dX5_undo_5 ?_
  obtain ⟨r1, σ2, hc, hf⟩ := hj_o2_s hf
  refine hj_callVi (nL := 1) (As := [.ref (ad 11)]) (rest := []) (i0 := 17) (C := RX0) (T := TX0) (N := 2) (ci := 0) ⟨hx, hb, hml, hown, hts⟩ (ctX0_takeBack l g hI (sd := sd) hc) (cwV 1 hts gX5_undo_X0_takeBack rfl rfl rfl (by decide +kernel) ⟨Nat.le_of_ble_eq_true rfl, Nat.le_of_ble_eq_true rfl⟩) hj_Xb0 (fun _ _ _ => trivial) hK hP hS (by decide) (wx_at_a rfl) rfl rfl hl.1 rfl (Nat.le_of_ble_eq_true rfl) dX5_undo_8 (fun H locs hP hS => ?_)
  refine lv_if_eq (tgt := 24) hx hb dX5_undo_11 (by decide) (fun c3 => ?_) (fun c3 => ?_)
  · rw [if_pos c3] at hf
    refine lv_bipush (v := (-3)) hx hb dX5_undo_24 (by decide) ?_
    have hq := Option.some.inj hf
    obtain ⟨rfl, rfl⟩ := Prod.mk.inj hq
    exact hj_reti C hP hK hS dX5_undo_26
  · rw [if_neg c3] at hf
    refine lv_aload_n hx hb dX5_undo_14 rfl (lv_at hl 0 rfl) ?_
    refine hj_get (ci := 5) (v := .ref (ad 17)) (C := RX5) (T := TX5) (N := 10) hx hb hts iX5_undo_X5 hown hK hP (by decide) wx_at_h rfl 5 (by decide) mX5_undo_1 rfl dX5_undo_15 ?_
    refine hj_get (ci := 0) (v := .int ((σ2 17).1 1)) (C := RX0) (T := TX0) (N := 2) hx hb hts iX5_undo_X0 hown hK hP (by decide) (wx_at_a rfl) rfl 1 (by decide) mX5_undo_3 rfl dX5_undo_18 ?_
    refine lv_goto (tgt := 26) hx hb dX5_undo_21 (by decide) ?_
    have hq := Option.some.inj hf
    obtain ⟨rfl, rfl⟩ := Prod.mk.inj hq
    exact hj_reti C hP hK hS dX5_undo_26
set_option maxHeartbeats 4000000 in
set_option maxRecDepth 100000 in
theorem ctX5_undo (l : Launch) (g : hj_G) {ad : Nat → Nat} (hI : hj_I 73 ad) {σ : Nat → hj_Ob} {bf : Nat → Nat} {sd : Int64} {rF : Int32} {σF : Nat → hj_Ob} (hf : fX5_undo σ bf sd = some (rF, σF)) :
    hj_MI l yX5_undo wsX5_undo rmX5_undo g 73 ad hj_X0 [.ref (ad 0)] (hj_wx g ad σ bf sd) rF (hj_wx g ad σF bf sd) := by
  refine hj_ofI (cc := cX5_undo) (maxL := 1) (ret := (some .int)) (by decide) rfl (Nat.le_of_ble_eq_true rfl) ?_
  intro p e s m args below meth c ls C hP hK hX hl
  exact wX5_undo hI C hK hf hP va_S.rf hl

/-! X5_ahead -/
abbrev rmX5_ahead : Room := { frames := 3, cells := 0, slots := 0, locals := 68 }
theorem iX5_ahead_X5 : ∀ w ∈ wsX50, w ∈ wsX5_ahead := fun _ h => List.mem_cons_of_mem _ (List.mem_append_left _ (List.mem_append_left _ (List.mem_append_right _ h)))
theorem mX5_ahead_1 : Cond.fieldLink RX5 35 "HungryJury" "trial" "LHungryJury$Room;" ∈ wsX5_ahead := List.mem_of_getElem? (i := 1) rfl
theorem mX5_ahead_2 : Cond.fieldLink RX5 31 "HungryJury" "now" "LHungryJury$Room;" ∈ wsX5_ahead := List.mem_of_getElem? (i := 2) rfl
def fX5_ahead_26 (σ : Nat → hj_Ob) (bf : Nat → Nat) (sd : Int64) (x1 : Int32) (x2 : Int32) : Option ((Nat → hj_Ob) ⊕ (Int32 × (Nat → hj_Ob))) :=
  if x1 ≤ x2 then (some (.inl σ)) else (hj_o2 (fX2_passHour (σ 3) (σ 14)) fun r6 ρ7 => hj_nm (va_up σ 14 ρ7) fun σ8 => hj_nm (x2 + 1) fun y9 => some (.inr (y9, σ8)))
set_option maxHeartbeats 4000000 in
set_option maxRecDepth 100000 in
theorem wX5_ahead_26b {p : Program} {l : Launch} {e : Env} {s : State} {m : MethodId} {args : Array Value} {below : List Frame} {meth : Method} {c : Code} {g : hj_G} {ad : Nat → Nat} (hI : hj_I 73 ad) (C : hj_C p s m args meth c cX5_ahead RX5 wsX5_ahead 3 (some .int)) (hK : hj_K g s) {σ : Nat → hj_Ob} {bf : Nat → Nat} {sd : Int64} {x1 : Int32} {x2 : Int32} {y : (Nat → hj_Ob) ⊕ (Int32 × (Nat → hj_Ob))} {rF : Int32} {σF : Nat → hj_Ob}
    (hf : fX5_ahead_26 σ bf sd x1 x2 = some y) (KX : ∀ (σ' : Nat → hj_Ob), y = .inl σ' → ∀ (H : Heap) (locs : List Loc) (ls : Array Slot), hj_P g 73 ad (hj_wx g ad σ' bf sd) H → hj_S 73 ad s H locs → lv_has ls 3 [(0, .ref (ad 0))] → W p l e rmX5_ahead s m args below meth c H locs 0 0 (MQ below (hj_QI g 73 ad (hj_wx g ad σF bf sd) rF s.heap.size) args s 0 0 (hj_A 73 ad s.heap.size)) (F0 m 45 ls [])) (KI : ∀ (v2 : Int32) (σ' : Nat → hj_Ob), y = .inr (v2, σ') → ∀ (H : Heap) (locs : List Loc) (ls : Array Slot), hj_P g 73 ad (hj_wx g ad σ' bf sd) H → hj_S 73 ad s H locs → lv_has ls 3 [(0, .ref (ad 0)), (1, .int x1), (2, .int v2)] → W p l e rmX5_ahead s m args below meth c H locs 0 0 (MQ below (hj_QI g 73 ad (hj_wx g ad σF bf sd) rF s.heap.size) args s 0 0 (hj_A 73 ad s.heap.size)) (F0 m 26 ls [])) {H : Heap} {locs : List Loc} {ls : Array Slot} (hP : hj_P g 73 ad (hj_wx g ad σ bf sd) H) (hS : hj_S 73 ad s H locs) (hl : lv_has ls 3 [(0, .ref (ad 0)), (1, .int x1), (2, .int x2)]) :
    W p l e rmX5_ahead s m args below meth c H locs 0 0 (MQ below (hj_QI g 73 ad (hj_wx g ad σF bf sd) rF s.heap.size) args s 0 0 (hj_A 73 ad s.heap.size)) (F0 m 26 ls []) := by
  obtain ⟨hx, hb, hr, hml, hown, hts, hlocks⟩ := id C
  unfold fX5_ahead_26 at hf
  refine lv_iload_n hx hb dX5_ahead_26 rfl (lv_at hl 2 rfl) ?_
  refine lv_iload_n hx hb dX5_ahead_27 rfl (lv_at hl 1 rfl) ?_
  refine lv_icmp_ge (tgt := 45) hx hb dX5_ahead_28 (by decide) (fun c5 => ?_) (fun c5 => ?_)
  · rw [if_pos c5] at hf
    exact KX _ (Option.some.inj hf).symm _ _ _ hP hS (lv_sub hl [0] rfl)
  · rw [if_neg c5] at hf
    refine lv_aload_n hx hb dX5_ahead_31 rfl (lv_at hl 0 rfl) ?_
    refine hj_get (ci := 5) (v := .ref (ad 14)) (C := RX5) (T := TX5) (N := 10) hx hb hts iX5_ahead_X5 hown hK hP (by decide) wx_at_h rfl 4 (by decide) mX5_ahead_1 rfl dX5_ahead_32 ?_
    obtain ⟨r6, ρ7, hc, hf⟩ := hj_o2_s hf
    refine hj_callVi (nL := 3) (As := []) (rest := []) (i0 := 14) (C := RX2) (T := TX2) (N := 6) (ci := 2) ⟨hx, hb, hml, hown, hts⟩ (ctX2_passHour l g hI (σ := σ) (bf := bf) (sd := sd) wx_R_14 rfl rfl hc) (cwV 0 hts gX5_ahead_X2_passHour rfl rfl rfl (by decide +kernel) ⟨Nat.le_of_ble_eq_true rfl, Nat.le_of_ble_eq_true rfl⟩) hj_Xb0 (fun _ _ _ => trivial) hK hP hS (by decide) (wx_at_r wx_R_14 rfl) rfl rfl hl.1 rfl (Nat.le_of_ble_eq_true rfl) dX5_ahead_35 (fun H locs hP hS => ?_)
    obtain ⟨σ8, eσ8⟩ : ∃ z : Nat → hj_Ob, z = va_up σ 14 ρ7 := ⟨_, rfl⟩
    replace hf := hj_nm_y hf eσ8
    rw [← eσ8] at hP
    refine lv_pop hx hb dX5_ahead_38 rfl ?_
    obtain ⟨y9, ey9⟩ : ∃ z : Int32, z = x2 + 1 := ⟨_, rfl⟩
    replace hf := hj_nm_y hf ey9
    refine lv_iinc (v := y9) (lv' := [(2, .int y9), (0, .ref (ad 0)), (1, .int x1)]) hx hb dX5_ahead_39 hl (k := 2) rfl (by rw [ey9]; rfl) (by decide) rfl (fun ls hl => ?_)
    refine lv_goto (tgt := 26) hx hb dX5_ahead_42 (by decide) ?_
    exact KI _ _ (Option.some.inj hf).symm _ _ _ hP hS (lv_sub hl [1, 2, 0] rfl)
set_option maxHeartbeats 4000000 in
set_option maxRecDepth 100000 in
theorem wX5_ahead_26 {p : Program} {l : Launch} {e : Env} {s : State} {m : MethodId} {args : Array Value} {below : List Frame} {meth : Method} {c : Code} {g : hj_G} {ad : Nat → Nat} (hI : hj_I 73 ad) (C : hj_C p s m args meth c cX5_ahead RX5 wsX5_ahead 3 (some .int)) (hK : hj_K g s) {bf : Nat → Nat} {sd : Int64} {x1 : Int32} {rF : Int32} {σF : Nat → hj_Ob} {σe : Nat → hj_Ob} :
    ∀ (fu : Nat) (x2 : Int32) (σ : Nat → hj_Ob), hj_lp (fun q : (Int32 × (Nat → hj_Ob)) => fX5_ahead_26 q.2 bf sd x1 q.1) fu (x2, σ) = some σe → (∀ (H : Heap) (locs : List Loc) (ls : Array Slot), hj_P g 73 ad (hj_wx g ad σe bf sd) H → hj_S 73 ad s H locs → lv_has ls 3 [(0, .ref (ad 0))] → W p l e rmX5_ahead s m args below meth c H locs 0 0 (MQ below (hj_QI g 73 ad (hj_wx g ad σF bf sd) rF s.heap.size) args s 0 0 (hj_A 73 ad s.heap.size)) (F0 m 45 ls [])) → ∀ (H : Heap) (locs : List Loc) (ls : Array Slot), hj_P g 73 ad (hj_wx g ad σ bf sd) H → hj_S 73 ad s H locs → lv_has ls 3 [(0, .ref (ad 0)), (1, .int x1), (2, .int x2)] →
    W p l e rmX5_ahead s m args below meth c H locs 0 0 (MQ below (hj_QI g 73 ad (hj_wx g ad σF bf sd) rF s.heap.size) args s 0 0 (hj_A 73 ad s.heap.size)) (F0 m 26 ls []) := by
  intro fu
  induction fu with
  | zero => intro x2 σ hq; cases hq
  | succ fu ih =>
    intro x2 σ hq KX H locs ls hP hS hl
    obtain ⟨y, hy, h1, h2⟩ := hj_lp_s hq
    exact wX5_ahead_26b hI C hK  hy (fun σ' hv H locs ls hP hS hl => by obtain rfl := h1 _ hv; exact KX H locs ls hP hS hl) (fun v2 σ' hv H locs ls hP hS hl => ih v2 σ' (h2 _ hv) KX H locs ls hP hS hl) hP hS hl
def fX5_ahead (σ : Nat → hj_Ob) (bf : Nat → Nat) (sd : Int64) (x1 : Int32) : Option (Int32 × (Nat → hj_Ob)) :=
  if x1 < 0 then (some ((-2), σ)) else (if x1 ≤ 9 then (hj_o1 (fX2_copyFrom (σ 3) (σ 11) (σ 14)) fun ρ3 => hj_nm (va_up σ 14 ρ3) fun σ4 => hj_o1 (hj_lp (fun q : (Int32 × (Nat → hj_Ob)) => fX5_ahead_26 q.2 bf sd x1 q.1) 100 (0, σ4)) fun σ10 => (hj_o1 (fX2_yesThere (σ10 3) (σ10 14)) fun r11 => some (r11, σ10))) else (some ((-2), σ)))
set_option maxHeartbeats 4000000 in
set_option maxRecDepth 100000 in
theorem wX5_ahead {p : Program} {l : Launch} {e : Env} {s : State} {m : MethodId} {args : Array Value} {below : List Frame} {meth : Method} {c : Code} {g : hj_G} {ad : Nat → Nat} (hI : hj_I 73 ad) (C : hj_C p s m args meth c cX5_ahead RX5 wsX5_ahead 3 (some .int)) (hK : hj_K g s) {σ : Nat → hj_Ob} {bf : Nat → Nat} {sd : Int64} {x1 : Int32} {rF : Int32} {σF : Nat → hj_Ob}
    (hf : fX5_ahead σ bf sd x1 = some (rF, σF)) {H : Heap} {locs : List Loc} {ls : Array Slot} (hP : hj_P g 73 ad (hj_wx g ad σ bf sd) H) (hS : hj_S 73 ad s H locs) (hl : lv_has ls 3 [(0, .ref (ad 0)), (1, .int x1)]) :
    W p l e rmX5_ahead s m args below meth c H locs 0 0 (MQ below (hj_QI g 73 ad (hj_wx g ad σF bf sd) rF s.heap.size) args s 0 0 (hj_A 73 ad s.heap.size)) (F0 m 0 ls []) := by
  obtain ⟨hx, hb, hr, hml, hown, hts, hlocks⟩ := id C
  unfold fX5_ahead at hf
  refine lv_iload_n hx hb dX5_ahead_0 rfl (lv_at hl 1 rfl) ?_
  refine lv_if_lt (tgt := 10) hx hb dX5_ahead_1 (by decide) (fun c1 => ?_) (fun c1 => ?_)
  · rw [if_pos c1] at hf
    refine lv_bipush (v := (-2)) hx hb dX5_ahead_10 (by decide) ?_
    have hq := Option.some.inj hf
    obtain ⟨rfl, rfl⟩ := Prod.mk.inj hq
    exact hj_reti C hP hK hS dX5_ahead_12
  · rw [if_neg c1] at hf
    refine lv_iload_n hx hb dX5_ahead_4 rfl (lv_at hl 1 rfl) ?_
    refine lv_bipush (v := 9) hx hb dX5_ahead_5 (by decide) ?_
    refine lv_icmp_le (tgt := 13) hx hb dX5_ahead_7 (by decide) (fun c2 => ?_) (fun c2 => ?_)
    · rw [if_pos c2] at hf
      refine lv_aload_n hx hb dX5_ahead_13 rfl (lv_at hl 0 rfl) ?_
      refine hj_get (ci := 5) (v := .ref (ad 14)) (C := RX5) (T := TX5) (N := 10) hx hb hts iX5_ahead_X5 hown hK hP (by decide) wx_at_h rfl 4 (by decide) mX5_ahead_1 rfl dX5_ahead_14 ?_
      refine lv_aload_n hx hb dX5_ahead_17 rfl (lv_at hl 0 rfl) ?_
      refine hj_get (ci := 5) (v := .ref (ad 11)) (C := RX5) (T := TX5) (N := 10) hx hb hts iX5_ahead_X5 hown hK hP (by decide) wx_at_h rfl 3 (by decide) mX5_ahead_2 rfl dX5_ahead_18 ?_
      obtain ⟨ρ3, hc, hf⟩ := hj_o1_s hf
      refine hj_callVv (nL := 3) (As := [.ref (ad 11)]) (rest := []) (i0 := 14) (C := RX2) (T := TX2) (N := 6) (ci := 2) ⟨hx, hb, hml, hown, hts⟩ (ctX2_copyFrom l g hI (σ := σ) (bf := bf) (sd := sd) wx_R_14 rfl wx_R_11 (by decide) rfl rfl hc) (cwV 1 hts gX5_ahead_X2_copyFrom rfl rfl rfl (by decide +kernel) ⟨Nat.le_of_ble_eq_true rfl, Nat.le_of_ble_eq_true rfl⟩) hj_Xb0 (fun _ _ _ => trivial) hK hP hS (by decide) (wx_at_r wx_R_14 rfl) rfl rfl hl.1 rfl (Nat.le_of_ble_eq_true rfl) dX5_ahead_21 (fun H locs hP hS => ?_)
      obtain ⟨σ4, eσ4⟩ : ∃ z : Nat → hj_Ob, z = va_up σ 14 ρ3 := ⟨_, rfl⟩
      replace hf := hj_nm_y hf eσ4
      rw [← eσ4] at hP
      refine lv_iconst (v := 0) hx hb dX5_ahead_24 (by decide) ?_
      refine lv_istore_n (lv' := [(2, .int 0), (0, .ref (ad 0)), (1, .int x1)]) hx hb dX5_ahead_25 rfl hl (by decide) rfl (fun ls hl => ?_)
      obtain ⟨σ10, hlx, hf⟩ := hj_o1_s hf
      refine wX5_ahead_26 hI C hK  100 0 σ4 hlx (fun H locs ls hP hS hl => ?_) H locs ls hP hS (lv_sub hl [1, 2, 0] rfl)
      refine lv_aload_n hx hb dX5_ahead_45 rfl (lv_at hl 0 rfl) ?_
      refine hj_get (ci := 5) (v := .ref (ad 14)) (C := RX5) (T := TX5) (N := 10) hx hb hts iX5_ahead_X5 hown hK hP (by decide) wx_at_h rfl 4 (by decide) mX5_ahead_1 rfl dX5_ahead_46 ?_
      obtain ⟨r11, hc, hf⟩ := hj_o1_s hf
      refine hj_callVi (nL := 3) (As := []) (rest := []) (i0 := 14) (C := RX2) (T := TX2) (N := 6) (ci := 2) ⟨hx, hb, hml, hown, hts⟩ (ctX2_yesThere l g hI (σ := σ10) (bf := bf) (sd := sd) wx_R_14 rfl rfl hc) (cwV 0 hts gX5_ahead_X2_yesThere rfl rfl rfl (by decide +kernel) ⟨Nat.le_of_ble_eq_true rfl, Nat.le_of_ble_eq_true rfl⟩) hj_Xb0 (fun _ _ _ => trivial) hK hP hS (by decide) (wx_at_r wx_R_14 rfl) rfl rfl hl.1 rfl (Nat.le_of_ble_eq_true rfl) dX5_ahead_49 (fun H locs hP hS => ?_)
      have hq := Option.some.inj hf
      obtain ⟨rfl, rfl⟩ := Prod.mk.inj hq
      exact hj_reti C hP hK hS dX5_ahead_52
    · rw [if_neg c2] at hf
      refine lv_bipush (v := (-2)) hx hb dX5_ahead_10 (by decide) ?_
      have hq := Option.some.inj hf
      obtain ⟨rfl, rfl⟩ := Prod.mk.inj hq
      exact hj_reti C hP hK hS dX5_ahead_12
set_option maxHeartbeats 4000000 in
set_option maxRecDepth 100000 in
theorem ctX5_ahead (l : Launch) (g : hj_G) {ad : Nat → Nat} (hI : hj_I 73 ad) {σ : Nat → hj_Ob} {bf : Nat → Nat} {sd : Int64} {x1 : Int32} {rF : Int32} {σF : Nat → hj_Ob} (hf : fX5_ahead σ bf sd x1 = some (rF, σF)) :
    hj_MI l yX5_ahead wsX5_ahead rmX5_ahead g 73 ad hj_X0 [.ref (ad 0), .int x1] (hj_wx g ad σ bf sd) rF (hj_wx g ad σF bf sd) := by
  refine hj_ofI (cc := cX5_ahead) (maxL := 3) (ret := (some .int)) (by decide) rfl (Nat.le_of_ble_eq_true rfl) ?_
  intro p e s m args below meth c ls C hP hK hX hl
  exact wX5_ahead hI C hK hf hP va_S.rf hl

/-! X5_end -/
abbrev rmX5_end : Room := { frames := 4, cells := 0, slots := 0, locals := 89 }
theorem iX5_end_X5 : ∀ w ∈ wsX50, w ∈ wsX5_end := fun _ h => List.mem_cons_of_mem _ (List.mem_append_left _ (List.mem_append_left _ (List.mem_append_right _ h)))
theorem mX5_end_1 : Cond.fieldLink RX5 35 "HungryJury" "trial" "LHungryJury$Room;" ∈ wsX5_end := List.mem_of_getElem? (i := 1) rfl
theorem mX5_end_2 : Cond.fieldLink RX5 31 "HungryJury" "now" "LHungryJury$Room;" ∈ wsX5_end := List.mem_of_getElem? (i := 2) rfl
def fX5_end (σ : Nat → hj_Ob) (bf : Nat → Nat) (sd : Int64) (x1 : Int32) : Option (Int32 × (Nat → hj_Ob)) :=
  if x1 < 0 then (some ((-2), σ)) else (if x1 ≤ 1 then (hj_o1 (fX2_copyFrom (σ 3) (σ 11) (σ 14)) fun ρ3 => hj_nm (va_up σ 14 ρ3) fun σ4 => hj_o2 (fX2_passHoursToEnd (σ4 3) (σ4 14)) fun r5 ρ6 => hj_nm (va_up σ4 14 ρ6) fun σ7 => if r5 = (-9) then (some (r5, σ7)) else (if x1 = 0 then (some (r5, σ7)) else (hj_o1 (fX2_verdict (σ7 3) (σ7 14)) fun r10 => some (r10, σ7)))) else (some ((-2), σ)))
set_option maxHeartbeats 4000000 in
set_option maxRecDepth 100000 in
theorem wX5_end {p : Program} {l : Launch} {e : Env} {s : State} {m : MethodId} {args : Array Value} {below : List Frame} {meth : Method} {c : Code} {g : hj_G} {ad : Nat → Nat} (hI : hj_I 73 ad) (C : hj_C p s m args meth c cX5_end RX5 wsX5_end 3 (some .int)) (hK : hj_K g s) {σ : Nat → hj_Ob} {bf : Nat → Nat} {sd : Int64} {x1 : Int32} {rF : Int32} {σF : Nat → hj_Ob}
    (hf : fX5_end σ bf sd x1 = some (rF, σF)) {H : Heap} {locs : List Loc} {ls : Array Slot} (hP : hj_P g 73 ad (hj_wx g ad σ bf sd) H) (hS : hj_S 73 ad s H locs) (hl : lv_has ls 3 [(0, .ref (ad 0)), (1, .int x1)]) :
    W p l e rmX5_end s m args below meth c H locs 0 0 (MQ below (hj_QI g 73 ad (hj_wx g ad σF bf sd) rF s.heap.size) args s 0 0 (hj_A 73 ad s.heap.size)) (F0 m 0 ls []) := by
  obtain ⟨hx, hb, hr, hml, hown, hts, hlocks⟩ := id C
  unfold fX5_end at hf
  refine lv_iload_n hx hb dX5_end_0 rfl (lv_at hl 1 rfl) ?_
  refine lv_if_lt (tgt := 9) hx hb dX5_end_1 (by decide) (fun c1 => ?_) (fun c1 => ?_)
  · rw [if_pos c1] at hf
    refine lv_bipush (v := (-2)) hx hb dX5_end_9 (by decide) ?_
    have hq := Option.some.inj hf
    obtain ⟨rfl, rfl⟩ := Prod.mk.inj hq
    exact hj_reti C hP hK hS dX5_end_11
  · rw [if_neg c1] at hf
    refine lv_iload_n hx hb dX5_end_4 rfl (lv_at hl 1 rfl) ?_
    refine lv_iconst (v := 1) hx hb dX5_end_5 (by decide) ?_
    refine lv_icmp_le (tgt := 12) hx hb dX5_end_6 (by decide) (fun c2 => ?_) (fun c2 => ?_)
    · rw [if_pos c2] at hf
      refine lv_aload_n hx hb dX5_end_12 rfl (lv_at hl 0 rfl) ?_
      refine hj_get (ci := 5) (v := .ref (ad 14)) (C := RX5) (T := TX5) (N := 10) hx hb hts iX5_end_X5 hown hK hP (by decide) wx_at_h rfl 4 (by decide) mX5_end_1 rfl dX5_end_13 ?_
      refine lv_aload_n hx hb dX5_end_16 rfl (lv_at hl 0 rfl) ?_
      refine hj_get (ci := 5) (v := .ref (ad 11)) (C := RX5) (T := TX5) (N := 10) hx hb hts iX5_end_X5 hown hK hP (by decide) wx_at_h rfl 3 (by decide) mX5_end_2 rfl dX5_end_17 ?_
      obtain ⟨ρ3, hc, hf⟩ := hj_o1_s hf
      refine hj_callVv (nL := 3) (As := [.ref (ad 11)]) (rest := []) (i0 := 14) (C := RX2) (T := TX2) (N := 6) (ci := 2) ⟨hx, hb, hml, hown, hts⟩ (ctX2_copyFrom l g hI (σ := σ) (bf := bf) (sd := sd) wx_R_14 rfl wx_R_11 (by decide) rfl rfl hc) (cwV 1 hts gX5_end_X2_copyFrom rfl rfl rfl (by decide +kernel) ⟨Nat.le_of_ble_eq_true rfl, Nat.le_of_ble_eq_true rfl⟩) hj_Xb0 (fun _ _ _ => trivial) hK hP hS (by decide) (wx_at_r wx_R_14 rfl) rfl rfl hl.1 rfl (Nat.le_of_ble_eq_true rfl) dX5_end_20 (fun H locs hP hS => ?_)
      obtain ⟨σ4, eσ4⟩ : ∃ z : Nat → hj_Ob, z = va_up σ 14 ρ3 := ⟨_, rfl⟩
      replace hf := hj_nm_y hf eσ4
      rw [← eσ4] at hP
      refine lv_aload_n hx hb dX5_end_23 rfl (lv_at hl 0 rfl) ?_
      refine hj_get (ci := 5) (v := .ref (ad 14)) (C := RX5) (T := TX5) (N := 10) hx hb hts iX5_end_X5 hown hK hP (by decide) wx_at_h rfl 4 (by decide) mX5_end_1 rfl dX5_end_24 ?_
      obtain ⟨r5, ρ6, hc, hf⟩ := hj_o2_s hf
      refine hj_callVi (nL := 3) (As := []) (rest := []) (i0 := 14) (C := RX2) (T := TX2) (N := 6) (ci := 2) ⟨hx, hb, hml, hown, hts⟩ (ctX2_passHoursToEnd l g hI (σ := σ4) (bf := bf) (sd := sd) wx_R_14 rfl rfl hc) (cwV 0 hts gX5_end_X2_passHoursToEnd rfl rfl rfl (by decide +kernel) ⟨Nat.le_of_ble_eq_true rfl, Nat.le_of_ble_eq_true rfl⟩) hj_Xb0 (fun _ _ _ => trivial) hK hP hS (by decide) (wx_at_r wx_R_14 rfl) rfl rfl hl.1 rfl (Nat.le_of_ble_eq_true rfl) dX5_end_27 (fun H locs hP hS => ?_)
      obtain ⟨σ7, eσ7⟩ : ∃ z : Nat → hj_Ob, z = va_up σ4 14 ρ6 := ⟨_, rfl⟩
      replace hf := hj_nm_y hf eσ7
      rw [← eσ7] at hP
      refine lv_istore_n (lv' := [(2, .int r5), (0, .ref (ad 0)), (1, .int x1)]) hx hb dX5_end_30 rfl hl (by decide) rfl (fun ls hl => ?_)
      refine lv_iload_n hx hb dX5_end_31 rfl (lv_at hl 0 rfl) ?_
      refine lv_bipush (v := (-9)) hx hb dX5_end_32 (by decide) ?_
      refine lv_icmp_eq (tgt := 41) hx hb dX5_end_34 (by decide) (fun c8 => ?_) (fun c8 => ?_)
      · rw [if_pos c8] at hf
        refine lv_iload_n hx hb dX5_end_41 rfl (lv_at hl 0 rfl) ?_
        refine lv_goto (tgt := 52) hx hb dX5_end_42 (by decide) ?_
        have hq := Option.some.inj hf
        obtain ⟨rfl, rfl⟩ := Prod.mk.inj hq
        exact hj_reti C hP hK hS dX5_end_52
      · rw [if_neg c8] at hf
        refine lv_iload_n hx hb dX5_end_37 rfl (lv_at hl 2 rfl) ?_
        refine lv_if_ne (tgt := 45) hx hb dX5_end_38 (by decide) (fun c9 => ?_) (fun c9 => ?_)
        · rw [if_neg c9] at hf
          refine lv_aload_n hx hb dX5_end_45 rfl (lv_at hl 1 rfl) ?_
          refine hj_get (ci := 5) (v := .ref (ad 14)) (C := RX5) (T := TX5) (N := 10) hx hb hts iX5_end_X5 hown hK hP (by decide) wx_at_h rfl 4 (by decide) mX5_end_1 rfl dX5_end_46 ?_
          obtain ⟨r10, hc, hf⟩ := hj_o1_s hf
          refine hj_callVi (nL := 3) (As := []) (rest := []) (i0 := 14) (C := RX2) (T := TX2) (N := 6) (ci := 2) ⟨hx, hb, hml, hown, hts⟩ (ctX2_verdict l g hI (σ := σ7) (bf := bf) (sd := sd) wx_R_14 rfl rfl hc) (cwV 0 hts gX5_end_X2_verdict rfl rfl rfl (by decide +kernel) ⟨Nat.le_of_ble_eq_true rfl, Nat.le_of_ble_eq_true rfl⟩) hj_Xb0 (fun _ _ _ => trivial) hK hP hS (by decide) (wx_at_r wx_R_14 rfl) rfl rfl hl.1 rfl (Nat.le_of_ble_eq_true rfl) dX5_end_49 (fun H locs hP hS => ?_)
          have hq := Option.some.inj hf
          obtain ⟨rfl, rfl⟩ := Prod.mk.inj hq
          exact hj_reti C hP hK hS dX5_end_52
        · rw [if_pos c9] at hf
          refine lv_iload_n hx hb dX5_end_41 rfl (lv_at hl 0 rfl) ?_
          refine lv_goto (tgt := 52) hx hb dX5_end_42 (by decide) ?_
          have hq := Option.some.inj hf
          obtain ⟨rfl, rfl⟩ := Prod.mk.inj hq
          exact hj_reti C hP hK hS dX5_end_52
    · rw [if_neg c2] at hf
      refine lv_bipush (v := (-2)) hx hb dX5_end_9 (by decide) ?_
      have hq := Option.some.inj hf
      obtain ⟨rfl, rfl⟩ := Prod.mk.inj hq
      exact hj_reti C hP hK hS dX5_end_11
set_option maxHeartbeats 4000000 in
set_option maxRecDepth 100000 in
theorem ctX5_end (l : Launch) (g : hj_G) {ad : Nat → Nat} (hI : hj_I 73 ad) {σ : Nat → hj_Ob} {bf : Nat → Nat} {sd : Int64} {x1 : Int32} {rF : Int32} {σF : Nat → hj_Ob} (hf : fX5_end σ bf sd x1 = some (rF, σF)) :
    hj_MI l yX5_end wsX5_end rmX5_end g 73 ad hj_X0 [.ref (ad 0), .int x1] (hj_wx g ad σ bf sd) rF (hj_wx g ad σF bf sd) := by
  refine hj_ofI (cc := cX5_end) (maxL := 3) (ret := (some .int)) (by decide) rfl (Nat.le_of_ble_eq_true rfl) ?_
  intro p e s m args below meth c ls C hP hK hX hl
  exact wX5_end hI C hK hf hP va_S.rf hl
