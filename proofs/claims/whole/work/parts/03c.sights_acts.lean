/-! X0_forgetOldest -/
abbrev rmX0_forgetOldest : Room := { frames := 0, cells := 0, slots := 0, locals := 0 }
theorem iX0_forgetOldest_X0 : ∀ w ∈ wsX00, w ∈ wsX0_forgetOldest := fun _ h => List.mem_cons_of_mem _ (List.mem_append_right _ h)
theorem mX0_forgetOldest_1 : Cond.fieldLink RX0 11 "HungryJury$Acts" "before" "[LHungryJury$Room;" ∈ wsX0_forgetOldest := List.mem_of_getElem? (i := 1) rfl
theorem mX0_forgetOldest_2 : Cond.fieldLink RX0 20 "HungryJury$Acts" "size" "I" ∈ wsX0_forgetOldest := List.mem_of_getElem? (i := 2) rfl
def fX0_forgetOldest_9 (σ : Nat → hj_Ob) (bf : Nat → Nat) (b1 : Nat) (x2 : Int32) : Option ((Nat → Nat) ⊕ (Int32 × (Nat → Nat))) :=
  if 14 ≤ x2 then (some (.inl bf)) else (hj_ck x2 14 (hj_rg (bf x2.toNatClampNeg) fun b5 => hj_ck (x2 - 1) 14 (hj_nm (va_up bf (x2 - 1).toNatClampNeg b5) fun bf7 => hj_nm (x2 + 1) fun y8 => some (.inr (y8, bf7)))))
set_option maxHeartbeats 4000000 in
set_option maxRecDepth 100000 in
theorem wX0_forgetOldest_9b {p : Program} {l : Launch} {e : Env} {s : State} {m : MethodId} {args : Array Value} {below : List Frame} {meth : Method} {c : Code} {g : hj_G} {ad : Nat → Nat} (hI : hj_I 73 ad) (C : hj_C p s m args meth c cX0_forgetOldest RX0 wsX0_forgetOldest 3 none) (hK : hj_K g s) {sd : Int64} {σ : Nat → hj_Ob} {bf : Nat → Nat} {b1 : Nat} (hb1 : wx_R b1) (ob1 : b1 ≠ 11) {x2 : Int32} {y : (Nat → Nat) ⊕ (Int32 × (Nat → Nat))} {σF : Nat → hj_Ob} {bfF : Nat → Nat}
    (hf : fX0_forgetOldest_9 σ bf b1 x2 = some y) (KX : ∀ (bf' : Nat → Nat), y = .inl bf' → ∀ (H : Heap) (locs : List Loc) (ls : Array Slot), hj_P g 73 ad (hj_wx g ad σ bf' sd) H → hj_S 73 ad s H locs → lv_has ls 3 [(0, .ref (ad 17)), (1, .ref (ad b1))] → W p l e rmX0_forgetOldest s m args below meth c H locs 0 0 (MQ below (hj_QV g 73 ad (hj_wx g ad σF bfF sd) s.heap.size) args s 0 0 (hj_A 73 ad s.heap.size)) (F0 m 35 ls [])) (KI : ∀ (v2 : Int32) (bf' : Nat → Nat), y = .inr (v2, bf') → ∀ (H : Heap) (locs : List Loc) (ls : Array Slot), hj_P g 73 ad (hj_wx g ad σ bf' sd) H → hj_S 73 ad s H locs → lv_has ls 3 [(0, .ref (ad 17)), (1, .ref (ad b1)), (2, .int v2)] → W p l e rmX0_forgetOldest s m args below meth c H locs 0 0 (MQ below (hj_QV g 73 ad (hj_wx g ad σF bfF sd) s.heap.size) args s 0 0 (hj_A 73 ad s.heap.size)) (F0 m 9 ls [])) {H : Heap} {locs : List Loc} {ls : Array Slot} (hP : hj_P g 73 ad (hj_wx g ad σ bf sd) H) (hS : hj_S 73 ad s H locs) (hl : lv_has ls 3 [(0, .ref (ad 17)), (1, .ref (ad b1)), (2, .int x2)]) :
    W p l e rmX0_forgetOldest s m args below meth c H locs 0 0 (MQ below (hj_QV g 73 ad (hj_wx g ad σF bfF sd) s.heap.size) args s 0 0 (hj_A 73 ad s.heap.size)) (F0 m 9 ls []) := by
  obtain ⟨hx, hb, hr, hml, hown, hts, hlocks⟩ := id C
  unfold fX0_forgetOldest_9 at hf
  refine lv_iload_n hx hb dX0_forgetOldest_9 rfl (lv_at hl 2 rfl) ?_
  refine lv_bipush (v := 14) hx hb dX0_forgetOldest_10 (by decide) ?_
  refine lv_icmp_ge (tgt := 35) hx hb dX0_forgetOldest_12 (by decide) (fun c3 => ?_) (fun c3 => ?_)
  · rw [if_pos c3] at hf
    exact KX _ (Option.some.inj hf).symm _ _ _ hP hS (lv_sub hl [0, 1] rfl)
  · rw [if_neg c3] at hf
    refine lv_aload_n hx hb dX0_forgetOldest_15 rfl (lv_at hl 0 rfl) ?_
    refine hj_get (ci := 0) (v := .ref (ad 18)) (C := RX0) (T := TX0) (N := 2) hx hb hts iX0_forgetOldest_X0 hown hK hP (by decide) (wx_at_a rfl) rfl 0 (by decide) mX0_forgetOldest_1 rfl dX0_forgetOldest_16 ?_
    refine lv_iload_n hx hb dX0_forgetOldest_19 rfl (lv_at hl 2 rfl) ?_
    refine lv_iconst (v := 1) hx hb dX0_forgetOldest_20 (by decide) ?_
    refine lv_isub hx hb dX0_forgetOldest_21 ?_
    refine lv_aload_n hx hb dX0_forgetOldest_22 rfl (lv_at hl 0 rfl) ?_
    refine hj_get (ci := 0) (v := .ref (ad 18)) (C := RX0) (T := TX0) (N := 2) hx hb hts iX0_forgetOldest_X0 hown hK hP (by decide) (wx_at_a rfl) rfl 0 (by decide) mX0_forgetOldest_1 rfl dX0_forgetOldest_23 ?_
    refine lv_iload_n hx hb dX0_forgetOldest_26 rfl (lv_at hl 2 rfl) ?_
    obtain ⟨hk4, hf⟩ := hj_ck_s hf
    obtain ⟨b5, eb5, gb5, hf⟩ := hj_rg_s hf
    have hb5 : wx_R b5 := wx_R_bf gb5
    have ob5 : b5 ≠ 11 := by omega
    refine hj_ral (b := ad b5) hx hb hK hP (by decide) wx_at_bf hk4 (by rw [eb5]) dX0_forgetOldest_27 ?_
    obtain ⟨hk6, hf⟩ := hj_ck_s hf
    refine hj_ras (vs := _) (i := 18) (j := b5) hx hb hK hI hP hS (by decide) wx_at_bf (wx_R_lt (k := 0) hb5 (by decide)) (wx_at_r hb5 rfl) hk6 dX0_forgetOldest_28 wx_a_bf (fun H locs hP hS => ?_)
    obtain ⟨bf7, ebf7⟩ : ∃ z : Nat → Nat, z = va_up bf (x2 - 1).toNatClampNeg b5 := ⟨_, rfl⟩
    replace hf := hj_nm_y hf ebf7
    rw [← ebf7] at hP
    obtain ⟨y8, ey8⟩ : ∃ z : Int32, z = x2 + 1 := ⟨_, rfl⟩
    replace hf := hj_nm_y hf ey8
    refine lv_iinc (v := y8) (lv' := [(2, .int y8), (0, .ref (ad 17)), (1, .ref (ad b1))]) hx hb dX0_forgetOldest_29 hl (k := 2) rfl (by rw [ey8]; rfl) (by decide) rfl (fun ls hl => ?_)
    refine lv_goto (tgt := 9) hx hb dX0_forgetOldest_32 (by decide) ?_
    exact KI _ _ (Option.some.inj hf).symm _ _ _ hP hS (lv_sub hl [1, 2, 0] rfl)
set_option maxHeartbeats 4000000 in
set_option maxRecDepth 100000 in
theorem wX0_forgetOldest_9 {p : Program} {l : Launch} {e : Env} {s : State} {m : MethodId} {args : Array Value} {below : List Frame} {meth : Method} {c : Code} {g : hj_G} {ad : Nat → Nat} (hI : hj_I 73 ad) (C : hj_C p s m args meth c cX0_forgetOldest RX0 wsX0_forgetOldest 3 none) (hK : hj_K g s) {sd : Int64} {σ : Nat → hj_Ob} {b1 : Nat} (hb1 : wx_R b1) (ob1 : b1 ≠ 11) {σF : Nat → hj_Ob} {bfF : Nat → Nat} {bfe : Nat → Nat} :
    ∀ (fu : Nat) (x2 : Int32) (bf : Nat → Nat), hj_lp (fun q : (Int32 × (Nat → Nat)) => fX0_forgetOldest_9 σ q.2 b1 q.1) fu (x2, bf) = some bfe → (∀ (H : Heap) (locs : List Loc) (ls : Array Slot), hj_P g 73 ad (hj_wx g ad σ bfe sd) H → hj_S 73 ad s H locs → lv_has ls 3 [(0, .ref (ad 17)), (1, .ref (ad b1))] → W p l e rmX0_forgetOldest s m args below meth c H locs 0 0 (MQ below (hj_QV g 73 ad (hj_wx g ad σF bfF sd) s.heap.size) args s 0 0 (hj_A 73 ad s.heap.size)) (F0 m 35 ls [])) → ∀ (H : Heap) (locs : List Loc) (ls : Array Slot), hj_P g 73 ad (hj_wx g ad σ bf sd) H → hj_S 73 ad s H locs → lv_has ls 3 [(0, .ref (ad 17)), (1, .ref (ad b1)), (2, .int x2)] →
    W p l e rmX0_forgetOldest s m args below meth c H locs 0 0 (MQ below (hj_QV g 73 ad (hj_wx g ad σF bfF sd) s.heap.size) args s 0 0 (hj_A 73 ad s.heap.size)) (F0 m 9 ls []) := by
  intro fu
  induction fu with
  | zero => intro x2 bf hq; cases hq
  | succ fu ih =>
    intro x2 bf hq KX H locs ls hP hS hl
    obtain ⟨y, hy, h1, h2⟩ := hj_lp_s hq
    exact wX0_forgetOldest_9b hI C hK hb1 ob1 hy (fun bf' hv H locs ls hP hS hl => by obtain rfl := h1 _ hv; exact KX H locs ls hP hS hl) (fun v2 bf' hv H locs ls hP hS hl => ih v2 bf' (h2 _ hv) KX H locs ls hP hS hl) hP hS hl
def fX0_forgetOldest (σ : Nat → hj_Ob) (bf : Nat → Nat) : Option ((Nat → hj_Ob) × (Nat → Nat)) :=
  hj_ck (0 : Int32) 14 (hj_rg (bf (0 : Int32).toNatClampNeg) fun b2 => hj_o1 (hj_lp (fun q : (Int32 × (Nat → Nat)) => fX0_forgetOldest_9 σ q.2 b2 q.1) 100 (1, bf)) fun bf9 => (hj_ck (13 : Int32) 14 (hj_nm (va_up bf9 (13 : Int32).toNatClampNeg b2) fun bf11 => hj_nm (va_up σ 17 (hj_s (σ 17) 1 13)) fun σ12 => some (σ12, bf11))))
set_option maxHeartbeats 4000000 in
set_option maxRecDepth 100000 in
theorem wX0_forgetOldest {p : Program} {l : Launch} {e : Env} {s : State} {m : MethodId} {args : Array Value} {below : List Frame} {meth : Method} {c : Code} {g : hj_G} {ad : Nat → Nat} (hI : hj_I 73 ad) (C : hj_C p s m args meth c cX0_forgetOldest RX0 wsX0_forgetOldest 3 none) (hK : hj_K g s) {sd : Int64} {σ : Nat → hj_Ob} {bf : Nat → Nat} {σF : Nat → hj_Ob} {bfF : Nat → Nat}
    (hf : fX0_forgetOldest σ bf = some (σF, bfF)) {H : Heap} {locs : List Loc} {ls : Array Slot} (hP : hj_P g 73 ad (hj_wx g ad σ bf sd) H) (hS : hj_S 73 ad s H locs) (hl : lv_has ls 3 [(0, .ref (ad 17))]) :
    W p l e rmX0_forgetOldest s m args below meth c H locs 0 0 (MQ below (hj_QV g 73 ad (hj_wx g ad σF bfF sd) s.heap.size) args s 0 0 (hj_A 73 ad s.heap.size)) (F0 m 0 ls []) := by
  obtain ⟨hx, hb, hr, hml, hown, hts, hlocks⟩ := id C
  unfold fX0_forgetOldest at hf
  refine lv_aload_n hx hb dX0_forgetOldest_0 rfl (lv_at hl 0 rfl) ?_
  refine hj_get (ci := 0) (v := .ref (ad 18)) (C := RX0) (T := TX0) (N := 2) hx hb hts iX0_forgetOldest_X0 hown hK hP (by decide) (wx_at_a rfl) rfl 0 (by decide) mX0_forgetOldest_1 rfl dX0_forgetOldest_1 ?_
  refine lv_iconst (v := 0) hx hb dX0_forgetOldest_4 (by decide) ?_
  obtain ⟨hk1, hf⟩ := hj_ck_s hf
  obtain ⟨b2, eb2, gb2, hf⟩ := hj_rg_s hf
  have hb2 : wx_R b2 := wx_R_bf gb2
  have ob2 : b2 ≠ 11 := by omega
  refine hj_ral (b := ad b2) hx hb hK hP (by decide) wx_at_bf hk1 (by rw [eb2]) dX0_forgetOldest_5 ?_
  refine lv_astore_n (lv' := [(1, .ref (ad b2)), (0, .ref (ad 17))]) hx hb dX0_forgetOldest_6 rfl hl (by decide) rfl (fun ls hl => ?_)
  refine lv_iconst (v := 1) hx hb dX0_forgetOldest_7 (by decide) ?_
  refine lv_istore_n (lv' := [(2, .int 1), (1, .ref (ad b2)), (0, .ref (ad 17))]) hx hb dX0_forgetOldest_8 rfl hl (by decide) rfl (fun ls hl => ?_)
  obtain ⟨bf9, hlx, hf⟩ := hj_o1_s hf
  refine wX0_forgetOldest_9 hI C hK hb2 ob2 100 1 bf hlx (fun H locs ls hP hS hl => ?_) H locs ls hP hS (lv_sub hl [2, 1, 0] rfl)
  refine lv_aload_n hx hb dX0_forgetOldest_35 rfl (lv_at hl 0 rfl) ?_
  refine hj_get (ci := 0) (v := .ref (ad 18)) (C := RX0) (T := TX0) (N := 2) hx hb hts iX0_forgetOldest_X0 hown hK hP (by decide) (wx_at_a rfl) rfl 0 (by decide) mX0_forgetOldest_1 rfl dX0_forgetOldest_36 ?_
  refine lv_bipush (v := 13) hx hb dX0_forgetOldest_39 (by decide) ?_
  refine lv_aload_n hx hb dX0_forgetOldest_41 rfl (lv_at hl 1 rfl) ?_
  obtain ⟨hk10, hf⟩ := hj_ck_s hf
  refine hj_ras (vs := _) (i := 18) (j := b2) hx hb hK hI hP hS (by decide) wx_at_bf (wx_R_lt (k := 0) hb2 (by decide)) (wx_at_r hb2 rfl) hk10 dX0_forgetOldest_42 wx_a_bf (fun H locs hP hS => ?_)
  obtain ⟨bf11, ebf11⟩ : ∃ z : Nat → Nat, z = va_up bf9 (13 : Int32).toNatClampNeg b2 := ⟨_, rfl⟩
  replace hf := hj_nm_y hf ebf11
  rw [← ebf11] at hP
  refine lv_aload_n hx hb dX0_forgetOldest_43 rfl (lv_at hl 0 rfl) ?_
  refine lv_bipush (v := 13) hx hb dX0_forgetOldest_44 (by decide) ?_
  refine hj_put (ci := 0) (v := .int 13) (C := RX0) (T := TX0) (N := 2) hx hb hts iX0_forgetOldest_X0 tyX0 tyX0_ok nmX0 hown hK hI hP hS (by decide) (wx_at_a rfl) rfl 1 (by decide) mX0_forgetOldest_2 rfl rfl rfl (Nat.le_of_ble_eq_true rfl) dX0_forgetOldest_46 (wx_s_a rfl) (fun H locs hP hS => ?_)
  obtain ⟨σ12, eσ12⟩ : ∃ z : Nat → hj_Ob, z = va_up σ 17 (hj_s (σ 17) 1 13) := ⟨_, rfl⟩
  replace hf := hj_nm_y hf eσ12
  rw [← eσ12] at hP
  have hq := Option.some.inj hf
  obtain ⟨rfl, rfl⟩ := Prod.mk.inj hq
  exact hj_retv C hP hK hS dX0_forgetOldest_49
set_option maxHeartbeats 4000000 in
set_option maxRecDepth 100000 in
theorem ctX0_forgetOldest (l : Launch) (g : hj_G) {ad : Nat → Nat} (hI : hj_I 73 ad) {sd : Int64} {σ : Nat → hj_Ob} {bf : Nat → Nat} {σF : Nat → hj_Ob} {bfF : Nat → Nat} (hf : fX0_forgetOldest σ bf = some (σF, bfF)) :
    hj_MV l yX0_forgetOldest wsX0_forgetOldest rmX0_forgetOldest g 73 ad hj_X0 [.ref (ad 17)] (hj_wx g ad σ bf sd) (hj_wx g ad σF bfF sd) := by
  refine hj_ofV (cc := cX0_forgetOldest) (maxL := 3) (ret := none) (by decide) rfl (Nat.le_of_ble_eq_true rfl) ?_
  intro p e s m args below meth c ls C hP hK hX hl
  exact wX0_forgetOldest hI C hK hf hP va_S.rf hl

/-! X0_remember -/
abbrev rmX0_remember : Room := { frames := 1, cells := 0, slots := 0, locals := 22 }
theorem iX0_remember_X0 : ∀ w ∈ wsX00, w ∈ wsX0_remember := fun _ h => List.mem_cons_of_mem _ (List.mem_append_left _ (List.mem_append_right _ h))
theorem mX0_remember_1 : Cond.fieldLink RX0 20 "HungryJury$Acts" "size" "I" ∈ wsX0_remember := List.mem_of_getElem? (i := 1) rfl
theorem mX0_remember_2 : Cond.fieldLink RX0 11 "HungryJury$Acts" "before" "[LHungryJury$Room;" ∈ wsX0_remember := List.mem_of_getElem? (i := 2) rfl
def fX0_remember_13 (σ : Nat → hj_Ob) (bf : Nat → Nat) : Option ((Nat → hj_Ob) × (Nat → Nat)) :=
  if ((σ 17).1 1) < 0 then (some (σ, bf)) else (if 14 ≤ ((σ 17).1 1) then (some (σ, bf)) else (hj_ck ((σ 17).1 1) 14 (hj_rg (bf ((σ 17).1 1).toNatClampNeg) fun b5 => hj_o1 (fX2_copyFrom (σ 3) (σ 11) (σ b5)) fun ρ6 => hj_nm (va_up σ b5 ρ6) fun σ7 => hj_nm (va_up σ7 17 (hj_s (σ7 17) 1 (((σ7 17).1 1) + 1))) fun σ8 => some (σ8, bf))))
set_option maxHeartbeats 4000000 in
set_option maxRecDepth 100000 in
theorem wX0_remember_13 {p : Program} {l : Launch} {e : Env} {s : State} {m : MethodId} {args : Array Value} {below : List Frame} {meth : Method} {c : Code} {g : hj_G} {ad : Nat → Nat} (hI : hj_I 73 ad) (C : hj_C p s m args meth c cX0_remember RX0 wsX0_remember 2 none) (hK : hj_K g s) {sd : Int64} {σ : Nat → hj_Ob} {bf : Nat → Nat} {σF : Nat → hj_Ob} {bfF : Nat → Nat}
    (hf : fX0_remember_13 σ bf = some (σF, bfF)) {H : Heap} {locs : List Loc} {ls : Array Slot} (hP : hj_P g 73 ad (hj_wx g ad σ bf sd) H) (hS : hj_S 73 ad s H locs) (hl : lv_has ls 2 [(0, .ref (ad 17)), (1, .ref (ad 11))]) :
    W p l e rmX0_remember s m args below meth c H locs 0 0 (MQ below (hj_QV g 73 ad (hj_wx g ad σF bfF sd) s.heap.size) args s 0 0 (hj_A 73 ad s.heap.size)) (F0 m 13 ls []) := by
  obtain ⟨hx, hb, hr, hml, hown, hts, hlocks⟩ := id C
  unfold fX0_remember_13 at hf
  refine lv_aload_n hx hb dX0_remember_13 rfl (lv_at hl 0 rfl) ?_
  refine hj_get (ci := 0) (v := .int ((σ 17).1 1)) (C := RX0) (T := TX0) (N := 2) hx hb hts iX0_remember_X0 hown hK hP (by decide) (wx_at_a rfl) rfl 1 (by decide) mX0_remember_1 rfl dX0_remember_14 ?_
  refine lv_if_lt (tgt := 52) hx hb dX0_remember_17 (by decide) (fun c2 => ?_) (fun c2 => ?_)
  · rw [if_pos c2] at hf
    have hq := Option.some.inj hf
    obtain ⟨rfl, rfl⟩ := Prod.mk.inj hq
    exact hj_retv C hP hK hS dX0_remember_52
  · rw [if_neg c2] at hf
    refine lv_aload_n hx hb dX0_remember_20 rfl (lv_at hl 0 rfl) ?_
    refine hj_get (ci := 0) (v := .int ((σ 17).1 1)) (C := RX0) (T := TX0) (N := 2) hx hb hts iX0_remember_X0 hown hK hP (by decide) (wx_at_a rfl) rfl 1 (by decide) mX0_remember_1 rfl dX0_remember_21 ?_
    refine lv_bipush (v := 14) hx hb dX0_remember_24 (by decide) ?_
    refine lv_icmp_ge (tgt := 52) hx hb dX0_remember_26 (by decide) (fun c3 => ?_) (fun c3 => ?_)
    · rw [if_pos c3] at hf
      have hq := Option.some.inj hf
      obtain ⟨rfl, rfl⟩ := Prod.mk.inj hq
      exact hj_retv C hP hK hS dX0_remember_52
    · rw [if_neg c3] at hf
      refine lv_aload_n hx hb dX0_remember_29 rfl (lv_at hl 0 rfl) ?_
      refine hj_get (ci := 0) (v := .ref (ad 18)) (C := RX0) (T := TX0) (N := 2) hx hb hts iX0_remember_X0 hown hK hP (by decide) (wx_at_a rfl) rfl 0 (by decide) mX0_remember_2 rfl dX0_remember_30 ?_
      refine lv_aload_n hx hb dX0_remember_33 rfl (lv_at hl 0 rfl) ?_
      refine hj_get (ci := 0) (v := .int ((σ 17).1 1)) (C := RX0) (T := TX0) (N := 2) hx hb hts iX0_remember_X0 hown hK hP (by decide) (wx_at_a rfl) rfl 1 (by decide) mX0_remember_1 rfl dX0_remember_34 ?_
      obtain ⟨hk4, hf⟩ := hj_ck_s hf
      obtain ⟨b5, eb5, gb5, hf⟩ := hj_rg_s hf
      have hb5 : wx_R b5 := wx_R_bf gb5
      have ob5 : b5 ≠ 11 := by omega
      refine hj_ral (b := ad b5) hx hb hK hP (by decide) wx_at_bf hk4 (by rw [eb5]) dX0_remember_37 ?_
      refine lv_aload_n hx hb dX0_remember_38 rfl (lv_at hl 1 rfl) ?_
      obtain ⟨ρ6, hc, hf⟩ := hj_o1_s hf
      refine hj_callVv (nL := 2) (As := [.ref (ad 11)]) (rest := []) (i0 := b5) (C := RX2) (T := TX2) (N := 6) (ci := 2) ⟨hx, hb, hml, hown, hts⟩ (ctX2_copyFrom l g hI (σ := σ) (bf := bf) (sd := sd) hb5 rfl wx_R_11 (Ne.symm ob5) rfl rfl hc) (cwV 1 hts gX0_remember_X2_copyFrom rfl rfl rfl (by decide +kernel) ⟨Nat.le_of_ble_eq_true rfl, Nat.le_of_ble_eq_true rfl⟩) hj_Xb0 (fun _ _ _ => trivial) hK hP hS (wx_R_lt (k := 0) hb5 (by decide)) (wx_at_r hb5 rfl) rfl rfl hl.1 rfl (Nat.le_of_ble_eq_true rfl) dX0_remember_39 (fun H locs hP hS => ?_)
      obtain ⟨σ7, eσ7⟩ : ∃ z : Nat → hj_Ob, z = va_up σ b5 ρ6 := ⟨_, rfl⟩
      replace hf := hj_nm_y hf eσ7
      rw [← eσ7] at hP
      refine lv_aload_n hx hb dX0_remember_42 rfl (lv_at hl 0 rfl) ?_
      refine lv_dup hx hb dX0_remember_43 rfl ?_
      refine hj_get (ci := 0) (v := .int ((σ7 17).1 1)) (C := RX0) (T := TX0) (N := 2) hx hb hts iX0_remember_X0 hown hK hP (by decide) (wx_at_a rfl) rfl 1 (by decide) mX0_remember_1 rfl dX0_remember_44 ?_
      refine lv_iconst (v := 1) hx hb dX0_remember_47 (by decide) ?_
      refine lv_iadd hx hb dX0_remember_48 ?_
      refine hj_put (ci := 0) (v := .int (((σ7 17).1 1) + 1)) (C := RX0) (T := TX0) (N := 2) hx hb hts iX0_remember_X0 tyX0 tyX0_ok nmX0 hown hK hI hP hS (by decide) (wx_at_a rfl) rfl 1 (by decide) mX0_remember_1 rfl rfl rfl (Nat.le_of_ble_eq_true rfl) dX0_remember_49 (wx_s_a rfl) (fun H locs hP hS => ?_)
      obtain ⟨σ8, eσ8⟩ : ∃ z : Nat → hj_Ob, z = va_up σ7 17 (hj_s (σ7 17) 1 (((σ7 17).1 1) + 1)) := ⟨_, rfl⟩
      replace hf := hj_nm_y hf eσ8
      rw [← eσ8] at hP
      have hq := Option.some.inj hf
      obtain ⟨rfl, rfl⟩ := Prod.mk.inj hq
      exact hj_retv C hP hK hS dX0_remember_52
def fX0_remember (σ : Nat → hj_Ob) (bf : Nat → Nat) : Option ((Nat → hj_Ob) × (Nat → Nat)) :=
  if ((σ 17).1 1) < 14 then (fX0_remember_13 σ bf) else (hj_o2 (fX0_forgetOldest σ bf) fun σ9 bf10 => fX0_remember_13 σ9 bf10)
set_option maxHeartbeats 4000000 in
set_option maxRecDepth 100000 in
theorem wX0_remember {p : Program} {l : Launch} {e : Env} {s : State} {m : MethodId} {args : Array Value} {below : List Frame} {meth : Method} {c : Code} {g : hj_G} {ad : Nat → Nat} (hI : hj_I 73 ad) (C : hj_C p s m args meth c cX0_remember RX0 wsX0_remember 2 none) (hK : hj_K g s) {sd : Int64} {σ : Nat → hj_Ob} {bf : Nat → Nat} {σF : Nat → hj_Ob} {bfF : Nat → Nat}
    (hf : fX0_remember σ bf = some (σF, bfF)) {H : Heap} {locs : List Loc} {ls : Array Slot} (hP : hj_P g 73 ad (hj_wx g ad σ bf sd) H) (hS : hj_S 73 ad s H locs) (hl : lv_has ls 2 [(0, .ref (ad 17)), (1, .ref (ad 11))]) :
    W p l e rmX0_remember s m args below meth c H locs 0 0 (MQ below (hj_QV g 73 ad (hj_wx g ad σF bfF sd) s.heap.size) args s 0 0 (hj_A 73 ad s.heap.size)) (F0 m 0 ls []) := by
  obtain ⟨hx, hb, hr, hml, hown, hts, hlocks⟩ := id C
  unfold fX0_remember at hf
  refine lv_aload_n hx hb dX0_remember_0 rfl (lv_at hl 0 rfl) ?_
  refine hj_get (ci := 0) (v := .int ((σ 17).1 1)) (C := RX0) (T := TX0) (N := 2) hx hb hts iX0_remember_X0 hown hK hP (by decide) (wx_at_a rfl) rfl 1 (by decide) mX0_remember_1 rfl dX0_remember_1 ?_
  refine lv_bipush (v := 14) hx hb dX0_remember_4 (by decide) ?_
  refine lv_icmp_lt (tgt := 13) hx hb dX0_remember_6 (by decide) (fun c1 => ?_) (fun c1 => ?_)
  · rw [if_pos c1] at hf
    exact wX0_remember_13 hI C hK  hf hP hS (lv_sub hl [0, 1] rfl)
  · rw [if_neg c1] at hf
    refine lv_aload_n hx hb dX0_remember_9 rfl (lv_at hl 0 rfl) ?_
    obtain ⟨σ9, bf10, hc, hf⟩ := hj_o2_s hf
    refine hj_callVv (nL := 2) (As := []) (rest := []) (i0 := 17) (C := RX0) (T := TX0) (N := 2) (ci := 0) ⟨hx, hb, hml, hown, hts⟩ (ctX0_forgetOldest l g hI (sd := sd) hc) (cwV 0 hts gX0_remember_X0_forgetOldest rfl rfl rfl (by decide +kernel) ⟨Nat.le_of_ble_eq_true rfl, Nat.le_of_ble_eq_true rfl⟩) hj_Xb0 (fun _ _ _ => trivial) hK hP hS (by decide) (wx_at_a rfl) rfl rfl hl.1 rfl (Nat.le_of_ble_eq_true rfl) dX0_remember_10 (fun H locs hP hS => ?_)
    exact wX0_remember_13 hI C hK  hf hP hS (lv_sub hl [0, 1] rfl)
set_option maxHeartbeats 4000000 in
set_option maxRecDepth 100000 in
theorem ctX0_remember (l : Launch) (g : hj_G) {ad : Nat → Nat} (hI : hj_I 73 ad) {sd : Int64} {σ : Nat → hj_Ob} {bf : Nat → Nat} {σF : Nat → hj_Ob} {bfF : Nat → Nat} (hf : fX0_remember σ bf = some (σF, bfF)) :
    hj_MV l yX0_remember wsX0_remember rmX0_remember g 73 ad hj_X0 [.ref (ad 17), .ref (ad 11)] (hj_wx g ad σ bf sd) (hj_wx g ad σF bfF sd) := by
  refine hj_ofV (cc := cX0_remember) (maxL := 2) (ret := none) (by decide) rfl (Nat.le_of_ble_eq_true rfl) ?_
  intro p e s m args below meth c ls C hP hK hX hl
  exact wX0_remember hI C hK hf hP va_S.rf hl

/-! X0_forgetAll -/
abbrev rmX0_forgetAll : Room := { frames := 0, cells := 0, slots := 0, locals := 0 }
theorem iX0_forgetAll_X0 : ∀ w ∈ wsX00, w ∈ wsX0_forgetAll := fun _ h => List.mem_cons_of_mem _ (List.mem_append_right _ h)
theorem mX0_forgetAll_1 : Cond.fieldLink RX0 20 "HungryJury$Acts" "size" "I" ∈ wsX0_forgetAll := List.mem_of_getElem? (i := 1) rfl
def fX0_forgetAll (σ : Nat → hj_Ob) (bf : Nat → Nat) : Option (Nat → hj_Ob) :=
  hj_nm (va_up σ 17 (hj_s (σ 17) 1 0)) fun σ1 => some σ1
set_option maxHeartbeats 4000000 in
set_option maxRecDepth 100000 in
theorem wX0_forgetAll {p : Program} {l : Launch} {e : Env} {s : State} {m : MethodId} {args : Array Value} {below : List Frame} {meth : Method} {c : Code} {g : hj_G} {ad : Nat → Nat} (hI : hj_I 73 ad) (C : hj_C p s m args meth c cX0_forgetAll RX0 wsX0_forgetAll 1 none) (hK : hj_K g s) {sd : Int64} {σ : Nat → hj_Ob} {bf : Nat → Nat} {σF : Nat → hj_Ob}
    (hf : fX0_forgetAll σ bf = some σF) {H : Heap} {locs : List Loc} {ls : Array Slot} (hP : hj_P g 73 ad (hj_wx g ad σ bf sd) H) (hS : hj_S 73 ad s H locs) (hl : lv_has ls 1 [(0, .ref (ad 17))]) :
    W p l e rmX0_forgetAll s m args below meth c H locs 0 0 (MQ below (hj_QV g 73 ad (hj_wx g ad σF bf sd) s.heap.size) args s 0 0 (hj_A 73 ad s.heap.size)) (F0 m 0 ls []) := by
  obtain ⟨hx, hb, hr, hml, hown, hts, hlocks⟩ := id C
  unfold fX0_forgetAll at hf
  refine lv_aload_n hx hb dX0_forgetAll_0 rfl (lv_at hl 0 rfl) ?_
  refine lv_iconst (v := 0) hx hb dX0_forgetAll_1 (by decide) ?_
  refine hj_put (ci := 0) (v := .int 0) (C := RX0) (T := TX0) (N := 2) hx hb hts iX0_forgetAll_X0 tyX0 tyX0_ok nmX0 hown hK hI hP hS (by decide) (wx_at_a rfl) rfl 1 (by decide) mX0_forgetAll_1 rfl rfl rfl (Nat.le_of_ble_eq_true rfl) dX0_forgetAll_2 (wx_s_a rfl) (fun H locs hP hS => ?_)
  obtain ⟨σ1, eσ1⟩ : ∃ z : Nat → hj_Ob, z = va_up σ 17 (hj_s (σ 17) 1 0) := ⟨_, rfl⟩
  replace hf := hj_nm_y hf eσ1
  rw [← eσ1] at hP
  have hq := Option.some.inj hf
  obtain rfl := hq
  exact hj_retv C hP hK hS dX0_forgetAll_5
set_option maxHeartbeats 4000000 in
set_option maxRecDepth 100000 in
theorem ctX0_forgetAll (l : Launch) (g : hj_G) {ad : Nat → Nat} (hI : hj_I 73 ad) {sd : Int64} {σ : Nat → hj_Ob} {bf : Nat → Nat} {σF : Nat → hj_Ob} (hf : fX0_forgetAll σ bf = some σF) :
    hj_MV l yX0_forgetAll wsX0_forgetAll rmX0_forgetAll g 73 ad hj_X0 [.ref (ad 17)] (hj_wx g ad σ bf sd) (hj_wx g ad σF bf sd) := by
  refine hj_ofV (cc := cX0_forgetAll) (maxL := 1) (ret := none) (by decide) rfl (Nat.le_of_ble_eq_true rfl) ?_
  intro p e s m args below meth c ls C hP hK hX hl
  exact wX0_forgetAll hI C hK hf hP va_S.rf hl

/-! X0_takeBack -/
abbrev rmX0_takeBack : Room := { frames := 1, cells := 0, slots := 0, locals := 22 }
theorem iX0_takeBack_X0 : ∀ w ∈ wsX00, w ∈ wsX0_takeBack := fun _ h => List.mem_cons_of_mem _ (List.mem_append_left _ (List.mem_append_right _ h))
theorem mX0_takeBack_1 : Cond.fieldLink RX0 20 "HungryJury$Acts" "size" "I" ∈ wsX0_takeBack := List.mem_of_getElem? (i := 1) rfl
theorem mX0_takeBack_2 : Cond.fieldLink RX0 11 "HungryJury$Acts" "before" "[LHungryJury$Room;" ∈ wsX0_takeBack := List.mem_of_getElem? (i := 2) rfl
def fX0_takeBack (σ : Nat → hj_Ob) (bf : Nat → Nat) : Option (Int32 × (Nat → hj_Ob)) :=
  if ((σ 17).1 1) < 1 then (some (0, σ)) else (if ((σ 17).1 1) ≤ 14 then (hj_nm (va_up σ 17 (hj_s (σ 17) 1 (((σ 17).1 1) - 1))) fun σ3 => hj_ck ((σ3 17).1 1) 14 (hj_rg (bf ((σ3 17).1 1).toNatClampNeg) fun b5 => hj_o1 (fX2_copyFrom (σ3 3) (σ3 b5) (σ3 11)) fun ρ6 => hj_nm (va_up σ3 11 ρ6) fun σ7 => some (1, σ7))) else (some (0, σ)))
set_option maxHeartbeats 4000000 in
set_option maxRecDepth 100000 in
theorem wX0_takeBack {p : Program} {l : Launch} {e : Env} {s : State} {m : MethodId} {args : Array Value} {below : List Frame} {meth : Method} {c : Code} {g : hj_G} {ad : Nat → Nat} (hI : hj_I 73 ad) (C : hj_C p s m args meth c cX0_takeBack RX0 wsX0_takeBack 2 (some .boolean)) (hK : hj_K g s) {sd : Int64} {σ : Nat → hj_Ob} {bf : Nat → Nat} {rF : Int32} {σF : Nat → hj_Ob}
    (hf : fX0_takeBack σ bf = some (rF, σF)) {H : Heap} {locs : List Loc} {ls : Array Slot} (hP : hj_P g 73 ad (hj_wx g ad σ bf sd) H) (hS : hj_S 73 ad s H locs) (hl : lv_has ls 2 [(0, .ref (ad 17)), (1, .ref (ad 11))]) :
    W p l e rmX0_takeBack s m args below meth c H locs 0 0 (MQ below (hj_QI g 73 ad (hj_wx g ad σF bf sd) rF s.heap.size) args s 0 0 (hj_A 73 ad s.heap.size)) (F0 m 0 ls []) := by
  obtain ⟨hx, hb, hr, hml, hown, hts, hlocks⟩ := id C
  unfold fX0_takeBack at hf
  refine lv_aload_n hx hb dX0_takeBack_0 rfl (lv_at hl 0 rfl) ?_
  refine hj_get (ci := 0) (v := .int ((σ 17).1 1)) (C := RX0) (T := TX0) (N := 2) hx hb hts iX0_takeBack_X0 hown hK hP (by decide) (wx_at_a rfl) rfl 1 (by decide) mX0_takeBack_1 rfl dX0_takeBack_1 ?_
  refine lv_iconst (v := 1) hx hb dX0_takeBack_4 (by decide) ?_
  refine lv_icmp_lt (tgt := 17) hx hb dX0_takeBack_5 (by decide) (fun c1 => ?_) (fun c1 => ?_)
  · rw [if_pos c1] at hf
    refine lv_iconst (v := 0) hx hb dX0_takeBack_17 (by decide) ?_
    have hq := Option.some.inj hf
    obtain ⟨rfl, rfl⟩ := Prod.mk.inj hq
    exact hj_retz (Or.inl rfl)  C hP hK hS dX0_takeBack_18
  · rw [if_neg c1] at hf
    refine lv_aload_n hx hb dX0_takeBack_8 rfl (lv_at hl 0 rfl) ?_
    refine hj_get (ci := 0) (v := .int ((σ 17).1 1)) (C := RX0) (T := TX0) (N := 2) hx hb hts iX0_takeBack_X0 hown hK hP (by decide) (wx_at_a rfl) rfl 1 (by decide) mX0_takeBack_1 rfl dX0_takeBack_9 ?_
    refine lv_bipush (v := 14) hx hb dX0_takeBack_12 (by decide) ?_
    refine lv_icmp_le (tgt := 19) hx hb dX0_takeBack_14 (by decide) (fun c2 => ?_) (fun c2 => ?_)
    · rw [if_pos c2] at hf
      refine lv_aload_n hx hb dX0_takeBack_19 rfl (lv_at hl 0 rfl) ?_
      refine lv_dup hx hb dX0_takeBack_20 rfl ?_
      refine hj_get (ci := 0) (v := .int ((σ 17).1 1)) (C := RX0) (T := TX0) (N := 2) hx hb hts iX0_takeBack_X0 hown hK hP (by decide) (wx_at_a rfl) rfl 1 (by decide) mX0_takeBack_1 rfl dX0_takeBack_21 ?_
      refine lv_iconst (v := 1) hx hb dX0_takeBack_24 (by decide) ?_
      refine lv_isub hx hb dX0_takeBack_25 ?_
      refine hj_put (ci := 0) (v := .int (((σ 17).1 1) - 1)) (C := RX0) (T := TX0) (N := 2) hx hb hts iX0_takeBack_X0 tyX0 tyX0_ok nmX0 hown hK hI hP hS (by decide) (wx_at_a rfl) rfl 1 (by decide) mX0_takeBack_1 rfl rfl rfl (Nat.le_of_ble_eq_true rfl) dX0_takeBack_26 (wx_s_a rfl) (fun H locs hP hS => ?_)
      obtain ⟨σ3, eσ3⟩ : ∃ z : Nat → hj_Ob, z = va_up σ 17 (hj_s (σ 17) 1 (((σ 17).1 1) - 1)) := ⟨_, rfl⟩
      replace hf := hj_nm_y hf eσ3
      rw [← eσ3] at hP
      refine lv_aload_n hx hb dX0_takeBack_29 rfl (lv_at hl 1 rfl) ?_
      refine lv_aload_n hx hb dX0_takeBack_30 rfl (lv_at hl 0 rfl) ?_
      refine hj_get (ci := 0) (v := .ref (ad 18)) (C := RX0) (T := TX0) (N := 2) hx hb hts iX0_takeBack_X0 hown hK hP (by decide) (wx_at_a rfl) rfl 0 (by decide) mX0_takeBack_2 rfl dX0_takeBack_31 ?_
      refine lv_aload_n hx hb dX0_takeBack_34 rfl (lv_at hl 0 rfl) ?_
      refine hj_get (ci := 0) (v := .int ((σ3 17).1 1)) (C := RX0) (T := TX0) (N := 2) hx hb hts iX0_takeBack_X0 hown hK hP (by decide) (wx_at_a rfl) rfl 1 (by decide) mX0_takeBack_1 rfl dX0_takeBack_35 ?_
      obtain ⟨hk4, hf⟩ := hj_ck_s hf
      obtain ⟨b5, eb5, gb5, hf⟩ := hj_rg_s hf
      have hb5 : wx_R b5 := wx_R_bf gb5
      have ob5 : b5 ≠ 11 := by omega
      refine hj_ral (b := ad b5) hx hb hK hP (by decide) wx_at_bf hk4 (by rw [eb5]) dX0_takeBack_38 ?_
      obtain ⟨ρ6, hc, hf⟩ := hj_o1_s hf
      refine hj_callVv (nL := 2) (As := [.ref (ad b5)]) (rest := []) (i0 := 11) (C := RX2) (T := TX2) (N := 6) (ci := 2) ⟨hx, hb, hml, hown, hts⟩ (ctX2_copyFrom l g hI (σ := σ3) (bf := bf) (sd := sd) wx_R_11 rfl hb5 ob5 rfl rfl hc) (cwV 1 hts gX0_takeBack_X2_copyFrom rfl rfl rfl (by decide +kernel) ⟨Nat.le_of_ble_eq_true rfl, Nat.le_of_ble_eq_true rfl⟩) hj_Xb0 (fun _ _ _ => trivial) hK hP hS (by decide) (wx_at_r wx_R_11 rfl) rfl rfl hl.1 rfl (Nat.le_of_ble_eq_true rfl) dX0_takeBack_39 (fun H locs hP hS => ?_)
      obtain ⟨σ7, eσ7⟩ : ∃ z : Nat → hj_Ob, z = va_up σ3 11 ρ6 := ⟨_, rfl⟩
      replace hf := hj_nm_y hf eσ7
      rw [← eσ7] at hP
      refine lv_iconst (v := 1) hx hb dX0_takeBack_42 (by decide) ?_
      have hq := Option.some.inj hf
      obtain ⟨rfl, rfl⟩ := Prod.mk.inj hq
      exact hj_retz (Or.inr rfl)  C hP hK hS dX0_takeBack_43
    · rw [if_neg c2] at hf
      refine lv_iconst (v := 0) hx hb dX0_takeBack_17 (by decide) ?_
      have hq := Option.some.inj hf
      obtain ⟨rfl, rfl⟩ := Prod.mk.inj hq
      exact hj_retz (Or.inl rfl)  C hP hK hS dX0_takeBack_18
set_option maxHeartbeats 4000000 in
set_option maxRecDepth 100000 in
theorem ctX0_takeBack (l : Launch) (g : hj_G) {ad : Nat → Nat} (hI : hj_I 73 ad) {sd : Int64} {σ : Nat → hj_Ob} {bf : Nat → Nat} {rF : Int32} {σF : Nat → hj_Ob} (hf : fX0_takeBack σ bf = some (rF, σF)) :
    hj_MI l yX0_takeBack wsX0_takeBack rmX0_takeBack g 73 ad hj_X0 [.ref (ad 17), .ref (ad 11)] (hj_wx g ad σ bf sd) rF (hj_wx g ad σF bf sd) := by
  refine hj_ofI (cc := cX0_takeBack) (maxL := 2) (ret := (some .boolean)) (by decide) rfl (Nat.le_of_ble_eq_true rfl) ?_
  intro p e s m args below meth c ls C hP hK hX hl
  exact wX0_takeBack hI C hK hf hP va_S.rf hl

/-! X3_add -/
abbrev rmX3_add : Room := { frames := 0, cells := 0, slots := 0, locals := 0 }
theorem iX3_add_X3 : ∀ w ∈ wsX30, w ∈ wsX3_add := fun _ h => List.mem_cons_of_mem _ (List.mem_append_right _ h)
theorem mX3_add_1 : Cond.fieldLink RX3 21 "HungryJury$Sights" "size" "I" ∈ wsX3_add := List.mem_of_getElem? (i := 1) rfl
theorem mX3_add_2 : Cond.fieldLink RX3 9 "HungryJury$Sights" "who" "[I" ∈ wsX3_add := List.mem_of_getElem? (i := 2) rfl
theorem mX3_add_3 : Cond.fieldLink RX3 15 "HungryJury$Sights" "hours" "[I" ∈ wsX3_add := List.mem_of_getElem? (i := 3) rfl
theorem mX3_add_4 : Cond.fieldLink RX3 18 "HungryJury$Sights" "side" "[I" ∈ wsX3_add := List.mem_of_getElem? (i := 4) rfl
def fX3_add (ρ : hj_Ob) (x1 : Int32) (x2 : Int32) (x3 : Int32) : Option (Int32 × hj_Ob) :=
  if (ρ.1 3) < 0 then (some (0, ρ)) else (if (ρ.1 3) < 6 then (hj_ck (ρ.1 3) 6 (hj_nm (hj_a ρ 0 (ρ.1 3) x1) fun ρ4 => hj_ck (ρ4.1 3) 6 (hj_nm (hj_a ρ4 1 (ρ4.1 3) x2) fun ρ6 => hj_ck (ρ6.1 3) 6 (hj_nm (hj_a ρ6 2 (ρ6.1 3) x3) fun ρ8 => hj_nm (hj_s ρ8 3 ((ρ8.1 3) + 1)) fun ρ9 => some (1, ρ9))))) else (some (0, ρ)))
set_option maxHeartbeats 4000000 in
set_option maxRecDepth 100000 in
theorem wX3_add {p : Program} {l : Launch} {e : Env} {s : State} {m : MethodId} {args : Array Value} {below : List Frame} {meth : Method} {c : Code} {g : hj_G} {ad : Nat → Nat} (hI : hj_I 73 ad) (C : hj_C p s m args meth c cX3_add RX3 wsX3_add 4 (some .boolean)) (hK : hj_K g s) {σ : Nat → hj_Ob} {bf : Nat → Nat} {sd : Int64} {ρ : hj_Ob} {x1 : Int32} {x2 : Int32} {x3 : Int32} {rF : Int32} {ρF : hj_Ob}
    (hf : fX3_add ρ x1 x2 x3 = some (rF, ρF)) {H : Heap} {locs : List Loc} {ls : Array Slot} (hP : hj_P g 73 ad (hj_wx g ad (va_up σ 63 ρ) bf sd) H) (hS : hj_S 73 ad s H locs) (hl : lv_has ls 4 [(0, .ref (ad 63)), (1, .int x1), (2, .int x2), (3, .int x3)]) :
    W p l e rmX3_add s m args below meth c H locs 0 0 (MQ below (hj_QI g 73 ad (hj_wx g ad (va_up σ 63 ρF) bf sd) rF s.heap.size) args s 0 0 (hj_A 73 ad s.heap.size)) (F0 m 0 ls []) := by
  obtain ⟨hx, hb, hr, hml, hown, hts, hlocks⟩ := id C
  unfold fX3_add at hf
  refine lv_aload_n hx hb dX3_add_0 rfl (lv_at hl 0 rfl) ?_
  refine hj_get (ci := 3) (v := .int (ρ.1 3)) (C := RX3) (T := TX3) (N := 4) hx hb hts iX3_add_X3 hown hK hP (by decide) (wx_at_s (va_up_self _ _ _)) rfl 3 (by decide) mX3_add_1 rfl dX3_add_1 ?_
  refine lv_if_lt (tgt := 16) hx hb dX3_add_4 (by decide) (fun c1 => ?_) (fun c1 => ?_)
  · rw [if_pos c1] at hf
    refine lv_iconst (v := 0) hx hb dX3_add_16 (by decide) ?_
    have hq := Option.some.inj hf
    obtain ⟨rfl, rfl⟩ := Prod.mk.inj hq
    exact hj_retz (Or.inl rfl)  C hP hK hS dX3_add_17
  · rw [if_neg c1] at hf
    refine lv_aload_n hx hb dX3_add_7 rfl (lv_at hl 0 rfl) ?_
    refine hj_get (ci := 3) (v := .int (ρ.1 3)) (C := RX3) (T := TX3) (N := 4) hx hb hts iX3_add_X3 hown hK hP (by decide) (wx_at_s (va_up_self _ _ _)) rfl 3 (by decide) mX3_add_1 rfl dX3_add_8 ?_
    refine lv_bipush (v := 6) hx hb dX3_add_11 (by decide) ?_
    refine lv_icmp_lt (tgt := 18) hx hb dX3_add_13 (by decide) (fun c2 => ?_) (fun c2 => ?_)
    · rw [if_pos c2] at hf
      refine lv_aload_n hx hb dX3_add_18 rfl (lv_at hl 0 rfl) ?_
      refine hj_get (ci := 3) (v := .ref (ad 64)) (C := RX3) (T := TX3) (N := 4) hx hb hts iX3_add_X3 hown hK hP (by decide) (wx_at_s (va_up_self _ _ _)) rfl 0 (by decide) mX3_add_2 rfl dX3_add_19 ?_
      refine lv_aload_n hx hb dX3_add_22 rfl (lv_at hl 0 rfl) ?_
      refine hj_get (ci := 3) (v := .int (ρ.1 3)) (C := RX3) (T := TX3) (N := 4) hx hb hts iX3_add_X3 hown hK hP (by decide) (wx_at_s (va_up_self _ _ _)) rfl 3 (by decide) mX3_add_1 rfl dX3_add_23 ?_
      refine lv_iload_n hx hb dX3_add_26 rfl (lv_at hl 1 rfl) ?_
      obtain ⟨hk3, hf⟩ := hj_ck_s hf
      refine hj_ias (f := ρ.2 0) (v := x1) hx hb hK hI hP hS (by decide) (wx_at_sa 0 (by decide) (va_up_self _ _ _)) hk3 dX3_add_27 ((wx_a_s (x := (ρ.1 3)) (v := x1) 0 (by decide) (va_up_self _ _ _)).trans (by rw [hj_uu])) (fun H locs hP hS => ?_)
      obtain ⟨ρ4, eρ4⟩ : ∃ z : hj_Ob, z = hj_a ρ 0 (ρ.1 3) x1 := ⟨_, rfl⟩
      replace hf := hj_nm_y hf eρ4
      rw [← eρ4] at hP
      refine lv_aload_n hx hb dX3_add_28 rfl (lv_at hl 0 rfl) ?_
      refine hj_get (ci := 3) (v := .ref (ad 65)) (C := RX3) (T := TX3) (N := 4) hx hb hts iX3_add_X3 hown hK hP (by decide) (wx_at_s (va_up_self _ _ _)) rfl 1 (by decide) mX3_add_3 rfl dX3_add_29 ?_
      refine lv_aload_n hx hb dX3_add_32 rfl (lv_at hl 0 rfl) ?_
      refine hj_get (ci := 3) (v := .int (ρ4.1 3)) (C := RX3) (T := TX3) (N := 4) hx hb hts iX3_add_X3 hown hK hP (by decide) (wx_at_s (va_up_self _ _ _)) rfl 3 (by decide) mX3_add_1 rfl dX3_add_33 ?_
      refine lv_iload_n hx hb dX3_add_36 rfl (lv_at hl 2 rfl) ?_
      obtain ⟨hk5, hf⟩ := hj_ck_s hf
      refine hj_ias (f := ρ4.2 1) (v := x2) hx hb hK hI hP hS (by decide) (wx_at_sa 1 (by decide) (va_up_self _ _ _)) hk5 dX3_add_37 ((wx_a_s (x := (ρ4.1 3)) (v := x2) 1 (by decide) (va_up_self _ _ _)).trans (by rw [hj_uu])) (fun H locs hP hS => ?_)
      obtain ⟨ρ6, eρ6⟩ : ∃ z : hj_Ob, z = hj_a ρ4 1 (ρ4.1 3) x2 := ⟨_, rfl⟩
      replace hf := hj_nm_y hf eρ6
      rw [← eρ6] at hP
      refine lv_aload_n hx hb dX3_add_38 rfl (lv_at hl 0 rfl) ?_
      refine hj_get (ci := 3) (v := .ref (ad 66)) (C := RX3) (T := TX3) (N := 4) hx hb hts iX3_add_X3 hown hK hP (by decide) (wx_at_s (va_up_self _ _ _)) rfl 2 (by decide) mX3_add_4 rfl dX3_add_39 ?_
      refine lv_aload_n hx hb dX3_add_42 rfl (lv_at hl 0 rfl) ?_
      refine hj_get (ci := 3) (v := .int (ρ6.1 3)) (C := RX3) (T := TX3) (N := 4) hx hb hts iX3_add_X3 hown hK hP (by decide) (wx_at_s (va_up_self _ _ _)) rfl 3 (by decide) mX3_add_1 rfl dX3_add_43 ?_
      refine lv_iload_n hx hb dX3_add_46 rfl (lv_at hl 3 rfl) ?_
      obtain ⟨hk7, hf⟩ := hj_ck_s hf
      refine hj_ias (f := ρ6.2 2) (v := x3) hx hb hK hI hP hS (by decide) (wx_at_sa 2 (by decide) (va_up_self _ _ _)) hk7 dX3_add_47 ((wx_a_s (x := (ρ6.1 3)) (v := x3) 2 (by decide) (va_up_self _ _ _)).trans (by rw [hj_uu])) (fun H locs hP hS => ?_)
      obtain ⟨ρ8, eρ8⟩ : ∃ z : hj_Ob, z = hj_a ρ6 2 (ρ6.1 3) x3 := ⟨_, rfl⟩
      replace hf := hj_nm_y hf eρ8
      rw [← eρ8] at hP
      refine lv_aload_n hx hb dX3_add_48 rfl (lv_at hl 0 rfl) ?_
      refine lv_dup hx hb dX3_add_49 rfl ?_
      refine hj_get (ci := 3) (v := .int (ρ8.1 3)) (C := RX3) (T := TX3) (N := 4) hx hb hts iX3_add_X3 hown hK hP (by decide) (wx_at_s (va_up_self _ _ _)) rfl 3 (by decide) mX3_add_1 rfl dX3_add_50 ?_
      refine lv_iconst (v := 1) hx hb dX3_add_53 (by decide) ?_
      refine lv_iadd hx hb dX3_add_54 ?_
      refine hj_put (ci := 3) (v := .int ((ρ8.1 3) + 1)) (C := RX3) (T := TX3) (N := 4) hx hb hts iX3_add_X3 tyX3 tyX3_ok nmX3 hown hK hI hP hS (by decide) (wx_at_s (va_up_self _ _ _)) rfl 3 (by decide) mX3_add_1 rfl rfl rfl (Nat.le_of_ble_eq_true rfl) dX3_add_55 ((wx_s_s (va_up_self _ _ _)).trans (by rw [hj_uu])) (fun H locs hP hS => ?_)
      obtain ⟨ρ9, eρ9⟩ : ∃ z : hj_Ob, z = hj_s ρ8 3 ((ρ8.1 3) + 1) := ⟨_, rfl⟩
      replace hf := hj_nm_y hf eρ9
      rw [← eρ9] at hP
      refine lv_iconst (v := 1) hx hb dX3_add_58 (by decide) ?_
      have hq := Option.some.inj hf
      obtain ⟨rfl, rfl⟩ := Prod.mk.inj hq
      exact hj_retz (Or.inr rfl)  C hP hK hS dX3_add_59
    · rw [if_neg c2] at hf
      refine lv_iconst (v := 0) hx hb dX3_add_16 (by decide) ?_
      have hq := Option.some.inj hf
      obtain ⟨rfl, rfl⟩ := Prod.mk.inj hq
      exact hj_retz (Or.inl rfl)  C hP hK hS dX3_add_17
set_option maxHeartbeats 4000000 in
set_option maxRecDepth 100000 in
theorem ctX3_add (l : Launch) (g : hj_G) {ad : Nat → Nat} (hI : hj_I 73 ad) {σ : Nat → hj_Ob} {bf : Nat → Nat} {sd : Int64} {ρ : hj_Ob} (hρ : σ 63 = ρ) {x1 : Int32} {x2 : Int32} {x3 : Int32} {rF : Int32} {ρF : hj_Ob} (hf : fX3_add ρ x1 x2 x3 = some (rF, ρF)) :
    hj_MI l yX3_add wsX3_add rmX3_add g 73 ad hj_X0 [.ref (ad 63), .int x1, .int x2, .int x3] (hj_wx g ad σ bf sd) rF (hj_wx g ad (va_up σ 63 ρF) bf sd) := by
  refine hj_ofI (cc := cX3_add) (maxL := 4) (ret := (some .boolean)) (by decide) rfl (Nat.le_of_ble_eq_true rfl) ?_
  intro p e s m args below meth c ls C hP hK hX hl
  have hP : hj_P g 73 ad (hj_wx g ad (va_up σ 63 ρ) bf sd) s.heap := by rw [hj_ue σ _ hρ]; exact hP
  exact wX3_add hI C hK hf hP va_S.rf hl

/-! X3_fit -/
abbrev rmX3_fit : Room := { frames := 1, cells := 0, slots := 0, locals := 21 }
theorem iX3_fit_X3 : ∀ w ∈ wsX30, w ∈ wsX3_fit := fun _ h => List.mem_cons_of_mem _ (List.mem_append_left _ (List.mem_append_right _ h))
theorem mX3_fit_1 : Cond.fieldLink RX3 21 "HungryJury$Sights" "size" "I" ∈ wsX3_fit := List.mem_of_getElem? (i := 1) rfl
theorem mX3_fit_2 : Cond.fieldLink RX3 15 "HungryJury$Sights" "hours" "[I" ∈ wsX3_fit := List.mem_of_getElem? (i := 2) rfl
theorem mX3_fit_3 : Cond.fieldLink RX3 9 "HungryJury$Sights" "who" "[I" ∈ wsX3_fit := List.mem_of_getElem? (i := 3) rfl
theorem mX3_fit_4 : Cond.fieldLink RX3 18 "HungryJury$Sights" "side" "[I" ∈ wsX3_fit := List.mem_of_getElem? (i := 4) rfl
def fX3_fit_44 (π : hj_Ob) (ρo : hj_Ob) (ρ : hj_Ob) (x2 : Int32) (x3 : Int32) (z0 : Int32) : Option ((Int32 ⊕ Unit) ⊕ Int32) :=
  if z0 = 0 then (hj_nm (x3 + 1) fun y6 => some (.inr y6)) else (hj_ck x3 6 (hj_o1 (fX2_isYes π ρo (ρ.2 0 x3.toNatClampNeg)) fun r8 => hj_ck x3 6 (if (ρ.2 2 x3.toNatClampNeg) = 1 then (if r8 = 1 then (hj_nm (x3 + 1) fun y14 => some (.inr y14)) else (some (.inl (.inl 0)))) else (if r8 = 0 then (hj_nm (x3 + 1) fun y12 => some (.inr y12)) else (some (.inl (.inl 0)))))))
set_option maxHeartbeats 4000000 in
set_option maxRecDepth 100000 in
theorem wX3_fit_44 {p : Program} {l : Launch} {e : Env} {s : State} {m : MethodId} {args : Array Value} {below : List Frame} {meth : Method} {c : Code} {g : hj_G} {ad : Nat → Nat} (hI : hj_I 73 ad) (C : hj_C p s m args meth c cX3_fit RX3 wsX3_fit 5 (some .boolean)) (hK : hj_K g s) {σ : Nat → hj_Ob} {bf : Nat → Nat} {sd : Int64} {π : hj_Ob} (hπ : σ 3 = π) {ρo : hj_Ob} (hρ2 : σ 14 = ρo) {ρ : hj_Ob} (hρ : σ 63 = ρ) {x2 : Int32} {x3 : Int32} {z0 : Int32} {y : (Int32 ⊕ Unit) ⊕ Int32} {rF : Int32}
    (hf : fX3_fit_44 π ρo ρ x2 x3 z0 = some y) (KR : ∀ r, y = .inl (.inl r) → r = rF) (KX : y = .inl (.inr ()) → ∀ (H : Heap) (locs : List Loc) (ls : Array Slot), hj_P g 73 ad (hj_wx g ad σ bf sd) H → hj_S 73 ad s H locs → lv_has ls 5 [] → W p l e rmX3_fit s m args below meth c H locs 0 0 (MQ below (hj_QI g 73 ad (hj_wx g ad σ bf sd) rF s.heap.size) args s 0 0 (hj_A 73 ad s.heap.size)) (F0 m 87 ls [])) (KI : ∀ (v3 : Int32), y = .inr v3 → ∀ (H : Heap) (locs : List Loc) (ls : Array Slot), hj_P g 73 ad (hj_wx g ad σ bf sd) H → hj_S 73 ad s H locs → lv_has ls 5 [(0, .ref (ad 63)), (1, .ref (ad 14)), (2, .int x2), (3, .int v3)] → W p l e rmX3_fit s m args below meth c H locs 0 0 (MQ below (hj_QI g 73 ad (hj_wx g ad σ bf sd) rF s.heap.size) args s 0 0 (hj_A 73 ad s.heap.size)) (F0 m 2 ls [])) {H : Heap} {locs : List Loc} {ls : Array Slot} (hP : hj_P g 73 ad (hj_wx g ad σ bf sd) H) (hS : hj_S 73 ad s H locs) (hl : lv_has ls 5 [(0, .ref (ad 63)), (1, .ref (ad 14)), (2, .int x2), (3, .int x3)]) :
    W p l e rmX3_fit s m args below meth c H locs 0 0 (MQ below (hj_QI g 73 ad (hj_wx g ad σ bf sd) rF s.heap.size) args s 0 0 (hj_A 73 ad s.heap.size)) (F0 m 44 ls [.int z0]) := by
  obtain ⟨hx, hb, hr, hml, hown, hts, hlocks⟩ := id C
  unfold fX3_fit_44 at hf
  refine lv_istore (lv' := [(4, .int z0), (0, .ref (ad 63)), (1, .ref (ad 14)), (2, .int x2), (3, .int x3)]) hx hb dX3_fit_44 hl (by decide) rfl (fun ls hl => ?_)
  refine lv_iload hx hb dX3_fit_46 (lv_at hl 0 rfl) ?_
  refine lv_if_eq (tgt := 81) hx hb dX3_fit_48 (by decide) (fun c5 => ?_) (fun c5 => ?_)
  · rw [if_pos c5] at hf
    obtain ⟨y6, ey6⟩ : ∃ z : Int32, z = x3 + 1 := ⟨_, rfl⟩
    replace hf := hj_nm_y hf ey6
    refine lv_iinc (v := y6) (lv' := [(3, .int y6), (4, .int z0), (0, .ref (ad 63)), (1, .ref (ad 14)), (2, .int x2)]) hx hb dX3_fit_81 hl (k := 4) rfl (by rw [ey6]; rfl) (by decide) rfl (fun ls hl => ?_)
    refine lv_goto (tgt := 2) hx hb dX3_fit_84 (by decide) ?_
    exact KI _ (Option.some.inj hf).symm _ _ _ hP hS (lv_sub hl [2, 3, 4, 0] rfl)
  · rw [if_neg c5] at hf
    refine lv_aload_n hx hb dX3_fit_51 rfl (lv_at hl 2 rfl) ?_
    refine lv_aload_n hx hb dX3_fit_52 rfl (lv_at hl 1 rfl) ?_
    refine hj_get (ci := 3) (v := .ref (ad 64)) (C := RX3) (T := TX3) (N := 4) hx hb hts iX3_fit_X3 hown hK hP (by decide) (wx_at_s hρ) rfl 0 (by decide) mX3_fit_3 rfl dX3_fit_53 ?_
    refine lv_iload_n hx hb dX3_fit_56 rfl (lv_at hl 4 rfl) ?_
    obtain ⟨hk7, hf⟩ := hj_ck_s hf
    refine hj_ial (f := ρ.2 0) hx hb hK hP (by decide) (wx_at_sa 0 (by decide) hρ) hk7 dX3_fit_57 ?_
    obtain ⟨r8, hc, hf⟩ := hj_o1_s hf
    refine hj_callVi (nL := 5) (As := [.int (ρ.2 0 x3.toNatClampNeg)]) (rest := []) (i0 := 14) (C := RX2) (T := TX2) (N := 6) (ci := 2) ⟨hx, hb, hml, hown, hts⟩ (ctX2_isYes l g hI (σ := σ) (bf := bf) (sd := sd) wx_R_14 hπ hρ2 hc) (cwV 1 hts gX3_fit_X2_isYes rfl rfl rfl (by decide +kernel) ⟨Nat.le_of_ble_eq_true rfl, Nat.le_of_ble_eq_true rfl⟩) hj_Xb0 (fun _ _ _ => trivial) hK hP hS (by decide) (wx_at_r wx_R_14 hρ2) rfl rfl hl.1 rfl (Nat.le_of_ble_eq_true rfl) dX3_fit_58 (fun H locs hP hS => ?_)
    refine lv_aload_n hx hb dX3_fit_61 rfl (lv_at hl 1 rfl) ?_
    refine hj_get (ci := 3) (v := .ref (ad 66)) (C := RX3) (T := TX3) (N := 4) hx hb hts iX3_fit_X3 hown hK hP (by decide) (wx_at_s hρ) rfl 2 (by decide) mX3_fit_4 rfl dX3_fit_62 ?_
    refine lv_iload_n hx hb dX3_fit_65 rfl (lv_at hl 4 rfl) ?_
    obtain ⟨hk9, hf⟩ := hj_ck_s hf
    refine hj_ial (f := ρ.2 2) hx hb hK hP (by decide) (wx_at_sa 2 (by decide) hρ) hk9 dX3_fit_66 ?_
    refine lv_iconst (v := 1) hx hb dX3_fit_67 (by decide) ?_
    refine lv_icmp_ne (tgt := 75) hx hb dX3_fit_68 (by decide) (fun c10 => ?_) (fun c10 => ?_)
    · rw [if_neg c10] at hf
      refine lv_iconst (v := 0) hx hb dX3_fit_75 (by decide) ?_
      refine lv_icmp_eq (tgt := 81) hx hb dX3_fit_76 (by decide) (fun c11 => ?_) (fun c11 => ?_)
      · rw [if_pos c11] at hf
        obtain ⟨y12, ey12⟩ : ∃ z : Int32, z = x3 + 1 := ⟨_, rfl⟩
        replace hf := hj_nm_y hf ey12
        refine lv_iinc (v := y12) (lv' := [(3, .int y12), (4, .int z0), (0, .ref (ad 63)), (1, .ref (ad 14)), (2, .int x2)]) hx hb dX3_fit_81 hl (k := 4) rfl (by rw [ey12]; rfl) (by decide) rfl (fun ls hl => ?_)
        refine lv_goto (tgt := 2) hx hb dX3_fit_84 (by decide) ?_
        exact KI _ (Option.some.inj hf).symm _ _ _ hP hS (lv_sub hl [2, 3, 4, 0] rfl)
      · rw [if_neg c11] at hf
        refine lv_iconst (v := 0) hx hb dX3_fit_79 (by decide) ?_
        have hq := KR _ (Option.some.inj hf).symm
        obtain rfl := hq
        exact hj_retz (Or.inl rfl)  C hP hK hS dX3_fit_80
    · rw [if_pos c10] at hf
      refine lv_iconst (v := 1) hx hb dX3_fit_71 (by decide) ?_
      refine lv_goto (tgt := 76) hx hb dX3_fit_72 (by decide) ?_
      refine lv_icmp_eq (tgt := 81) hx hb dX3_fit_76 (by decide) (fun c13 => ?_) (fun c13 => ?_)
      · rw [if_pos c13] at hf
        obtain ⟨y14, ey14⟩ : ∃ z : Int32, z = x3 + 1 := ⟨_, rfl⟩
        replace hf := hj_nm_y hf ey14
        refine lv_iinc (v := y14) (lv' := [(3, .int y14), (4, .int z0), (0, .ref (ad 63)), (1, .ref (ad 14)), (2, .int x2)]) hx hb dX3_fit_81 hl (k := 4) rfl (by rw [ey14]; rfl) (by decide) rfl (fun ls hl => ?_)
        refine lv_goto (tgt := 2) hx hb dX3_fit_84 (by decide) ?_
        exact KI _ (Option.some.inj hf).symm _ _ _ hP hS (lv_sub hl [2, 3, 4, 0] rfl)
      · rw [if_neg c13] at hf
        refine lv_iconst (v := 0) hx hb dX3_fit_79 (by decide) ?_
        have hq := KR _ (Option.some.inj hf).symm
        obtain rfl := hq
        exact hj_retz (Or.inl rfl)  C hP hK hS dX3_fit_80
def fX3_fit_2 (π : hj_Ob) (ρo : hj_Ob) (ρ : hj_Ob) (x2 : Int32) (x3 : Int32) : Option ((Int32 ⊕ Unit) ⊕ Int32) :=
  if (ρ.1 3) ≤ x3 then (some (.inl (.inr ()))) else (if 6 ≤ x3 then (some (.inl (.inr ()))) else (hj_ck x3 6 (if (ρ.2 1 x3.toNatClampNeg) = x2 then (hj_ck x3 6 (hj_o1 (fX2_isThere π ρo (ρ.2 0 x3.toNatClampNeg)) fun r16 => if r16 = 0 then (fX3_fit_44 π ρo ρ x2 x3 0) else (fX3_fit_44 π ρo ρ x2 x3 1))) else (fX3_fit_44 π ρo ρ x2 x3 0))))
set_option maxHeartbeats 4000000 in
set_option maxRecDepth 100000 in
theorem wX3_fit_2b {p : Program} {l : Launch} {e : Env} {s : State} {m : MethodId} {args : Array Value} {below : List Frame} {meth : Method} {c : Code} {g : hj_G} {ad : Nat → Nat} (hI : hj_I 73 ad) (C : hj_C p s m args meth c cX3_fit RX3 wsX3_fit 5 (some .boolean)) (hK : hj_K g s) {σ : Nat → hj_Ob} {bf : Nat → Nat} {sd : Int64} {π : hj_Ob} (hπ : σ 3 = π) {ρo : hj_Ob} (hρ2 : σ 14 = ρo) {ρ : hj_Ob} (hρ : σ 63 = ρ) {x2 : Int32} {x3 : Int32} {y : (Int32 ⊕ Unit) ⊕ Int32} {rF : Int32}
    (hf : fX3_fit_2 π ρo ρ x2 x3 = some y) (KR : ∀ r, y = .inl (.inl r) → r = rF) (KX : y = .inl (.inr ()) → ∀ (H : Heap) (locs : List Loc) (ls : Array Slot), hj_P g 73 ad (hj_wx g ad σ bf sd) H → hj_S 73 ad s H locs → lv_has ls 5 [] → W p l e rmX3_fit s m args below meth c H locs 0 0 (MQ below (hj_QI g 73 ad (hj_wx g ad σ bf sd) rF s.heap.size) args s 0 0 (hj_A 73 ad s.heap.size)) (F0 m 87 ls [])) (KI : ∀ (v3 : Int32), y = .inr v3 → ∀ (H : Heap) (locs : List Loc) (ls : Array Slot), hj_P g 73 ad (hj_wx g ad σ bf sd) H → hj_S 73 ad s H locs → lv_has ls 5 [(0, .ref (ad 63)), (1, .ref (ad 14)), (2, .int x2), (3, .int v3)] → W p l e rmX3_fit s m args below meth c H locs 0 0 (MQ below (hj_QI g 73 ad (hj_wx g ad σ bf sd) rF s.heap.size) args s 0 0 (hj_A 73 ad s.heap.size)) (F0 m 2 ls [])) {H : Heap} {locs : List Loc} {ls : Array Slot} (hP : hj_P g 73 ad (hj_wx g ad σ bf sd) H) (hS : hj_S 73 ad s H locs) (hl : lv_has ls 5 [(0, .ref (ad 63)), (1, .ref (ad 14)), (2, .int x2), (3, .int x3)]) :
    W p l e rmX3_fit s m args below meth c H locs 0 0 (MQ below (hj_QI g 73 ad (hj_wx g ad σ bf sd) rF s.heap.size) args s 0 0 (hj_A 73 ad s.heap.size)) (F0 m 2 ls []) := by
  obtain ⟨hx, hb, hr, hml, hown, hts, hlocks⟩ := id C
  unfold fX3_fit_2 at hf
  refine lv_iload_n hx hb dX3_fit_2 rfl (lv_at hl 3 rfl) ?_
  refine lv_aload_n hx hb dX3_fit_3 rfl (lv_at hl 0 rfl) ?_
  refine hj_get (ci := 3) (v := .int (ρ.1 3)) (C := RX3) (T := TX3) (N := 4) hx hb hts iX3_fit_X3 hown hK hP (by decide) (wx_at_s hρ) rfl 3 (by decide) mX3_fit_1 rfl dX3_fit_4 ?_
  refine lv_icmp_ge (tgt := 87) hx hb dX3_fit_7 (by decide) (fun c1 => ?_) (fun c1 => ?_)
  · rw [if_pos c1] at hf
    exact KX  (Option.some.inj hf).symm _ _ _ hP hS (lv_sub hl [] rfl)
  · rw [if_neg c1] at hf
    refine lv_iload_n hx hb dX3_fit_10 rfl (lv_at hl 3 rfl) ?_
    refine lv_bipush (v := 6) hx hb dX3_fit_11 (by decide) ?_
    refine lv_icmp_ge (tgt := 87) hx hb dX3_fit_13 (by decide) (fun c2 => ?_) (fun c2 => ?_)
    · rw [if_pos c2] at hf
      exact KX  (Option.some.inj hf).symm _ _ _ hP hS (lv_sub hl [] rfl)
    · rw [if_neg c2] at hf
      refine lv_aload_n hx hb dX3_fit_16 rfl (lv_at hl 0 rfl) ?_
      refine hj_get (ci := 3) (v := .ref (ad 65)) (C := RX3) (T := TX3) (N := 4) hx hb hts iX3_fit_X3 hown hK hP (by decide) (wx_at_s hρ) rfl 1 (by decide) mX3_fit_2 rfl dX3_fit_17 ?_
      refine lv_iload_n hx hb dX3_fit_20 rfl (lv_at hl 3 rfl) ?_
      obtain ⟨hk3, hf⟩ := hj_ck_s hf
      refine hj_ial (f := ρ.2 1) hx hb hK hP (by decide) (wx_at_sa 1 (by decide) hρ) hk3 dX3_fit_21 ?_
      refine lv_iload_n hx hb dX3_fit_22 rfl (lv_at hl 2 rfl) ?_
      refine lv_icmp_ne (tgt := 43) hx hb dX3_fit_23 (by decide) (fun c4 => ?_) (fun c4 => ?_)
      · rw [if_neg c4] at hf
        refine lv_iconst (v := 0) hx hb dX3_fit_43 (by decide) ?_
        exact wX3_fit_44 hI C hK hπ hρ2 hρ  hf KR KX KI hP hS (lv_sub hl [0, 1, 2, 3] rfl)
      · rw [if_pos c4] at hf
        refine lv_aload_n hx hb dX3_fit_26 rfl (lv_at hl 1 rfl) ?_
        refine lv_aload_n hx hb dX3_fit_27 rfl (lv_at hl 0 rfl) ?_
        refine hj_get (ci := 3) (v := .ref (ad 64)) (C := RX3) (T := TX3) (N := 4) hx hb hts iX3_fit_X3 hown hK hP (by decide) (wx_at_s hρ) rfl 0 (by decide) mX3_fit_3 rfl dX3_fit_28 ?_
        refine lv_iload_n hx hb dX3_fit_31 rfl (lv_at hl 3 rfl) ?_
        obtain ⟨hk15, hf⟩ := hj_ck_s hf
        refine hj_ial (f := ρ.2 0) hx hb hK hP (by decide) (wx_at_sa 0 (by decide) hρ) hk15 dX3_fit_32 ?_
        obtain ⟨r16, hc, hf⟩ := hj_o1_s hf
        refine hj_callVi (nL := 5) (As := [.int (ρ.2 0 x3.toNatClampNeg)]) (rest := []) (i0 := 14) (C := RX2) (T := TX2) (N := 6) (ci := 2) ⟨hx, hb, hml, hown, hts⟩ (ctX2_isThere l g hI (σ := σ) (bf := bf) (sd := sd) wx_R_14 hπ hρ2 hc) (cwV 1 hts gX3_fit_X2_isThere rfl rfl rfl (by decide +kernel) ⟨Nat.le_of_ble_eq_true rfl, Nat.le_of_ble_eq_true rfl⟩) hj_Xb0 (fun _ _ _ => trivial) hK hP hS (by decide) (wx_at_r wx_R_14 hρ2) rfl rfl hl.1 rfl (Nat.le_of_ble_eq_true rfl) dX3_fit_33 (fun H locs hP hS => ?_)
        refine lv_if_eq (tgt := 43) hx hb dX3_fit_36 (by decide) (fun c17 => ?_) (fun c17 => ?_)
        · rw [if_pos c17] at hf
          refine lv_iconst (v := 0) hx hb dX3_fit_43 (by decide) ?_
          exact wX3_fit_44 hI C hK hπ hρ2 hρ  hf KR KX KI hP hS (lv_sub hl [0, 1, 2, 3] rfl)
        · rw [if_neg c17] at hf
          refine lv_iconst (v := 1) hx hb dX3_fit_39 (by decide) ?_
          refine lv_goto (tgt := 44) hx hb dX3_fit_40 (by decide) ?_
          exact wX3_fit_44 hI C hK hπ hρ2 hρ  hf KR KX KI hP hS (lv_sub hl [0, 1, 2, 3] rfl)
set_option maxHeartbeats 4000000 in
set_option maxRecDepth 100000 in
theorem wX3_fit_2 {p : Program} {l : Launch} {e : Env} {s : State} {m : MethodId} {args : Array Value} {below : List Frame} {meth : Method} {c : Code} {g : hj_G} {ad : Nat → Nat} (hI : hj_I 73 ad) (C : hj_C p s m args meth c cX3_fit RX3 wsX3_fit 5 (some .boolean)) (hK : hj_K g s) {σ : Nat → hj_Ob} {bf : Nat → Nat} {sd : Int64} {π : hj_Ob} (hπ : σ 3 = π) {ρo : hj_Ob} (hρ2 : σ 14 = ρo) {ρ : hj_Ob} (hρ : σ 63 = ρ) {x2 : Int32} {rF : Int32} {ex : (Int32 ⊕ Unit)} :
    ∀ (fu : Nat) (x3 : Int32), hj_lp (fun q : Int32 => fX3_fit_2 π ρo ρ x2 q) fu x3 = some ex → (∀ r, ex = .inl r → r = rF) → (ex = .inr () → ∀ (H : Heap) (locs : List Loc) (ls : Array Slot), hj_P g 73 ad (hj_wx g ad σ bf sd) H → hj_S 73 ad s H locs → lv_has ls 5 [] → W p l e rmX3_fit s m args below meth c H locs 0 0 (MQ below (hj_QI g 73 ad (hj_wx g ad σ bf sd) rF s.heap.size) args s 0 0 (hj_A 73 ad s.heap.size)) (F0 m 87 ls [])) → ∀ (H : Heap) (locs : List Loc) (ls : Array Slot), hj_P g 73 ad (hj_wx g ad σ bf sd) H → hj_S 73 ad s H locs → lv_has ls 5 [(0, .ref (ad 63)), (1, .ref (ad 14)), (2, .int x2), (3, .int x3)] →
    W p l e rmX3_fit s m args below meth c H locs 0 0 (MQ below (hj_QI g 73 ad (hj_wx g ad σ bf sd) rF s.heap.size) args s 0 0 (hj_A 73 ad s.heap.size)) (F0 m 2 ls []) := by
  intro fu
  induction fu with
  | zero => intro x3 hq; cases hq
  | succ fu ih =>
    intro x3 hq KR KX H locs ls hP hS hl
    obtain ⟨y, hy, h1, h2⟩ := hj_lp_s hq
    exact wX3_fit_2b hI C hK hπ hρ2 hρ  hy (fun r hr => KR r (h1 _ hr).symm) (fun  hv => KX  (h1 _ hv).symm) (fun v3 hv H locs ls hP hS hl => ih v3 (h2 _ hv) KR KX H locs ls hP hS hl) hP hS hl
def fX3_fit (π : hj_Ob) (ρo : hj_Ob) (ρ : hj_Ob) (x2 : Int32) : Option Int32 :=
  hj_oe (fun r => r) (hj_lp (fun q : Int32 => fX3_fit_2 π ρo ρ x2 q) 100 0) (fun ex18 => some 1)
set_option maxHeartbeats 4000000 in
set_option maxRecDepth 100000 in
theorem wX3_fit {p : Program} {l : Launch} {e : Env} {s : State} {m : MethodId} {args : Array Value} {below : List Frame} {meth : Method} {c : Code} {g : hj_G} {ad : Nat → Nat} (hI : hj_I 73 ad) (C : hj_C p s m args meth c cX3_fit RX3 wsX3_fit 5 (some .boolean)) (hK : hj_K g s) {σ : Nat → hj_Ob} {bf : Nat → Nat} {sd : Int64} {π : hj_Ob} (hπ : σ 3 = π) {ρo : hj_Ob} (hρ2 : σ 14 = ρo) {ρ : hj_Ob} (hρ : σ 63 = ρ) {x2 : Int32} {rF : Int32}
    (hf : fX3_fit π ρo ρ x2 = some rF) {H : Heap} {locs : List Loc} {ls : Array Slot} (hP : hj_P g 73 ad (hj_wx g ad σ bf sd) H) (hS : hj_S 73 ad s H locs) (hl : lv_has ls 5 [(0, .ref (ad 63)), (1, .ref (ad 14)), (2, .int x2)]) :
    W p l e rmX3_fit s m args below meth c H locs 0 0 (MQ below (hj_QI g 73 ad (hj_wx g ad σ bf sd) rF s.heap.size) args s 0 0 (hj_A 73 ad s.heap.size)) (F0 m 0 ls []) := by
  obtain ⟨hx, hb, hr, hml, hown, hts, hlocks⟩ := id C
  unfold fX3_fit at hf
  refine lv_iconst (v := 0) hx hb dX3_fit_0 (by decide) ?_
  refine lv_istore_n (lv' := [(3, .int 0), (0, .ref (ad 63)), (1, .ref (ad 14)), (2, .int x2)]) hx hb dX3_fit_1 rfl hl (by decide) rfl (fun ls hl => ?_)
  obtain ⟨exx, hlx, hlr, hfx⟩ := hj_oe_s hf
  refine wX3_fit_2 hI C hK hπ hρ2 hρ  100 0 hlx hlr (fun hxe H locs ls hP hS hl => ?_) H locs ls hP hS (lv_sub hl [1, 2, 3, 0] rfl)
  replace hf := hfx _ hxe
  refine lv_iconst (v := 1) hx hb dX3_fit_87 (by decide) ?_
  have hq := Option.some.inj hf
  obtain rfl := hq
  exact hj_retz (Or.inr rfl)  C hP hK hS dX3_fit_88
set_option maxHeartbeats 4000000 in
set_option maxRecDepth 100000 in
theorem ctX3_fit (l : Launch) (g : hj_G) {ad : Nat → Nat} (hI : hj_I 73 ad) {σ : Nat → hj_Ob} {bf : Nat → Nat} {sd : Int64} {π : hj_Ob} (hπ : σ 3 = π) {ρo : hj_Ob} (hρ2 : σ 14 = ρo) {ρ : hj_Ob} (hρ : σ 63 = ρ) {x2 : Int32} {rF : Int32} (hf : fX3_fit π ρo ρ x2 = some rF) :
    hj_MI l yX3_fit wsX3_fit rmX3_fit g 73 ad hj_X0 [.ref (ad 63), .ref (ad 14), .int x2] (hj_wx g ad σ bf sd) rF (hj_wx g ad σ bf sd) := by
  refine hj_ofI (cc := cX3_fit) (maxL := 5) (ret := (some .boolean)) (by decide) rfl (Nat.le_of_ble_eq_true rfl) ?_
  intro p e s m args below meth c ls C hP hK hX hl
  exact wX3_fit hI C hK hπ hρ2 hρ hf hP va_S.rf hl
