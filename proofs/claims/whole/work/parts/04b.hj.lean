/-! X5_gives -/
abbrev rmX5_gives : Room := { frames := 3, cells := 0, slots := 0, locals := 68 }
theorem iX5_gives_X5 : ∀ w ∈ wsX50, w ∈ wsX5_gives := fun _ h => List.mem_cons_of_mem _ (List.mem_append_left _ (List.mem_append_left _ (List.mem_append_right _ h)))
theorem mX5_gives_1 : Cond.fieldLink RX5 31 "HungryJury" "now" "LHungryJury$Room;" ∈ wsX5_gives := List.mem_of_getElem? (i := 1) rfl
theorem mX5_gives_2 : Cond.fieldLink RX5 35 "HungryJury" "trial" "LHungryJury$Room;" ∈ wsX5_gives := List.mem_of_getElem? (i := 2) rfl
def fX5_gives_37 (σ : Nat → hj_Ob) (bf : Nat → Nat) (sd : Int64) (x1 : Int32) (x2 : Int32) : Option (((Int32 × (Nat → hj_Ob)) ⊕ (Nat → hj_Ob)) ⊕ (Int32 × (Nat → hj_Ob))) :=
  if 20 < x2 then (some (.inl (.inr σ))) else (hj_o2 (fX2_passHour (σ 3) (σ 14)) fun r8 ρ9 => hj_nm (va_up σ 14 ρ9) fun σ10 => if ((r8 >>> (x1 &&& 31)) &&& 1) = 1 then (some (.inl (.inl (x2, σ10)))) else (hj_nm (x2 + 1) fun y12 => some (.inr (y12, σ10))))
set_option maxHeartbeats 4000000 in
set_option maxRecDepth 100000 in
theorem wX5_gives_37b {p : Program} {l : Launch} {e : Env} {s : State} {m : MethodId} {args : Array Value} {below : List Frame} {meth : Method} {c : Code} {g : hj_G} {ad : Nat → Nat} (hI : hj_I 73 ad) (C : hj_C p s m args meth c cX5_gives RX5 wsX5_gives 3 (some .int)) (hK : hj_K g s) {σ : Nat → hj_Ob} {bf : Nat → Nat} {sd : Int64} {x1 : Int32} {x2 : Int32} {y : ((Int32 × (Nat → hj_Ob)) ⊕ (Nat → hj_Ob)) ⊕ (Int32 × (Nat → hj_Ob))} {rF : Int32} {σF : Nat → hj_Ob}
    (hf : fX5_gives_37 σ bf sd x1 x2 = some y) (KR : ∀ r, y = .inl (.inl r) → r = (rF, σF)) (KX : ∀ (σ' : Nat → hj_Ob), y = .inl (.inr σ') → ∀ (H : Heap) (locs : List Loc) (ls : Array Slot), hj_P g 73 ad (hj_wx g ad σ' bf sd) H → hj_S 73 ad s H locs → lv_has ls 3 [] → W p l e rmX5_gives s m args below meth c H locs 0 0 (MQ below (hj_QI g 73 ad (hj_wx g ad σF bf sd) rF s.heap.size) args s 0 0 (hj_A 73 ad s.heap.size)) (F0 m 66 ls [])) (KI : ∀ (v2 : Int32) (σ' : Nat → hj_Ob), y = .inr (v2, σ') → ∀ (H : Heap) (locs : List Loc) (ls : Array Slot), hj_P g 73 ad (hj_wx g ad σ' bf sd) H → hj_S 73 ad s H locs → lv_has ls 3 [(0, .ref (ad 0)), (1, .int x1), (2, .int v2)] → W p l e rmX5_gives s m args below meth c H locs 0 0 (MQ below (hj_QI g 73 ad (hj_wx g ad σF bf sd) rF s.heap.size) args s 0 0 (hj_A 73 ad s.heap.size)) (F0 m 37 ls [])) {H : Heap} {locs : List Loc} {ls : Array Slot} (hP : hj_P g 73 ad (hj_wx g ad σ bf sd) H) (hS : hj_S 73 ad s H locs) (hl : lv_has ls 3 [(0, .ref (ad 0)), (1, .int x1), (2, .int x2)]) :
    W p l e rmX5_gives s m args below meth c H locs 0 0 (MQ below (hj_QI g 73 ad (hj_wx g ad σF bf sd) rF s.heap.size) args s 0 0 (hj_A 73 ad s.heap.size)) (F0 m 37 ls []) := by
  obtain ⟨hx, hb, hr, hml, hown, hts, hlocks⟩ := id C
  unfold fX5_gives_37 at hf
  refine lv_iload_n hx hb dX5_gives_37 rfl (lv_at hl 2 rfl) ?_
  refine lv_bipush (v := 20) hx hb dX5_gives_38 (by decide) ?_
  refine lv_icmp_gt (tgt := 66) hx hb dX5_gives_40 (by decide) (fun c7 => ?_) (fun c7 => ?_)
  · rw [if_pos c7] at hf
    exact KX _ (Option.some.inj hf).symm _ _ _ hP hS (lv_sub hl [] rfl)
  · rw [if_neg c7] at hf
    refine lv_aload_n hx hb dX5_gives_43 rfl (lv_at hl 0 rfl) ?_
    refine hj_get (ci := 5) (v := .ref (ad 14)) (C := RX5) (T := TX5) (N := 10) hx hb hts iX5_gives_X5 hown hK hP (by decide) wx_at_h rfl 4 (by decide) mX5_gives_2 rfl dX5_gives_44 ?_
    obtain ⟨r8, ρ9, hc, hf⟩ := hj_o2_s hf
    refine hj_callVi (nL := 3) (As := []) (rest := []) (i0 := 14) (C := RX2) (T := TX2) (N := 6) (ci := 2) ⟨hx, hb, hml, hown, hts⟩ (ctX2_passHour l g hI (σ := σ) (bf := bf) (sd := sd) wx_R_14 rfl rfl hc) (cwV 0 hts gX5_gives_X2_passHour rfl rfl rfl (by decide +kernel) ⟨Nat.le_of_ble_eq_true rfl, Nat.le_of_ble_eq_true rfl⟩) hj_Xb0 (fun _ _ _ => trivial) hK hP hS (by decide) (wx_at_r wx_R_14 rfl) rfl rfl hl.1 rfl (Nat.le_of_ble_eq_true rfl) dX5_gives_47 (fun H locs hP hS => ?_)
    obtain ⟨σ10, eσ10⟩ : ∃ z : Nat → hj_Ob, z = va_up σ 14 ρ9 := ⟨_, rfl⟩
    replace hf := hj_nm_y hf eσ10
    rw [← eσ10] at hP
    refine lv_iload_n hx hb dX5_gives_50 rfl (lv_at hl 1 rfl) ?_
    refine lv_ishr hx hb dX5_gives_51 ?_
    refine lv_iconst (v := 1) hx hb dX5_gives_52 (by decide) ?_
    refine lv_iand hx hb dX5_gives_53 ?_
    refine lv_iconst (v := 1) hx hb dX5_gives_54 (by decide) ?_
    refine lv_icmp_ne (tgt := 60) hx hb dX5_gives_55 (by decide) (fun c11 => ?_) (fun c11 => ?_)
    · rw [if_neg c11] at hf
      obtain ⟨y12, ey12⟩ : ∃ z : Int32, z = x2 + 1 := ⟨_, rfl⟩
      replace hf := hj_nm_y hf ey12
      refine lv_iinc (v := y12) (lv' := [(2, .int y12), (0, .ref (ad 0)), (1, .int x1)]) hx hb dX5_gives_60 hl (k := 2) rfl (by rw [ey12]; rfl) (by decide) rfl (fun ls hl => ?_)
      refine lv_goto (tgt := 37) hx hb dX5_gives_63 (by decide) ?_
      exact KI _ _ (Option.some.inj hf).symm _ _ _ hP hS (lv_sub hl [1, 2, 0] rfl)
    · rw [if_pos c11] at hf
      refine lv_iload_n hx hb dX5_gives_58 rfl (lv_at hl 2 rfl) ?_
      have hq := KR _ (Option.some.inj hf).symm
      obtain ⟨rfl, rfl⟩ := Prod.mk.inj hq
      exact hj_reti C hP hK hS dX5_gives_59
set_option maxHeartbeats 4000000 in
set_option maxRecDepth 100000 in
theorem wX5_gives_37 {p : Program} {l : Launch} {e : Env} {s : State} {m : MethodId} {args : Array Value} {below : List Frame} {meth : Method} {c : Code} {g : hj_G} {ad : Nat → Nat} (hI : hj_I 73 ad) (C : hj_C p s m args meth c cX5_gives RX5 wsX5_gives 3 (some .int)) (hK : hj_K g s) {bf : Nat → Nat} {sd : Int64} {x1 : Int32} {rF : Int32} {σF : Nat → hj_Ob} {ex : ((Int32 × (Nat → hj_Ob)) ⊕ (Nat → hj_Ob))} :
    ∀ (fu : Nat) (x2 : Int32) (σ : Nat → hj_Ob), hj_lp (fun q : (Int32 × (Nat → hj_Ob)) => fX5_gives_37 q.2 bf sd x1 q.1) fu (x2, σ) = some ex → (∀ r, ex = .inl r → r = (rF, σF)) → (∀ (σ' : Nat → hj_Ob), ex = .inr σ' → ∀ (H : Heap) (locs : List Loc) (ls : Array Slot), hj_P g 73 ad (hj_wx g ad σ' bf sd) H → hj_S 73 ad s H locs → lv_has ls 3 [] → W p l e rmX5_gives s m args below meth c H locs 0 0 (MQ below (hj_QI g 73 ad (hj_wx g ad σF bf sd) rF s.heap.size) args s 0 0 (hj_A 73 ad s.heap.size)) (F0 m 66 ls [])) → ∀ (H : Heap) (locs : List Loc) (ls : Array Slot), hj_P g 73 ad (hj_wx g ad σ bf sd) H → hj_S 73 ad s H locs → lv_has ls 3 [(0, .ref (ad 0)), (1, .int x1), (2, .int x2)] →
    W p l e rmX5_gives s m args below meth c H locs 0 0 (MQ below (hj_QI g 73 ad (hj_wx g ad σF bf sd) rF s.heap.size) args s 0 0 (hj_A 73 ad s.heap.size)) (F0 m 37 ls []) := by
  intro fu
  induction fu with
  | zero => intro x2 σ hq; cases hq
  | succ fu ih =>
    intro x2 σ hq KR KX H locs ls hP hS hl
    obtain ⟨y, hy, h1, h2⟩ := hj_lp_s hq
    exact wX5_gives_37b hI C hK  hy (fun r hr => KR r (h1 _ hr).symm) (fun σ' hv => KX σ' (h1 _ hv).symm) (fun v2 σ' hv H locs ls hP hS hl => ih v2 σ' (h2 _ hv) KR KX H locs ls hP hS hl) hP hS hl
def fX5_gives (σ : Nat → hj_Ob) (bf : Nat → Nat) (sd : Int64) (x1 : Int32) : Option (Int32 × (Nat → hj_Ob)) :=
  hj_o1 (fX5_isJuror σ bf sd x1) fun r1 => if r1 = 0 then (some ((-1), σ)) else (hj_o1 (fX2_isThere (σ 3) (σ 11) x1) fun r3 => if r3 = 0 then (some ((-3), σ)) else (hj_o1 (fX2_copyFrom (σ 3) (σ 11) (σ 14)) fun ρ5 => hj_nm (va_up σ 14 ρ5) fun σ6 => hj_oe (fun r => r) (hj_lp (fun q : (Int32 × (Nat → hj_Ob)) => fX5_gives_37 q.2 bf sd x1 q.1) 100 (1, σ6)) (fun ex14 => hj_nm ex14 fun σ13 => some ((-9), σ13))))
set_option maxHeartbeats 4000000 in
set_option maxRecDepth 100000 in
theorem wX5_gives {p : Program} {l : Launch} {e : Env} {s : State} {m : MethodId} {args : Array Value} {below : List Frame} {meth : Method} {c : Code} {g : hj_G} {ad : Nat → Nat} (hI : hj_I 73 ad) (C : hj_C p s m args meth c cX5_gives RX5 wsX5_gives 3 (some .int)) (hK : hj_K g s) {σ : Nat → hj_Ob} {bf : Nat → Nat} {sd : Int64} {x1 : Int32} {rF : Int32} {σF : Nat → hj_Ob}
    (hf : fX5_gives σ bf sd x1 = some (rF, σF)) {H : Heap} {locs : List Loc} {ls : Array Slot} (hP : hj_P g 73 ad (hj_wx g ad σ bf sd) H) (hS : hj_S 73 ad s H locs) (hl : lv_has ls 3 [(0, .ref (ad 0)), (1, .int x1)]) :
    W p l e rmX5_gives s m args below meth c H locs 0 0 (MQ below (hj_QI g 73 ad (hj_wx g ad σF bf sd) rF s.heap.size) args s 0 0 (hj_A 73 ad s.heap.size)) (F0 m 0 ls []) := by
  obtain ⟨hx, hb, hr, hml, hown, hts, hlocks⟩ := id C
  unfold fX5_gives at hf
  refine lv_aload_n hx hb dX5_gives_0 rfl (lv_at hl 0 rfl) ?_
  refine lv_iload_n hx hb dX5_gives_1 rfl (lv_at hl 1 rfl) ?_
  obtain ⟨r1, hc, hf⟩ := hj_o1_s hf
  refine hj_callVi (nL := 3) (As := [.int x1]) (rest := []) (i0 := 0) (C := RX5) (T := TX5) (N := 10) (ci := 5) ⟨hx, hb, hml, hown, hts⟩ (ctX5_isJuror l g hI hc) (cwV 1 hts gX5_gives_X5_isJuror rfl rfl rfl (by decide +kernel) ⟨Nat.le_of_ble_eq_true rfl, Nat.le_of_ble_eq_true rfl⟩) hj_Xb0 (fun _ _ _ => trivial) hK hP hS (by decide) wx_at_h rfl rfl hl.1 rfl (Nat.le_of_ble_eq_true rfl) dX5_gives_2 (fun H locs hP hS => ?_)
  refine lv_if_ne (tgt := 10) hx hb dX5_gives_5 (by decide) (fun c2 => ?_) (fun c2 => ?_)
  · rw [if_neg c2] at hf
    refine lv_aload_n hx hb dX5_gives_10 rfl (lv_at hl 0 rfl) ?_
    refine hj_get (ci := 5) (v := .ref (ad 11)) (C := RX5) (T := TX5) (N := 10) hx hb hts iX5_gives_X5 hown hK hP (by decide) wx_at_h rfl 3 (by decide) mX5_gives_1 rfl dX5_gives_11 ?_
    refine lv_iload_n hx hb dX5_gives_14 rfl (lv_at hl 1 rfl) ?_
    obtain ⟨r3, hc, hf⟩ := hj_o1_s hf
    refine hj_callVi (nL := 3) (As := [.int x1]) (rest := []) (i0 := 11) (C := RX2) (T := TX2) (N := 6) (ci := 2) ⟨hx, hb, hml, hown, hts⟩ (ctX2_isThere l g hI (σ := σ) (bf := bf) (sd := sd) wx_R_11 rfl rfl hc) (cwV 1 hts gX5_gives_X2_isThere rfl rfl rfl (by decide +kernel) ⟨Nat.le_of_ble_eq_true rfl, Nat.le_of_ble_eq_true rfl⟩) hj_Xb0 (fun _ _ _ => trivial) hK hP hS (by decide) (wx_at_r wx_R_11 rfl) rfl rfl hl.1 rfl (Nat.le_of_ble_eq_true rfl) dX5_gives_15 (fun H locs hP hS => ?_)
    refine lv_if_ne (tgt := 24) hx hb dX5_gives_18 (by decide) (fun c4 => ?_) (fun c4 => ?_)
    · rw [if_neg c4] at hf
      refine lv_aload_n hx hb dX5_gives_24 rfl (lv_at hl 0 rfl) ?_
      refine hj_get (ci := 5) (v := .ref (ad 14)) (C := RX5) (T := TX5) (N := 10) hx hb hts iX5_gives_X5 hown hK hP (by decide) wx_at_h rfl 4 (by decide) mX5_gives_2 rfl dX5_gives_25 ?_
      refine lv_aload_n hx hb dX5_gives_28 rfl (lv_at hl 0 rfl) ?_
      refine hj_get (ci := 5) (v := .ref (ad 11)) (C := RX5) (T := TX5) (N := 10) hx hb hts iX5_gives_X5 hown hK hP (by decide) wx_at_h rfl 3 (by decide) mX5_gives_1 rfl dX5_gives_29 ?_
      obtain ⟨ρ5, hc, hf⟩ := hj_o1_s hf
      refine hj_callVv (nL := 3) (As := [.ref (ad 11)]) (rest := []) (i0 := 14) (C := RX2) (T := TX2) (N := 6) (ci := 2) ⟨hx, hb, hml, hown, hts⟩ (ctX2_copyFrom l g hI (σ := σ) (bf := bf) (sd := sd) wx_R_14 rfl wx_R_11 (by decide) rfl rfl hc) (cwV 1 hts gX5_gives_X2_copyFrom rfl rfl rfl (by decide +kernel) ⟨Nat.le_of_ble_eq_true rfl, Nat.le_of_ble_eq_true rfl⟩) hj_Xb0 (fun _ _ _ => trivial) hK hP hS (by decide) (wx_at_r wx_R_14 rfl) rfl rfl hl.1 rfl (Nat.le_of_ble_eq_true rfl) dX5_gives_32 (fun H locs hP hS => ?_)
      obtain ⟨σ6, eσ6⟩ : ∃ z : Nat → hj_Ob, z = va_up σ 14 ρ5 := ⟨_, rfl⟩
      replace hf := hj_nm_y hf eσ6
      rw [← eσ6] at hP
      refine lv_iconst (v := 1) hx hb dX5_gives_35 (by decide) ?_
      refine lv_istore_n (lv' := [(2, .int 1), (0, .ref (ad 0)), (1, .int x1)]) hx hb dX5_gives_36 rfl hl (by decide) rfl (fun ls hl => ?_)
      obtain ⟨exx, hlx, hlr, hfx⟩ := hj_oe_s hf
      refine wX5_gives_37 hI C hK  100 1 σ6 hlx hlr (fun σ13 hxe H locs ls hP hS hl => ?_) H locs ls hP hS (lv_sub hl [1, 2, 0] rfl)
      replace hf := hfx _ hxe
      replace hf := hj_nm_y (y := σ13) hf rfl
      refine lv_bipush (v := (-9)) hx hb dX5_gives_66 (by decide) ?_
      have hq := Option.some.inj hf
      obtain ⟨rfl, rfl⟩ := Prod.mk.inj hq
      exact hj_reti C hP hK hS dX5_gives_68
    · rw [if_pos c4] at hf
      refine lv_bipush (v := (-3)) hx hb dX5_gives_21 (by decide) ?_
      have hq := Option.some.inj hf
      obtain ⟨rfl, rfl⟩ := Prod.mk.inj hq
      exact hj_reti C hP hK hS dX5_gives_23
  · rw [if_pos c2] at hf
    refine lv_iconst (v := (-1)) hx hb dX5_gives_8 (by decide) ?_
    have hq := Option.some.inj hf
    obtain ⟨rfl, rfl⟩ := Prod.mk.inj hq
    exact hj_reti C hP hK hS dX5_gives_9
set_option maxHeartbeats 4000000 in
set_option maxRecDepth 100000 in
theorem ctX5_gives (l : Launch) (g : hj_G) {ad : Nat → Nat} (hI : hj_I 73 ad) {σ : Nat → hj_Ob} {bf : Nat → Nat} {sd : Int64} {x1 : Int32} {rF : Int32} {σF : Nat → hj_Ob} (hf : fX5_gives σ bf sd x1 = some (rF, σF)) :
    hj_MI l yX5_gives wsX5_gives rmX5_gives g 73 ad hj_X0 [.ref (ad 0), .int x1] (hj_wx g ad σ bf sd) rF (hj_wx g ad σF bf sd) := by
  refine hj_ofI (cc := cX5_gives) (maxL := 3) (ret := (some .int)) (by decide) rfl (Nat.le_of_ble_eq_true rfl) ?_
  intro p e s m args below meth c ls C hP hK hX hl
  exact wX5_gives hI C hK hf hP va_S.rf hl

/-! X5_isSide -/
abbrev rmX5_isSide : Room := { frames := 0, cells := 0, slots := 0, locals := 0 }
def fX5_isSide (x0 : Int32) : Option Int32 :=
  if x0 = 0 then (some 1) else (if x0 = 1 then (some 1) else (some 0))
set_option maxHeartbeats 4000000 in
set_option maxRecDepth 100000 in
theorem wX5_isSide {p : Program} {l : Launch} {e : Env} {s : State} {m : MethodId} {args : Array Value} {below : List Frame} {meth : Method} {c : Code} {g : hj_G} {ad : Nat → Nat} {n : Nat} {w : Nat → va_E} (C : hj_C p s m args meth c cX5_isSide RX5 wsX5_isSide 1 (some .boolean)) (hK : hj_K g s) {x0 : Int32} {rF : Int32}
    (hf : fX5_isSide x0 = some rF) {H : Heap} {locs : List Loc} {ls : Array Slot} (hP : hj_P g n ad w H) (hS : hj_S n ad s H locs) (hl : lv_has ls 1 [(0, .int x0)]) :
    W p l e rmX5_isSide s m args below meth c H locs 0 0 (MQ below (hj_QI g n ad w rF s.heap.size) args s 0 0 (hj_A n ad s.heap.size)) (F0 m 0 ls []) := by
  obtain ⟨hx, hb, hr, hml, hown, hts, hlocks⟩ := id C
  unfold fX5_isSide at hf
  refine lv_iload_n hx hb dX5_isSide_0 rfl (lv_at hl 0 rfl) ?_
  refine lv_if_eq (tgt := 9) hx hb dX5_isSide_1 (by decide) (fun c1 => ?_) (fun c1 => ?_)
  · rw [if_pos c1] at hf
    refine lv_iconst (v := 1) hx hb dX5_isSide_9 (by decide) ?_
    refine lv_goto (tgt := 14) hx hb dX5_isSide_10 (by decide) ?_
    have hq := Option.some.inj hf
    obtain rfl := hq
    exact hj_retz (Or.inr rfl)  C hP hK hS dX5_isSide_14
  · rw [if_neg c1] at hf
    refine lv_iload_n hx hb dX5_isSide_4 rfl (lv_at hl 0 rfl) ?_
    refine lv_iconst (v := 1) hx hb dX5_isSide_5 (by decide) ?_
    refine lv_icmp_ne (tgt := 13) hx hb dX5_isSide_6 (by decide) (fun c2 => ?_) (fun c2 => ?_)
    · rw [if_neg c2] at hf
      refine lv_iconst (v := 0) hx hb dX5_isSide_13 (by decide) ?_
      have hq := Option.some.inj hf
      obtain rfl := hq
      exact hj_retz (Or.inl rfl)  C hP hK hS dX5_isSide_14
    · rw [if_pos c2] at hf
      refine lv_iconst (v := 1) hx hb dX5_isSide_9 (by decide) ?_
      refine lv_goto (tgt := 14) hx hb dX5_isSide_10 (by decide) ?_
      have hq := Option.some.inj hf
      obtain rfl := hq
      exact hj_retz (Or.inr rfl)  C hP hK hS dX5_isSide_14
set_option maxHeartbeats 4000000 in
set_option maxRecDepth 100000 in
theorem ctX5_isSide (l : Launch) (g : hj_G) {ad : Nat → Nat} {n : Nat} {w : Nat → va_E} {x0 : Int32} {rF : Int32} (hf : fX5_isSide x0 = some rF) :
    hj_MI l yX5_isSide wsX5_isSide rmX5_isSide g n ad hj_X0 [.int x0] w rF w := by
  refine hj_ofI (cc := cX5_isSide) (maxL := 1) (ret := (some .boolean)) (by decide) rfl (Nat.le_of_ble_eq_true rfl) ?_
  intro p e s m args below meth c ls C hP hK hX hl
  exact wX5_isSide C hK hf hP va_S.rf hl

/-! X5_endAfter -/
abbrev rmX5_endAfter : Room := { frames := 4, cells := 0, slots := 0, locals := 90 }
theorem iX5_endAfter_X5 : ∀ w ∈ wsX50, w ∈ wsX5_endAfter := fun _ h => List.mem_cons_of_mem _ (List.mem_append_left _ (List.mem_append_left _ (List.mem_append_right _ h)))
theorem mX5_endAfter_1 : Cond.fieldLink RX5 35 "HungryJury" "trial" "LHungryJury$Room;" ∈ wsX5_endAfter := List.mem_of_getElem? (i := 1) rfl
theorem mX5_endAfter_2 : Cond.fieldLink RX5 31 "HungryJury" "now" "LHungryJury$Room;" ∈ wsX5_endAfter := List.mem_of_getElem? (i := 2) rfl
def fX5_endAfter_13 (σ : Nat → hj_Ob) (bf : Nat → Nat) (sd : Int64) (x1 : Int32) (x2 : Int32) (x3 : Int32) : Option ((Nat → hj_Ob) ⊕ (Int32 × (Nat → hj_Ob))) :=
  if 6 ≤ x3 then (some (.inl σ)) else (if ((x2 >>> (x3 &&& 31)) &&& 1) = 1 then (hj_o1 (fX2_carryOut (σ 3) (σ 14) x1 x3) fun ρ6 => hj_nm (va_up σ 14 ρ6) fun σ7 => hj_nm (x3 + 1) fun y8 => some (.inr (y8, σ7))) else (hj_nm (x3 + 1) fun y5 => some (.inr (y5, σ))))
set_option maxHeartbeats 4000000 in
set_option maxRecDepth 100000 in
theorem wX5_endAfter_13b {p : Program} {l : Launch} {e : Env} {s : State} {m : MethodId} {args : Array Value} {below : List Frame} {meth : Method} {c : Code} {g : hj_G} {ad : Nat → Nat} (hI : hj_I 73 ad) (C : hj_C p s m args meth c cX5_endAfter RX5 wsX5_endAfter 4 (some .int)) (hK : hj_K g s) {σ : Nat → hj_Ob} {bf : Nat → Nat} {sd : Int64} {x1 : Int32} {x2 : Int32} {x3 : Int32} {y : (Nat → hj_Ob) ⊕ (Int32 × (Nat → hj_Ob))} {rF : Int32} {σF : Nat → hj_Ob}
    (hf : fX5_endAfter_13 σ bf sd x1 x2 x3 = some y) (KX : ∀ (σ' : Nat → hj_Ob), y = .inl σ' → ∀ (H : Heap) (locs : List Loc) (ls : Array Slot), hj_P g 73 ad (hj_wx g ad σ' bf sd) H → hj_S 73 ad s H locs → lv_has ls 4 [(0, .ref (ad 0))] → W p l e rmX5_endAfter s m args below meth c H locs 0 0 (MQ below (hj_QI g 73 ad (hj_wx g ad σF bf sd) rF s.heap.size) args s 0 0 (hj_A 73 ad s.heap.size)) (F0 m 43 ls [])) (KI : ∀ (v3 : Int32) (σ' : Nat → hj_Ob), y = .inr (v3, σ') → ∀ (H : Heap) (locs : List Loc) (ls : Array Slot), hj_P g 73 ad (hj_wx g ad σ' bf sd) H → hj_S 73 ad s H locs → lv_has ls 4 [(0, .ref (ad 0)), (1, .int x1), (2, .int x2), (3, .int v3)] → W p l e rmX5_endAfter s m args below meth c H locs 0 0 (MQ below (hj_QI g 73 ad (hj_wx g ad σF bf sd) rF s.heap.size) args s 0 0 (hj_A 73 ad s.heap.size)) (F0 m 13 ls [])) {H : Heap} {locs : List Loc} {ls : Array Slot} (hP : hj_P g 73 ad (hj_wx g ad σ bf sd) H) (hS : hj_S 73 ad s H locs) (hl : lv_has ls 4 [(0, .ref (ad 0)), (1, .int x1), (2, .int x2), (3, .int x3)]) :
    W p l e rmX5_endAfter s m args below meth c H locs 0 0 (MQ below (hj_QI g 73 ad (hj_wx g ad σF bf sd) rF s.heap.size) args s 0 0 (hj_A 73 ad s.heap.size)) (F0 m 13 ls []) := by
  obtain ⟨hx, hb, hr, hml, hown, hts, hlocks⟩ := id C
  unfold fX5_endAfter_13 at hf
  refine lv_iload_n hx hb dX5_endAfter_13 rfl (lv_at hl 3 rfl) ?_
  refine lv_bipush (v := 6) hx hb dX5_endAfter_14 (by decide) ?_
  refine lv_icmp_ge (tgt := 43) hx hb dX5_endAfter_16 (by decide) (fun c3 => ?_) (fun c3 => ?_)
  · rw [if_pos c3] at hf
    exact KX _ (Option.some.inj hf).symm _ _ _ hP hS (lv_sub hl [0] rfl)
  · rw [if_neg c3] at hf
    refine lv_iload_n hx hb dX5_endAfter_19 rfl (lv_at hl 2 rfl) ?_
    refine lv_iload_n hx hb dX5_endAfter_20 rfl (lv_at hl 3 rfl) ?_
    refine lv_ishr hx hb dX5_endAfter_21 ?_
    refine lv_iconst (v := 1) hx hb dX5_endAfter_22 (by decide) ?_
    refine lv_iand hx hb dX5_endAfter_23 ?_
    refine lv_iconst (v := 1) hx hb dX5_endAfter_24 (by decide) ?_
    refine lv_icmp_ne (tgt := 37) hx hb dX5_endAfter_25 (by decide) (fun c4 => ?_) (fun c4 => ?_)
    · rw [if_neg c4] at hf
      obtain ⟨y5, ey5⟩ : ∃ z : Int32, z = x3 + 1 := ⟨_, rfl⟩
      replace hf := hj_nm_y hf ey5
      refine lv_iinc (v := y5) (lv' := [(3, .int y5), (0, .ref (ad 0)), (1, .int x1), (2, .int x2)]) hx hb dX5_endAfter_37 hl (k := 3) rfl (by rw [ey5]; rfl) (by decide) rfl (fun ls hl => ?_)
      refine lv_goto (tgt := 13) hx hb dX5_endAfter_40 (by decide) ?_
      exact KI _ _ (Option.some.inj hf).symm _ _ _ hP hS (lv_sub hl [1, 2, 3, 0] rfl)
    · rw [if_pos c4] at hf
      refine lv_aload_n hx hb dX5_endAfter_28 rfl (lv_at hl 0 rfl) ?_
      refine hj_get (ci := 5) (v := .ref (ad 14)) (C := RX5) (T := TX5) (N := 10) hx hb hts iX5_endAfter_X5 hown hK hP (by decide) wx_at_h rfl 4 (by decide) mX5_endAfter_1 rfl dX5_endAfter_29 ?_
      refine lv_iload_n hx hb dX5_endAfter_32 rfl (lv_at hl 1 rfl) ?_
      refine lv_iload_n hx hb dX5_endAfter_33 rfl (lv_at hl 3 rfl) ?_
      obtain ⟨ρ6, hc, hf⟩ := hj_o1_s hf
      refine hj_callVv (nL := 4) (As := [.int x1, .int x3]) (rest := []) (i0 := 14) (C := RX2) (T := TX2) (N := 6) (ci := 2) ⟨hx, hb, hml, hown, hts⟩ (ctX2_carryOut l g hI (σ := σ) (bf := bf) (sd := sd) wx_R_14 rfl rfl hc) (cwV 2 hts gX5_endAfter_X2_carryOut rfl rfl rfl (by decide +kernel) ⟨Nat.le_of_ble_eq_true rfl, Nat.le_of_ble_eq_true rfl⟩) hj_Xb0 (fun _ _ _ => trivial) hK hP hS (by decide) (wx_at_r wx_R_14 rfl) rfl rfl hl.1 rfl (Nat.le_of_ble_eq_true rfl) dX5_endAfter_34 (fun H locs hP hS => ?_)
      obtain ⟨σ7, eσ7⟩ : ∃ z : Nat → hj_Ob, z = va_up σ 14 ρ6 := ⟨_, rfl⟩
      replace hf := hj_nm_y hf eσ7
      rw [← eσ7] at hP
      obtain ⟨y8, ey8⟩ : ∃ z : Int32, z = x3 + 1 := ⟨_, rfl⟩
      replace hf := hj_nm_y hf ey8
      refine lv_iinc (v := y8) (lv' := [(3, .int y8), (0, .ref (ad 0)), (1, .int x1), (2, .int x2)]) hx hb dX5_endAfter_37 hl (k := 3) rfl (by rw [ey8]; rfl) (by decide) rfl (fun ls hl => ?_)
      refine lv_goto (tgt := 13) hx hb dX5_endAfter_40 (by decide) ?_
      exact KI _ _ (Option.some.inj hf).symm _ _ _ hP hS (lv_sub hl [1, 2, 3, 0] rfl)
set_option maxHeartbeats 4000000 in
set_option maxRecDepth 100000 in
theorem wX5_endAfter_13 {p : Program} {l : Launch} {e : Env} {s : State} {m : MethodId} {args : Array Value} {below : List Frame} {meth : Method} {c : Code} {g : hj_G} {ad : Nat → Nat} (hI : hj_I 73 ad) (C : hj_C p s m args meth c cX5_endAfter RX5 wsX5_endAfter 4 (some .int)) (hK : hj_K g s) {bf : Nat → Nat} {sd : Int64} {x1 : Int32} {x2 : Int32} {rF : Int32} {σF : Nat → hj_Ob} {σe : Nat → hj_Ob} :
    ∀ (fu : Nat) (x3 : Int32) (σ : Nat → hj_Ob), hj_lp (fun q : (Int32 × (Nat → hj_Ob)) => fX5_endAfter_13 q.2 bf sd x1 x2 q.1) fu (x3, σ) = some σe → (∀ (H : Heap) (locs : List Loc) (ls : Array Slot), hj_P g 73 ad (hj_wx g ad σe bf sd) H → hj_S 73 ad s H locs → lv_has ls 4 [(0, .ref (ad 0))] → W p l e rmX5_endAfter s m args below meth c H locs 0 0 (MQ below (hj_QI g 73 ad (hj_wx g ad σF bf sd) rF s.heap.size) args s 0 0 (hj_A 73 ad s.heap.size)) (F0 m 43 ls [])) → ∀ (H : Heap) (locs : List Loc) (ls : Array Slot), hj_P g 73 ad (hj_wx g ad σ bf sd) H → hj_S 73 ad s H locs → lv_has ls 4 [(0, .ref (ad 0)), (1, .int x1), (2, .int x2), (3, .int x3)] →
    W p l e rmX5_endAfter s m args below meth c H locs 0 0 (MQ below (hj_QI g 73 ad (hj_wx g ad σF bf sd) rF s.heap.size) args s 0 0 (hj_A 73 ad s.heap.size)) (F0 m 13 ls []) := by
  intro fu
  induction fu with
  | zero => intro x3 σ hq; cases hq
  | succ fu ih =>
    intro x3 σ hq KX H locs ls hP hS hl
    obtain ⟨y, hy, h1, h2⟩ := hj_lp_s hq
    exact wX5_endAfter_13b hI C hK  hy (fun σ' hv H locs ls hP hS hl => by obtain rfl := h1 _ hv; exact KX H locs ls hP hS hl) (fun v3 σ' hv H locs ls hP hS hl => ih v3 σ' (h2 _ hv) KX H locs ls hP hS hl) hP hS hl
def fX5_endAfter (σ : Nat → hj_Ob) (bf : Nat → Nat) (sd : Int64) (x1 : Int32) (x2 : Int32) : Option (Int32 × (Nat → hj_Ob)) :=
  hj_o1 (fX2_copyFrom (σ 3) (σ 11) (σ 14)) fun ρ1 => hj_nm (va_up σ 14 ρ1) fun σ2 => hj_o1 (hj_lp (fun q : (Int32 × (Nat → hj_Ob)) => fX5_endAfter_13 q.2 bf sd x1 x2 q.1) 100 (0, σ2)) fun σ9 => (hj_o2 (fX2_passHoursToEnd (σ9 3) (σ9 14)) fun r10 ρ11 => hj_nm (va_up σ9 14 ρ11) fun σ12 => hj_o1 (fX2_verdict (σ12 3) (σ12 14)) fun r13 => some (r13, σ12))
set_option maxHeartbeats 4000000 in
set_option maxRecDepth 100000 in
theorem wX5_endAfter {p : Program} {l : Launch} {e : Env} {s : State} {m : MethodId} {args : Array Value} {below : List Frame} {meth : Method} {c : Code} {g : hj_G} {ad : Nat → Nat} (hI : hj_I 73 ad) (C : hj_C p s m args meth c cX5_endAfter RX5 wsX5_endAfter 4 (some .int)) (hK : hj_K g s) {σ : Nat → hj_Ob} {bf : Nat → Nat} {sd : Int64} {x1 : Int32} {x2 : Int32} {rF : Int32} {σF : Nat → hj_Ob}
    (hf : fX5_endAfter σ bf sd x1 x2 = some (rF, σF)) {H : Heap} {locs : List Loc} {ls : Array Slot} (hP : hj_P g 73 ad (hj_wx g ad σ bf sd) H) (hS : hj_S 73 ad s H locs) (hl : lv_has ls 4 [(0, .ref (ad 0)), (1, .int x1), (2, .int x2)]) :
    W p l e rmX5_endAfter s m args below meth c H locs 0 0 (MQ below (hj_QI g 73 ad (hj_wx g ad σF bf sd) rF s.heap.size) args s 0 0 (hj_A 73 ad s.heap.size)) (F0 m 0 ls []) := by
  obtain ⟨hx, hb, hr, hml, hown, hts, hlocks⟩ := id C
  unfold fX5_endAfter at hf
  refine lv_aload_n hx hb dX5_endAfter_0 rfl (lv_at hl 0 rfl) ?_
  refine hj_get (ci := 5) (v := .ref (ad 14)) (C := RX5) (T := TX5) (N := 10) hx hb hts iX5_endAfter_X5 hown hK hP (by decide) wx_at_h rfl 4 (by decide) mX5_endAfter_1 rfl dX5_endAfter_1 ?_
  refine lv_aload_n hx hb dX5_endAfter_4 rfl (lv_at hl 0 rfl) ?_
  refine hj_get (ci := 5) (v := .ref (ad 11)) (C := RX5) (T := TX5) (N := 10) hx hb hts iX5_endAfter_X5 hown hK hP (by decide) wx_at_h rfl 3 (by decide) mX5_endAfter_2 rfl dX5_endAfter_5 ?_
  obtain ⟨ρ1, hc, hf⟩ := hj_o1_s hf
  refine hj_callVv (nL := 4) (As := [.ref (ad 11)]) (rest := []) (i0 := 14) (C := RX2) (T := TX2) (N := 6) (ci := 2) ⟨hx, hb, hml, hown, hts⟩ (ctX2_copyFrom l g hI (σ := σ) (bf := bf) (sd := sd) wx_R_14 rfl wx_R_11 (by decide) rfl rfl hc) (cwV 1 hts gX5_endAfter_X2_copyFrom rfl rfl rfl (by decide +kernel) ⟨Nat.le_of_ble_eq_true rfl, Nat.le_of_ble_eq_true rfl⟩) hj_Xb0 (fun _ _ _ => trivial) hK hP hS (by decide) (wx_at_r wx_R_14 rfl) rfl rfl hl.1 rfl (Nat.le_of_ble_eq_true rfl) dX5_endAfter_8 (fun H locs hP hS => ?_)
  obtain ⟨σ2, eσ2⟩ : ∃ z : Nat → hj_Ob, z = va_up σ 14 ρ1 := ⟨_, rfl⟩
  replace hf := hj_nm_y hf eσ2
  rw [← eσ2] at hP
  refine lv_iconst (v := 0) hx hb dX5_endAfter_11 (by decide) ?_
  refine lv_istore_n (lv' := [(3, .int 0), (0, .ref (ad 0)), (1, .int x1), (2, .int x2)]) hx hb dX5_endAfter_12 rfl hl (by decide) rfl (fun ls hl => ?_)
  obtain ⟨σ9, hlx, hf⟩ := hj_o1_s hf
  refine wX5_endAfter_13 hI C hK  100 0 σ2 hlx (fun H locs ls hP hS hl => ?_) H locs ls hP hS (lv_sub hl [1, 2, 3, 0] rfl)
  refine lv_aload_n hx hb dX5_endAfter_43 rfl (lv_at hl 0 rfl) ?_
  refine hj_get (ci := 5) (v := .ref (ad 14)) (C := RX5) (T := TX5) (N := 10) hx hb hts iX5_endAfter_X5 hown hK hP (by decide) wx_at_h rfl 4 (by decide) mX5_endAfter_1 rfl dX5_endAfter_44 ?_
  obtain ⟨r10, ρ11, hc, hf⟩ := hj_o2_s hf
  refine hj_callVi (nL := 4) (As := []) (rest := []) (i0 := 14) (C := RX2) (T := TX2) (N := 6) (ci := 2) ⟨hx, hb, hml, hown, hts⟩ (ctX2_passHoursToEnd l g hI (σ := σ9) (bf := bf) (sd := sd) wx_R_14 rfl rfl hc) (cwV 0 hts gX5_endAfter_X2_passHoursToEnd rfl rfl rfl (by decide +kernel) ⟨Nat.le_of_ble_eq_true rfl, Nat.le_of_ble_eq_true rfl⟩) hj_Xb0 (fun _ _ _ => trivial) hK hP hS (by decide) (wx_at_r wx_R_14 rfl) rfl rfl hl.1 rfl (Nat.le_of_ble_eq_true rfl) dX5_endAfter_47 (fun H locs hP hS => ?_)
  obtain ⟨σ12, eσ12⟩ : ∃ z : Nat → hj_Ob, z = va_up σ9 14 ρ11 := ⟨_, rfl⟩
  replace hf := hj_nm_y hf eσ12
  rw [← eσ12] at hP
  refine lv_pop hx hb dX5_endAfter_50 rfl ?_
  refine lv_aload_n hx hb dX5_endAfter_51 rfl (lv_at hl 0 rfl) ?_
  refine hj_get (ci := 5) (v := .ref (ad 14)) (C := RX5) (T := TX5) (N := 10) hx hb hts iX5_endAfter_X5 hown hK hP (by decide) wx_at_h rfl 4 (by decide) mX5_endAfter_1 rfl dX5_endAfter_52 ?_
  obtain ⟨r13, hc, hf⟩ := hj_o1_s hf
  refine hj_callVi (nL := 4) (As := []) (rest := []) (i0 := 14) (C := RX2) (T := TX2) (N := 6) (ci := 2) ⟨hx, hb, hml, hown, hts⟩ (ctX2_verdict l g hI (σ := σ12) (bf := bf) (sd := sd) wx_R_14 rfl rfl hc) (cwV 0 hts gX5_endAfter_X2_verdict rfl rfl rfl (by decide +kernel) ⟨Nat.le_of_ble_eq_true rfl, Nat.le_of_ble_eq_true rfl⟩) hj_Xb0 (fun _ _ _ => trivial) hK hP hS (by decide) (wx_at_r wx_R_14 rfl) rfl rfl hl.1 rfl (Nat.le_of_ble_eq_true rfl) dX5_endAfter_55 (fun H locs hP hS => ?_)
  have hq := Option.some.inj hf
  obtain ⟨rfl, rfl⟩ := Prod.mk.inj hq
  exact hj_reti C hP hK hS dX5_endAfter_58
set_option maxHeartbeats 4000000 in
set_option maxRecDepth 100000 in
theorem ctX5_endAfter (l : Launch) (g : hj_G) {ad : Nat → Nat} (hI : hj_I 73 ad) {σ : Nat → hj_Ob} {bf : Nat → Nat} {sd : Int64} {x1 : Int32} {x2 : Int32} {rF : Int32} {σF : Nat → hj_Ob} (hf : fX5_endAfter σ bf sd x1 x2 = some (rF, σF)) :
    hj_MI l yX5_endAfter wsX5_endAfter rmX5_endAfter g 73 ad hj_X0 [.ref (ad 0), .int x1, .int x2] (hj_wx g ad σ bf sd) rF (hj_wx g ad σF bf sd) := by
  refine hj_ofI (cc := cX5_endAfter) (maxL := 4) (ret := (some .int)) (by decide) rfl (Nat.le_of_ble_eq_true rfl) ?_
  intro p e s m args below meth c ls C hP hK hX hl
  exact wX5_endAfter hI C hK hf hP va_S.rf hl

/-! X5_fewestFor -/
abbrev rmX5_fewestFor : Room := { frames := 5, cells := 0, slots := 0, locals := 113 }
theorem iX5_fewestFor_X5 : ∀ w ∈ wsX50, w ∈ wsX5_fewestFor := fun _ h => List.mem_cons_of_mem _ (List.mem_append_left _ (List.mem_append_left _ (List.mem_append_right _ h)))
theorem mX5_fewestFor_1 : Cond.fieldLink RX5 31 "HungryJury" "now" "LHungryJury$Room;" ∈ wsX5_fewestFor := List.mem_of_getElem? (i := 1) rfl
theorem iX5_fewestFor_X2 : ∀ w ∈ wsX20, w ∈ wsX5_fewestFor := fun _ h => List.mem_cons_of_mem _ (List.mem_append_left _ (List.mem_append_right _ h))
theorem mX5_fewestFor_2 : Cond.fieldLink RX5 121 "HungryJury$Room" "there" "I" ∈ wsX5_fewestFor := List.mem_of_getElem? (i := 2) rfl
def fX5_fewestFor_61 (σ : Nat → hj_Ob) (bf : Nat → Nat) (sd : Int64) (x1 : Int32) (x2 : Int32) (x3 : Int32) (x4 : Int32) (x5 : Int32) (x6 : Int32) (z0 : Int32) : Option ((Int32 × (Nat → hj_Ob)) ⊕ (Int32 × Int32 × Int32 × (Nat → hj_Ob))) :=
  if z0 = 0 then (hj_nm (x5 + 1) fun y5 => some (.inr (x3, x4, y5, σ))) else (if x4 ≤ x6 then (hj_nm (x5 + 1) fun y7 => some (.inr (x3, x4, y7, σ))) else (hj_o2 (fX5_endAfter σ bf sd x1 x5) fun r8 σ9 => if r8 = x2 then (hj_nm (x5 + 1) fun y12 => some (.inr (x5, x6, y12, σ9))) else (hj_nm (x5 + 1) fun y11 => some (.inr (x3, x4, y11, σ9)))))
set_option maxHeartbeats 4000000 in
set_option maxRecDepth 100000 in
theorem wX5_fewestFor_61 {p : Program} {l : Launch} {e : Env} {s : State} {m : MethodId} {args : Array Value} {below : List Frame} {meth : Method} {c : Code} {g : hj_G} {ad : Nat → Nat} (hI : hj_I 73 ad) (C : hj_C p s m args meth c cX5_fewestFor RX5 wsX5_fewestFor 8 (some .int)) (hK : hj_K g s) {σ : Nat → hj_Ob} {bf : Nat → Nat} {sd : Int64} {x1 : Int32} {x2 : Int32} {x3 : Int32} {x4 : Int32} {x5 : Int32} {x6 : Int32} {z0 : Int32} {y : (Int32 × (Nat → hj_Ob)) ⊕ (Int32 × Int32 × Int32 × (Nat → hj_Ob))} {rF : Int32} {σF : Nat → hj_Ob}
    (hf : fX5_fewestFor_61 σ bf sd x1 x2 x3 x4 x5 x6 z0 = some y) (KX : ∀ (v3 : Int32) (σ' : Nat → hj_Ob), y = .inl (v3, σ') → ∀ (H : Heap) (locs : List Loc) (ls : Array Slot), hj_P g 73 ad (hj_wx g ad σ' bf sd) H → hj_S 73 ad s H locs → lv_has ls 8 [(3, .int v3)] → W p l e rmX5_fewestFor s m args below meth c H locs 0 0 (MQ below (hj_QI g 73 ad (hj_wx g ad σF bf sd) rF s.heap.size) args s 0 0 (hj_A 73 ad s.heap.size)) (F0 m 99 ls [])) (KI : ∀ (v3 : Int32) (v4 : Int32) (v5 : Int32) (σ' : Nat → hj_Ob), y = .inr (v3, v4, v5, σ') → ∀ (H : Heap) (locs : List Loc) (ls : Array Slot), hj_P g 73 ad (hj_wx g ad σ' bf sd) H → hj_S 73 ad s H locs → lv_has ls 8 [(0, .ref (ad 0)), (1, .int x1), (2, .int x2), (3, .int v3), (4, .int v4), (5, .int v5)] → W p l e rmX5_fewestFor s m args below meth c H locs 0 0 (MQ below (hj_QI g 73 ad (hj_wx g ad σF bf sd) rF s.heap.size) args s 0 0 (hj_A 73 ad s.heap.size)) (F0 m 10 ls [])) {H : Heap} {locs : List Loc} {ls : Array Slot} (hP : hj_P g 73 ad (hj_wx g ad σ bf sd) H) (hS : hj_S 73 ad s H locs) (hl : lv_has ls 8 [(0, .ref (ad 0)), (1, .int x1), (2, .int x2), (3, .int x3), (4, .int x4), (5, .int x5), (6, .int x6)]) :
    W p l e rmX5_fewestFor s m args below meth c H locs 0 0 (MQ below (hj_QI g 73 ad (hj_wx g ad σF bf sd) rF s.heap.size) args s 0 0 (hj_A 73 ad s.heap.size)) (F0 m 61 ls [.int z0]) := by
  obtain ⟨hx, hb, hr, hml, hown, hts, hlocks⟩ := id C
  unfold fX5_fewestFor_61 at hf
  refine lv_istore (lv' := [(7, .int z0), (0, .ref (ad 0)), (1, .int x1), (2, .int x2), (3, .int x3), (4, .int x4), (5, .int x5), (6, .int x6)]) hx hb dX5_fewestFor_61 hl (by decide) rfl (fun ls hl => ?_)
  refine lv_iload hx hb dX5_fewestFor_63 (lv_at hl 0 rfl) ?_
  refine lv_if_eq (tgt := 93) hx hb dX5_fewestFor_65 (by decide) (fun c4 => ?_) (fun c4 => ?_)
  · rw [if_pos c4] at hf
    obtain ⟨y5, ey5⟩ : ∃ z : Int32, z = x5 + 1 := ⟨_, rfl⟩
    replace hf := hj_nm_y hf ey5
    refine lv_iinc (v := y5) (lv' := [(5, .int y5), (7, .int z0), (0, .ref (ad 0)), (1, .int x1), (2, .int x2), (3, .int x3), (4, .int x4), (6, .int x6)]) hx hb dX5_fewestFor_93 hl (k := 6) rfl (by rw [ey5]; rfl) (by decide) rfl (fun ls hl => ?_)
    refine lv_goto (tgt := 10) hx hb dX5_fewestFor_96 (by decide) ?_
    exact KI _ _ _ _ (Option.some.inj hf).symm _ _ _ hP hS (lv_sub hl [2, 3, 4, 5, 6, 0] rfl)
  · rw [if_neg c4] at hf
    refine lv_iload hx hb dX5_fewestFor_68 (lv_at hl 7 rfl) ?_
    refine lv_iload hx hb dX5_fewestFor_70 (lv_at hl 5 rfl) ?_
    refine lv_icmp_ge (tgt := 93) hx hb dX5_fewestFor_72 (by decide) (fun c6 => ?_) (fun c6 => ?_)
    · rw [if_pos c6] at hf
      obtain ⟨y7, ey7⟩ : ∃ z : Int32, z = x5 + 1 := ⟨_, rfl⟩
      replace hf := hj_nm_y hf ey7
      refine lv_iinc (v := y7) (lv' := [(5, .int y7), (7, .int z0), (0, .ref (ad 0)), (1, .int x1), (2, .int x2), (3, .int x3), (4, .int x4), (6, .int x6)]) hx hb dX5_fewestFor_93 hl (k := 6) rfl (by rw [ey7]; rfl) (by decide) rfl (fun ls hl => ?_)
      refine lv_goto (tgt := 10) hx hb dX5_fewestFor_96 (by decide) ?_
      exact KI _ _ _ _ (Option.some.inj hf).symm _ _ _ hP hS (lv_sub hl [2, 3, 4, 5, 6, 0] rfl)
    · rw [if_neg c6] at hf
      refine lv_aload_n hx hb dX5_fewestFor_75 rfl (lv_at hl 1 rfl) ?_
      refine lv_iload_n hx hb dX5_fewestFor_76 rfl (lv_at hl 2 rfl) ?_
      refine lv_iload hx hb dX5_fewestFor_77 (lv_at hl 6 rfl) ?_
      obtain ⟨r8, σ9, hc, hf⟩ := hj_o2_s hf
      refine hj_callVi (nL := 8) (As := [.int x1, .int x5]) (rest := []) (i0 := 0) (C := RX5) (T := TX5) (N := 10) (ci := 5) ⟨hx, hb, hml, hown, hts⟩ (ctX5_endAfter l g hI hc) (cwV 2 hts gX5_fewestFor_X5_endAfter rfl rfl rfl (by decide +kernel) ⟨Nat.le_of_ble_eq_true rfl, Nat.le_of_ble_eq_true rfl⟩) hj_Xb0 (fun _ _ _ => trivial) hK hP hS (by decide) wx_at_h rfl rfl hl.1 rfl (Nat.le_of_ble_eq_true rfl) dX5_fewestFor_79 (fun H locs hP hS => ?_)
      refine lv_iload_n hx hb dX5_fewestFor_82 rfl (lv_at hl 3 rfl) ?_
      refine lv_icmp_ne (tgt := 93) hx hb dX5_fewestFor_83 (by decide) (fun c10 => ?_) (fun c10 => ?_)
      · rw [if_neg c10] at hf
        obtain ⟨y11, ey11⟩ : ∃ z : Int32, z = x5 + 1 := ⟨_, rfl⟩
        replace hf := hj_nm_y hf ey11
        refine lv_iinc (v := y11) (lv' := [(5, .int y11), (7, .int z0), (0, .ref (ad 0)), (1, .int x1), (2, .int x2), (3, .int x3), (4, .int x4), (6, .int x6)]) hx hb dX5_fewestFor_93 hl (k := 6) rfl (by rw [ey11]; rfl) (by decide) rfl (fun ls hl => ?_)
        refine lv_goto (tgt := 10) hx hb dX5_fewestFor_96 (by decide) ?_
        exact KI _ _ _ _ (Option.some.inj hf).symm _ _ _ hP hS (lv_sub hl [2, 3, 4, 5, 6, 0] rfl)
      · rw [if_pos c10] at hf
        refine lv_iload hx hb dX5_fewestFor_86 (lv_at hl 6 rfl) ?_
        refine lv_istore_n (lv' := [(3, .int x5), (7, .int z0), (0, .ref (ad 0)), (1, .int x1), (2, .int x2), (4, .int x4), (5, .int x5), (6, .int x6)]) hx hb dX5_fewestFor_88 rfl hl (by decide) rfl (fun ls hl => ?_)
        refine lv_iload hx hb dX5_fewestFor_89 (lv_at hl 7 rfl) ?_
        refine lv_istore (lv' := [(4, .int x6), (3, .int x5), (7, .int z0), (0, .ref (ad 0)), (1, .int x1), (2, .int x2), (5, .int x5), (6, .int x6)]) hx hb dX5_fewestFor_91 hl (by decide) rfl (fun ls hl => ?_)
        obtain ⟨y12, ey12⟩ : ∃ z : Int32, z = x5 + 1 := ⟨_, rfl⟩
        replace hf := hj_nm_y hf ey12
        refine lv_iinc (v := y12) (lv' := [(5, .int y12), (4, .int x6), (3, .int x5), (7, .int z0), (0, .ref (ad 0)), (1, .int x1), (2, .int x2), (6, .int x6)]) hx hb dX5_fewestFor_93 hl (k := 6) rfl (by rw [ey12]; rfl) (by decide) rfl (fun ls hl => ?_)
        refine lv_goto (tgt := 10) hx hb dX5_fewestFor_96 (by decide) ?_
        exact KI _ _ _ _ (Option.some.inj hf).symm _ _ _ hP hS (lv_sub hl [4, 5, 6, 2, 1, 0] rfl)
def fX5_fewestFor_10 (σ : Nat → hj_Ob) (bf : Nat → Nat) (sd : Int64) (x1 : Int32) (x2 : Int32) (x3 : Int32) (x4 : Int32) (x5 : Int32) : Option ((Int32 × (Nat → hj_Ob)) ⊕ (Int32 × Int32 × Int32 × (Nat → hj_Ob))) :=
  if 64 ≤ x5 then (some (.inl (x3, σ))) else (hj_o1 (fJ6_bitCount_0f7a4 x5) fun r2 => if (x5 &&& (((σ 11).1 4) ^^^ (-1))) = 0 then (if x1 = 3 then (if x5 = ((σ 11).1 4) then (fX5_fewestFor_61 σ bf sd x1 x2 x3 x4 x5 r2 0) else (fX5_fewestFor_61 σ bf sd x1 x2 x3 x4 x5 r2 1)) else (fX5_fewestFor_61 σ bf sd x1 x2 x3 x4 x5 r2 1)) else (fX5_fewestFor_61 σ bf sd x1 x2 x3 x4 x5 r2 0))
set_option maxHeartbeats 4000000 in
set_option maxRecDepth 100000 in
theorem wX5_fewestFor_10b {p : Program} {l : Launch} {e : Env} {s : State} {m : MethodId} {args : Array Value} {below : List Frame} {meth : Method} {c : Code} {g : hj_G} {ad : Nat → Nat} (hI : hj_I 73 ad) (C : hj_C p s m args meth c cX5_fewestFor RX5 wsX5_fewestFor 8 (some .int)) (hK : hj_K g s) {σ : Nat → hj_Ob} {bf : Nat → Nat} {sd : Int64} {x1 : Int32} {x2 : Int32} {x3 : Int32} {x4 : Int32} {x5 : Int32} {y : (Int32 × (Nat → hj_Ob)) ⊕ (Int32 × Int32 × Int32 × (Nat → hj_Ob))} {rF : Int32} {σF : Nat → hj_Ob}
    (hf : fX5_fewestFor_10 σ bf sd x1 x2 x3 x4 x5 = some y) (KX : ∀ (v3 : Int32) (σ' : Nat → hj_Ob), y = .inl (v3, σ') → ∀ (H : Heap) (locs : List Loc) (ls : Array Slot), hj_P g 73 ad (hj_wx g ad σ' bf sd) H → hj_S 73 ad s H locs → lv_has ls 8 [(3, .int v3)] → W p l e rmX5_fewestFor s m args below meth c H locs 0 0 (MQ below (hj_QI g 73 ad (hj_wx g ad σF bf sd) rF s.heap.size) args s 0 0 (hj_A 73 ad s.heap.size)) (F0 m 99 ls [])) (KI : ∀ (v3 : Int32) (v4 : Int32) (v5 : Int32) (σ' : Nat → hj_Ob), y = .inr (v3, v4, v5, σ') → ∀ (H : Heap) (locs : List Loc) (ls : Array Slot), hj_P g 73 ad (hj_wx g ad σ' bf sd) H → hj_S 73 ad s H locs → lv_has ls 8 [(0, .ref (ad 0)), (1, .int x1), (2, .int x2), (3, .int v3), (4, .int v4), (5, .int v5)] → W p l e rmX5_fewestFor s m args below meth c H locs 0 0 (MQ below (hj_QI g 73 ad (hj_wx g ad σF bf sd) rF s.heap.size) args s 0 0 (hj_A 73 ad s.heap.size)) (F0 m 10 ls [])) {H : Heap} {locs : List Loc} {ls : Array Slot} (hP : hj_P g 73 ad (hj_wx g ad σ bf sd) H) (hS : hj_S 73 ad s H locs) (hl : lv_has ls 8 [(0, .ref (ad 0)), (1, .int x1), (2, .int x2), (3, .int x3), (4, .int x4), (5, .int x5)]) :
    W p l e rmX5_fewestFor s m args below meth c H locs 0 0 (MQ below (hj_QI g 73 ad (hj_wx g ad σF bf sd) rF s.heap.size) args s 0 0 (hj_A 73 ad s.heap.size)) (F0 m 10 ls []) := by
  obtain ⟨hx, hb, hr, hml, hown, hts, hlocks⟩ := id C
  unfold fX5_fewestFor_10 at hf
  refine lv_iload hx hb dX5_fewestFor_10 (lv_at hl 5 rfl) ?_
  refine lv_bipush (v := 64) hx hb dX5_fewestFor_12 (by decide) ?_
  refine lv_icmp_ge (tgt := 99) hx hb dX5_fewestFor_14 (by decide) (fun c1 => ?_) (fun c1 => ?_)
  · rw [if_pos c1] at hf
    exact KX _ _ (Option.some.inj hf).symm _ _ _ hP hS (lv_sub hl [3] rfl)
  · rw [if_neg c1] at hf
    refine lv_iload hx hb dX5_fewestFor_17 (lv_at hl 5 rfl) ?_
    obtain ⟨r2, hc, hf⟩ := hj_o1_s hf
    refine hj_callSi (nL := 8) (As := [.int x5]) (rest := []) ⟨hx, hb, hml, hown, hts⟩ (ctJ6_bitCount_0f7a4 l g (n := 73) (ad := ad) (w := (hj_wx g ad σ bf sd)) hc) (va_cwS 1 hts gX5_fewestFor_J6_bitCount_0f7a4 rfl rfl rfl (by decide +kernel) ⟨Nat.le_of_ble_eq_true rfl, Nat.le_of_ble_eq_true rfl⟩) hj_Xb0 (fun _ _ _ => trivial) hK hP hS rfl hl.1 rfl (Nat.le_of_ble_eq_true rfl) dX5_fewestFor_19 (fun H locs hP hS => ?_)
    refine lv_istore (lv' := [(6, .int r2), (0, .ref (ad 0)), (1, .int x1), (2, .int x2), (3, .int x3), (4, .int x4), (5, .int x5)]) hx hb dX5_fewestFor_22 hl (by decide) rfl (fun ls hl => ?_)
    refine lv_iload hx hb dX5_fewestFor_24 (lv_at hl 6 rfl) ?_
    refine lv_aload_n hx hb dX5_fewestFor_26 rfl (lv_at hl 1 rfl) ?_
    refine hj_get (ci := 5) (v := .ref (ad 11)) (C := RX5) (T := TX5) (N := 10) hx hb hts iX5_fewestFor_X5 hown hK hP (by decide) wx_at_h rfl 3 (by decide) mX5_fewestFor_1 rfl dX5_fewestFor_27 ?_
    refine hj_get (ci := 2) (v := .int ((σ 11).1 4)) (C := RX2) (T := TX2) (N := 6) hx hb hts iX5_fewestFor_X2 hown hK hP (by decide) (wx_at_r wx_R_11 rfl) rfl 4 (by decide) mX5_fewestFor_2 rfl dX5_fewestFor_30 ?_
    refine lv_iconst (v := (-1)) hx hb dX5_fewestFor_33 (by decide) ?_
    refine lv_ixor hx hb dX5_fewestFor_34 ?_
    refine lv_iand hx hb dX5_fewestFor_35 ?_
    refine lv_if_ne (tgt := 60) hx hb dX5_fewestFor_36 (by decide) (fun c3 => ?_) (fun c3 => ?_)
    · rw [if_neg c3] at hf
      refine lv_iconst (v := 0) hx hb dX5_fewestFor_60 (by decide) ?_
      exact wX5_fewestFor_61 hI C hK  hf KX KI hP hS (lv_sub hl [1, 2, 3, 4, 5, 6, 0] rfl)
    · rw [if_pos c3] at hf
      refine lv_iload_n hx hb dX5_fewestFor_39 rfl (lv_at hl 2 rfl) ?_
      refine lv_iconst (v := 3) hx hb dX5_fewestFor_40 (by decide) ?_
      refine lv_icmp_ne (tgt := 56) hx hb dX5_fewestFor_41 (by decide) (fun c13 => ?_) (fun c13 => ?_)
      · rw [if_neg c13] at hf
        refine lv_iconst (v := 1) hx hb dX5_fewestFor_56 (by decide) ?_
        refine lv_goto (tgt := 61) hx hb dX5_fewestFor_57 (by decide) ?_
        exact wX5_fewestFor_61 hI C hK  hf KX KI hP hS (lv_sub hl [1, 2, 3, 4, 5, 6, 0] rfl)
      · rw [if_pos c13] at hf
        refine lv_iload hx hb dX5_fewestFor_44 (lv_at hl 6 rfl) ?_
        refine lv_aload_n hx hb dX5_fewestFor_46 rfl (lv_at hl 1 rfl) ?_
        refine hj_get (ci := 5) (v := .ref (ad 11)) (C := RX5) (T := TX5) (N := 10) hx hb hts iX5_fewestFor_X5 hown hK hP (by decide) wx_at_h rfl 3 (by decide) mX5_fewestFor_1 rfl dX5_fewestFor_47 ?_
        refine hj_get (ci := 2) (v := .int ((σ 11).1 4)) (C := RX2) (T := TX2) (N := 6) hx hb hts iX5_fewestFor_X2 hown hK hP (by decide) (wx_at_r wx_R_11 rfl) rfl 4 (by decide) mX5_fewestFor_2 rfl dX5_fewestFor_50 ?_
        refine lv_icmp_eq (tgt := 60) hx hb dX5_fewestFor_53 (by decide) (fun c14 => ?_) (fun c14 => ?_)
        · rw [if_pos c14] at hf
          refine lv_iconst (v := 0) hx hb dX5_fewestFor_60 (by decide) ?_
          exact wX5_fewestFor_61 hI C hK  hf KX KI hP hS (lv_sub hl [1, 2, 3, 4, 5, 6, 0] rfl)
        · rw [if_neg c14] at hf
          refine lv_iconst (v := 1) hx hb dX5_fewestFor_56 (by decide) ?_
          refine lv_goto (tgt := 61) hx hb dX5_fewestFor_57 (by decide) ?_
          exact wX5_fewestFor_61 hI C hK  hf KX KI hP hS (lv_sub hl [1, 2, 3, 4, 5, 6, 0] rfl)
set_option maxHeartbeats 4000000 in
set_option maxRecDepth 100000 in
theorem wX5_fewestFor_10 {p : Program} {l : Launch} {e : Env} {s : State} {m : MethodId} {args : Array Value} {below : List Frame} {meth : Method} {c : Code} {g : hj_G} {ad : Nat → Nat} (hI : hj_I 73 ad) (C : hj_C p s m args meth c cX5_fewestFor RX5 wsX5_fewestFor 8 (some .int)) (hK : hj_K g s) {bf : Nat → Nat} {sd : Int64} {x1 : Int32} {x2 : Int32} {rF : Int32} {σF : Nat → hj_Ob} {e3 : Int32} {σe : Nat → hj_Ob} :
    ∀ (fu : Nat) (x3 : Int32) (x4 : Int32) (x5 : Int32) (σ : Nat → hj_Ob), hj_lp (fun q : (Int32 × Int32 × Int32 × (Nat → hj_Ob)) => fX5_fewestFor_10 q.2.2.2 bf sd x1 x2 q.1 q.2.1 q.2.2.1) fu (x3, x4, x5, σ) = some (e3, σe) → (∀ (H : Heap) (locs : List Loc) (ls : Array Slot), hj_P g 73 ad (hj_wx g ad σe bf sd) H → hj_S 73 ad s H locs → lv_has ls 8 [(3, .int e3)] → W p l e rmX5_fewestFor s m args below meth c H locs 0 0 (MQ below (hj_QI g 73 ad (hj_wx g ad σF bf sd) rF s.heap.size) args s 0 0 (hj_A 73 ad s.heap.size)) (F0 m 99 ls [])) → ∀ (H : Heap) (locs : List Loc) (ls : Array Slot), hj_P g 73 ad (hj_wx g ad σ bf sd) H → hj_S 73 ad s H locs → lv_has ls 8 [(0, .ref (ad 0)), (1, .int x1), (2, .int x2), (3, .int x3), (4, .int x4), (5, .int x5)] →
    W p l e rmX5_fewestFor s m args below meth c H locs 0 0 (MQ below (hj_QI g 73 ad (hj_wx g ad σF bf sd) rF s.heap.size) args s 0 0 (hj_A 73 ad s.heap.size)) (F0 m 10 ls []) := by
  intro fu
  induction fu with
  | zero => intro x3 x4 x5 σ hq; cases hq
  | succ fu ih =>
    intro x3 x4 x5 σ hq KX H locs ls hP hS hl
    obtain ⟨y, hy, h1, h2⟩ := hj_lp_s hq
    exact wX5_fewestFor_10b hI C hK  hy (fun v3 σ' hv H locs ls hP hS hl => by have hw := h1 _ hv; obtain ⟨rfl, rfl⟩ := Prod.mk.inj hw; exact KX H locs ls hP hS hl) (fun v3 v4 v5 σ' hv H locs ls hP hS hl => ih v3 v4 v5 σ' (h2 _ hv) KX H locs ls hP hS hl) hP hS hl
def fX5_fewestFor (σ : Nat → hj_Ob) (bf : Nat → Nat) (sd : Int64) (x1 : Int32) (x2 : Int32) : Option (Int32 × (Nat → hj_Ob)) :=
  hj_o2 (hj_lp (fun q : (Int32 × Int32 × Int32 × (Nat → hj_Ob)) => fX5_fewestFor_10 q.2.2.2 bf sd x1 x2 q.1 q.2.1 q.2.2.1) 100 ((-9), 7, 0, σ)) fun e15 σ16 => (some (e15, σ16))
set_option maxHeartbeats 4000000 in
set_option maxRecDepth 100000 in
theorem wX5_fewestFor {p : Program} {l : Launch} {e : Env} {s : State} {m : MethodId} {args : Array Value} {below : List Frame} {meth : Method} {c : Code} {g : hj_G} {ad : Nat → Nat} (hI : hj_I 73 ad) (C : hj_C p s m args meth c cX5_fewestFor RX5 wsX5_fewestFor 8 (some .int)) (hK : hj_K g s) {σ : Nat → hj_Ob} {bf : Nat → Nat} {sd : Int64} {x1 : Int32} {x2 : Int32} {rF : Int32} {σF : Nat → hj_Ob}
    (hf : fX5_fewestFor σ bf sd x1 x2 = some (rF, σF)) {H : Heap} {locs : List Loc} {ls : Array Slot} (hP : hj_P g 73 ad (hj_wx g ad σ bf sd) H) (hS : hj_S 73 ad s H locs) (hl : lv_has ls 8 [(0, .ref (ad 0)), (1, .int x1), (2, .int x2)]) :
    W p l e rmX5_fewestFor s m args below meth c H locs 0 0 (MQ below (hj_QI g 73 ad (hj_wx g ad σF bf sd) rF s.heap.size) args s 0 0 (hj_A 73 ad s.heap.size)) (F0 m 0 ls []) := by
  obtain ⟨hx, hb, hr, hml, hown, hts, hlocks⟩ := id C
  unfold fX5_fewestFor at hf
  refine lv_bipush (v := (-9)) hx hb dX5_fewestFor_0 (by decide) ?_
  refine lv_istore_n (lv' := [(3, .int (-9)), (0, .ref (ad 0)), (1, .int x1), (2, .int x2)]) hx hb dX5_fewestFor_2 rfl hl (by decide) rfl (fun ls hl => ?_)
  refine lv_bipush (v := 7) hx hb dX5_fewestFor_3 (by decide) ?_
  refine lv_istore (lv' := [(4, .int 7), (3, .int (-9)), (0, .ref (ad 0)), (1, .int x1), (2, .int x2)]) hx hb dX5_fewestFor_5 hl (by decide) rfl (fun ls hl => ?_)
  refine lv_iconst (v := 0) hx hb dX5_fewestFor_7 (by decide) ?_
  refine lv_istore (lv' := [(5, .int 0), (4, .int 7), (3, .int (-9)), (0, .ref (ad 0)), (1, .int x1), (2, .int x2)]) hx hb dX5_fewestFor_8 hl (by decide) rfl (fun ls hl => ?_)
  obtain ⟨e15, σ16, hlx, hf⟩ := hj_o2_s hf
  refine wX5_fewestFor_10 hI C hK  100 (-9) 7 0 σ hlx (fun H locs ls hP hS hl => ?_) H locs ls hP hS (lv_sub hl [3, 4, 5, 2, 1, 0] rfl)
  refine lv_iload_n hx hb dX5_fewestFor_99 rfl (lv_at hl 0 rfl) ?_
  have hq := Option.some.inj hf
  obtain ⟨rfl, rfl⟩ := Prod.mk.inj hq
  exact hj_reti C hP hK hS dX5_fewestFor_100
set_option maxHeartbeats 4000000 in
set_option maxRecDepth 100000 in
theorem ctX5_fewestFor (l : Launch) (g : hj_G) {ad : Nat → Nat} (hI : hj_I 73 ad) {σ : Nat → hj_Ob} {bf : Nat → Nat} {sd : Int64} {x1 : Int32} {x2 : Int32} {rF : Int32} {σF : Nat → hj_Ob} (hf : fX5_fewestFor σ bf sd x1 x2 = some (rF, σF)) :
    hj_MI l yX5_fewestFor wsX5_fewestFor rmX5_fewestFor g 73 ad hj_X0 [.ref (ad 0), .int x1, .int x2] (hj_wx g ad σ bf sd) rF (hj_wx g ad σF bf sd) := by
  refine hj_ofI (cc := cX5_fewestFor) (maxL := 8) (ret := (some .int)) (by decide) rfl (Nat.le_of_ble_eq_true rfl) ?_
  intro p e s m args below meth c ls C hP hK hX hl
  exact wX5_fewestFor hI C hK hf hP va_S.rf hl

/-! X5_toFeed -/
abbrev rmX5_toFeed : Room := { frames := 6, cells := 0, slots := 0, locals := 140 }
def fX5_toFeed (σ : Nat → hj_Ob) (bf : Nat → Nat) (sd : Int64) (x1 : Int32) : Option (Int32 × (Nat → hj_Ob)) :=
  hj_o1 (fX5_isSide x1) fun r1 => if r1 = 0 then (some ((-2), σ)) else (hj_o2 (fX5_fewestFor σ bf sd 2 x1) fun r3 σ4 => some (r3, σ4))
set_option maxHeartbeats 4000000 in
set_option maxRecDepth 100000 in
theorem wX5_toFeed {p : Program} {l : Launch} {e : Env} {s : State} {m : MethodId} {args : Array Value} {below : List Frame} {meth : Method} {c : Code} {g : hj_G} {ad : Nat → Nat} (hI : hj_I 73 ad) (C : hj_C p s m args meth c cX5_toFeed RX5 wsX5_toFeed 2 (some .int)) (hK : hj_K g s) {σ : Nat → hj_Ob} {bf : Nat → Nat} {sd : Int64} {x1 : Int32} {rF : Int32} {σF : Nat → hj_Ob}
    (hf : fX5_toFeed σ bf sd x1 = some (rF, σF)) {H : Heap} {locs : List Loc} {ls : Array Slot} (hP : hj_P g 73 ad (hj_wx g ad σ bf sd) H) (hS : hj_S 73 ad s H locs) (hl : lv_has ls 2 [(0, .ref (ad 0)), (1, .int x1)]) :
    W p l e rmX5_toFeed s m args below meth c H locs 0 0 (MQ below (hj_QI g 73 ad (hj_wx g ad σF bf sd) rF s.heap.size) args s 0 0 (hj_A 73 ad s.heap.size)) (F0 m 0 ls []) := by
  obtain ⟨hx, hb, hr, hml, hown, hts, hlocks⟩ := id C
  unfold fX5_toFeed at hf
  refine lv_iload_n hx hb dX5_toFeed_0 rfl (lv_at hl 1 rfl) ?_
  obtain ⟨r1, hc, hf⟩ := hj_o1_s hf
  refine hj_callSi (nL := 2) (As := [.int x1]) (rest := []) ⟨hx, hb, hml, hown, hts⟩ (ctX5_isSide l g (n := 73) (ad := ad) (w := (hj_wx g ad σ bf sd)) hc) (va_cwS 1 hts gX5_toFeed_X5_isSide rfl rfl rfl (by decide +kernel) ⟨Nat.le_of_ble_eq_true rfl, Nat.le_of_ble_eq_true rfl⟩) hj_Xb0 (fun _ _ _ => trivial) hK hP hS rfl hl.1 rfl (Nat.le_of_ble_eq_true rfl) dX5_toFeed_1 (fun H locs hP hS => ?_)
  refine lv_if_eq (tgt := 16) hx hb dX5_toFeed_4 (by decide) (fun c2 => ?_) (fun c2 => ?_)
  · rw [if_pos c2] at hf
    refine lv_bipush (v := (-2)) hx hb dX5_toFeed_16 (by decide) ?_
    have hq := Option.some.inj hf
    obtain ⟨rfl, rfl⟩ := Prod.mk.inj hq
    exact hj_reti C hP hK hS dX5_toFeed_18
  · rw [if_neg c2] at hf
    refine lv_aload_n hx hb dX5_toFeed_7 rfl (lv_at hl 0 rfl) ?_
    refine lv_iconst (v := 2) hx hb dX5_toFeed_8 (by decide) ?_
    refine lv_iload_n hx hb dX5_toFeed_9 rfl (lv_at hl 1 rfl) ?_
    obtain ⟨r3, σ4, hc, hf⟩ := hj_o2_s hf
    refine hj_callVi (nL := 2) (As := [.int 2, .int x1]) (rest := []) (i0 := 0) (C := RX5) (T := TX5) (N := 10) (ci := 5) ⟨hx, hb, hml, hown, hts⟩ (ctX5_fewestFor l g hI hc) (cwV 2 hts gX5_toFeed_X5_fewestFor rfl rfl rfl (by decide +kernel) ⟨Nat.le_of_ble_eq_true rfl, Nat.le_of_ble_eq_true rfl⟩) hj_Xb0 (fun _ _ _ => trivial) hK hP hS (by decide) wx_at_h rfl rfl hl.1 rfl (Nat.le_of_ble_eq_true rfl) dX5_toFeed_10 (fun H locs hP hS => ?_)
    refine lv_goto (tgt := 18) hx hb dX5_toFeed_13 (by decide) ?_
    have hq := Option.some.inj hf
    obtain ⟨rfl, rfl⟩ := Prod.mk.inj hq
    exact hj_reti C hP hK hS dX5_toFeed_18
set_option maxHeartbeats 4000000 in
set_option maxRecDepth 100000 in
theorem ctX5_toFeed (l : Launch) (g : hj_G) {ad : Nat → Nat} (hI : hj_I 73 ad) {σ : Nat → hj_Ob} {bf : Nat → Nat} {sd : Int64} {x1 : Int32} {rF : Int32} {σF : Nat → hj_Ob} (hf : fX5_toFeed σ bf sd x1 = some (rF, σF)) :
    hj_MI l yX5_toFeed wsX5_toFeed rmX5_toFeed g 73 ad hj_X0 [.ref (ad 0), .int x1] (hj_wx g ad σ bf sd) rF (hj_wx g ad σF bf sd) := by
  refine hj_ofI (cc := cX5_toFeed) (maxL := 2) (ret := (some .int)) (by decide) rfl (Nat.le_of_ble_eq_true rfl) ?_
  intro p e s m args below meth c ls C hP hK hX hl
  exact wX5_toFeed hI C hK hf hP va_S.rf hl

/-! X5_strike -/
abbrev rmX5_strike : Room := { frames := 6, cells := 0, slots := 0, locals := 140 }
def fX5_strike (σ : Nat → hj_Ob) (bf : Nat → Nat) (sd : Int64) (x1 : Int32) : Option (Int32 × (Nat → hj_Ob)) :=
  hj_o1 (fX5_isSide x1) fun r1 => if r1 = 0 then (some ((-2), σ)) else (hj_o2 (fX5_fewestFor σ bf sd 3 x1) fun r3 σ4 => some (r3, σ4))
set_option maxHeartbeats 4000000 in
set_option maxRecDepth 100000 in
theorem wX5_strike {p : Program} {l : Launch} {e : Env} {s : State} {m : MethodId} {args : Array Value} {below : List Frame} {meth : Method} {c : Code} {g : hj_G} {ad : Nat → Nat} (hI : hj_I 73 ad) (C : hj_C p s m args meth c cX5_strike RX5 wsX5_strike 2 (some .int)) (hK : hj_K g s) {σ : Nat → hj_Ob} {bf : Nat → Nat} {sd : Int64} {x1 : Int32} {rF : Int32} {σF : Nat → hj_Ob}
    (hf : fX5_strike σ bf sd x1 = some (rF, σF)) {H : Heap} {locs : List Loc} {ls : Array Slot} (hP : hj_P g 73 ad (hj_wx g ad σ bf sd) H) (hS : hj_S 73 ad s H locs) (hl : lv_has ls 2 [(0, .ref (ad 0)), (1, .int x1)]) :
    W p l e rmX5_strike s m args below meth c H locs 0 0 (MQ below (hj_QI g 73 ad (hj_wx g ad σF bf sd) rF s.heap.size) args s 0 0 (hj_A 73 ad s.heap.size)) (F0 m 0 ls []) := by
  obtain ⟨hx, hb, hr, hml, hown, hts, hlocks⟩ := id C
  unfold fX5_strike at hf
  refine lv_iload_n hx hb dX5_strike_0 rfl (lv_at hl 1 rfl) ?_
  obtain ⟨r1, hc, hf⟩ := hj_o1_s hf
  refine hj_callSi (nL := 2) (As := [.int x1]) (rest := []) ⟨hx, hb, hml, hown, hts⟩ (ctX5_isSide l g (n := 73) (ad := ad) (w := (hj_wx g ad σ bf sd)) hc) (va_cwS 1 hts gX5_strike_X5_isSide rfl rfl rfl (by decide +kernel) ⟨Nat.le_of_ble_eq_true rfl, Nat.le_of_ble_eq_true rfl⟩) hj_Xb0 (fun _ _ _ => trivial) hK hP hS rfl hl.1 rfl (Nat.le_of_ble_eq_true rfl) dX5_strike_1 (fun H locs hP hS => ?_)
  refine lv_if_eq (tgt := 16) hx hb dX5_strike_4 (by decide) (fun c2 => ?_) (fun c2 => ?_)
  · rw [if_pos c2] at hf
    refine lv_bipush (v := (-2)) hx hb dX5_strike_16 (by decide) ?_
    have hq := Option.some.inj hf
    obtain ⟨rfl, rfl⟩ := Prod.mk.inj hq
    exact hj_reti C hP hK hS dX5_strike_18
  · rw [if_neg c2] at hf
    refine lv_aload_n hx hb dX5_strike_7 rfl (lv_at hl 0 rfl) ?_
    refine lv_iconst (v := 3) hx hb dX5_strike_8 (by decide) ?_
    refine lv_iload_n hx hb dX5_strike_9 rfl (lv_at hl 1 rfl) ?_
    obtain ⟨r3, σ4, hc, hf⟩ := hj_o2_s hf
    refine hj_callVi (nL := 2) (As := [.int 3, .int x1]) (rest := []) (i0 := 0) (C := RX5) (T := TX5) (N := 10) (ci := 5) ⟨hx, hb, hml, hown, hts⟩ (ctX5_fewestFor l g hI hc) (cwV 2 hts gX5_strike_X5_fewestFor rfl rfl rfl (by decide +kernel) ⟨Nat.le_of_ble_eq_true rfl, Nat.le_of_ble_eq_true rfl⟩) hj_Xb0 (fun _ _ _ => trivial) hK hP hS (by decide) wx_at_h rfl rfl hl.1 rfl (Nat.le_of_ble_eq_true rfl) dX5_strike_10 (fun H locs hP hS => ?_)
    refine lv_goto (tgt := 18) hx hb dX5_strike_13 (by decide) ?_
    have hq := Option.some.inj hf
    obtain ⟨rfl, rfl⟩ := Prod.mk.inj hq
    exact hj_reti C hP hK hS dX5_strike_18
set_option maxHeartbeats 4000000 in
set_option maxRecDepth 100000 in
theorem ctX5_strike (l : Launch) (g : hj_G) {ad : Nat → Nat} (hI : hj_I 73 ad) {σ : Nat → hj_Ob} {bf : Nat → Nat} {sd : Int64} {x1 : Int32} {rF : Int32} {σF : Nat → hj_Ob} (hf : fX5_strike σ bf sd x1 = some (rF, σF)) :
    hj_MI l yX5_strike wsX5_strike rmX5_strike g 73 ad hj_X0 [.ref (ad 0), .int x1] (hj_wx g ad σ bf sd) rF (hj_wx g ad σF bf sd) := by
  refine hj_ofI (cc := cX5_strike) (maxL := 2) (ret := (some .int)) (by decide) rfl (Nat.le_of_ble_eq_true rfl) ?_
  intro p e s m args below meth c ls C hP hK hX hl
  exact wX5_strike hI C hK hf hP va_S.rf hl

/-! X5_isMove -/
abbrev rmX5_isMove : Room := { frames := 1, cells := 0, slots := 0, locals := 21 }
theorem iX5_isMove_X5 : ∀ w ∈ wsX50, w ∈ wsX5_isMove := fun _ h => List.mem_cons_of_mem _ (List.mem_append_left _ (List.mem_append_right _ h))
theorem mX5_isMove_1 : Cond.fieldLink RX5 31 "HungryJury" "now" "LHungryJury$Room;" ∈ wsX5_isMove := List.mem_of_getElem? (i := 1) rfl
def fX5_isMove_5 (σ : Nat → hj_Ob) (bf : Nat → Nat) (sd : Int64) (x2 : Int32) (x3 : Int32) : Option ((Int32 ⊕ Unit) ⊕ (Int32 × Int32)) :=
  if x3 ≤ 0 then (some (.inl (.inr ()))) else (hj_nm (x3 - x3 / 10 * 10) fun y2 => if x2 < y2 then (some (.inl (.inl 0))) else (hj_o1 (fX2_isThere (σ 3) (σ 11) (y2 - 1)) fun r4 => if r4 = 0 then (some (.inl (.inl 0))) else (hj_nm (x3 / 10) fun y6 => some (.inr (y2, y6)))))
set_option maxHeartbeats 4000000 in
set_option maxRecDepth 100000 in
theorem wX5_isMove_5b {p : Program} {l : Launch} {e : Env} {s : State} {m : MethodId} {args : Array Value} {below : List Frame} {meth : Method} {c : Code} {g : hj_G} {ad : Nat → Nat} (hI : hj_I 73 ad) (C : hj_C p s m args meth c cX5_isMove RX5 wsX5_isMove 5 (some .boolean)) (hK : hj_K g s) {σ : Nat → hj_Ob} {bf : Nat → Nat} {sd : Int64} {x2 : Int32} {x3 : Int32} {y : (Int32 ⊕ Unit) ⊕ (Int32 × Int32)} {rF : Int32}
    (hf : fX5_isMove_5 σ bf sd x2 x3 = some y) (KR : ∀ r, y = .inl (.inl r) → r = rF) (KX : y = .inl (.inr ()) → ∀ (H : Heap) (locs : List Loc) (ls : Array Slot), hj_P g 73 ad (hj_wx g ad σ bf sd) H → hj_S 73 ad s H locs → lv_has ls 5 [] → W p l e rmX5_isMove s m args below meth c H locs 0 0 (MQ below (hj_QI g 73 ad (hj_wx g ad σ bf sd) rF s.heap.size) args s 0 0 (hj_A 73 ad s.heap.size)) (F0 m 48 ls [])) (KI : ∀ (v2 : Int32) (v3 : Int32), y = .inr (v2, v3) → ∀ (H : Heap) (locs : List Loc) (ls : Array Slot), hj_P g 73 ad (hj_wx g ad σ bf sd) H → hj_S 73 ad s H locs → lv_has ls 5 [(0, .ref (ad 0)), (2, .int v2), (3, .int v3)] → W p l e rmX5_isMove s m args below meth c H locs 0 0 (MQ below (hj_QI g 73 ad (hj_wx g ad σ bf sd) rF s.heap.size) args s 0 0 (hj_A 73 ad s.heap.size)) (F0 m 5 ls [])) {H : Heap} {locs : List Loc} {ls : Array Slot} (hP : hj_P g 73 ad (hj_wx g ad σ bf sd) H) (hS : hj_S 73 ad s H locs) (hl : lv_has ls 5 [(0, .ref (ad 0)), (2, .int x2), (3, .int x3)]) :
    W p l e rmX5_isMove s m args below meth c H locs 0 0 (MQ below (hj_QI g 73 ad (hj_wx g ad σ bf sd) rF s.heap.size) args s 0 0 (hj_A 73 ad s.heap.size)) (F0 m 5 ls []) := by
  obtain ⟨hx, hb, hr, hml, hown, hts, hlocks⟩ := id C
  unfold fX5_isMove_5 at hf
  refine lv_iload_n hx hb dX5_isMove_5 rfl (lv_at hl 2 rfl) ?_
  refine lv_if_le (tgt := 48) hx hb dX5_isMove_6 (by decide) (fun c1 => ?_) (fun c1 => ?_)
  · rw [if_pos c1] at hf
    exact KX  (Option.some.inj hf).symm _ _ _ hP hS (lv_sub hl [] rfl)
  · rw [if_neg c1] at hf
    refine lv_iload_n hx hb dX5_isMove_9 rfl (lv_at hl 2 rfl) ?_
    refine lv_bipush (v := 10) hx hb dX5_isMove_10 (by decide) ?_
    refine lv_irem hx hb dX5_isMove_12 (by decide) ?_
    refine lv_topi (fun y2 ey2 => ?_)
    replace hf := hj_nm_y hf ey2
    refine lv_istore (lv' := [(4, .int y2), (0, .ref (ad 0)), (2, .int x2), (3, .int x3)]) hx hb dX5_isMove_13 hl (by decide) rfl (fun ls hl => ?_)
    refine lv_iload hx hb dX5_isMove_15 (lv_at hl 0 rfl) ?_
    refine lv_iload_n hx hb dX5_isMove_17 rfl (lv_at hl 2 rfl) ?_
    refine lv_icmp_gt (tgt := 35) hx hb dX5_isMove_18 (by decide) (fun c3 => ?_) (fun c3 => ?_)
    · rw [if_pos c3] at hf
      refine lv_iconst (v := 0) hx hb dX5_isMove_35 (by decide) ?_
      have hq := KR _ (Option.some.inj hf).symm
      obtain rfl := hq
      exact hj_retz (Or.inl rfl)  C hP hK hS dX5_isMove_36
    · rw [if_neg c3] at hf
      refine lv_aload_n hx hb dX5_isMove_21 rfl (lv_at hl 1 rfl) ?_
      refine hj_get (ci := 5) (v := .ref (ad 11)) (C := RX5) (T := TX5) (N := 10) hx hb hts iX5_isMove_X5 hown hK hP (by decide) wx_at_h rfl 3 (by decide) mX5_isMove_1 rfl dX5_isMove_22 ?_
      refine lv_iload hx hb dX5_isMove_25 (lv_at hl 0 rfl) ?_
      refine lv_iconst (v := 1) hx hb dX5_isMove_27 (by decide) ?_
      refine lv_isub hx hb dX5_isMove_28 ?_
      obtain ⟨r4, hc, hf⟩ := hj_o1_s hf
      refine hj_callVi (nL := 5) (As := [.int (y2 - 1)]) (rest := []) (i0 := 11) (C := RX2) (T := TX2) (N := 6) (ci := 2) ⟨hx, hb, hml, hown, hts⟩ (ctX2_isThere l g hI (σ := σ) (bf := bf) (sd := sd) wx_R_11 rfl rfl hc) (cwV 1 hts gX5_isMove_X2_isThere rfl rfl rfl (by decide +kernel) ⟨Nat.le_of_ble_eq_true rfl, Nat.le_of_ble_eq_true rfl⟩) hj_Xb0 (fun _ _ _ => trivial) hK hP hS (by decide) (wx_at_r wx_R_11 rfl) rfl rfl hl.1 rfl (Nat.le_of_ble_eq_true rfl) dX5_isMove_29 (fun H locs hP hS => ?_)
      refine lv_if_ne (tgt := 37) hx hb dX5_isMove_32 (by decide) (fun c5 => ?_) (fun c5 => ?_)
      · rw [if_neg c5] at hf
        refine lv_iload hx hb dX5_isMove_37 (lv_at hl 0 rfl) ?_
        refine lv_istore_n (lv' := [(2, .int y2), (4, .int y2), (0, .ref (ad 0)), (3, .int x3)]) hx hb dX5_isMove_39 rfl hl (by decide) rfl (fun ls hl => ?_)
        refine lv_iload_n hx hb dX5_isMove_40 rfl (lv_at hl 3 rfl) ?_
        refine lv_bipush (v := 10) hx hb dX5_isMove_41 (by decide) ?_
        refine lv_idiv hx hb dX5_isMove_43 (by decide) ?_
        refine lv_topi (fun y6 ey6 => ?_)
        replace hf := hj_nm_y hf ey6
        refine lv_istore_n (lv' := [(3, .int y6), (2, .int y2), (4, .int y2), (0, .ref (ad 0))]) hx hb dX5_isMove_44 rfl hl (by decide) rfl (fun ls hl => ?_)
        refine lv_goto (tgt := 5) hx hb dX5_isMove_45 (by decide) ?_
        exact KI _ _ (Option.some.inj hf).symm _ _ _ hP hS (lv_sub hl [3, 1, 0] rfl)
      · rw [if_pos c5] at hf
        refine lv_iconst (v := 0) hx hb dX5_isMove_35 (by decide) ?_
        have hq := KR _ (Option.some.inj hf).symm
        obtain rfl := hq
        exact hj_retz (Or.inl rfl)  C hP hK hS dX5_isMove_36
set_option maxHeartbeats 4000000 in
set_option maxRecDepth 100000 in
theorem wX5_isMove_5 {p : Program} {l : Launch} {e : Env} {s : State} {m : MethodId} {args : Array Value} {below : List Frame} {meth : Method} {c : Code} {g : hj_G} {ad : Nat → Nat} (hI : hj_I 73 ad) (C : hj_C p s m args meth c cX5_isMove RX5 wsX5_isMove 5 (some .boolean)) (hK : hj_K g s) {σ : Nat → hj_Ob} {bf : Nat → Nat} {sd : Int64} {rF : Int32} {ex : (Int32 ⊕ Unit)} :
    ∀ (fu : Nat) (x2 : Int32) (x3 : Int32), hj_lp (fun q : (Int32 × Int32) => fX5_isMove_5 σ bf sd q.1 q.2) fu (x2, x3) = some ex → (∀ r, ex = .inl r → r = rF) → (ex = .inr () → ∀ (H : Heap) (locs : List Loc) (ls : Array Slot), hj_P g 73 ad (hj_wx g ad σ bf sd) H → hj_S 73 ad s H locs → lv_has ls 5 [] → W p l e rmX5_isMove s m args below meth c H locs 0 0 (MQ below (hj_QI g 73 ad (hj_wx g ad σ bf sd) rF s.heap.size) args s 0 0 (hj_A 73 ad s.heap.size)) (F0 m 48 ls [])) → ∀ (H : Heap) (locs : List Loc) (ls : Array Slot), hj_P g 73 ad (hj_wx g ad σ bf sd) H → hj_S 73 ad s H locs → lv_has ls 5 [(0, .ref (ad 0)), (2, .int x2), (3, .int x3)] →
    W p l e rmX5_isMove s m args below meth c H locs 0 0 (MQ below (hj_QI g 73 ad (hj_wx g ad σ bf sd) rF s.heap.size) args s 0 0 (hj_A 73 ad s.heap.size)) (F0 m 5 ls []) := by
  intro fu
  induction fu with
  | zero => intro x2 x3 hq; cases hq
  | succ fu ih =>
    intro x2 x3 hq KR KX H locs ls hP hS hl
    obtain ⟨y, hy, h1, h2⟩ := hj_lp_s hq
    exact wX5_isMove_5b hI C hK  hy (fun r hr => KR r (h1 _ hr).symm) (fun  hv => KX  (h1 _ hv).symm) (fun v2 v3 hv H locs ls hP hS hl => ih v2 v3 (h2 _ hv) KR KX H locs ls hP hS hl) hP hS hl
def fX5_isMove (σ : Nat → hj_Ob) (bf : Nat → Nat) (sd : Int64) (x1 : Int32) : Option Int32 :=
  hj_oe (fun r => r) (hj_lp (fun q : (Int32 × Int32) => fX5_isMove_5 σ bf sd q.1 q.2) 100 (6, x1)) (fun ex7 => some 1)
set_option maxHeartbeats 4000000 in
set_option maxRecDepth 100000 in
theorem wX5_isMove {p : Program} {l : Launch} {e : Env} {s : State} {m : MethodId} {args : Array Value} {below : List Frame} {meth : Method} {c : Code} {g : hj_G} {ad : Nat → Nat} (hI : hj_I 73 ad) (C : hj_C p s m args meth c cX5_isMove RX5 wsX5_isMove 5 (some .boolean)) (hK : hj_K g s) {σ : Nat → hj_Ob} {bf : Nat → Nat} {sd : Int64} {x1 : Int32} {rF : Int32}
    (hf : fX5_isMove σ bf sd x1 = some rF) {H : Heap} {locs : List Loc} {ls : Array Slot} (hP : hj_P g 73 ad (hj_wx g ad σ bf sd) H) (hS : hj_S 73 ad s H locs) (hl : lv_has ls 5 [(0, .ref (ad 0)), (1, .int x1)]) :
    W p l e rmX5_isMove s m args below meth c H locs 0 0 (MQ below (hj_QI g 73 ad (hj_wx g ad σ bf sd) rF s.heap.size) args s 0 0 (hj_A 73 ad s.heap.size)) (F0 m 0 ls []) := by
  obtain ⟨hx, hb, hr, hml, hown, hts, hlocks⟩ := id C
  unfold fX5_isMove at hf
  refine lv_bipush (v := 6) hx hb dX5_isMove_0 (by decide) ?_
  refine lv_istore_n (lv' := [(2, .int 6), (0, .ref (ad 0)), (1, .int x1)]) hx hb dX5_isMove_2 rfl hl (by decide) rfl (fun ls hl => ?_)
  refine lv_iload_n hx hb dX5_isMove_3 rfl (lv_at hl 2 rfl) ?_
  refine lv_istore_n (lv' := [(3, .int x1), (2, .int 6), (0, .ref (ad 0)), (1, .int x1)]) hx hb dX5_isMove_4 rfl hl (by decide) rfl (fun ls hl => ?_)
  obtain ⟨exx, hlx, hlr, hfx⟩ := hj_oe_s hf
  refine wX5_isMove_5 hI C hK  100 6 x1 hlx hlr (fun hxe H locs ls hP hS hl => ?_) H locs ls hP hS (lv_sub hl [2, 1, 0] rfl)
  replace hf := hfx _ hxe
  refine lv_iconst (v := 1) hx hb dX5_isMove_48 (by decide) ?_
  have hq := Option.some.inj hf
  obtain rfl := hq
  exact hj_retz (Or.inr rfl)  C hP hK hS dX5_isMove_49
set_option maxHeartbeats 4000000 in
set_option maxRecDepth 100000 in
theorem ctX5_isMove (l : Launch) (g : hj_G) {ad : Nat → Nat} (hI : hj_I 73 ad) {σ : Nat → hj_Ob} {bf : Nat → Nat} {sd : Int64} {x1 : Int32} {rF : Int32} (hf : fX5_isMove σ bf sd x1 = some rF) :
    hj_MI l yX5_isMove wsX5_isMove rmX5_isMove g 73 ad hj_X0 [.ref (ad 0), .int x1] (hj_wx g ad σ bf sd) rF (hj_wx g ad σ bf sd) := by
  refine hj_ofI (cc := cX5_isMove) (maxL := 5) (ret := (some .boolean)) (by decide) rfl (Nat.le_of_ble_eq_true rfl) ?_
  intro p e s m args below meth c ls C hP hK hX hl
  exact wX5_isMove hI C hK hf hP va_S.rf hl

/-! X5_endAfterMove -/
abbrev rmX5_endAfterMove : Room := { frames := 4, cells := 0, slots := 0, locals := 90 }
theorem iX5_endAfterMove_X5 : ∀ w ∈ wsX50, w ∈ wsX5_endAfterMove := fun _ h => List.mem_cons_of_mem _ (List.mem_append_left _ (List.mem_append_left _ (List.mem_append_right _ h)))
theorem mX5_endAfterMove_1 : Cond.fieldLink RX5 35 "HungryJury" "trial" "LHungryJury$Room;" ∈ wsX5_endAfterMove := List.mem_of_getElem? (i := 1) rfl
theorem mX5_endAfterMove_2 : Cond.fieldLink RX5 31 "HungryJury" "now" "LHungryJury$Room;" ∈ wsX5_endAfterMove := List.mem_of_getElem? (i := 2) rfl
def fX5_endAfterMove_13 (σ : Nat → hj_Ob) (bf : Nat → Nat) (sd : Int64) (x2 : Int32) : Option ((Nat → hj_Ob) ⊕ (Int32 × (Nat → hj_Ob))) :=
  if x2 ≤ 0 then (some (.inl σ)) else (hj_o1 (fX2_carryOut (σ 3) (σ 14) 1 ((x2 - x2 / 10 * 10) - 1)) fun ρ4 => hj_nm (va_up σ 14 ρ4) fun σ5 => hj_nm (x2 / 10) fun y6 => some (.inr (y6, σ5)))
set_option maxHeartbeats 4000000 in
set_option maxRecDepth 100000 in
theorem wX5_endAfterMove_13b {p : Program} {l : Launch} {e : Env} {s : State} {m : MethodId} {args : Array Value} {below : List Frame} {meth : Method} {c : Code} {g : hj_G} {ad : Nat → Nat} (hI : hj_I 73 ad) (C : hj_C p s m args meth c cX5_endAfterMove RX5 wsX5_endAfterMove 3 (some .int)) (hK : hj_K g s) {σ : Nat → hj_Ob} {bf : Nat → Nat} {sd : Int64} {x2 : Int32} {y : (Nat → hj_Ob) ⊕ (Int32 × (Nat → hj_Ob))} {rF : Int32} {σF : Nat → hj_Ob}
    (hf : fX5_endAfterMove_13 σ bf sd x2 = some y) (KX : ∀ (σ' : Nat → hj_Ob), y = .inl σ' → ∀ (H : Heap) (locs : List Loc) (ls : Array Slot), hj_P g 73 ad (hj_wx g ad σ' bf sd) H → hj_S 73 ad s H locs → lv_has ls 3 [(0, .ref (ad 0))] → W p l e rmX5_endAfterMove s m args below meth c H locs 0 0 (MQ below (hj_QI g 73 ad (hj_wx g ad σF bf sd) rF s.heap.size) args s 0 0 (hj_A 73 ad s.heap.size)) (F0 m 39 ls [])) (KI : ∀ (v2 : Int32) (σ' : Nat → hj_Ob), y = .inr (v2, σ') → ∀ (H : Heap) (locs : List Loc) (ls : Array Slot), hj_P g 73 ad (hj_wx g ad σ' bf sd) H → hj_S 73 ad s H locs → lv_has ls 3 [(0, .ref (ad 0)), (2, .int v2)] → W p l e rmX5_endAfterMove s m args below meth c H locs 0 0 (MQ below (hj_QI g 73 ad (hj_wx g ad σF bf sd) rF s.heap.size) args s 0 0 (hj_A 73 ad s.heap.size)) (F0 m 13 ls [])) {H : Heap} {locs : List Loc} {ls : Array Slot} (hP : hj_P g 73 ad (hj_wx g ad σ bf sd) H) (hS : hj_S 73 ad s H locs) (hl : lv_has ls 3 [(0, .ref (ad 0)), (2, .int x2)]) :
    W p l e rmX5_endAfterMove s m args below meth c H locs 0 0 (MQ below (hj_QI g 73 ad (hj_wx g ad σF bf sd) rF s.heap.size) args s 0 0 (hj_A 73 ad s.heap.size)) (F0 m 13 ls []) := by
  obtain ⟨hx, hb, hr, hml, hown, hts, hlocks⟩ := id C
  unfold fX5_endAfterMove_13 at hf
  refine lv_iload_n hx hb dX5_endAfterMove_13 rfl (lv_at hl 1 rfl) ?_
  refine lv_if_le (tgt := 39) hx hb dX5_endAfterMove_14 (by decide) (fun c3 => ?_) (fun c3 => ?_)
  · rw [if_pos c3] at hf
    exact KX _ (Option.some.inj hf).symm _ _ _ hP hS (lv_sub hl [0] rfl)
  · rw [if_neg c3] at hf
    refine lv_aload_n hx hb dX5_endAfterMove_17 rfl (lv_at hl 0 rfl) ?_
    refine hj_get (ci := 5) (v := .ref (ad 14)) (C := RX5) (T := TX5) (N := 10) hx hb hts iX5_endAfterMove_X5 hown hK hP (by decide) wx_at_h rfl 4 (by decide) mX5_endAfterMove_1 rfl dX5_endAfterMove_18 ?_
    refine lv_iconst (v := 1) hx hb dX5_endAfterMove_21 (by decide) ?_
    refine lv_iload_n hx hb dX5_endAfterMove_22 rfl (lv_at hl 1 rfl) ?_
    refine lv_bipush (v := 10) hx hb dX5_endAfterMove_23 (by decide) ?_
    refine lv_irem hx hb dX5_endAfterMove_25 (by decide) ?_
    refine lv_iconst (v := 1) hx hb dX5_endAfterMove_26 (by decide) ?_
    refine lv_isub hx hb dX5_endAfterMove_27 ?_
    obtain ⟨ρ4, hc, hf⟩ := hj_o1_s hf
    refine hj_callVv (nL := 3) (As := [.int 1, .int ((x2 - x2 / 10 * 10) - 1)]) (rest := []) (i0 := 14) (C := RX2) (T := TX2) (N := 6) (ci := 2) ⟨hx, hb, hml, hown, hts⟩ (ctX2_carryOut l g hI (σ := σ) (bf := bf) (sd := sd) wx_R_14 rfl rfl hc) (cwV 2 hts gX5_endAfterMove_X2_carryOut rfl rfl rfl (by decide +kernel) ⟨Nat.le_of_ble_eq_true rfl, Nat.le_of_ble_eq_true rfl⟩) hj_Xb0 (fun _ _ _ => trivial) hK hP hS (by decide) (wx_at_r wx_R_14 rfl) rfl rfl hl.1 rfl (Nat.le_of_ble_eq_true rfl) dX5_endAfterMove_28 (fun H locs hP hS => ?_)
    obtain ⟨σ5, eσ5⟩ : ∃ z : Nat → hj_Ob, z = va_up σ 14 ρ4 := ⟨_, rfl⟩
    replace hf := hj_nm_y hf eσ5
    rw [← eσ5] at hP
    refine lv_iload_n hx hb dX5_endAfterMove_31 rfl (lv_at hl 1 rfl) ?_
    refine lv_bipush (v := 10) hx hb dX5_endAfterMove_32 (by decide) ?_
    refine lv_idiv hx hb dX5_endAfterMove_34 (by decide) ?_
    refine lv_topi (fun y6 ey6 => ?_)
    replace hf := hj_nm_y hf ey6
    refine lv_istore_n (lv' := [(2, .int y6), (0, .ref (ad 0))]) hx hb dX5_endAfterMove_35 rfl hl (by decide) rfl (fun ls hl => ?_)
    refine lv_goto (tgt := 13) hx hb dX5_endAfterMove_36 (by decide) ?_
    exact KI _ _ (Option.some.inj hf).symm _ _ _ hP hS (lv_sub hl [1, 0] rfl)
set_option maxHeartbeats 4000000 in
set_option maxRecDepth 100000 in
theorem wX5_endAfterMove_13 {p : Program} {l : Launch} {e : Env} {s : State} {m : MethodId} {args : Array Value} {below : List Frame} {meth : Method} {c : Code} {g : hj_G} {ad : Nat → Nat} (hI : hj_I 73 ad) (C : hj_C p s m args meth c cX5_endAfterMove RX5 wsX5_endAfterMove 3 (some .int)) (hK : hj_K g s) {bf : Nat → Nat} {sd : Int64} {rF : Int32} {σF : Nat → hj_Ob} {σe : Nat → hj_Ob} :
    ∀ (fu : Nat) (x2 : Int32) (σ : Nat → hj_Ob), hj_lp (fun q : (Int32 × (Nat → hj_Ob)) => fX5_endAfterMove_13 q.2 bf sd q.1) fu (x2, σ) = some σe → (∀ (H : Heap) (locs : List Loc) (ls : Array Slot), hj_P g 73 ad (hj_wx g ad σe bf sd) H → hj_S 73 ad s H locs → lv_has ls 3 [(0, .ref (ad 0))] → W p l e rmX5_endAfterMove s m args below meth c H locs 0 0 (MQ below (hj_QI g 73 ad (hj_wx g ad σF bf sd) rF s.heap.size) args s 0 0 (hj_A 73 ad s.heap.size)) (F0 m 39 ls [])) → ∀ (H : Heap) (locs : List Loc) (ls : Array Slot), hj_P g 73 ad (hj_wx g ad σ bf sd) H → hj_S 73 ad s H locs → lv_has ls 3 [(0, .ref (ad 0)), (2, .int x2)] →
    W p l e rmX5_endAfterMove s m args below meth c H locs 0 0 (MQ below (hj_QI g 73 ad (hj_wx g ad σF bf sd) rF s.heap.size) args s 0 0 (hj_A 73 ad s.heap.size)) (F0 m 13 ls []) := by
  intro fu
  induction fu with
  | zero => intro x2 σ hq; cases hq
  | succ fu ih =>
    intro x2 σ hq KX H locs ls hP hS hl
    obtain ⟨y, hy, h1, h2⟩ := hj_lp_s hq
    exact wX5_endAfterMove_13b hI C hK  hy (fun σ' hv H locs ls hP hS hl => by obtain rfl := h1 _ hv; exact KX H locs ls hP hS hl) (fun v2 σ' hv H locs ls hP hS hl => ih v2 σ' (h2 _ hv) KX H locs ls hP hS hl) hP hS hl
def fX5_endAfterMove (σ : Nat → hj_Ob) (bf : Nat → Nat) (sd : Int64) (x1 : Int32) : Option (Int32 × (Nat → hj_Ob)) :=
  hj_o1 (fX2_copyFrom (σ 3) (σ 11) (σ 14)) fun ρ1 => hj_nm (va_up σ 14 ρ1) fun σ2 => hj_o1 (hj_lp (fun q : (Int32 × (Nat → hj_Ob)) => fX5_endAfterMove_13 q.2 bf sd q.1) 100 (x1, σ2)) fun σ7 => (hj_o2 (fX2_passHoursToEnd (σ7 3) (σ7 14)) fun r8 ρ9 => hj_nm (va_up σ7 14 ρ9) fun σ10 => hj_o1 (fX2_verdict (σ10 3) (σ10 14)) fun r11 => some (r11, σ10))
set_option maxHeartbeats 4000000 in
set_option maxRecDepth 100000 in
theorem wX5_endAfterMove {p : Program} {l : Launch} {e : Env} {s : State} {m : MethodId} {args : Array Value} {below : List Frame} {meth : Method} {c : Code} {g : hj_G} {ad : Nat → Nat} (hI : hj_I 73 ad) (C : hj_C p s m args meth c cX5_endAfterMove RX5 wsX5_endAfterMove 3 (some .int)) (hK : hj_K g s) {σ : Nat → hj_Ob} {bf : Nat → Nat} {sd : Int64} {x1 : Int32} {rF : Int32} {σF : Nat → hj_Ob}
    (hf : fX5_endAfterMove σ bf sd x1 = some (rF, σF)) {H : Heap} {locs : List Loc} {ls : Array Slot} (hP : hj_P g 73 ad (hj_wx g ad σ bf sd) H) (hS : hj_S 73 ad s H locs) (hl : lv_has ls 3 [(0, .ref (ad 0)), (1, .int x1)]) :
    W p l e rmX5_endAfterMove s m args below meth c H locs 0 0 (MQ below (hj_QI g 73 ad (hj_wx g ad σF bf sd) rF s.heap.size) args s 0 0 (hj_A 73 ad s.heap.size)) (F0 m 0 ls []) := by
  obtain ⟨hx, hb, hr, hml, hown, hts, hlocks⟩ := id C
  unfold fX5_endAfterMove at hf
  refine lv_aload_n hx hb dX5_endAfterMove_0 rfl (lv_at hl 0 rfl) ?_
  refine hj_get (ci := 5) (v := .ref (ad 14)) (C := RX5) (T := TX5) (N := 10) hx hb hts iX5_endAfterMove_X5 hown hK hP (by decide) wx_at_h rfl 4 (by decide) mX5_endAfterMove_1 rfl dX5_endAfterMove_1 ?_
  refine lv_aload_n hx hb dX5_endAfterMove_4 rfl (lv_at hl 0 rfl) ?_
  refine hj_get (ci := 5) (v := .ref (ad 11)) (C := RX5) (T := TX5) (N := 10) hx hb hts iX5_endAfterMove_X5 hown hK hP (by decide) wx_at_h rfl 3 (by decide) mX5_endAfterMove_2 rfl dX5_endAfterMove_5 ?_
  obtain ⟨ρ1, hc, hf⟩ := hj_o1_s hf
  refine hj_callVv (nL := 3) (As := [.ref (ad 11)]) (rest := []) (i0 := 14) (C := RX2) (T := TX2) (N := 6) (ci := 2) ⟨hx, hb, hml, hown, hts⟩ (ctX2_copyFrom l g hI (σ := σ) (bf := bf) (sd := sd) wx_R_14 rfl wx_R_11 (by decide) rfl rfl hc) (cwV 1 hts gX5_endAfterMove_X2_copyFrom rfl rfl rfl (by decide +kernel) ⟨Nat.le_of_ble_eq_true rfl, Nat.le_of_ble_eq_true rfl⟩) hj_Xb0 (fun _ _ _ => trivial) hK hP hS (by decide) (wx_at_r wx_R_14 rfl) rfl rfl hl.1 rfl (Nat.le_of_ble_eq_true rfl) dX5_endAfterMove_8 (fun H locs hP hS => ?_)
  obtain ⟨σ2, eσ2⟩ : ∃ z : Nat → hj_Ob, z = va_up σ 14 ρ1 := ⟨_, rfl⟩
  replace hf := hj_nm_y hf eσ2
  rw [← eσ2] at hP
  refine lv_iload_n hx hb dX5_endAfterMove_11 rfl (lv_at hl 1 rfl) ?_
  refine lv_istore_n (lv' := [(2, .int x1), (0, .ref (ad 0)), (1, .int x1)]) hx hb dX5_endAfterMove_12 rfl hl (by decide) rfl (fun ls hl => ?_)
  obtain ⟨σ7, hlx, hf⟩ := hj_o1_s hf
  refine wX5_endAfterMove_13 hI C hK  100 x1 σ2 hlx (fun H locs ls hP hS hl => ?_) H locs ls hP hS (lv_sub hl [1, 0] rfl)
  refine lv_aload_n hx hb dX5_endAfterMove_39 rfl (lv_at hl 0 rfl) ?_
  refine hj_get (ci := 5) (v := .ref (ad 14)) (C := RX5) (T := TX5) (N := 10) hx hb hts iX5_endAfterMove_X5 hown hK hP (by decide) wx_at_h rfl 4 (by decide) mX5_endAfterMove_1 rfl dX5_endAfterMove_40 ?_
  obtain ⟨r8, ρ9, hc, hf⟩ := hj_o2_s hf
  refine hj_callVi (nL := 3) (As := []) (rest := []) (i0 := 14) (C := RX2) (T := TX2) (N := 6) (ci := 2) ⟨hx, hb, hml, hown, hts⟩ (ctX2_passHoursToEnd l g hI (σ := σ7) (bf := bf) (sd := sd) wx_R_14 rfl rfl hc) (cwV 0 hts gX5_endAfterMove_X2_passHoursToEnd rfl rfl rfl (by decide +kernel) ⟨Nat.le_of_ble_eq_true rfl, Nat.le_of_ble_eq_true rfl⟩) hj_Xb0 (fun _ _ _ => trivial) hK hP hS (by decide) (wx_at_r wx_R_14 rfl) rfl rfl hl.1 rfl (Nat.le_of_ble_eq_true rfl) dX5_endAfterMove_43 (fun H locs hP hS => ?_)
  obtain ⟨σ10, eσ10⟩ : ∃ z : Nat → hj_Ob, z = va_up σ7 14 ρ9 := ⟨_, rfl⟩
  replace hf := hj_nm_y hf eσ10
  rw [← eσ10] at hP
  refine lv_pop hx hb dX5_endAfterMove_46 rfl ?_
  refine lv_aload_n hx hb dX5_endAfterMove_47 rfl (lv_at hl 0 rfl) ?_
  refine hj_get (ci := 5) (v := .ref (ad 14)) (C := RX5) (T := TX5) (N := 10) hx hb hts iX5_endAfterMove_X5 hown hK hP (by decide) wx_at_h rfl 4 (by decide) mX5_endAfterMove_1 rfl dX5_endAfterMove_48 ?_
  obtain ⟨r11, hc, hf⟩ := hj_o1_s hf
  refine hj_callVi (nL := 3) (As := []) (rest := []) (i0 := 14) (C := RX2) (T := TX2) (N := 6) (ci := 2) ⟨hx, hb, hml, hown, hts⟩ (ctX2_verdict l g hI (σ := σ10) (bf := bf) (sd := sd) wx_R_14 rfl rfl hc) (cwV 0 hts gX5_endAfterMove_X2_verdict rfl rfl rfl (by decide +kernel) ⟨Nat.le_of_ble_eq_true rfl, Nat.le_of_ble_eq_true rfl⟩) hj_Xb0 (fun _ _ _ => trivial) hK hP hS (by decide) (wx_at_r wx_R_14 rfl) rfl rfl hl.1 rfl (Nat.le_of_ble_eq_true rfl) dX5_endAfterMove_51 (fun H locs hP hS => ?_)
  have hq := Option.some.inj hf
  obtain ⟨rfl, rfl⟩ := Prod.mk.inj hq
  exact hj_reti C hP hK hS dX5_endAfterMove_54
set_option maxHeartbeats 4000000 in
set_option maxRecDepth 100000 in
theorem ctX5_endAfterMove (l : Launch) (g : hj_G) {ad : Nat → Nat} (hI : hj_I 73 ad) {σ : Nat → hj_Ob} {bf : Nat → Nat} {sd : Int64} {x1 : Int32} {rF : Int32} {σF : Nat → hj_Ob} (hf : fX5_endAfterMove σ bf sd x1 = some (rF, σF)) :
    hj_MI l yX5_endAfterMove wsX5_endAfterMove rmX5_endAfterMove g 73 ad hj_X0 [.ref (ad 0), .int x1] (hj_wx g ad σ bf sd) rF (hj_wx g ad σF bf sd) := by
  refine hj_ofI (cc := cX5_endAfterMove) (maxL := 3) (ret := (some .int)) (by decide) rfl (Nat.le_of_ble_eq_true rfl) ?_
  intro p e s m args below meth c ls C hP hK hX hl
  exact wX5_endAfterMove hI C hK hf hP va_S.rf hl

/-! X5_leastMoveFor -/
abbrev rmX5_leastMoveFor : Room := { frames := 5, cells := 0, slots := 0, locals := 112 }
def fX5_leastMoveFor_2 (σ : Nat → hj_Ob) (bf : Nat → Nat) (sd : Int64) (x1 : Int32) (x2 : Int32) : Option (((Int32 × (Nat → hj_Ob)) ⊕ (Nat → hj_Ob)) ⊕ (Int32 × (Nat → hj_Ob))) :=
  if 666 < x2 then (some (.inl (.inr σ))) else (hj_o1 (fX5_isMove σ bf sd x2) fun r2 => if r2 = 0 then (hj_nm (x2 + 1) fun y4 => some (.inr (y4, σ))) else (hj_o2 (fX5_endAfterMove σ bf sd x2) fun r5 σ6 => if r5 = x1 then (some (.inl (.inl (x2, σ6)))) else (hj_nm (x2 + 1) fun y8 => some (.inr (y8, σ6)))))
set_option maxHeartbeats 4000000 in
set_option maxRecDepth 100000 in
theorem wX5_leastMoveFor_2b {p : Program} {l : Launch} {e : Env} {s : State} {m : MethodId} {args : Array Value} {below : List Frame} {meth : Method} {c : Code} {g : hj_G} {ad : Nat → Nat} (hI : hj_I 73 ad) (C : hj_C p s m args meth c cX5_leastMoveFor RX5 wsX5_leastMoveFor 3 (some .int)) (hK : hj_K g s) {σ : Nat → hj_Ob} {bf : Nat → Nat} {sd : Int64} {x1 : Int32} {x2 : Int32} {y : ((Int32 × (Nat → hj_Ob)) ⊕ (Nat → hj_Ob)) ⊕ (Int32 × (Nat → hj_Ob))} {rF : Int32} {σF : Nat → hj_Ob}
    (hf : fX5_leastMoveFor_2 σ bf sd x1 x2 = some y) (KR : ∀ r, y = .inl (.inl r) → r = (rF, σF)) (KX : ∀ (σ' : Nat → hj_Ob), y = .inl (.inr σ') → ∀ (H : Heap) (locs : List Loc) (ls : Array Slot), hj_P g 73 ad (hj_wx g ad σ' bf sd) H → hj_S 73 ad s H locs → lv_has ls 3 [] → W p l e rmX5_leastMoveFor s m args below meth c H locs 0 0 (MQ below (hj_QI g 73 ad (hj_wx g ad σF bf sd) rF s.heap.size) args s 0 0 (hj_A 73 ad s.heap.size)) (F0 m 34 ls [])) (KI : ∀ (v2 : Int32) (σ' : Nat → hj_Ob), y = .inr (v2, σ') → ∀ (H : Heap) (locs : List Loc) (ls : Array Slot), hj_P g 73 ad (hj_wx g ad σ' bf sd) H → hj_S 73 ad s H locs → lv_has ls 3 [(0, .ref (ad 0)), (1, .int x1), (2, .int v2)] → W p l e rmX5_leastMoveFor s m args below meth c H locs 0 0 (MQ below (hj_QI g 73 ad (hj_wx g ad σF bf sd) rF s.heap.size) args s 0 0 (hj_A 73 ad s.heap.size)) (F0 m 2 ls [])) {H : Heap} {locs : List Loc} {ls : Array Slot} (hP : hj_P g 73 ad (hj_wx g ad σ bf sd) H) (hS : hj_S 73 ad s H locs) (hl : lv_has ls 3 [(0, .ref (ad 0)), (1, .int x1), (2, .int x2)]) :
    W p l e rmX5_leastMoveFor s m args below meth c H locs 0 0 (MQ below (hj_QI g 73 ad (hj_wx g ad σF bf sd) rF s.heap.size) args s 0 0 (hj_A 73 ad s.heap.size)) (F0 m 2 ls []) := by
  obtain ⟨hx, hb, hr, hml, hown, hts, hlocks⟩ := id C
  unfold fX5_leastMoveFor_2 at hf
  refine lv_iload_n hx hb dX5_leastMoveFor_2 rfl (lv_at hl 2 rfl) ?_
  refine lv_sipush (v := 666) hx hb dX5_leastMoveFor_3 (by decide) ?_
  refine lv_icmp_gt (tgt := 34) hx hb dX5_leastMoveFor_6 (by decide) (fun c1 => ?_) (fun c1 => ?_)
  · rw [if_pos c1] at hf
    exact KX _ (Option.some.inj hf).symm _ _ _ hP hS (lv_sub hl [] rfl)
  · rw [if_neg c1] at hf
    refine lv_aload_n hx hb dX5_leastMoveFor_9 rfl (lv_at hl 0 rfl) ?_
    refine lv_iload_n hx hb dX5_leastMoveFor_10 rfl (lv_at hl 2 rfl) ?_
    obtain ⟨r2, hc, hf⟩ := hj_o1_s hf
    refine hj_callVi (nL := 3) (As := [.int x2]) (rest := []) (i0 := 0) (C := RX5) (T := TX5) (N := 10) (ci := 5) ⟨hx, hb, hml, hown, hts⟩ (ctX5_isMove l g hI hc) (cwV 1 hts gX5_leastMoveFor_X5_isMove rfl rfl rfl (by decide +kernel) ⟨Nat.le_of_ble_eq_true rfl, Nat.le_of_ble_eq_true rfl⟩) hj_Xb0 (fun _ _ _ => trivial) hK hP hS (by decide) wx_at_h rfl rfl hl.1 rfl (Nat.le_of_ble_eq_true rfl) dX5_leastMoveFor_11 (fun H locs hP hS => ?_)
    refine lv_if_eq (tgt := 28) hx hb dX5_leastMoveFor_14 (by decide) (fun c3 => ?_) (fun c3 => ?_)
    · rw [if_pos c3] at hf
      obtain ⟨y4, ey4⟩ : ∃ z : Int32, z = x2 + 1 := ⟨_, rfl⟩
      replace hf := hj_nm_y hf ey4
      refine lv_iinc (v := y4) (lv' := [(2, .int y4), (0, .ref (ad 0)), (1, .int x1)]) hx hb dX5_leastMoveFor_28 hl (k := 2) rfl (by rw [ey4]; rfl) (by decide) rfl (fun ls hl => ?_)
      refine lv_goto (tgt := 2) hx hb dX5_leastMoveFor_31 (by decide) ?_
      exact KI _ _ (Option.some.inj hf).symm _ _ _ hP hS (lv_sub hl [1, 2, 0] rfl)
    · rw [if_neg c3] at hf
      refine lv_aload_n hx hb dX5_leastMoveFor_17 rfl (lv_at hl 0 rfl) ?_
      refine lv_iload_n hx hb dX5_leastMoveFor_18 rfl (lv_at hl 2 rfl) ?_
      obtain ⟨r5, σ6, hc, hf⟩ := hj_o2_s hf
      refine hj_callVi (nL := 3) (As := [.int x2]) (rest := []) (i0 := 0) (C := RX5) (T := TX5) (N := 10) (ci := 5) ⟨hx, hb, hml, hown, hts⟩ (ctX5_endAfterMove l g hI hc) (cwV 1 hts gX5_leastMoveFor_X5_endAfterMove rfl rfl rfl (by decide +kernel) ⟨Nat.le_of_ble_eq_true rfl, Nat.le_of_ble_eq_true rfl⟩) hj_Xb0 (fun _ _ _ => trivial) hK hP hS (by decide) wx_at_h rfl rfl hl.1 rfl (Nat.le_of_ble_eq_true rfl) dX5_leastMoveFor_19 (fun H locs hP hS => ?_)
      refine lv_iload_n hx hb dX5_leastMoveFor_22 rfl (lv_at hl 1 rfl) ?_
      refine lv_icmp_ne (tgt := 28) hx hb dX5_leastMoveFor_23 (by decide) (fun c7 => ?_) (fun c7 => ?_)
      · rw [if_neg c7] at hf
        obtain ⟨y8, ey8⟩ : ∃ z : Int32, z = x2 + 1 := ⟨_, rfl⟩
        replace hf := hj_nm_y hf ey8
        refine lv_iinc (v := y8) (lv' := [(2, .int y8), (0, .ref (ad 0)), (1, .int x1)]) hx hb dX5_leastMoveFor_28 hl (k := 2) rfl (by rw [ey8]; rfl) (by decide) rfl (fun ls hl => ?_)
        refine lv_goto (tgt := 2) hx hb dX5_leastMoveFor_31 (by decide) ?_
        exact KI _ _ (Option.some.inj hf).symm _ _ _ hP hS (lv_sub hl [1, 2, 0] rfl)
      · rw [if_pos c7] at hf
        refine lv_iload_n hx hb dX5_leastMoveFor_26 rfl (lv_at hl 2 rfl) ?_
        have hq := KR _ (Option.some.inj hf).symm
        obtain ⟨rfl, rfl⟩ := Prod.mk.inj hq
        exact hj_reti C hP hK hS dX5_leastMoveFor_27
set_option maxHeartbeats 4000000 in
set_option maxRecDepth 100000 in
theorem wX5_leastMoveFor_2 {p : Program} {l : Launch} {e : Env} {s : State} {m : MethodId} {args : Array Value} {below : List Frame} {meth : Method} {c : Code} {g : hj_G} {ad : Nat → Nat} (hI : hj_I 73 ad) (C : hj_C p s m args meth c cX5_leastMoveFor RX5 wsX5_leastMoveFor 3 (some .int)) (hK : hj_K g s) {bf : Nat → Nat} {sd : Int64} {x1 : Int32} {rF : Int32} {σF : Nat → hj_Ob} {ex : ((Int32 × (Nat → hj_Ob)) ⊕ (Nat → hj_Ob))} :
    ∀ (fu : Nat) (x2 : Int32) (σ : Nat → hj_Ob), hj_lp (fun q : (Int32 × (Nat → hj_Ob)) => fX5_leastMoveFor_2 q.2 bf sd x1 q.1) fu (x2, σ) = some ex → (∀ r, ex = .inl r → r = (rF, σF)) → (∀ (σ' : Nat → hj_Ob), ex = .inr σ' → ∀ (H : Heap) (locs : List Loc) (ls : Array Slot), hj_P g 73 ad (hj_wx g ad σ' bf sd) H → hj_S 73 ad s H locs → lv_has ls 3 [] → W p l e rmX5_leastMoveFor s m args below meth c H locs 0 0 (MQ below (hj_QI g 73 ad (hj_wx g ad σF bf sd) rF s.heap.size) args s 0 0 (hj_A 73 ad s.heap.size)) (F0 m 34 ls [])) → ∀ (H : Heap) (locs : List Loc) (ls : Array Slot), hj_P g 73 ad (hj_wx g ad σ bf sd) H → hj_S 73 ad s H locs → lv_has ls 3 [(0, .ref (ad 0)), (1, .int x1), (2, .int x2)] →
    W p l e rmX5_leastMoveFor s m args below meth c H locs 0 0 (MQ below (hj_QI g 73 ad (hj_wx g ad σF bf sd) rF s.heap.size) args s 0 0 (hj_A 73 ad s.heap.size)) (F0 m 2 ls []) := by
  intro fu
  induction fu with
  | zero => intro x2 σ hq; cases hq
  | succ fu ih =>
    intro x2 σ hq KR KX H locs ls hP hS hl
    obtain ⟨y, hy, h1, h2⟩ := hj_lp_s hq
    exact wX5_leastMoveFor_2b hI C hK  hy (fun r hr => KR r (h1 _ hr).symm) (fun σ' hv => KX σ' (h1 _ hv).symm) (fun v2 σ' hv H locs ls hP hS hl => ih v2 σ' (h2 _ hv) KR KX H locs ls hP hS hl) hP hS hl
def fX5_leastMoveFor (σ : Nat → hj_Ob) (bf : Nat → Nat) (sd : Int64) (x1 : Int32) : Option (Int32 × (Nat → hj_Ob)) :=
  hj_oe (fun r => r) (hj_lp (fun q : (Int32 × (Nat → hj_Ob)) => fX5_leastMoveFor_2 q.2 bf sd x1 q.1) 700 (0, σ)) (fun ex10 => hj_nm ex10 fun σ9 => some ((-9), σ9))
set_option maxHeartbeats 4000000 in
set_option maxRecDepth 100000 in
theorem wX5_leastMoveFor {p : Program} {l : Launch} {e : Env} {s : State} {m : MethodId} {args : Array Value} {below : List Frame} {meth : Method} {c : Code} {g : hj_G} {ad : Nat → Nat} (hI : hj_I 73 ad) (C : hj_C p s m args meth c cX5_leastMoveFor RX5 wsX5_leastMoveFor 3 (some .int)) (hK : hj_K g s) {σ : Nat → hj_Ob} {bf : Nat → Nat} {sd : Int64} {x1 : Int32} {rF : Int32} {σF : Nat → hj_Ob}
    (hf : fX5_leastMoveFor σ bf sd x1 = some (rF, σF)) {H : Heap} {locs : List Loc} {ls : Array Slot} (hP : hj_P g 73 ad (hj_wx g ad σ bf sd) H) (hS : hj_S 73 ad s H locs) (hl : lv_has ls 3 [(0, .ref (ad 0)), (1, .int x1)]) :
    W p l e rmX5_leastMoveFor s m args below meth c H locs 0 0 (MQ below (hj_QI g 73 ad (hj_wx g ad σF bf sd) rF s.heap.size) args s 0 0 (hj_A 73 ad s.heap.size)) (F0 m 0 ls []) := by
  obtain ⟨hx, hb, hr, hml, hown, hts, hlocks⟩ := id C
  unfold fX5_leastMoveFor at hf
  refine lv_iconst (v := 0) hx hb dX5_leastMoveFor_0 (by decide) ?_
  refine lv_istore_n (lv' := [(2, .int 0), (0, .ref (ad 0)), (1, .int x1)]) hx hb dX5_leastMoveFor_1 rfl hl (by decide) rfl (fun ls hl => ?_)
  obtain ⟨exx, hlx, hlr, hfx⟩ := hj_oe_s hf
  refine wX5_leastMoveFor_2 hI C hK  700 0 σ hlx hlr (fun σ9 hxe H locs ls hP hS hl => ?_) H locs ls hP hS (lv_sub hl [1, 2, 0] rfl)
  replace hf := hfx _ hxe
  replace hf := hj_nm_y (y := σ9) hf rfl
  refine lv_bipush (v := (-9)) hx hb dX5_leastMoveFor_34 (by decide) ?_
  have hq := Option.some.inj hf
  obtain ⟨rfl, rfl⟩ := Prod.mk.inj hq
  exact hj_reti C hP hK hS dX5_leastMoveFor_36
set_option maxHeartbeats 4000000 in
set_option maxRecDepth 100000 in
theorem ctX5_leastMoveFor (l : Launch) (g : hj_G) {ad : Nat → Nat} (hI : hj_I 73 ad) {σ : Nat → hj_Ob} {bf : Nat → Nat} {sd : Int64} {x1 : Int32} {rF : Int32} {σF : Nat → hj_Ob} (hf : fX5_leastMoveFor σ bf sd x1 = some (rF, σF)) :
    hj_MI l yX5_leastMoveFor wsX5_leastMoveFor rmX5_leastMoveFor g 73 ad hj_X0 [.ref (ad 0), .int x1] (hj_wx g ad σ bf sd) rF (hj_wx g ad σF bf sd) := by
  refine hj_ofI (cc := cX5_leastMoveFor) (maxL := 3) (ret := (some .int)) (by decide) rfl (Nat.le_of_ble_eq_true rfl) ?_
  intro p e s m args below meth c ls C hP hK hX hl
  exact wX5_leastMoveFor hI C hK hf hP va_S.rf hl

/-! X5_figuresOf -/
abbrev rmX5_figuresOf : Room := { frames := 0, cells := 0, slots := 0, locals := 0 }
def fX5_figuresOf_4 (x1 : Int32) (x2 : Int32) : Option (Int32 ⊕ (Int32 × Int32)) :=
  if x2 ≤ 0 then (some (.inl x1)) else (hj_nm (x1 + 1) fun y2 => hj_nm (x2 / 10) fun y3 => some (.inr (y2, y3)))
set_option maxHeartbeats 4000000 in
set_option maxRecDepth 100000 in
theorem wX5_figuresOf_4b {p : Program} {l : Launch} {e : Env} {s : State} {m : MethodId} {args : Array Value} {below : List Frame} {meth : Method} {c : Code} {g : hj_G} {ad : Nat → Nat} {n : Nat} {w : Nat → va_E} (C : hj_C p s m args meth c cX5_figuresOf RX5 wsX5_figuresOf 3 (some .int)) (hK : hj_K g s) {x1 : Int32} {x2 : Int32} {y : Int32 ⊕ (Int32 × Int32)} {rF : Int32}
    (hf : fX5_figuresOf_4 x1 x2 = some y) (KX : ∀ (v1 : Int32), y = .inl v1 → ∀ (H : Heap) (locs : List Loc) (ls : Array Slot), hj_P g n ad w H → hj_S n ad s H locs → lv_has ls 3 [(1, .int v1)] → W p l e rmX5_figuresOf s m args below meth c H locs 0 0 (MQ below (hj_QI g n ad w rF s.heap.size) args s 0 0 (hj_A n ad s.heap.size)) (F0 m 19 ls [])) (KI : ∀ (v1 : Int32) (v2 : Int32), y = .inr (v1, v2) → ∀ (H : Heap) (locs : List Loc) (ls : Array Slot), hj_P g n ad w H → hj_S n ad s H locs → lv_has ls 3 [(1, .int v1), (2, .int v2)] → W p l e rmX5_figuresOf s m args below meth c H locs 0 0 (MQ below (hj_QI g n ad w rF s.heap.size) args s 0 0 (hj_A n ad s.heap.size)) (F0 m 4 ls [])) {H : Heap} {locs : List Loc} {ls : Array Slot} (hP : hj_P g n ad w H) (hS : hj_S n ad s H locs) (hl : lv_has ls 3 [(1, .int x1), (2, .int x2)]) :
    W p l e rmX5_figuresOf s m args below meth c H locs 0 0 (MQ below (hj_QI g n ad w rF s.heap.size) args s 0 0 (hj_A n ad s.heap.size)) (F0 m 4 ls []) := by
  obtain ⟨hx, hb, hr, hml, hown, hts, hlocks⟩ := id C
  unfold fX5_figuresOf_4 at hf
  refine lv_iload_n hx hb dX5_figuresOf_4 rfl (lv_at hl 1 rfl) ?_
  refine lv_if_le (tgt := 19) hx hb dX5_figuresOf_5 (by decide) (fun c1 => ?_) (fun c1 => ?_)
  · rw [if_pos c1] at hf
    exact KX _ (Option.some.inj hf).symm _ _ _ hP hS (lv_sub hl [0] rfl)
  · rw [if_neg c1] at hf
    obtain ⟨y2, ey2⟩ : ∃ z : Int32, z = x1 + 1 := ⟨_, rfl⟩
    replace hf := hj_nm_y hf ey2
    refine lv_iinc (v := y2) (lv' := [(1, .int y2), (2, .int x2)]) hx hb dX5_figuresOf_8 hl (k := 0) rfl (by rw [ey2]; rfl) (by decide) rfl (fun ls hl => ?_)
    refine lv_iload_n hx hb dX5_figuresOf_11 rfl (lv_at hl 1 rfl) ?_
    refine lv_bipush (v := 10) hx hb dX5_figuresOf_12 (by decide) ?_
    refine lv_idiv hx hb dX5_figuresOf_14 (by decide) ?_
    refine lv_topi (fun y3 ey3 => ?_)
    replace hf := hj_nm_y hf ey3
    refine lv_istore_n (lv' := [(2, .int y3), (1, .int y2)]) hx hb dX5_figuresOf_15 rfl hl (by decide) rfl (fun ls hl => ?_)
    refine lv_goto (tgt := 4) hx hb dX5_figuresOf_16 (by decide) ?_
    exact KI _ _ (Option.some.inj hf).symm _ _ _ hP hS (lv_sub hl [1, 0] rfl)
set_option maxHeartbeats 4000000 in
set_option maxRecDepth 100000 in
theorem wX5_figuresOf_4 {p : Program} {l : Launch} {e : Env} {s : State} {m : MethodId} {args : Array Value} {below : List Frame} {meth : Method} {c : Code} {g : hj_G} {ad : Nat → Nat} {n : Nat} {w : Nat → va_E} (C : hj_C p s m args meth c cX5_figuresOf RX5 wsX5_figuresOf 3 (some .int)) (hK : hj_K g s) {rF : Int32} {e1 : Int32} :
    ∀ (fu : Nat) (x1 : Int32) (x2 : Int32), hj_lp (fun q : (Int32 × Int32) => fX5_figuresOf_4 q.1 q.2) fu (x1, x2) = some e1 → (∀ (H : Heap) (locs : List Loc) (ls : Array Slot), hj_P g n ad w H → hj_S n ad s H locs → lv_has ls 3 [(1, .int e1)] → W p l e rmX5_figuresOf s m args below meth c H locs 0 0 (MQ below (hj_QI g n ad w rF s.heap.size) args s 0 0 (hj_A n ad s.heap.size)) (F0 m 19 ls [])) → ∀ (H : Heap) (locs : List Loc) (ls : Array Slot), hj_P g n ad w H → hj_S n ad s H locs → lv_has ls 3 [(1, .int x1), (2, .int x2)] →
    W p l e rmX5_figuresOf s m args below meth c H locs 0 0 (MQ below (hj_QI g n ad w rF s.heap.size) args s 0 0 (hj_A n ad s.heap.size)) (F0 m 4 ls []) := by
  intro fu
  induction fu with
  | zero => intro x1 x2 hq; cases hq
  | succ fu ih =>
    intro x1 x2 hq KX H locs ls hP hS hl
    obtain ⟨y, hy, h1, h2⟩ := hj_lp_s hq
    exact wX5_figuresOf_4b C hK  hy (fun v1 hv H locs ls hP hS hl => by obtain rfl := h1 _ hv; exact KX H locs ls hP hS hl) (fun v1 v2 hv H locs ls hP hS hl => ih v1 v2 (h2 _ hv) KX H locs ls hP hS hl) hP hS hl
def fX5_figuresOf (x0 : Int32) : Option Int32 :=
  hj_o1 (hj_lp (fun q : (Int32 × Int32) => fX5_figuresOf_4 q.1 q.2) 100 (0, x0)) fun e4 => (some e4)
set_option maxHeartbeats 4000000 in
set_option maxRecDepth 100000 in
theorem wX5_figuresOf {p : Program} {l : Launch} {e : Env} {s : State} {m : MethodId} {args : Array Value} {below : List Frame} {meth : Method} {c : Code} {g : hj_G} {ad : Nat → Nat} {n : Nat} {w : Nat → va_E} (C : hj_C p s m args meth c cX5_figuresOf RX5 wsX5_figuresOf 3 (some .int)) (hK : hj_K g s) {x0 : Int32} {rF : Int32}
    (hf : fX5_figuresOf x0 = some rF) {H : Heap} {locs : List Loc} {ls : Array Slot} (hP : hj_P g n ad w H) (hS : hj_S n ad s H locs) (hl : lv_has ls 3 [(0, .int x0)]) :
    W p l e rmX5_figuresOf s m args below meth c H locs 0 0 (MQ below (hj_QI g n ad w rF s.heap.size) args s 0 0 (hj_A n ad s.heap.size)) (F0 m 0 ls []) := by
  obtain ⟨hx, hb, hr, hml, hown, hts, hlocks⟩ := id C
  unfold fX5_figuresOf at hf
  refine lv_iconst (v := 0) hx hb dX5_figuresOf_0 (by decide) ?_
  refine lv_istore_n (lv' := [(1, .int 0), (0, .int x0)]) hx hb dX5_figuresOf_1 rfl hl (by decide) rfl (fun ls hl => ?_)
  refine lv_iload_n hx hb dX5_figuresOf_2 rfl (lv_at hl 1 rfl) ?_
  refine lv_istore_n (lv' := [(2, .int x0), (1, .int 0), (0, .int x0)]) hx hb dX5_figuresOf_3 rfl hl (by decide) rfl (fun ls hl => ?_)
  obtain ⟨e4, hlx, hf⟩ := hj_o1_s hf
  refine wX5_figuresOf_4 C hK  100 0 x0 hlx (fun H locs ls hP hS hl => ?_) H locs ls hP hS (lv_sub hl [1, 0] rfl)
  refine lv_iload_n hx hb dX5_figuresOf_19 rfl (lv_at hl 0 rfl) ?_
  have hq := Option.some.inj hf
  obtain rfl := hq
  exact hj_reti C hP hK hS dX5_figuresOf_20
set_option maxHeartbeats 4000000 in
set_option maxRecDepth 100000 in
theorem ctX5_figuresOf (l : Launch) (g : hj_G) {ad : Nat → Nat} {n : Nat} {w : Nat → va_E} {x0 : Int32} {rF : Int32} (hf : fX5_figuresOf x0 = some rF) :
    hj_MI l yX5_figuresOf wsX5_figuresOf rmX5_figuresOf g n ad hj_X0 [.int x0] w rF w := by
  refine hj_ofI (cc := cX5_figuresOf) (maxL := 3) (ret := (some .int)) (by decide) rfl (Nat.le_of_ble_eq_true rfl) ?_
  intro p e s m args below meth c ls C hP hK hX hl
  exact wX5_figuresOf C hK hf hP va_S.rf hl

/-! X5_toMove -/
abbrev rmX5_toMove : Room := { frames := 6, cells := 0, slots := 0, locals := 134 }
def fX5_toMove (σ : Nat → hj_Ob) (bf : Nat → Nat) (sd : Int64) (x1 : Int32) (x2 : Int32) : Option (Int32 × (Nat → hj_Ob)) :=
  hj_o1 (fX5_isSide x1) fun r1 => if r1 = 0 then (some ((-2), σ)) else (hj_o2 (fX5_leastMoveFor σ bf sd x1) fun r3 σ4 => if r3 = (-9) then (some (r3, σ4)) else (if x2 = 0 then (hj_o1 (fX5_figuresOf r3) fun r7 => some (r7, σ4)) else (some (r3, σ4))))
set_option maxHeartbeats 4000000 in
set_option maxRecDepth 100000 in
theorem wX5_toMove {p : Program} {l : Launch} {e : Env} {s : State} {m : MethodId} {args : Array Value} {below : List Frame} {meth : Method} {c : Code} {g : hj_G} {ad : Nat → Nat} (hI : hj_I 73 ad) (C : hj_C p s m args meth c cX5_toMove RX5 wsX5_toMove 4 (some .int)) (hK : hj_K g s) {σ : Nat → hj_Ob} {bf : Nat → Nat} {sd : Int64} {x1 : Int32} {x2 : Int32} {rF : Int32} {σF : Nat → hj_Ob}
    (hf : fX5_toMove σ bf sd x1 x2 = some (rF, σF)) {H : Heap} {locs : List Loc} {ls : Array Slot} (hP : hj_P g 73 ad (hj_wx g ad σ bf sd) H) (hS : hj_S 73 ad s H locs) (hl : lv_has ls 4 [(0, .ref (ad 0)), (1, .int x1), (2, .int x2)]) :
    W p l e rmX5_toMove s m args below meth c H locs 0 0 (MQ below (hj_QI g 73 ad (hj_wx g ad σF bf sd) rF s.heap.size) args s 0 0 (hj_A 73 ad s.heap.size)) (F0 m 0 ls []) := by
  obtain ⟨hx, hb, hr, hml, hown, hts, hlocks⟩ := id C
  unfold fX5_toMove at hf
  refine lv_iload_n hx hb dX5_toMove_0 rfl (lv_at hl 1 rfl) ?_
  obtain ⟨r1, hc, hf⟩ := hj_o1_s hf
  refine hj_callSi (nL := 4) (As := [.int x1]) (rest := []) ⟨hx, hb, hml, hown, hts⟩ (ctX5_isSide l g (n := 73) (ad := ad) (w := (hj_wx g ad σ bf sd)) hc) (va_cwS 1 hts gX5_toMove_X5_isSide rfl rfl rfl (by decide +kernel) ⟨Nat.le_of_ble_eq_true rfl, Nat.le_of_ble_eq_true rfl⟩) hj_Xb0 (fun _ _ _ => trivial) hK hP hS rfl hl.1 rfl (Nat.le_of_ble_eq_true rfl) dX5_toMove_1 (fun H locs hP hS => ?_)
  refine lv_if_ne (tgt := 10) hx hb dX5_toMove_4 (by decide) (fun c2 => ?_) (fun c2 => ?_)
  · rw [if_neg c2] at hf
    refine lv_aload_n hx hb dX5_toMove_10 rfl (lv_at hl 0 rfl) ?_
    refine lv_iload_n hx hb dX5_toMove_11 rfl (lv_at hl 1 rfl) ?_
    obtain ⟨r3, σ4, hc, hf⟩ := hj_o2_s hf
    refine hj_callVi (nL := 4) (As := [.int x1]) (rest := []) (i0 := 0) (C := RX5) (T := TX5) (N := 10) (ci := 5) ⟨hx, hb, hml, hown, hts⟩ (ctX5_leastMoveFor l g hI hc) (cwV 1 hts gX5_toMove_X5_leastMoveFor rfl rfl rfl (by decide +kernel) ⟨Nat.le_of_ble_eq_true rfl, Nat.le_of_ble_eq_true rfl⟩) hj_Xb0 (fun _ _ _ => trivial) hK hP hS (by decide) wx_at_h rfl rfl hl.1 rfl (Nat.le_of_ble_eq_true rfl) dX5_toMove_12 (fun H locs hP hS => ?_)
    refine lv_istore_n (lv' := [(3, .int r3), (0, .ref (ad 0)), (1, .int x1), (2, .int x2)]) hx hb dX5_toMove_15 rfl hl (by decide) rfl (fun ls hl => ?_)
    refine lv_iload_n hx hb dX5_toMove_16 rfl (lv_at hl 0 rfl) ?_
    refine lv_bipush (v := (-9)) hx hb dX5_toMove_17 (by decide) ?_
    refine lv_icmp_eq (tgt := 26) hx hb dX5_toMove_19 (by decide) (fun c5 => ?_) (fun c5 => ?_)
    · rw [if_pos c5] at hf
      refine lv_iload_n hx hb dX5_toMove_26 rfl (lv_at hl 0 rfl) ?_
      refine lv_goto (tgt := 34) hx hb dX5_toMove_27 (by decide) ?_
      have hq := Option.some.inj hf
      obtain ⟨rfl, rfl⟩ := Prod.mk.inj hq
      exact hj_reti C hP hK hS dX5_toMove_34
    · rw [if_neg c5] at hf
      refine lv_iload_n hx hb dX5_toMove_22 rfl (lv_at hl 3 rfl) ?_
      refine lv_if_eq (tgt := 30) hx hb dX5_toMove_23 (by decide) (fun c6 => ?_) (fun c6 => ?_)
      · rw [if_pos c6] at hf
        refine lv_iload_n hx hb dX5_toMove_30 rfl (lv_at hl 0 rfl) ?_
        obtain ⟨r7, hc, hf⟩ := hj_o1_s hf
        refine hj_callSi (nL := 4) (As := [.int r3]) (rest := []) ⟨hx, hb, hml, hown, hts⟩ (ctX5_figuresOf l g (n := 73) (ad := ad) (w := (hj_wx g ad σ4 bf sd)) hc) (va_cwS 1 hts gX5_toMove_X5_figuresOf rfl rfl rfl (by decide +kernel) ⟨Nat.le_of_ble_eq_true rfl, Nat.le_of_ble_eq_true rfl⟩) hj_Xb0 (fun _ _ _ => trivial) hK hP hS rfl hl.1 rfl (Nat.le_of_ble_eq_true rfl) dX5_toMove_31 (fun H locs hP hS => ?_)
        have hq := Option.some.inj hf
        obtain ⟨rfl, rfl⟩ := Prod.mk.inj hq
        exact hj_reti C hP hK hS dX5_toMove_34
      · rw [if_neg c6] at hf
        refine lv_iload_n hx hb dX5_toMove_26 rfl (lv_at hl 0 rfl) ?_
        refine lv_goto (tgt := 34) hx hb dX5_toMove_27 (by decide) ?_
        have hq := Option.some.inj hf
        obtain ⟨rfl, rfl⟩ := Prod.mk.inj hq
        exact hj_reti C hP hK hS dX5_toMove_34
  · rw [if_pos c2] at hf
    refine lv_bipush (v := (-2)) hx hb dX5_toMove_7 (by decide) ?_
    have hq := Option.some.inj hf
    obtain ⟨rfl, rfl⟩ := Prod.mk.inj hq
    exact hj_reti C hP hK hS dX5_toMove_9
set_option maxHeartbeats 4000000 in
set_option maxRecDepth 100000 in
theorem ctX5_toMove (l : Launch) (g : hj_G) {ad : Nat → Nat} (hI : hj_I 73 ad) {σ : Nat → hj_Ob} {bf : Nat → Nat} {sd : Int64} {x1 : Int32} {x2 : Int32} {rF : Int32} {σF : Nat → hj_Ob} (hf : fX5_toMove σ bf sd x1 x2 = some (rF, σF)) :
    hj_MI l yX5_toMove wsX5_toMove rmX5_toMove g 73 ad hj_X0 [.ref (ad 0), .int x1, .int x2] (hj_wx g ad σ bf sd) rF (hj_wx g ad σF bf sd) := by
  refine hj_ofI (cc := cX5_toMove) (maxL := 4) (ret := (some .int)) (by decide) rfl (Nat.le_of_ble_eq_true rfl) ?_
  intro p e s m args below meth c ls C hP hK hX hl
  exact wX5_toMove hI C hK hf hP va_S.rf hl
