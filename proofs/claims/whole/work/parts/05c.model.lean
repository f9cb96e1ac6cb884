/-! X6_keepAct -/
abbrev rmX6_keepAct : Room := { frames := 0, cells := 0, slots := 0, locals := 0 }
theorem iX6_keepAct_X6 : ∀ w ∈ wsX60, w ∈ wsX6_keepAct := fun _ h => List.mem_cons_of_mem _ (List.mem_append_right _ h)
theorem mX6_keepAct_1 : Cond.fieldLink RX6 28 "HungryJuryModel" "row" "[I" ∈ wsX6_keepAct := List.mem_of_getElem? (i := 1) rfl
theorem mX6_keepAct_2 : Cond.fieldLink RX6 122 "HungryJuryModel" "next" "I" ∈ wsX6_keepAct := List.mem_of_getElem? (i := 2) rfl
theorem mX6_keepAct_3 : Cond.fieldLink RX6 16 "HungryJuryModel" "now" "[I" ∈ wsX6_keepAct := List.mem_of_getElem? (i := 3) rfl
theorem mX6_keepAct_4 : Cond.fieldLink RX6 99 "HungryJuryModel" "acts" "I" ∈ wsX6_keepAct := List.mem_of_getElem? (i := 4) rfl
def fX6_keepAct_2 (τ : hj_Ob) (sd : Int64) (x1 : Int32) : Option (hj_Ob ⊕ (Int32 × hj_Ob)) :=
  if 15 ≤ x1 then (some (.inl τ)) else (hj_ck x1 30 (hj_ck ((15 * (τ.1 14)) + x1) 210 (hj_nm (hj_a τ 15 ((15 * (τ.1 14)) + x1) (τ.2 4 x1.toNatClampNeg)) fun τ4 => hj_nm (x1 + 1) fun y5 => some (.inr (y5, τ4)))))
set_option maxHeartbeats 4000000 in
set_option maxRecDepth 100000 in
theorem wX6_keepAct_2b {p : Program} {l : Launch} {e : Env} {s : State} {m : MethodId} {args : Array Value} {below : List Frame} {meth : Method} {c : Code} {g : hj_G} {ad : Nat → Nat} (hI : hj_I 13 ad) (C : hj_C p s m args meth c cX6_keepAct RX6 wsX6_keepAct 2 none) (hK : hj_K g s) {τ : hj_Ob} {sd : Int64} {x1 : Int32} {y : hj_Ob ⊕ (Int32 × hj_Ob)} {τF : hj_Ob}
    (hf : fX6_keepAct_2 τ sd x1 = some y) (KX : ∀ (τ' : hj_Ob), y = .inl τ' → ∀ (H : Heap) (locs : List Loc) (ls : Array Slot), hj_P g 13 ad (hj_wm g ad τ' sd) H → hj_S 13 ad s H locs → lv_has ls 2 [(0, .ref (ad 0))] → W p l e rmX6_keepAct s m args below meth c H locs 0 0 (MQ below (hj_QV g 13 ad (hj_wm g ad τF sd) s.heap.size) args s 0 0 (hj_A 13 ad s.heap.size)) (F0 m 34 ls [])) (KI : ∀ (v1 : Int32) (τ' : hj_Ob), y = .inr (v1, τ') → ∀ (H : Heap) (locs : List Loc) (ls : Array Slot), hj_P g 13 ad (hj_wm g ad τ' sd) H → hj_S 13 ad s H locs → lv_has ls 2 [(0, .ref (ad 0)), (1, .int v1)] → W p l e rmX6_keepAct s m args below meth c H locs 0 0 (MQ below (hj_QV g 13 ad (hj_wm g ad τF sd) s.heap.size) args s 0 0 (hj_A 13 ad s.heap.size)) (F0 m 2 ls [])) {H : Heap} {locs : List Loc} {ls : Array Slot} (hP : hj_P g 13 ad (hj_wm g ad τ sd) H) (hS : hj_S 13 ad s H locs) (hl : lv_has ls 2 [(0, .ref (ad 0)), (1, .int x1)]) :
    W p l e rmX6_keepAct s m args below meth c H locs 0 0 (MQ below (hj_QV g 13 ad (hj_wm g ad τF sd) s.heap.size) args s 0 0 (hj_A 13 ad s.heap.size)) (F0 m 2 ls []) := by
  obtain ⟨hx, hb, hr, hml, hown, hts, hlocks⟩ := id C
  unfold fX6_keepAct_2 at hf
  refine lv_iload_n hx hb dX6_keepAct_2 rfl (lv_at hl 1 rfl) ?_
  refine lv_bipush (v := 15) hx hb dX6_keepAct_3 (by decide) ?_
  refine lv_icmp_ge (tgt := 34) hx hb dX6_keepAct_5 (by decide) (fun c1 => ?_) (fun c1 => ?_)
  · rw [if_pos c1] at hf
    exact KX _ (Option.some.inj hf).symm _ _ _ hP hS (lv_sub hl [0] rfl)
  · rw [if_neg c1] at hf
    refine lv_aload_n hx hb dX6_keepAct_8 rfl (lv_at hl 0 rfl) ?_
    refine hj_get (ci := 6) (v := .ref (ad 7)) (C := RX6) (T := TX6) (N := 24) hx hb hts iX6_keepAct_X6 hown hK hP (by decide) rfl rfl 15 (by decide) mX6_keepAct_1 rfl dX6_keepAct_9 ?_
    refine lv_bipush (v := 15) hx hb dX6_keepAct_12 (by decide) ?_
    refine lv_aload_n hx hb dX6_keepAct_14 rfl (lv_at hl 0 rfl) ?_
    refine hj_get (ci := 6) (v := .int (τ.1 14)) (C := RX6) (T := TX6) (N := 24) hx hb hts iX6_keepAct_X6 hown hK hP (by decide) rfl rfl 14 (by decide) mX6_keepAct_2 rfl dX6_keepAct_15 ?_
    refine lv_imul hx hb dX6_keepAct_18 ?_
    refine lv_iload_n hx hb dX6_keepAct_19 rfl (lv_at hl 1 rfl) ?_
    refine lv_iadd hx hb dX6_keepAct_20 ?_
    refine lv_aload_n hx hb dX6_keepAct_21 rfl (lv_at hl 0 rfl) ?_
    refine hj_get (ci := 6) (v := .ref (ad 3)) (C := RX6) (T := TX6) (N := 24) hx hb hts iX6_keepAct_X6 hown hK hP (by decide) rfl rfl 4 (by decide) mX6_keepAct_3 rfl dX6_keepAct_22 ?_
    refine lv_iload_n hx hb dX6_keepAct_25 rfl (lv_at hl 1 rfl) ?_
    obtain ⟨hk2, hf⟩ := hj_ck_s hf
    refine hj_ial (f := τ.2 4) hx hb hK hP (by decide) rfl hk2 dX6_keepAct_26 ?_
    obtain ⟨hk3, hf⟩ := hj_ck_s hf
    refine hj_ias (f := τ.2 15) (v := (τ.2 4 x1.toNatClampNeg)) hx hb hK hI hP hS (by decide) rfl hk3 dX6_keepAct_27 (wm_a2 (τ := τ) (x := ((15 * (τ.1 14)) + x1)) (v := (τ.2 4 x1.toNatClampNeg)) 7 15 rfl (by decide) (by decide) (by decide)) (fun H locs hP hS => ?_)
    obtain ⟨τ4, eτ4⟩ : ∃ z : hj_Ob, z = hj_a τ 15 ((15 * (τ.1 14)) + x1) (τ.2 4 x1.toNatClampNeg) := ⟨_, rfl⟩
    replace hf := hj_nm_y hf eτ4
    rw [← eτ4] at hP
    obtain ⟨y5, ey5⟩ : ∃ z : Int32, z = x1 + 1 := ⟨_, rfl⟩
    replace hf := hj_nm_y hf ey5
    refine lv_iinc (v := y5) (lv' := [(1, .int y5), (0, .ref (ad 0))]) hx hb dX6_keepAct_28 hl (k := 1) rfl (by rw [ey5]; rfl) (by decide) rfl (fun ls hl => ?_)
    refine lv_goto (tgt := 2) hx hb dX6_keepAct_31 (by decide) ?_
    exact KI _ _ (Option.some.inj hf).symm _ _ _ hP hS (lv_sub hl [1, 0] rfl)
set_option maxHeartbeats 4000000 in
set_option maxRecDepth 100000 in
theorem wX6_keepAct_2 {p : Program} {l : Launch} {e : Env} {s : State} {m : MethodId} {args : Array Value} {below : List Frame} {meth : Method} {c : Code} {g : hj_G} {ad : Nat → Nat} (hI : hj_I 13 ad) (C : hj_C p s m args meth c cX6_keepAct RX6 wsX6_keepAct 2 none) (hK : hj_K g s) {sd : Int64} {τF : hj_Ob} {τe : hj_Ob} :
    ∀ (fu : Nat) (x1 : Int32) (τ : hj_Ob), hj_lp (fun q : (Int32 × hj_Ob) => fX6_keepAct_2 q.2 sd q.1) fu (x1, τ) = some τe → (∀ (H : Heap) (locs : List Loc) (ls : Array Slot), hj_P g 13 ad (hj_wm g ad τe sd) H → hj_S 13 ad s H locs → lv_has ls 2 [(0, .ref (ad 0))] → W p l e rmX6_keepAct s m args below meth c H locs 0 0 (MQ below (hj_QV g 13 ad (hj_wm g ad τF sd) s.heap.size) args s 0 0 (hj_A 13 ad s.heap.size)) (F0 m 34 ls [])) → ∀ (H : Heap) (locs : List Loc) (ls : Array Slot), hj_P g 13 ad (hj_wm g ad τ sd) H → hj_S 13 ad s H locs → lv_has ls 2 [(0, .ref (ad 0)), (1, .int x1)] →
    W p l e rmX6_keepAct s m args below meth c H locs 0 0 (MQ below (hj_QV g 13 ad (hj_wm g ad τF sd) s.heap.size) args s 0 0 (hj_A 13 ad s.heap.size)) (F0 m 2 ls []) := by
  intro fu
  induction fu with
  | zero => intro x1 τ hq; cases hq
  | succ fu ih =>
    intro x1 τ hq KX H locs ls hP hS hl
    obtain ⟨y, hy, h1, h2⟩ := hj_lp_s hq
    exact wX6_keepAct_2b hI C hK  hy (fun τ' hv H locs ls hP hS hl => by obtain rfl := h1 _ hv; exact KX H locs ls hP hS hl) (fun v1 τ' hv H locs ls hP hS hl => ih v1 τ' (h2 _ hv) KX H locs ls hP hS hl) hP hS hl
def fX6_keepAct (τ : hj_Ob) (sd : Int64) : Option hj_Ob :=
  hj_o1 (hj_lp (fun q : (Int32 × hj_Ob) => fX6_keepAct_2 q.2 sd q.1) 100 (0, τ)) fun τ6 => (hj_nm (hj_s τ6 14 (((τ6.1 14) + 1) - ((τ6.1 14) + 1) / 14 * 14)) fun τ7 => if 14 ≤ (τ7.1 13) then (hj_nm (hj_s τ7 13 14) fun τ9 => some τ9) else (hj_nm (hj_s τ7 13 ((τ7.1 13) + 1)) fun τ10 => some τ10))
set_option maxHeartbeats 4000000 in
set_option maxRecDepth 100000 in
theorem wX6_keepAct {p : Program} {l : Launch} {e : Env} {s : State} {m : MethodId} {args : Array Value} {below : List Frame} {meth : Method} {c : Code} {g : hj_G} {ad : Nat → Nat} (hI : hj_I 13 ad) (C : hj_C p s m args meth c cX6_keepAct RX6 wsX6_keepAct 2 none) (hK : hj_K g s) {τ : hj_Ob} {sd : Int64} {τF : hj_Ob}
    (hf : fX6_keepAct τ sd = some τF) {H : Heap} {locs : List Loc} {ls : Array Slot} (hP : hj_P g 13 ad (hj_wm g ad τ sd) H) (hS : hj_S 13 ad s H locs) (hl : lv_has ls 2 [(0, .ref (ad 0))]) :
    W p l e rmX6_keepAct s m args below meth c H locs 0 0 (MQ below (hj_QV g 13 ad (hj_wm g ad τF sd) s.heap.size) args s 0 0 (hj_A 13 ad s.heap.size)) (F0 m 0 ls []) := by
  obtain ⟨hx, hb, hr, hml, hown, hts, hlocks⟩ := id C
  unfold fX6_keepAct at hf
  refine lv_iconst (v := 0) hx hb dX6_keepAct_0 (by decide) ?_
  refine lv_istore_n (lv' := [(1, .int 0), (0, .ref (ad 0))]) hx hb dX6_keepAct_1 rfl hl (by decide) rfl (fun ls hl => ?_)
  obtain ⟨τ6, hlx, hf⟩ := hj_o1_s hf
  refine wX6_keepAct_2 hI C hK  100 0 τ hlx (fun H locs ls hP hS hl => ?_) H locs ls hP hS (lv_sub hl [1, 0] rfl)
  refine lv_aload_n hx hb dX6_keepAct_34 rfl (lv_at hl 0 rfl) ?_
  refine lv_aload_n hx hb dX6_keepAct_35 rfl (lv_at hl 0 rfl) ?_
  refine hj_get (ci := 6) (v := .int (τ6.1 14)) (C := RX6) (T := TX6) (N := 24) hx hb hts iX6_keepAct_X6 hown hK hP (by decide) rfl rfl 14 (by decide) mX6_keepAct_2 rfl dX6_keepAct_36 ?_
  refine lv_iconst (v := 1) hx hb dX6_keepAct_39 (by decide) ?_
  refine lv_iadd hx hb dX6_keepAct_40 ?_
  refine lv_bipush (v := 14) hx hb dX6_keepAct_41 (by decide) ?_
  refine lv_irem hx hb dX6_keepAct_43 (by decide) ?_
  refine hj_put (ci := 6) (v := .int (((τ6.1 14) + 1) - ((τ6.1 14) + 1) / 14 * 14)) (C := RX6) (T := TX6) (N := 24) hx hb hts iX6_keepAct_X6 tyX6 tyX6_ok nmX6 hown hK hI hP hS (by decide) rfl rfl 14 (by decide) mX6_keepAct_2 rfl rfl rfl (Nat.le_of_ble_eq_true rfl) dX6_keepAct_44 (wm_s (τ := τ6) (k := 14) (v := ((τ6.1 14) + 1) - ((τ6.1 14) + 1) / 14 * 14) rfl) (fun H locs hP hS => ?_)
  obtain ⟨τ7, eτ7⟩ : ∃ z : hj_Ob, z = hj_s τ6 14 (((τ6.1 14) + 1) - ((τ6.1 14) + 1) / 14 * 14) := ⟨_, rfl⟩
  replace hf := hj_nm_y hf eτ7
  rw [← eτ7] at hP
  refine lv_aload_n hx hb dX6_keepAct_47 rfl (lv_at hl 0 rfl) ?_
  refine lv_aload_n hx hb dX6_keepAct_48 rfl (lv_at hl 0 rfl) ?_
  refine hj_get (ci := 6) (v := .int (τ7.1 13)) (C := RX6) (T := TX6) (N := 24) hx hb hts iX6_keepAct_X6 hown hK hP (by decide) rfl rfl 13 (by decide) mX6_keepAct_4 rfl dX6_keepAct_49 ?_
  refine lv_bipush (v := 14) hx hb dX6_keepAct_52 (by decide) ?_
  refine lv_icmp_ge (tgt := 66) hx hb dX6_keepAct_54 (by decide) (fun c8 => ?_) (fun c8 => ?_)
  · rw [if_pos c8] at hf
    refine lv_bipush (v := 14) hx hb dX6_keepAct_66 (by decide) ?_
    refine hj_put (ci := 6) (v := .int 14) (C := RX6) (T := TX6) (N := 24) hx hb hts iX6_keepAct_X6 tyX6 tyX6_ok nmX6 hown hK hI hP hS (by decide) rfl rfl 13 (by decide) mX6_keepAct_4 rfl rfl rfl (Nat.le_of_ble_eq_true rfl) dX6_keepAct_68 (wm_s (τ := τ7) (k := 13) (v := 14) rfl) (fun H locs hP hS => ?_)
    obtain ⟨τ9, eτ9⟩ : ∃ z : hj_Ob, z = hj_s τ7 13 14 := ⟨_, rfl⟩
    replace hf := hj_nm_y hf eτ9
    rw [← eτ9] at hP
    have hq := Option.some.inj hf
    obtain rfl := hq
    exact hj_retv C hP hK hS dX6_keepAct_71
  · rw [if_neg c8] at hf
    refine lv_aload_n hx hb dX6_keepAct_57 rfl (lv_at hl 0 rfl) ?_
    refine hj_get (ci := 6) (v := .int (τ7.1 13)) (C := RX6) (T := TX6) (N := 24) hx hb hts iX6_keepAct_X6 hown hK hP (by decide) rfl rfl 13 (by decide) mX6_keepAct_4 rfl dX6_keepAct_58 ?_
    refine lv_iconst (v := 1) hx hb dX6_keepAct_61 (by decide) ?_
    refine lv_iadd hx hb dX6_keepAct_62 ?_
    refine lv_goto (tgt := 68) hx hb dX6_keepAct_63 (by decide) ?_
    refine hj_put (ci := 6) (v := .int ((τ7.1 13) + 1)) (C := RX6) (T := TX6) (N := 24) hx hb hts iX6_keepAct_X6 tyX6 tyX6_ok nmX6 hown hK hI hP hS (by decide) rfl rfl 13 (by decide) mX6_keepAct_4 rfl rfl rfl (Nat.le_of_ble_eq_true rfl) dX6_keepAct_68 (wm_s (τ := τ7) (k := 13) (v := (τ7.1 13) + 1) rfl) (fun H locs hP hS => ?_)
    obtain ⟨τ10, eτ10⟩ : ∃ z : hj_Ob, z = hj_s τ7 13 ((τ7.1 13) + 1) := ⟨_, rfl⟩
    replace hf := hj_nm_y hf eτ10
    rw [← eτ10] at hP
    have hq := Option.some.inj hf
    obtain rfl := hq
    exact hj_retv C hP hK hS dX6_keepAct_71
set_option maxHeartbeats 4000000 in
set_option maxRecDepth 100000 in
theorem ctX6_keepAct (l : Launch) (g : hj_G) {ad : Nat → Nat} (hI : hj_I 13 ad) {τ : hj_Ob} {sd : Int64} {τF : hj_Ob} (hf : fX6_keepAct τ sd = some τF) :
    hj_MV l yX6_keepAct wsX6_keepAct rmX6_keepAct g 13 ad hj_X0 [.ref (ad 0)] (hj_wm g ad τ sd) (hj_wm g ad τF sd) := by
  refine hj_ofV (cc := cX6_keepAct) (maxL := 2) (ret := none) (by decide) rfl (Nat.le_of_ble_eq_true rfl) ?_
  intro p e s m args below meth c ls C hP hK hX hl
  exact wX6_keepAct hI C hK hf hP va_S.rf hl

/-! X6_hour -/
abbrev rmX6_hour : Room := { frames := 3, cells := 0, slots := 0, locals := 75 }
def fX6_hour (τ : hj_Ob) (sd : Int64) : Option (Int32 × hj_Ob) :=
  hj_o1 (fX6_keepAct τ sd) fun τ1 => hj_o2 (fX6_passOn τ1 sd 0) fun r2 τ3 => some (r2, τ3)
set_option maxHeartbeats 4000000 in
set_option maxRecDepth 100000 in
theorem wX6_hour {p : Program} {l : Launch} {e : Env} {s : State} {m : MethodId} {args : Array Value} {below : List Frame} {meth : Method} {c : Code} {g : hj_G} {ad : Nat → Nat} (hI : hj_I 13 ad) (C : hj_C p s m args meth c cX6_hour RX6 wsX6_hour 1 (some .int)) (hK : hj_K g s) {τ : hj_Ob} {sd : Int64} {rF : Int32} {τF : hj_Ob}
    (hf : fX6_hour τ sd = some (rF, τF)) {H : Heap} {locs : List Loc} {ls : Array Slot} (hP : hj_P g 13 ad (hj_wm g ad τ sd) H) (hS : hj_S 13 ad s H locs) (hl : lv_has ls 1 [(0, .ref (ad 0))]) :
    W p l e rmX6_hour s m args below meth c H locs 0 0 (MQ below (hj_QI g 13 ad (hj_wm g ad τF sd) rF s.heap.size) args s 0 0 (hj_A 13 ad s.heap.size)) (F0 m 0 ls []) := by
  obtain ⟨hx, hb, hr, hml, hown, hts, hlocks⟩ := id C
  unfold fX6_hour at hf
  refine lv_aload_n hx hb dX6_hour_0 rfl (lv_at hl 0 rfl) ?_
  obtain ⟨τ1, hc, hf⟩ := hj_o1_s hf
  refine hj_callVv (nL := 1) (As := []) (rest := []) (i0 := 0) (C := RX6) (T := TX6) (N := 24) (ci := 6) ⟨hx, hb, hml, hown, hts⟩ (ctX6_keepAct l g hI hc) (cwV 0 hts gX6_hour_X6_keepAct rfl rfl rfl (by decide +kernel) ⟨Nat.le_of_ble_eq_true rfl, Nat.le_of_ble_eq_true rfl⟩) hj_Xb0 (fun _ _ _ => trivial) hK hP hS (by decide) rfl rfl rfl hl.1 rfl (Nat.le_of_ble_eq_true rfl) dX6_hour_1 (fun H locs hP hS => ?_)
  refine lv_aload_n hx hb dX6_hour_4 rfl (lv_at hl 0 rfl) ?_
  refine lv_iconst (v := 0) hx hb dX6_hour_5 (by decide) ?_
  obtain ⟨r2, τ3, hc, hf⟩ := hj_o2_s hf
  refine hj_callVi (nL := 1) (As := [.int 0]) (rest := []) (i0 := 0) (C := RX6) (T := TX6) (N := 24) (ci := 6) ⟨hx, hb, hml, hown, hts⟩ (ctX6_passOn l g hI hc) (cwV 1 hts gX6_hour_X6_passOn rfl rfl rfl (by decide +kernel) ⟨Nat.le_of_ble_eq_true rfl, Nat.le_of_ble_eq_true rfl⟩) hj_Xb0 (fun _ _ _ => trivial) hK hP hS (by decide) rfl rfl rfl hl.1 rfl (Nat.le_of_ble_eq_true rfl) dX6_hour_6 (fun H locs hP hS => ?_)
  have hq := Option.some.inj hf
  obtain ⟨rfl, rfl⟩ := Prod.mk.inj hq
  exact hj_reti C hP hK hS dX6_hour_9
set_option maxHeartbeats 4000000 in
set_option maxRecDepth 100000 in
theorem ctX6_hour (l : Launch) (g : hj_G) {ad : Nat → Nat} (hI : hj_I 13 ad) {τ : hj_Ob} {sd : Int64} {rF : Int32} {τF : hj_Ob} (hf : fX6_hour τ sd = some (rF, τF)) :
    hj_MI l yX6_hour wsX6_hour rmX6_hour g 13 ad hj_X0 [.ref (ad 0)] (hj_wm g ad τ sd) rF (hj_wm g ad τF sd) := by
  refine hj_ofI (cc := cX6_hour) (maxL := 1) (ret := (some .int)) (by decide) rfl (Nat.le_of_ble_eq_true rfl) ?_
  intro p e s m args below meth c ls C hP hK hX hl
  exact wX6_hour hI C hK hf hP va_S.rf hl

/-! X6_canArgue -/
abbrev rmX6_canArgue : Room := { frames := 2, cells := 0, slots := 0, locals := 43 }
theorem iX6_canArgue_X6 : ∀ w ∈ wsX60, w ∈ wsX6_canArgue := fun _ h => List.mem_cons_of_mem _ (List.mem_append_right _ h)
theorem mX6_canArgue_1 : Cond.fieldLink RX6 16 "HungryJuryModel" "now" "[I" ∈ wsX6_canArgue := List.mem_of_getElem? (i := 1) rfl
def fX6_canArgue (τ : hj_Ob) (sd : Int64) (x1 : Int32) (x2 : Int32) : Option Int32 :=
  hj_o1 (fX6_isThere τ sd x1 x2) fun r1 => if r1 = 0 then (some 0) else (hj_ck (((15 * x1) + 3) + x2) 30 (if (τ.2 4 (((15 * x1) + 3) + x2).toNatClampNeg) ≤ 1 then (some 0) else (some 1)))
set_option maxHeartbeats 4000000 in
set_option maxRecDepth 100000 in
theorem wX6_canArgue {p : Program} {l : Launch} {e : Env} {s : State} {m : MethodId} {args : Array Value} {below : List Frame} {meth : Method} {c : Code} {g : hj_G} {ad : Nat → Nat} (hI : hj_I 13 ad) (C : hj_C p s m args meth c cX6_canArgue RX6 wsX6_canArgue 3 (some .boolean)) (hK : hj_K g s) {τ : hj_Ob} {sd : Int64} {x1 : Int32} {x2 : Int32} {rF : Int32}
    (hf : fX6_canArgue τ sd x1 x2 = some rF) {H : Heap} {locs : List Loc} {ls : Array Slot} (hP : hj_P g 13 ad (hj_wm g ad τ sd) H) (hS : hj_S 13 ad s H locs) (hl : lv_has ls 3 [(0, .ref (ad 0)), (1, .int x1), (2, .int x2)]) :
    W p l e rmX6_canArgue s m args below meth c H locs 0 0 (MQ below (hj_QI g 13 ad (hj_wm g ad τ sd) rF s.heap.size) args s 0 0 (hj_A 13 ad s.heap.size)) (F0 m 0 ls []) := by
  obtain ⟨hx, hb, hr, hml, hown, hts, hlocks⟩ := id C
  unfold fX6_canArgue at hf
  refine lv_aload_n hx hb dX6_canArgue_0 rfl (lv_at hl 0 rfl) ?_
  refine lv_iload_n hx hb dX6_canArgue_1 rfl (lv_at hl 1 rfl) ?_
  refine lv_iload_n hx hb dX6_canArgue_2 rfl (lv_at hl 2 rfl) ?_
  obtain ⟨r1, hc, hf⟩ := hj_o1_s hf
  refine hj_callVi (nL := 3) (As := [.int x1, .int x2]) (rest := []) (i0 := 0) (C := RX6) (T := TX6) (N := 24) (ci := 6) ⟨hx, hb, hml, hown, hts⟩ (ctX6_isThere l g hI hc) (cwV 2 hts gX6_canArgue_X6_isThere rfl rfl rfl (by decide +kernel) ⟨Nat.le_of_ble_eq_true rfl, Nat.le_of_ble_eq_true rfl⟩) hj_Xb0 (fun _ _ _ => trivial) hK hP hS (by decide) rfl rfl rfl hl.1 rfl (Nat.le_of_ble_eq_true rfl) dX6_canArgue_3 (fun H locs hP hS => ?_)
  refine lv_if_eq (tgt := 30) hx hb dX6_canArgue_6 (by decide) (fun c2 => ?_) (fun c2 => ?_)
  · rw [if_pos c2] at hf
    refine lv_iconst (v := 0) hx hb dX6_canArgue_30 (by decide) ?_
    have hq := Option.some.inj hf
    obtain rfl := hq
    exact hj_retz (Or.inl rfl)  C hP hK hS dX6_canArgue_31
  · rw [if_neg c2] at hf
    refine lv_aload_n hx hb dX6_canArgue_9 rfl (lv_at hl 0 rfl) ?_
    refine hj_get (ci := 6) (v := .ref (ad 3)) (C := RX6) (T := TX6) (N := 24) hx hb hts iX6_canArgue_X6 hown hK hP (by decide) rfl rfl 4 (by decide) mX6_canArgue_1 rfl dX6_canArgue_10 ?_
    refine lv_bipush (v := 15) hx hb dX6_canArgue_13 (by decide) ?_
    refine lv_iload_n hx hb dX6_canArgue_15 rfl (lv_at hl 1 rfl) ?_
    refine lv_imul hx hb dX6_canArgue_16 ?_
    refine lv_iconst (v := 3) hx hb dX6_canArgue_17 (by decide) ?_
    refine lv_iadd hx hb dX6_canArgue_18 ?_
    refine lv_iload_n hx hb dX6_canArgue_19 rfl (lv_at hl 2 rfl) ?_
    refine lv_iadd hx hb dX6_canArgue_20 ?_
    obtain ⟨hk3, hf⟩ := hj_ck_s hf
    refine hj_ial (f := τ.2 4) hx hb hK hP (by decide) rfl hk3 dX6_canArgue_21 ?_
    refine lv_iconst (v := 1) hx hb dX6_canArgue_22 (by decide) ?_
    refine lv_icmp_le (tgt := 30) hx hb dX6_canArgue_23 (by decide) (fun c4 => ?_) (fun c4 => ?_)
    · rw [if_pos c4] at hf
      refine lv_iconst (v := 0) hx hb dX6_canArgue_30 (by decide) ?_
      have hq := Option.some.inj hf
      obtain rfl := hq
      exact hj_retz (Or.inl rfl)  C hP hK hS dX6_canArgue_31
    · rw [if_neg c4] at hf
      refine lv_iconst (v := 1) hx hb dX6_canArgue_26 (by decide) ?_
      refine lv_goto (tgt := 31) hx hb dX6_canArgue_27 (by decide) ?_
      have hq := Option.some.inj hf
      obtain rfl := hq
      exact hj_retz (Or.inr rfl)  C hP hK hS dX6_canArgue_31
set_option maxHeartbeats 4000000 in
set_option maxRecDepth 100000 in
theorem ctX6_canArgue (l : Launch) (g : hj_G) {ad : Nat → Nat} (hI : hj_I 13 ad) {τ : hj_Ob} {sd : Int64} {x1 : Int32} {x2 : Int32} {rF : Int32} (hf : fX6_canArgue τ sd x1 x2 = some rF) :
    hj_MI l yX6_canArgue wsX6_canArgue rmX6_canArgue g 13 ad hj_X0 [.ref (ad 0), .int x1, .int x2] (hj_wm g ad τ sd) rF (hj_wm g ad τ sd) := by
  refine hj_ofI (cc := cX6_canArgue) (maxL := 3) (ret := (some .boolean)) (by decide) rfl (Nat.le_of_ble_eq_true rfl) ?_
  intro p e s m args below meth c ls C hP hK hX hl
  exact wX6_canArgue hI C hK hf hP va_S.rf hl

/-! X6_argue -/
abbrev rmX6_argue : Room := { frames := 3, cells := 0, slots := 0, locals := 65 }
theorem iX6_argue_X6 : ∀ w ∈ wsX60, w ∈ wsX6_argue := fun _ h => List.mem_cons_of_mem _ (List.mem_append_right _ h)
theorem mX6_argue_1 : Cond.fieldLink RX6 16 "HungryJuryModel" "now" "[I" ∈ wsX6_argue := List.mem_of_getElem? (i := 1) rfl
def fX6_argue (τ : hj_Ob) (sd : Int64) (x1 : Int32) : Option (Int32 × hj_Ob) :=
  hj_o1 (fX6_isJuror τ sd x1) fun r1 => if r1 = 0 then (some ((-1), τ)) else (hj_o1 (fX6_canArgue τ sd 0 x1) fun r3 => if r3 = 0 then (some ((-3), τ)) else (hj_o1 (fX6_keepAct τ sd) fun τ5 => hj_ck (3 + x1) 30 (hj_ck (3 + x1) 30 (hj_nm (hj_a τ5 4 (3 + x1) ((τ5.2 4 (3 + x1).toNatClampNeg) - 1)) fun τ8 => hj_ck (3 + x1) 30 (some (τ8.2 4 (3 + x1).toNatClampNeg, τ8))))))
set_option maxHeartbeats 4000000 in
set_option maxRecDepth 100000 in
theorem wX6_argue {p : Program} {l : Launch} {e : Env} {s : State} {m : MethodId} {args : Array Value} {below : List Frame} {meth : Method} {c : Code} {g : hj_G} {ad : Nat → Nat} (hI : hj_I 13 ad) (C : hj_C p s m args meth c cX6_argue RX6 wsX6_argue 2 (some .int)) (hK : hj_K g s) {τ : hj_Ob} {sd : Int64} {x1 : Int32} {rF : Int32} {τF : hj_Ob}
    (hf : fX6_argue τ sd x1 = some (rF, τF)) {H : Heap} {locs : List Loc} {ls : Array Slot} (hP : hj_P g 13 ad (hj_wm g ad τ sd) H) (hS : hj_S 13 ad s H locs) (hl : lv_has ls 2 [(0, .ref (ad 0)), (1, .int x1)]) :
    W p l e rmX6_argue s m args below meth c H locs 0 0 (MQ below (hj_QI g 13 ad (hj_wm g ad τF sd) rF s.heap.size) args s 0 0 (hj_A 13 ad s.heap.size)) (F0 m 0 ls []) := by
  obtain ⟨hx, hb, hr, hml, hown, hts, hlocks⟩ := id C
  unfold fX6_argue at hf
  refine lv_aload_n hx hb dX6_argue_0 rfl (lv_at hl 0 rfl) ?_
  refine lv_iload_n hx hb dX6_argue_1 rfl (lv_at hl 1 rfl) ?_
  obtain ⟨r1, hc, hf⟩ := hj_o1_s hf
  refine hj_callVi (nL := 2) (As := [.int x1]) (rest := []) (i0 := 0) (C := RX6) (T := TX6) (N := 24) (ci := 6) ⟨hx, hb, hml, hown, hts⟩ (ctX6_isJuror l g hI hc) (cwV 1 hts gX6_argue_X6_isJuror rfl rfl rfl (by decide +kernel) ⟨Nat.le_of_ble_eq_true rfl, Nat.le_of_ble_eq_true rfl⟩) hj_Xb0 (fun _ _ _ => trivial) hK hP hS (by decide) rfl rfl rfl hl.1 rfl (Nat.le_of_ble_eq_true rfl) dX6_argue_2 (fun H locs hP hS => ?_)
  refine lv_if_ne (tgt := 10) hx hb dX6_argue_5 (by decide) (fun c2 => ?_) (fun c2 => ?_)
  · rw [if_neg c2] at hf
    refine lv_aload_n hx hb dX6_argue_10 rfl (lv_at hl 0 rfl) ?_
    refine lv_iconst (v := 0) hx hb dX6_argue_11 (by decide) ?_
    refine lv_iload_n hx hb dX6_argue_12 rfl (lv_at hl 1 rfl) ?_
    obtain ⟨r3, hc, hf⟩ := hj_o1_s hf
    refine hj_callVi (nL := 2) (As := [.int 0, .int x1]) (rest := []) (i0 := 0) (C := RX6) (T := TX6) (N := 24) (ci := 6) ⟨hx, hb, hml, hown, hts⟩ (ctX6_canArgue l g hI hc) (cwV 2 hts gX6_argue_X6_canArgue rfl rfl rfl (by decide +kernel) ⟨Nat.le_of_ble_eq_true rfl, Nat.le_of_ble_eq_true rfl⟩) hj_Xb0 (fun _ _ _ => trivial) hK hP hS (by decide) rfl rfl rfl hl.1 rfl (Nat.le_of_ble_eq_true rfl) dX6_argue_13 (fun H locs hP hS => ?_)
    refine lv_if_ne (tgt := 22) hx hb dX6_argue_16 (by decide) (fun c4 => ?_) (fun c4 => ?_)
    · rw [if_neg c4] at hf
      refine lv_aload_n hx hb dX6_argue_22 rfl (lv_at hl 0 rfl) ?_
      obtain ⟨τ5, hc, hf⟩ := hj_o1_s hf
      refine hj_callVv (nL := 2) (As := []) (rest := []) (i0 := 0) (C := RX6) (T := TX6) (N := 24) (ci := 6) ⟨hx, hb, hml, hown, hts⟩ (ctX6_keepAct l g hI hc) (cwV 0 hts gX6_argue_X6_keepAct rfl rfl rfl (by decide +kernel) ⟨Nat.le_of_ble_eq_true rfl, Nat.le_of_ble_eq_true rfl⟩) hj_Xb0 (fun _ _ _ => trivial) hK hP hS (by decide) rfl rfl rfl hl.1 rfl (Nat.le_of_ble_eq_true rfl) dX6_argue_23 (fun H locs hP hS => ?_)
      refine lv_aload_n hx hb dX6_argue_26 rfl (lv_at hl 0 rfl) ?_
      refine hj_get (ci := 6) (v := .ref (ad 3)) (C := RX6) (T := TX6) (N := 24) hx hb hts iX6_argue_X6 hown hK hP (by decide) rfl rfl 4 (by decide) mX6_argue_1 rfl dX6_argue_27 ?_
      refine lv_iconst (v := 3) hx hb dX6_argue_30 (by decide) ?_
      refine lv_iload_n hx hb dX6_argue_31 rfl (lv_at hl 1 rfl) ?_
      refine lv_iadd hx hb dX6_argue_32 ?_
      refine lv_dup2_11 hx hb dX6_argue_33 rfl rfl ?_
      obtain ⟨hk6, hf⟩ := hj_ck_s hf
      refine hj_ial (f := τ5.2 4) hx hb hK hP (by decide) rfl hk6 dX6_argue_34 ?_
      refine lv_iconst (v := 1) hx hb dX6_argue_35 (by decide) ?_
      refine lv_isub hx hb dX6_argue_36 ?_
      obtain ⟨hk7, hf⟩ := hj_ck_s hf
      refine hj_ias (f := τ5.2 4) (v := ((τ5.2 4 (3 + x1).toNatClampNeg) - 1)) hx hb hK hI hP hS (by decide) rfl hk7 dX6_argue_37 (wm_a2 (τ := τ5) (x := (3 + x1)) (v := ((τ5.2 4 (3 + x1).toNatClampNeg) - 1)) 3 4 rfl (by decide) (by decide) (by decide)) (fun H locs hP hS => ?_)
      obtain ⟨τ8, eτ8⟩ : ∃ z : hj_Ob, z = hj_a τ5 4 (3 + x1) ((τ5.2 4 (3 + x1).toNatClampNeg) - 1) := ⟨_, rfl⟩
      replace hf := hj_nm_y hf eτ8
      rw [← eτ8] at hP
      refine lv_aload_n hx hb dX6_argue_38 rfl (lv_at hl 0 rfl) ?_
      refine hj_get (ci := 6) (v := .ref (ad 3)) (C := RX6) (T := TX6) (N := 24) hx hb hts iX6_argue_X6 hown hK hP (by decide) rfl rfl 4 (by decide) mX6_argue_1 rfl dX6_argue_39 ?_
      refine lv_iconst (v := 3) hx hb dX6_argue_42 (by decide) ?_
      refine lv_iload_n hx hb dX6_argue_43 rfl (lv_at hl 1 rfl) ?_
      refine lv_iadd hx hb dX6_argue_44 ?_
      obtain ⟨hk9, hf⟩ := hj_ck_s hf
      refine hj_ial (f := τ8.2 4) hx hb hK hP (by decide) rfl hk9 dX6_argue_45 ?_
      have hq := Option.some.inj hf
      obtain ⟨rfl, rfl⟩ := Prod.mk.inj hq
      exact hj_reti C hP hK hS dX6_argue_46
    · rw [if_pos c4] at hf
      refine lv_bipush (v := (-3)) hx hb dX6_argue_19 (by decide) ?_
      have hq := Option.some.inj hf
      obtain ⟨rfl, rfl⟩ := Prod.mk.inj hq
      exact hj_reti C hP hK hS dX6_argue_21
  · rw [if_pos c2] at hf
    refine lv_iconst (v := (-1)) hx hb dX6_argue_8 (by decide) ?_
    have hq := Option.some.inj hf
    obtain ⟨rfl, rfl⟩ := Prod.mk.inj hq
    exact hj_reti C hP hK hS dX6_argue_9
set_option maxHeartbeats 4000000 in
set_option maxRecDepth 100000 in
theorem ctX6_argue (l : Launch) (g : hj_G) {ad : Nat → Nat} (hI : hj_I 13 ad) {τ : hj_Ob} {sd : Int64} {x1 : Int32} {rF : Int32} {τF : hj_Ob} (hf : fX6_argue τ sd x1 = some (rF, τF)) :
    hj_MI l yX6_argue wsX6_argue rmX6_argue g 13 ad hj_X0 [.ref (ad 0), .int x1] (hj_wm g ad τ sd) rF (hj_wm g ad τF sd) := by
  refine hj_ofI (cc := cX6_argue) (maxL := 2) (ret := (some .int)) (by decide) rfl (Nat.le_of_ble_eq_true rfl) ?_
  intro p e s m args below meth c ls C hP hK hX hl
  exact wX6_argue hI C hK hf hP va_S.rf hl

/-! X6_canFeed -/
abbrev rmX6_canFeed : Room := { frames := 2, cells := 0, slots := 0, locals := 43 }
theorem iX6_canFeed_X6 : ∀ w ∈ wsX60, w ∈ wsX6_canFeed := fun _ h => List.mem_cons_of_mem _ (List.mem_append_right _ h)
theorem mX6_canFeed_1 : Cond.fieldLink RX6 16 "HungryJuryModel" "now" "[I" ∈ wsX6_canFeed := List.mem_of_getElem? (i := 1) rfl
def fX6_canFeed (τ : hj_Ob) (sd : Int64) (x1 : Int32) (x2 : Int32) : Option Int32 :=
  hj_o1 (fX6_isThere τ sd x1 x2) fun r1 => if r1 = 0 then (some 0) else (hj_ck (((15 * x1) + 9) + x2) 30 (if (τ.2 4 (((15 * x1) + 9) + x2).toNatClampNeg) ≤ 0 then (some 0) else (some 1)))
set_option maxHeartbeats 4000000 in
set_option maxRecDepth 100000 in
theorem wX6_canFeed {p : Program} {l : Launch} {e : Env} {s : State} {m : MethodId} {args : Array Value} {below : List Frame} {meth : Method} {c : Code} {g : hj_G} {ad : Nat → Nat} (hI : hj_I 13 ad) (C : hj_C p s m args meth c cX6_canFeed RX6 wsX6_canFeed 3 (some .boolean)) (hK : hj_K g s) {τ : hj_Ob} {sd : Int64} {x1 : Int32} {x2 : Int32} {rF : Int32}
    (hf : fX6_canFeed τ sd x1 x2 = some rF) {H : Heap} {locs : List Loc} {ls : Array Slot} (hP : hj_P g 13 ad (hj_wm g ad τ sd) H) (hS : hj_S 13 ad s H locs) (hl : lv_has ls 3 [(0, .ref (ad 0)), (1, .int x1), (2, .int x2)]) :
    W p l e rmX6_canFeed s m args below meth c H locs 0 0 (MQ below (hj_QI g 13 ad (hj_wm g ad τ sd) rF s.heap.size) args s 0 0 (hj_A 13 ad s.heap.size)) (F0 m 0 ls []) := by
  obtain ⟨hx, hb, hr, hml, hown, hts, hlocks⟩ := id C
  unfold fX6_canFeed at hf
  refine lv_aload_n hx hb dX6_canFeed_0 rfl (lv_at hl 0 rfl) ?_
  refine lv_iload_n hx hb dX6_canFeed_1 rfl (lv_at hl 1 rfl) ?_
  refine lv_iload_n hx hb dX6_canFeed_2 rfl (lv_at hl 2 rfl) ?_
  obtain ⟨r1, hc, hf⟩ := hj_o1_s hf
  refine hj_callVi (nL := 3) (As := [.int x1, .int x2]) (rest := []) (i0 := 0) (C := RX6) (T := TX6) (N := 24) (ci := 6) ⟨hx, hb, hml, hown, hts⟩ (ctX6_isThere l g hI hc) (cwV 2 hts gX6_canFeed_X6_isThere rfl rfl rfl (by decide +kernel) ⟨Nat.le_of_ble_eq_true rfl, Nat.le_of_ble_eq_true rfl⟩) hj_Xb0 (fun _ _ _ => trivial) hK hP hS (by decide) rfl rfl rfl hl.1 rfl (Nat.le_of_ble_eq_true rfl) dX6_canFeed_3 (fun H locs hP hS => ?_)
  refine lv_if_eq (tgt := 30) hx hb dX6_canFeed_6 (by decide) (fun c2 => ?_) (fun c2 => ?_)
  · rw [if_pos c2] at hf
    refine lv_iconst (v := 0) hx hb dX6_canFeed_30 (by decide) ?_
    have hq := Option.some.inj hf
    obtain rfl := hq
    exact hj_retz (Or.inl rfl)  C hP hK hS dX6_canFeed_31
  · rw [if_neg c2] at hf
    refine lv_aload_n hx hb dX6_canFeed_9 rfl (lv_at hl 0 rfl) ?_
    refine hj_get (ci := 6) (v := .ref (ad 3)) (C := RX6) (T := TX6) (N := 24) hx hb hts iX6_canFeed_X6 hown hK hP (by decide) rfl rfl 4 (by decide) mX6_canFeed_1 rfl dX6_canFeed_10 ?_
    refine lv_bipush (v := 15) hx hb dX6_canFeed_13 (by decide) ?_
    refine lv_iload_n hx hb dX6_canFeed_15 rfl (lv_at hl 1 rfl) ?_
    refine lv_imul hx hb dX6_canFeed_16 ?_
    refine lv_bipush (v := 9) hx hb dX6_canFeed_17 (by decide) ?_
    refine lv_iadd hx hb dX6_canFeed_19 ?_
    refine lv_iload_n hx hb dX6_canFeed_20 rfl (lv_at hl 2 rfl) ?_
    refine lv_iadd hx hb dX6_canFeed_21 ?_
    obtain ⟨hk3, hf⟩ := hj_ck_s hf
    refine hj_ial (f := τ.2 4) hx hb hK hP (by decide) rfl hk3 dX6_canFeed_22 ?_
    refine lv_if_le (tgt := 30) hx hb dX6_canFeed_23 (by decide) (fun c4 => ?_) (fun c4 => ?_)
    · rw [if_pos c4] at hf
      refine lv_iconst (v := 0) hx hb dX6_canFeed_30 (by decide) ?_
      have hq := Option.some.inj hf
      obtain rfl := hq
      exact hj_retz (Or.inl rfl)  C hP hK hS dX6_canFeed_31
    · rw [if_neg c4] at hf
      refine lv_iconst (v := 1) hx hb dX6_canFeed_26 (by decide) ?_
      refine lv_goto (tgt := 31) hx hb dX6_canFeed_27 (by decide) ?_
      have hq := Option.some.inj hf
      obtain rfl := hq
      exact hj_retz (Or.inr rfl)  C hP hK hS dX6_canFeed_31
set_option maxHeartbeats 4000000 in
set_option maxRecDepth 100000 in
theorem ctX6_canFeed (l : Launch) (g : hj_G) {ad : Nat → Nat} (hI : hj_I 13 ad) {τ : hj_Ob} {sd : Int64} {x1 : Int32} {x2 : Int32} {rF : Int32} (hf : fX6_canFeed τ sd x1 x2 = some rF) :
    hj_MI l yX6_canFeed wsX6_canFeed rmX6_canFeed g 13 ad hj_X0 [.ref (ad 0), .int x1, .int x2] (hj_wm g ad τ sd) rF (hj_wm g ad τ sd) := by
  refine hj_ofI (cc := cX6_canFeed) (maxL := 3) (ret := (some .boolean)) (by decide) rfl (Nat.le_of_ble_eq_true rfl) ?_
  intro p e s m args below meth c ls C hP hK hX hl
  exact wX6_canFeed hI C hK hf hP va_S.rf hl

/-! X6_feed -/
abbrev rmX6_feed : Room := { frames := 3, cells := 0, slots := 0, locals := 65 }
theorem iX6_feed_X6 : ∀ w ∈ wsX60, w ∈ wsX6_feed := fun _ h => List.mem_cons_of_mem _ (List.mem_append_right _ h)
theorem mX6_feed_1 : Cond.fieldLink RX6 16 "HungryJuryModel" "now" "[I" ∈ wsX6_feed := List.mem_of_getElem? (i := 1) rfl
def fX6_feed (τ : hj_Ob) (sd : Int64) (x1 : Int32) : Option (Int32 × hj_Ob) :=
  hj_o1 (fX6_isJuror τ sd x1) fun r1 => if r1 = 0 then (some ((-1), τ)) else (hj_o1 (fX6_canFeed τ sd 0 x1) fun r3 => if r3 = 0 then (some ((-3), τ)) else (hj_o1 (fX6_keepAct τ sd) fun τ5 => hj_ck (9 + x1) 30 (hj_nm (τ5.2 4 (9 + x1).toNatClampNeg) fun y7 => hj_ck (9 + x1) 30 (hj_nm (hj_a τ5 4 (9 + x1) 0) fun τ9 => some (y7, τ9)))))
set_option maxHeartbeats 4000000 in
set_option maxRecDepth 100000 in
theorem wX6_feed {p : Program} {l : Launch} {e : Env} {s : State} {m : MethodId} {args : Array Value} {below : List Frame} {meth : Method} {c : Code} {g : hj_G} {ad : Nat → Nat} (hI : hj_I 13 ad) (C : hj_C p s m args meth c cX6_feed RX6 wsX6_feed 3 (some .int)) (hK : hj_K g s) {τ : hj_Ob} {sd : Int64} {x1 : Int32} {rF : Int32} {τF : hj_Ob}
    (hf : fX6_feed τ sd x1 = some (rF, τF)) {H : Heap} {locs : List Loc} {ls : Array Slot} (hP : hj_P g 13 ad (hj_wm g ad τ sd) H) (hS : hj_S 13 ad s H locs) (hl : lv_has ls 3 [(0, .ref (ad 0)), (1, .int x1)]) :
    W p l e rmX6_feed s m args below meth c H locs 0 0 (MQ below (hj_QI g 13 ad (hj_wm g ad τF sd) rF s.heap.size) args s 0 0 (hj_A 13 ad s.heap.size)) (F0 m 0 ls []) := by
  obtain ⟨hx, hb, hr, hml, hown, hts, hlocks⟩ := id C
  unfold fX6_feed at hf
  refine lv_aload_n hx hb dX6_feed_0 rfl (lv_at hl 0 rfl) ?_
  refine lv_iload_n hx hb dX6_feed_1 rfl (lv_at hl 1 rfl) ?_
  obtain ⟨r1, hc, hf⟩ := hj_o1_s hf
  refine hj_callVi (nL := 3) (As := [.int x1]) (rest := []) (i0 := 0) (C := RX6) (T := TX6) (N := 24) (ci := 6) ⟨hx, hb, hml, hown, hts⟩ (ctX6_isJuror l g hI hc) (cwV 1 hts gX6_feed_X6_isJuror rfl rfl rfl (by decide +kernel) ⟨Nat.le_of_ble_eq_true rfl, Nat.le_of_ble_eq_true rfl⟩) hj_Xb0 (fun _ _ _ => trivial) hK hP hS (by decide) rfl rfl rfl hl.1 rfl (Nat.le_of_ble_eq_true rfl) dX6_feed_2 (fun H locs hP hS => ?_)
  refine lv_if_ne (tgt := 10) hx hb dX6_feed_5 (by decide) (fun c2 => ?_) (fun c2 => ?_)
  · rw [if_neg c2] at hf
    refine lv_aload_n hx hb dX6_feed_10 rfl (lv_at hl 0 rfl) ?_
    refine lv_iconst (v := 0) hx hb dX6_feed_11 (by decide) ?_
    refine lv_iload_n hx hb dX6_feed_12 rfl (lv_at hl 1 rfl) ?_
    obtain ⟨r3, hc, hf⟩ := hj_o1_s hf
    refine hj_callVi (nL := 3) (As := [.int 0, .int x1]) (rest := []) (i0 := 0) (C := RX6) (T := TX6) (N := 24) (ci := 6) ⟨hx, hb, hml, hown, hts⟩ (ctX6_canFeed l g hI hc) (cwV 2 hts gX6_feed_X6_canFeed rfl rfl rfl (by decide +kernel) ⟨Nat.le_of_ble_eq_true rfl, Nat.le_of_ble_eq_true rfl⟩) hj_Xb0 (fun _ _ _ => trivial) hK hP hS (by decide) rfl rfl rfl hl.1 rfl (Nat.le_of_ble_eq_true rfl) dX6_feed_13 (fun H locs hP hS => ?_)
    refine lv_if_ne (tgt := 22) hx hb dX6_feed_16 (by decide) (fun c4 => ?_) (fun c4 => ?_)
    · rw [if_neg c4] at hf
      refine lv_aload_n hx hb dX6_feed_22 rfl (lv_at hl 0 rfl) ?_
      obtain ⟨τ5, hc, hf⟩ := hj_o1_s hf
      refine hj_callVv (nL := 3) (As := []) (rest := []) (i0 := 0) (C := RX6) (T := TX6) (N := 24) (ci := 6) ⟨hx, hb, hml, hown, hts⟩ (ctX6_keepAct l g hI hc) (cwV 0 hts gX6_feed_X6_keepAct rfl rfl rfl (by decide +kernel) ⟨Nat.le_of_ble_eq_true rfl, Nat.le_of_ble_eq_true rfl⟩) hj_Xb0 (fun _ _ _ => trivial) hK hP hS (by decide) rfl rfl rfl hl.1 rfl (Nat.le_of_ble_eq_true rfl) dX6_feed_23 (fun H locs hP hS => ?_)
      refine lv_aload_n hx hb dX6_feed_26 rfl (lv_at hl 0 rfl) ?_
      refine hj_get (ci := 6) (v := .ref (ad 3)) (C := RX6) (T := TX6) (N := 24) hx hb hts iX6_feed_X6 hown hK hP (by decide) rfl rfl 4 (by decide) mX6_feed_1 rfl dX6_feed_27 ?_
      refine lv_bipush (v := 9) hx hb dX6_feed_30 (by decide) ?_
      refine lv_iload_n hx hb dX6_feed_32 rfl (lv_at hl 1 rfl) ?_
      refine lv_iadd hx hb dX6_feed_33 ?_
      obtain ⟨hk6, hf⟩ := hj_ck_s hf
      refine hj_ial (f := τ5.2 4) hx hb hK hP (by decide) rfl hk6 dX6_feed_34 ?_
      refine lv_topi (fun y7 ey7 => ?_)
      replace hf := hj_nm_y hf ey7
      refine lv_istore_n (lv' := [(2, .int y7), (0, .ref (ad 0)), (1, .int x1)]) hx hb dX6_feed_35 rfl hl (by decide) rfl (fun ls hl => ?_)
      refine lv_aload_n hx hb dX6_feed_36 rfl (lv_at hl 1 rfl) ?_
      refine hj_get (ci := 6) (v := .ref (ad 3)) (C := RX6) (T := TX6) (N := 24) hx hb hts iX6_feed_X6 hown hK hP (by decide) rfl rfl 4 (by decide) mX6_feed_1 rfl dX6_feed_37 ?_
      refine lv_bipush (v := 9) hx hb dX6_feed_40 (by decide) ?_
      refine lv_iload_n hx hb dX6_feed_42 rfl (lv_at hl 2 rfl) ?_
      refine lv_iadd hx hb dX6_feed_43 ?_
      refine lv_iconst (v := 0) hx hb dX6_feed_44 (by decide) ?_
      obtain ⟨hk8, hf⟩ := hj_ck_s hf
      refine hj_ias (f := τ5.2 4) (v := 0) hx hb hK hI hP hS (by decide) rfl hk8 dX6_feed_45 (wm_a2 (τ := τ5) (x := (9 + x1)) (v := 0) 3 4 rfl (by decide) (by decide) (by decide)) (fun H locs hP hS => ?_)
      obtain ⟨τ9, eτ9⟩ : ∃ z : hj_Ob, z = hj_a τ5 4 (9 + x1) 0 := ⟨_, rfl⟩
      replace hf := hj_nm_y hf eτ9
      rw [← eτ9] at hP
      refine lv_iload_n hx hb dX6_feed_46 rfl (lv_at hl 0 rfl) ?_
      have hq := Option.some.inj hf
      obtain ⟨rfl, rfl⟩ := Prod.mk.inj hq
      exact hj_reti C hP hK hS dX6_feed_47
    · rw [if_pos c4] at hf
      refine lv_bipush (v := (-3)) hx hb dX6_feed_19 (by decide) ?_
      have hq := Option.some.inj hf
      obtain ⟨rfl, rfl⟩ := Prod.mk.inj hq
      exact hj_reti C hP hK hS dX6_feed_21
  · rw [if_pos c2] at hf
    refine lv_iconst (v := (-1)) hx hb dX6_feed_8 (by decide) ?_
    have hq := Option.some.inj hf
    obtain ⟨rfl, rfl⟩ := Prod.mk.inj hq
    exact hj_reti C hP hK hS dX6_feed_9
set_option maxHeartbeats 4000000 in
set_option maxRecDepth 100000 in
theorem ctX6_feed (l : Launch) (g : hj_G) {ad : Nat → Nat} (hI : hj_I 13 ad) {τ : hj_Ob} {sd : Int64} {x1 : Int32} {rF : Int32} {τF : hj_Ob} (hf : fX6_feed τ sd x1 = some (rF, τF)) :
    hj_MI l yX6_feed wsX6_feed rmX6_feed g 13 ad hj_X0 [.ref (ad 0), .int x1] (hj_wm g ad τ sd) rF (hj_wm g ad τF sd) := by
  refine hj_ofI (cc := cX6_feed) (maxL := 3) (ret := (some .int)) (by decide) rfl (Nat.le_of_ble_eq_true rfl) ?_
  intro p e s m args below meth c ls C hP hK hX hl
  exact wX6_feed hI C hK hf hP va_S.rf hl

/-! X6_dieOn -/
abbrev rmX6_dieOn : Room := { frames := 0, cells := 0, slots := 0, locals := 0 }
theorem iX6_dieOn_X6 : ∀ w ∈ wsX60, w ∈ wsX6_dieOn := fun _ h => List.mem_cons_of_mem _ (List.mem_append_right _ h)
theorem mX6_dieOn_1 : Cond.fieldLink RX6 16 "HungryJuryModel" "now" "[I" ∈ wsX6_dieOn := List.mem_of_getElem? (i := 1) rfl
def fX6_dieOn (τ : hj_Ob) (sd : Int64) (x1 : Int32) (x2 : Int32) : Option hj_Ob :=
  hj_ck ((15 * x1) + 1) 30 (hj_ck ((15 * x1) + 1) 30 (hj_nm (hj_a τ 4 ((15 * x1) + 1) ((τ.2 4 ((15 * x1) + 1).toNatClampNeg) &&& (((1 : Int32) <<< (x2 &&& 31)) ^^^ (-1)))) fun τ3 => hj_ck ((15 * x1) + 2) 30 (hj_nm (hj_a τ3 4 ((15 * x1) + 2) 0) fun τ5 => some τ5)))
set_option maxHeartbeats 4000000 in
set_option maxRecDepth 100000 in
theorem wX6_dieOn {p : Program} {l : Launch} {e : Env} {s : State} {m : MethodId} {args : Array Value} {below : List Frame} {meth : Method} {c : Code} {g : hj_G} {ad : Nat → Nat} (hI : hj_I 13 ad) (C : hj_C p s m args meth c cX6_dieOn RX6 wsX6_dieOn 3 none) (hK : hj_K g s) {τ : hj_Ob} {sd : Int64} {x1 : Int32} {x2 : Int32} {τF : hj_Ob}
    (hf : fX6_dieOn τ sd x1 x2 = some τF) {H : Heap} {locs : List Loc} {ls : Array Slot} (hP : hj_P g 13 ad (hj_wm g ad τ sd) H) (hS : hj_S 13 ad s H locs) (hl : lv_has ls 3 [(0, .ref (ad 0)), (1, .int x1), (2, .int x2)]) :
    W p l e rmX6_dieOn s m args below meth c H locs 0 0 (MQ below (hj_QV g 13 ad (hj_wm g ad τF sd) s.heap.size) args s 0 0 (hj_A 13 ad s.heap.size)) (F0 m 0 ls []) := by
  obtain ⟨hx, hb, hr, hml, hown, hts, hlocks⟩ := id C
  unfold fX6_dieOn at hf
  refine lv_aload_n hx hb dX6_dieOn_0 rfl (lv_at hl 0 rfl) ?_
  refine hj_get (ci := 6) (v := .ref (ad 3)) (C := RX6) (T := TX6) (N := 24) hx hb hts iX6_dieOn_X6 hown hK hP (by decide) rfl rfl 4 (by decide) mX6_dieOn_1 rfl dX6_dieOn_1 ?_
  refine lv_bipush (v := 15) hx hb dX6_dieOn_4 (by decide) ?_
  refine lv_iload_n hx hb dX6_dieOn_6 rfl (lv_at hl 1 rfl) ?_
  refine lv_imul hx hb dX6_dieOn_7 ?_
  refine lv_iconst (v := 1) hx hb dX6_dieOn_8 (by decide) ?_
  refine lv_iadd hx hb dX6_dieOn_9 ?_
  refine lv_dup2_11 hx hb dX6_dieOn_10 rfl rfl ?_
  obtain ⟨hk1, hf⟩ := hj_ck_s hf
  refine hj_ial (f := τ.2 4) hx hb hK hP (by decide) rfl hk1 dX6_dieOn_11 ?_
  refine lv_iconst (v := 1) hx hb dX6_dieOn_12 (by decide) ?_
  refine lv_iload_n hx hb dX6_dieOn_13 rfl (lv_at hl 2 rfl) ?_
  refine lv_ishl hx hb dX6_dieOn_14 ?_
  refine lv_iconst (v := (-1)) hx hb dX6_dieOn_15 (by decide) ?_
  refine lv_ixor hx hb dX6_dieOn_16 ?_
  refine lv_iand hx hb dX6_dieOn_17 ?_
  obtain ⟨hk2, hf⟩ := hj_ck_s hf
  refine hj_ias (f := τ.2 4) (v := ((τ.2 4 ((15 * x1) + 1).toNatClampNeg) &&& (((1 : Int32) <<< (x2 &&& 31)) ^^^ (-1)))) hx hb hK hI hP hS (by decide) rfl hk2 dX6_dieOn_18 (wm_a2 (τ := τ) (x := ((15 * x1) + 1)) (v := ((τ.2 4 ((15 * x1) + 1).toNatClampNeg) &&& (((1 : Int32) <<< (x2 &&& 31)) ^^^ (-1)))) 3 4 rfl (by decide) (by decide) (by decide)) (fun H locs hP hS => ?_)
  obtain ⟨τ3, eτ3⟩ : ∃ z : hj_Ob, z = hj_a τ 4 ((15 * x1) + 1) ((τ.2 4 ((15 * x1) + 1).toNatClampNeg) &&& (((1 : Int32) <<< (x2 &&& 31)) ^^^ (-1))) := ⟨_, rfl⟩
  replace hf := hj_nm_y hf eτ3
  rw [← eτ3] at hP
  refine lv_aload_n hx hb dX6_dieOn_19 rfl (lv_at hl 0 rfl) ?_
  refine hj_get (ci := 6) (v := .ref (ad 3)) (C := RX6) (T := TX6) (N := 24) hx hb hts iX6_dieOn_X6 hown hK hP (by decide) rfl rfl 4 (by decide) mX6_dieOn_1 rfl dX6_dieOn_20 ?_
  refine lv_bipush (v := 15) hx hb dX6_dieOn_23 (by decide) ?_
  refine lv_iload_n hx hb dX6_dieOn_25 rfl (lv_at hl 1 rfl) ?_
  refine lv_imul hx hb dX6_dieOn_26 ?_
  refine lv_iconst (v := 2) hx hb dX6_dieOn_27 (by decide) ?_
  refine lv_iadd hx hb dX6_dieOn_28 ?_
  refine lv_iconst (v := 0) hx hb dX6_dieOn_29 (by decide) ?_
  obtain ⟨hk4, hf⟩ := hj_ck_s hf
  refine hj_ias (f := τ3.2 4) (v := 0) hx hb hK hI hP hS (by decide) rfl hk4 dX6_dieOn_30 (wm_a2 (τ := τ3) (x := ((15 * x1) + 2)) (v := 0) 3 4 rfl (by decide) (by decide) (by decide)) (fun H locs hP hS => ?_)
  obtain ⟨τ5, eτ5⟩ : ∃ z : hj_Ob, z = hj_a τ3 4 ((15 * x1) + 2) 0 := ⟨_, rfl⟩
  replace hf := hj_nm_y hf eτ5
  rw [← eτ5] at hP
  have hq := Option.some.inj hf
  obtain rfl := hq
  exact hj_retv C hP hK hS dX6_dieOn_31
set_option maxHeartbeats 4000000 in
set_option maxRecDepth 100000 in
theorem ctX6_dieOn (l : Launch) (g : hj_G) {ad : Nat → Nat} (hI : hj_I 13 ad) {τ : hj_Ob} {sd : Int64} {x1 : Int32} {x2 : Int32} {τF : hj_Ob} (hf : fX6_dieOn τ sd x1 x2 = some τF) :
    hj_MV l yX6_dieOn wsX6_dieOn rmX6_dieOn g 13 ad hj_X0 [.ref (ad 0), .int x1, .int x2] (hj_wm g ad τ sd) (hj_wm g ad τF sd) := by
  refine hj_ofV (cc := cX6_dieOn) (maxL := 3) (ret := none) (by decide) rfl (Nat.le_of_ble_eq_true rfl) ?_
  intro p e s m args below meth c ls C hP hK hX hl
  exact wX6_dieOn hI C hK hf hP va_S.rf hl

/-! X6_die -/
abbrev rmX6_die : Room := { frames := 2, cells := 0, slots := 0, locals := 46 }
theorem iX6_die_X6 : ∀ w ∈ wsX60, w ∈ wsX6_die := fun _ h => List.mem_cons_of_mem _ (List.mem_append_right _ h)
theorem mX6_die_1 : Cond.fieldLink RX6 16 "HungryJuryModel" "now" "[I" ∈ wsX6_die := List.mem_of_getElem? (i := 1) rfl
def fX6_die (τ : hj_Ob) (sd : Int64) (x1 : Int32) : Option (Int32 × hj_Ob) :=
  hj_o1 (fX6_isJuror τ sd x1) fun r1 => if r1 = 0 then (some ((-1), τ)) else (hj_o1 (fX6_isThere τ sd 0 x1) fun r3 => if r3 = 0 then (some ((-3), τ)) else (hj_o1 (fX6_keepAct τ sd) fun τ5 => hj_o1 (fX6_dieOn τ5 sd 0 x1) fun τ6 => hj_ck (1 : Int32) 30 (hj_o1 (fX6_ones (τ6.2 4 (1 : Int32).toNatClampNeg)) fun r8 => some (r8, τ6))))
set_option maxHeartbeats 4000000 in
set_option maxRecDepth 100000 in
theorem wX6_die {p : Program} {l : Launch} {e : Env} {s : State} {m : MethodId} {args : Array Value} {below : List Frame} {meth : Method} {c : Code} {g : hj_G} {ad : Nat → Nat} (hI : hj_I 13 ad) (C : hj_C p s m args meth c cX6_die RX6 wsX6_die 2 (some .int)) (hK : hj_K g s) {τ : hj_Ob} {sd : Int64} {x1 : Int32} {rF : Int32} {τF : hj_Ob}
    (hf : fX6_die τ sd x1 = some (rF, τF)) {H : Heap} {locs : List Loc} {ls : Array Slot} (hP : hj_P g 13 ad (hj_wm g ad τ sd) H) (hS : hj_S 13 ad s H locs) (hl : lv_has ls 2 [(0, .ref (ad 0)), (1, .int x1)]) :
    W p l e rmX6_die s m args below meth c H locs 0 0 (MQ below (hj_QI g 13 ad (hj_wm g ad τF sd) rF s.heap.size) args s 0 0 (hj_A 13 ad s.heap.size)) (F0 m 0 ls []) := by
  obtain ⟨hx, hb, hr, hml, hown, hts, hlocks⟩ := id C
  unfold fX6_die at hf
  refine lv_aload_n hx hb dX6_die_0 rfl (lv_at hl 0 rfl) ?_
  refine lv_iload_n hx hb dX6_die_1 rfl (lv_at hl 1 rfl) ?_
  obtain ⟨r1, hc, hf⟩ := hj_o1_s hf
  refine hj_callVi (nL := 2) (As := [.int x1]) (rest := []) (i0 := 0) (C := RX6) (T := TX6) (N := 24) (ci := 6) ⟨hx, hb, hml, hown, hts⟩ (ctX6_isJuror l g hI hc) (cwV 1 hts gX6_die_X6_isJuror rfl rfl rfl (by decide +kernel) ⟨Nat.le_of_ble_eq_true rfl, Nat.le_of_ble_eq_true rfl⟩) hj_Xb0 (fun _ _ _ => trivial) hK hP hS (by decide) rfl rfl rfl hl.1 rfl (Nat.le_of_ble_eq_true rfl) dX6_die_2 (fun H locs hP hS => ?_)
  refine lv_if_ne (tgt := 10) hx hb dX6_die_5 (by decide) (fun c2 => ?_) (fun c2 => ?_)
  · rw [if_neg c2] at hf
    refine lv_aload_n hx hb dX6_die_10 rfl (lv_at hl 0 rfl) ?_
    refine lv_iconst (v := 0) hx hb dX6_die_11 (by decide) ?_
    refine lv_iload_n hx hb dX6_die_12 rfl (lv_at hl 1 rfl) ?_
    obtain ⟨r3, hc, hf⟩ := hj_o1_s hf
    refine hj_callVi (nL := 2) (As := [.int 0, .int x1]) (rest := []) (i0 := 0) (C := RX6) (T := TX6) (N := 24) (ci := 6) ⟨hx, hb, hml, hown, hts⟩ (ctX6_isThere l g hI hc) (cwV 2 hts gX6_die_X6_isThere rfl rfl rfl (by decide +kernel) ⟨Nat.le_of_ble_eq_true rfl, Nat.le_of_ble_eq_true rfl⟩) hj_Xb0 (fun _ _ _ => trivial) hK hP hS (by decide) rfl rfl rfl hl.1 rfl (Nat.le_of_ble_eq_true rfl) dX6_die_13 (fun H locs hP hS => ?_)
    refine lv_if_ne (tgt := 22) hx hb dX6_die_16 (by decide) (fun c4 => ?_) (fun c4 => ?_)
    · rw [if_neg c4] at hf
      refine lv_aload_n hx hb dX6_die_22 rfl (lv_at hl 0 rfl) ?_
      obtain ⟨τ5, hc, hf⟩ := hj_o1_s hf
      refine hj_callVv (nL := 2) (As := []) (rest := []) (i0 := 0) (C := RX6) (T := TX6) (N := 24) (ci := 6) ⟨hx, hb, hml, hown, hts⟩ (ctX6_keepAct l g hI hc) (cwV 0 hts gX6_die_X6_keepAct rfl rfl rfl (by decide +kernel) ⟨Nat.le_of_ble_eq_true rfl, Nat.le_of_ble_eq_true rfl⟩) hj_Xb0 (fun _ _ _ => trivial) hK hP hS (by decide) rfl rfl rfl hl.1 rfl (Nat.le_of_ble_eq_true rfl) dX6_die_23 (fun H locs hP hS => ?_)
      refine lv_aload_n hx hb dX6_die_26 rfl (lv_at hl 0 rfl) ?_
      refine lv_iconst (v := 0) hx hb dX6_die_27 (by decide) ?_
      refine lv_iload_n hx hb dX6_die_28 rfl (lv_at hl 1 rfl) ?_
      obtain ⟨τ6, hc, hf⟩ := hj_o1_s hf
      refine hj_callVv (nL := 2) (As := [.int 0, .int x1]) (rest := []) (i0 := 0) (C := RX6) (T := TX6) (N := 24) (ci := 6) ⟨hx, hb, hml, hown, hts⟩ (ctX6_dieOn l g hI hc) (cwV 2 hts gX6_die_X6_dieOn rfl rfl rfl (by decide +kernel) ⟨Nat.le_of_ble_eq_true rfl, Nat.le_of_ble_eq_true rfl⟩) hj_Xb0 (fun _ _ _ => trivial) hK hP hS (by decide) rfl rfl rfl hl.1 rfl (Nat.le_of_ble_eq_true rfl) dX6_die_29 (fun H locs hP hS => ?_)
      refine lv_aload_n hx hb dX6_die_32 rfl (lv_at hl 0 rfl) ?_
      refine hj_get (ci := 6) (v := .ref (ad 3)) (C := RX6) (T := TX6) (N := 24) hx hb hts iX6_die_X6 hown hK hP (by decide) rfl rfl 4 (by decide) mX6_die_1 rfl dX6_die_33 ?_
      refine lv_iconst (v := 1) hx hb dX6_die_36 (by decide) ?_
      obtain ⟨hk7, hf⟩ := hj_ck_s hf
      refine hj_ial (f := τ6.2 4) hx hb hK hP (by decide) rfl hk7 dX6_die_37 ?_
      obtain ⟨r8, hc, hf⟩ := hj_o1_s hf
      refine hj_callSi (nL := 2) (As := [.int (τ6.2 4 (1 : Int32).toNatClampNeg)]) (rest := []) ⟨hx, hb, hml, hown, hts⟩ (ctX6_ones l g (n := 13) (ad := ad) (w := (hj_wm g ad τ6 sd)) hc) (va_cwS 1 hts gX6_die_X6_ones rfl rfl rfl (by decide +kernel) ⟨Nat.le_of_ble_eq_true rfl, Nat.le_of_ble_eq_true rfl⟩) hj_Xb0 (fun _ _ _ => trivial) hK hP hS rfl hl.1 rfl (Nat.le_of_ble_eq_true rfl) dX6_die_38 (fun H locs hP hS => ?_)
      have hq := Option.some.inj hf
      obtain ⟨rfl, rfl⟩ := Prod.mk.inj hq
      exact hj_reti C hP hK hS dX6_die_41
    · rw [if_pos c4] at hf
      refine lv_bipush (v := (-3)) hx hb dX6_die_19 (by decide) ?_
      have hq := Option.some.inj hf
      obtain ⟨rfl, rfl⟩ := Prod.mk.inj hq
      exact hj_reti C hP hK hS dX6_die_21
  · rw [if_pos c2] at hf
    refine lv_iconst (v := (-1)) hx hb dX6_die_8 (by decide) ?_
    have hq := Option.some.inj hf
    obtain ⟨rfl, rfl⟩ := Prod.mk.inj hq
    exact hj_reti C hP hK hS dX6_die_9
set_option maxHeartbeats 4000000 in
set_option maxRecDepth 100000 in
theorem ctX6_die (l : Launch) (g : hj_G) {ad : Nat → Nat} (hI : hj_I 13 ad) {τ : hj_Ob} {sd : Int64} {x1 : Int32} {rF : Int32} {τF : hj_Ob} (hf : fX6_die τ sd x1 = some (rF, τF)) :
    hj_MI l yX6_die wsX6_die rmX6_die g 13 ad hj_X0 [.ref (ad 0), .int x1] (hj_wm g ad τ sd) rF (hj_wm g ad τF sd) := by
  refine hj_ofI (cc := cX6_die) (maxL := 2) (ret := (some .int)) (by decide) rfl (Nat.le_of_ble_eq_true rfl) ?_
  intro p e s m args below meth c ls C hP hK hX hl
  exact wX6_die hI C hK hf hP va_S.rf hl

/-! X6_toss -/
abbrev rmX6_toss : Room := { frames := 2, cells := 0, slots := 0, locals := 46 }
theorem iX6_toss_X6 : ∀ w ∈ wsX60, w ∈ wsX6_toss := fun _ h => List.mem_cons_of_mem _ (List.mem_append_right _ h)
theorem mX6_toss_1 : Cond.fieldLink RX6 16 "HungryJuryModel" "now" "[I" ∈ wsX6_toss := List.mem_of_getElem? (i := 1) rfl
def fX6_toss (τ : hj_Ob) (sd : Int64) (x1 : Int32) : Option (Int32 × hj_Ob) :=
  hj_o1 (fX6_isJuror τ sd x1) fun r1 => if r1 = 0 then (some ((-1), τ)) else (hj_o1 (fX6_isThere τ sd 0 x1) fun r3 => if r3 = 0 then (some ((-3), τ)) else (hj_o1 (fX6_keepAct τ sd) fun τ5 => hj_ck (0 : Int32) 30 (hj_ck (0 : Int32) 30 (hj_nm (hj_a τ5 4 (0 : Int32) ((τ5.2 4 (0 : Int32).toNatClampNeg) ^^^ ((1 : Int32) <<< (x1 &&& 31)))) fun τ8 => hj_ck (0 : Int32) 30 (some (((τ8.2 4 (0 : Int32).toNatClampNeg) >>> (x1 &&& 31)) &&& 1, τ8))))))
set_option maxHeartbeats 4000000 in
set_option maxRecDepth 100000 in
theorem wX6_toss {p : Program} {l : Launch} {e : Env} {s : State} {m : MethodId} {args : Array Value} {below : List Frame} {meth : Method} {c : Code} {g : hj_G} {ad : Nat → Nat} (hI : hj_I 13 ad) (C : hj_C p s m args meth c cX6_toss RX6 wsX6_toss 2 (some .int)) (hK : hj_K g s) {τ : hj_Ob} {sd : Int64} {x1 : Int32} {rF : Int32} {τF : hj_Ob}
    (hf : fX6_toss τ sd x1 = some (rF, τF)) {H : Heap} {locs : List Loc} {ls : Array Slot} (hP : hj_P g 13 ad (hj_wm g ad τ sd) H) (hS : hj_S 13 ad s H locs) (hl : lv_has ls 2 [(0, .ref (ad 0)), (1, .int x1)]) :
    W p l e rmX6_toss s m args below meth c H locs 0 0 (MQ below (hj_QI g 13 ad (hj_wm g ad τF sd) rF s.heap.size) args s 0 0 (hj_A 13 ad s.heap.size)) (F0 m 0 ls []) := by
  obtain ⟨hx, hb, hr, hml, hown, hts, hlocks⟩ := id C
  unfold fX6_toss at hf
  refine lv_aload_n hx hb dX6_toss_0 rfl (lv_at hl 0 rfl) ?_
  refine lv_iload_n hx hb dX6_toss_1 rfl (lv_at hl 1 rfl) ?_
  obtain ⟨r1, hc, hf⟩ := hj_o1_s hf
  refine hj_callVi (nL := 2) (As := [.int x1]) (rest := []) (i0 := 0) (C := RX6) (T := TX6) (N := 24) (ci := 6) ⟨hx, hb, hml, hown, hts⟩ (ctX6_isJuror l g hI hc) (cwV 1 hts gX6_toss_X6_isJuror rfl rfl rfl (by decide +kernel) ⟨Nat.le_of_ble_eq_true rfl, Nat.le_of_ble_eq_true rfl⟩) hj_Xb0 (fun _ _ _ => trivial) hK hP hS (by decide) rfl rfl rfl hl.1 rfl (Nat.le_of_ble_eq_true rfl) dX6_toss_2 (fun H locs hP hS => ?_)
  refine lv_if_ne (tgt := 10) hx hb dX6_toss_5 (by decide) (fun c2 => ?_) (fun c2 => ?_)
  · rw [if_neg c2] at hf
    refine lv_aload_n hx hb dX6_toss_10 rfl (lv_at hl 0 rfl) ?_
    refine lv_iconst (v := 0) hx hb dX6_toss_11 (by decide) ?_
    refine lv_iload_n hx hb dX6_toss_12 rfl (lv_at hl 1 rfl) ?_
    obtain ⟨r3, hc, hf⟩ := hj_o1_s hf
    refine hj_callVi (nL := 2) (As := [.int 0, .int x1]) (rest := []) (i0 := 0) (C := RX6) (T := TX6) (N := 24) (ci := 6) ⟨hx, hb, hml, hown, hts⟩ (ctX6_isThere l g hI hc) (cwV 2 hts gX6_toss_X6_isThere rfl rfl rfl (by decide +kernel) ⟨Nat.le_of_ble_eq_true rfl, Nat.le_of_ble_eq_true rfl⟩) hj_Xb0 (fun _ _ _ => trivial) hK hP hS (by decide) rfl rfl rfl hl.1 rfl (Nat.le_of_ble_eq_true rfl) dX6_toss_13 (fun H locs hP hS => ?_)
    refine lv_if_ne (tgt := 22) hx hb dX6_toss_16 (by decide) (fun c4 => ?_) (fun c4 => ?_)
    · rw [if_neg c4] at hf
      refine lv_aload_n hx hb dX6_toss_22 rfl (lv_at hl 0 rfl) ?_
      obtain ⟨τ5, hc, hf⟩ := hj_o1_s hf
      refine hj_callVv (nL := 2) (As := []) (rest := []) (i0 := 0) (C := RX6) (T := TX6) (N := 24) (ci := 6) ⟨hx, hb, hml, hown, hts⟩ (ctX6_keepAct l g hI hc) (cwV 0 hts gX6_toss_X6_keepAct rfl rfl rfl (by decide +kernel) ⟨Nat.le_of_ble_eq_true rfl, Nat.le_of_ble_eq_true rfl⟩) hj_Xb0 (fun _ _ _ => trivial) hK hP hS (by decide) rfl rfl rfl hl.1 rfl (Nat.le_of_ble_eq_true rfl) dX6_toss_23 (fun H locs hP hS => ?_)
      refine lv_aload_n hx hb dX6_toss_26 rfl (lv_at hl 0 rfl) ?_
      refine hj_get (ci := 6) (v := .ref (ad 3)) (C := RX6) (T := TX6) (N := 24) hx hb hts iX6_toss_X6 hown hK hP (by decide) rfl rfl 4 (by decide) mX6_toss_1 rfl dX6_toss_27 ?_
      refine lv_iconst (v := 0) hx hb dX6_toss_30 (by decide) ?_
      refine lv_dup2_11 hx hb dX6_toss_31 rfl rfl ?_
      obtain ⟨hk6, hf⟩ := hj_ck_s hf
      refine hj_ial (f := τ5.2 4) hx hb hK hP (by decide) rfl hk6 dX6_toss_32 ?_
      refine lv_iconst (v := 1) hx hb dX6_toss_33 (by decide) ?_
      refine lv_iload_n hx hb dX6_toss_34 rfl (lv_at hl 1 rfl) ?_
      refine lv_ishl hx hb dX6_toss_35 ?_
      refine lv_ixor hx hb dX6_toss_36 ?_
      obtain ⟨hk7, hf⟩ := hj_ck_s hf
      refine hj_ias (f := τ5.2 4) (v := ((τ5.2 4 (0 : Int32).toNatClampNeg) ^^^ ((1 : Int32) <<< (x1 &&& 31)))) hx hb hK hI hP hS (by decide) rfl hk7 dX6_toss_37 (wm_a2 (τ := τ5) (x := (0 : Int32)) (v := ((τ5.2 4 (0 : Int32).toNatClampNeg) ^^^ ((1 : Int32) <<< (x1 &&& 31)))) 3 4 rfl (by decide) (by decide) (by decide)) (fun H locs hP hS => ?_)
      obtain ⟨τ8, eτ8⟩ : ∃ z : hj_Ob, z = hj_a τ5 4 (0 : Int32) ((τ5.2 4 (0 : Int32).toNatClampNeg) ^^^ ((1 : Int32) <<< (x1 &&& 31))) := ⟨_, rfl⟩
      replace hf := hj_nm_y hf eτ8
      rw [← eτ8] at hP
      refine lv_aload_n hx hb dX6_toss_38 rfl (lv_at hl 0 rfl) ?_
      refine hj_get (ci := 6) (v := .ref (ad 3)) (C := RX6) (T := TX6) (N := 24) hx hb hts iX6_toss_X6 hown hK hP (by decide) rfl rfl 4 (by decide) mX6_toss_1 rfl dX6_toss_39 ?_
      refine lv_iconst (v := 0) hx hb dX6_toss_42 (by decide) ?_
      obtain ⟨hk9, hf⟩ := hj_ck_s hf
      refine hj_ial (f := τ8.2 4) hx hb hK hP (by decide) rfl hk9 dX6_toss_43 ?_
      refine lv_iload_n hx hb dX6_toss_44 rfl (lv_at hl 1 rfl) ?_
      refine lv_ishr hx hb dX6_toss_45 ?_
      refine lv_iconst (v := 1) hx hb dX6_toss_46 (by decide) ?_
      refine lv_iand hx hb dX6_toss_47 ?_
      have hq := Option.some.inj hf
      obtain ⟨rfl, rfl⟩ := Prod.mk.inj hq
      exact hj_reti C hP hK hS dX6_toss_48
    · rw [if_pos c4] at hf
      refine lv_bipush (v := (-3)) hx hb dX6_toss_19 (by decide) ?_
      have hq := Option.some.inj hf
      obtain ⟨rfl, rfl⟩ := Prod.mk.inj hq
      exact hj_reti C hP hK hS dX6_toss_21
  · rw [if_pos c2] at hf
    refine lv_iconst (v := (-1)) hx hb dX6_toss_8 (by decide) ?_
    have hq := Option.some.inj hf
    obtain ⟨rfl, rfl⟩ := Prod.mk.inj hq
    exact hj_reti C hP hK hS dX6_toss_9
set_option maxHeartbeats 4000000 in
set_option maxRecDepth 100000 in
theorem ctX6_toss (l : Launch) (g : hj_G) {ad : Nat → Nat} (hI : hj_I 13 ad) {τ : hj_Ob} {sd : Int64} {x1 : Int32} {rF : Int32} {τF : hj_Ob} (hf : fX6_toss τ sd x1 = some (rF, τF)) :
    hj_MI l yX6_toss wsX6_toss rmX6_toss g 13 ad hj_X0 [.ref (ad 0), .int x1] (hj_wm g ad τ sd) rF (hj_wm g ad τF sd) := by
  refine hj_ofI (cc := cX6_toss) (maxL := 2) (ret := (some .int)) (by decide) rfl (Nat.le_of_ble_eq_true rfl) ?_
  intro p e s m args below meth c ls C hP hK hX hl
  exact wX6_toss hI C hK hf hP va_S.rf hl

/-! X6_undo -/
abbrev rmX6_undo : Room := { frames := 0, cells := 0, slots := 0, locals := 0 }
theorem iX6_undo_X6 : ∀ w ∈ wsX60, w ∈ wsX6_undo := fun _ h => List.mem_cons_of_mem _ (List.mem_append_right _ h)
theorem mX6_undo_1 : Cond.fieldLink RX6 99 "HungryJuryModel" "acts" "I" ∈ wsX6_undo := List.mem_of_getElem? (i := 1) rfl
theorem mX6_undo_2 : Cond.fieldLink RX6 122 "HungryJuryModel" "next" "I" ∈ wsX6_undo := List.mem_of_getElem? (i := 2) rfl
theorem mX6_undo_3 : Cond.fieldLink RX6 16 "HungryJuryModel" "now" "[I" ∈ wsX6_undo := List.mem_of_getElem? (i := 3) rfl
theorem mX6_undo_4 : Cond.fieldLink RX6 28 "HungryJuryModel" "row" "[I" ∈ wsX6_undo := List.mem_of_getElem? (i := 4) rfl
def fX6_undo_36 (τ : hj_Ob) (sd : Int64) (x1 : Int32) : Option (hj_Ob ⊕ (Int32 × hj_Ob)) :=
  if 15 ≤ x1 then (some (.inl τ)) else (hj_ck ((15 * (τ.1 14)) + x1) 210 (hj_ck x1 30 (hj_nm (hj_a τ 4 x1 (τ.2 15 ((15 * (τ.1 14)) + x1).toNatClampNeg)) fun τ7 => hj_nm (x1 + 1) fun y8 => some (.inr (y8, τ7)))))
set_option maxHeartbeats 4000000 in
set_option maxRecDepth 100000 in
theorem wX6_undo_36b {p : Program} {l : Launch} {e : Env} {s : State} {m : MethodId} {args : Array Value} {below : List Frame} {meth : Method} {c : Code} {g : hj_G} {ad : Nat → Nat} (hI : hj_I 13 ad) (C : hj_C p s m args meth c cX6_undo RX6 wsX6_undo 2 (some .int)) (hK : hj_K g s) {τ : hj_Ob} {sd : Int64} {x1 : Int32} {y : hj_Ob ⊕ (Int32 × hj_Ob)} {rF : Int32} {τF : hj_Ob}
    (hf : fX6_undo_36 τ sd x1 = some y) (KX : ∀ (τ' : hj_Ob), y = .inl τ' → ∀ (H : Heap) (locs : List Loc) (ls : Array Slot), hj_P g 13 ad (hj_wm g ad τ' sd) H → hj_S 13 ad s H locs → lv_has ls 2 [(0, .ref (ad 0))] → W p l e rmX6_undo s m args below meth c H locs 0 0 (MQ below (hj_QI g 13 ad (hj_wm g ad τF sd) rF s.heap.size) args s 0 0 (hj_A 13 ad s.heap.size)) (F0 m 68 ls [])) (KI : ∀ (v1 : Int32) (τ' : hj_Ob), y = .inr (v1, τ') → ∀ (H : Heap) (locs : List Loc) (ls : Array Slot), hj_P g 13 ad (hj_wm g ad τ' sd) H → hj_S 13 ad s H locs → lv_has ls 2 [(0, .ref (ad 0)), (1, .int v1)] → W p l e rmX6_undo s m args below meth c H locs 0 0 (MQ below (hj_QI g 13 ad (hj_wm g ad τF sd) rF s.heap.size) args s 0 0 (hj_A 13 ad s.heap.size)) (F0 m 36 ls [])) {H : Heap} {locs : List Loc} {ls : Array Slot} (hP : hj_P g 13 ad (hj_wm g ad τ sd) H) (hS : hj_S 13 ad s H locs) (hl : lv_has ls 2 [(0, .ref (ad 0)), (1, .int x1)]) :
    W p l e rmX6_undo s m args below meth c H locs 0 0 (MQ below (hj_QI g 13 ad (hj_wm g ad τF sd) rF s.heap.size) args s 0 0 (hj_A 13 ad s.heap.size)) (F0 m 36 ls []) := by
  obtain ⟨hx, hb, hr, hml, hown, hts, hlocks⟩ := id C
  unfold fX6_undo_36 at hf
  refine lv_iload_n hx hb dX6_undo_36 rfl (lv_at hl 1 rfl) ?_
  refine lv_bipush (v := 15) hx hb dX6_undo_37 (by decide) ?_
  refine lv_icmp_ge (tgt := 68) hx hb dX6_undo_39 (by decide) (fun c4 => ?_) (fun c4 => ?_)
  · rw [if_pos c4] at hf
    exact KX _ (Option.some.inj hf).symm _ _ _ hP hS (lv_sub hl [0] rfl)
  · rw [if_neg c4] at hf
    refine lv_aload_n hx hb dX6_undo_42 rfl (lv_at hl 0 rfl) ?_
    refine hj_get (ci := 6) (v := .ref (ad 3)) (C := RX6) (T := TX6) (N := 24) hx hb hts iX6_undo_X6 hown hK hP (by decide) rfl rfl 4 (by decide) mX6_undo_3 rfl dX6_undo_43 ?_
    refine lv_iload_n hx hb dX6_undo_46 rfl (lv_at hl 1 rfl) ?_
    refine lv_aload_n hx hb dX6_undo_47 rfl (lv_at hl 0 rfl) ?_
    refine hj_get (ci := 6) (v := .ref (ad 7)) (C := RX6) (T := TX6) (N := 24) hx hb hts iX6_undo_X6 hown hK hP (by decide) rfl rfl 15 (by decide) mX6_undo_4 rfl dX6_undo_48 ?_
    refine lv_bipush (v := 15) hx hb dX6_undo_51 (by decide) ?_
    refine lv_aload_n hx hb dX6_undo_53 rfl (lv_at hl 0 rfl) ?_
    refine hj_get (ci := 6) (v := .int (τ.1 14)) (C := RX6) (T := TX6) (N := 24) hx hb hts iX6_undo_X6 hown hK hP (by decide) rfl rfl 14 (by decide) mX6_undo_2 rfl dX6_undo_54 ?_
    refine lv_imul hx hb dX6_undo_57 ?_
    refine lv_iload_n hx hb dX6_undo_58 rfl (lv_at hl 1 rfl) ?_
    refine lv_iadd hx hb dX6_undo_59 ?_
    obtain ⟨hk5, hf⟩ := hj_ck_s hf
    refine hj_ial (f := τ.2 15) hx hb hK hP (by decide) rfl hk5 dX6_undo_60 ?_
    obtain ⟨hk6, hf⟩ := hj_ck_s hf
    refine hj_ias (f := τ.2 4) (v := (τ.2 15 ((15 * (τ.1 14)) + x1).toNatClampNeg)) hx hb hK hI hP hS (by decide) rfl hk6 dX6_undo_61 (wm_a2 (τ := τ) (x := x1) (v := (τ.2 15 ((15 * (τ.1 14)) + x1).toNatClampNeg)) 3 4 rfl (by decide) (by decide) (by decide)) (fun H locs hP hS => ?_)
    obtain ⟨τ7, eτ7⟩ : ∃ z : hj_Ob, z = hj_a τ 4 x1 (τ.2 15 ((15 * (τ.1 14)) + x1).toNatClampNeg) := ⟨_, rfl⟩
    replace hf := hj_nm_y hf eτ7
    rw [← eτ7] at hP
    obtain ⟨y8, ey8⟩ : ∃ z : Int32, z = x1 + 1 := ⟨_, rfl⟩
    replace hf := hj_nm_y hf ey8
    refine lv_iinc (v := y8) (lv' := [(1, .int y8), (0, .ref (ad 0))]) hx hb dX6_undo_62 hl (k := 1) rfl (by rw [ey8]; rfl) (by decide) rfl (fun ls hl => ?_)
    refine lv_goto (tgt := 36) hx hb dX6_undo_65 (by decide) ?_
    exact KI _ _ (Option.some.inj hf).symm _ _ _ hP hS (lv_sub hl [1, 0] rfl)
set_option maxHeartbeats 4000000 in
set_option maxRecDepth 100000 in
theorem wX6_undo_36 {p : Program} {l : Launch} {e : Env} {s : State} {m : MethodId} {args : Array Value} {below : List Frame} {meth : Method} {c : Code} {g : hj_G} {ad : Nat → Nat} (hI : hj_I 13 ad) (C : hj_C p s m args meth c cX6_undo RX6 wsX6_undo 2 (some .int)) (hK : hj_K g s) {sd : Int64} {rF : Int32} {τF : hj_Ob} {τe : hj_Ob} :
    ∀ (fu : Nat) (x1 : Int32) (τ : hj_Ob), hj_lp (fun q : (Int32 × hj_Ob) => fX6_undo_36 q.2 sd q.1) fu (x1, τ) = some τe → (∀ (H : Heap) (locs : List Loc) (ls : Array Slot), hj_P g 13 ad (hj_wm g ad τe sd) H → hj_S 13 ad s H locs → lv_has ls 2 [(0, .ref (ad 0))] → W p l e rmX6_undo s m args below meth c H locs 0 0 (MQ below (hj_QI g 13 ad (hj_wm g ad τF sd) rF s.heap.size) args s 0 0 (hj_A 13 ad s.heap.size)) (F0 m 68 ls [])) → ∀ (H : Heap) (locs : List Loc) (ls : Array Slot), hj_P g 13 ad (hj_wm g ad τ sd) H → hj_S 13 ad s H locs → lv_has ls 2 [(0, .ref (ad 0)), (1, .int x1)] →
    W p l e rmX6_undo s m args below meth c H locs 0 0 (MQ below (hj_QI g 13 ad (hj_wm g ad τF sd) rF s.heap.size) args s 0 0 (hj_A 13 ad s.heap.size)) (F0 m 36 ls []) := by
  intro fu
  induction fu with
  | zero => intro x1 τ hq; cases hq
  | succ fu ih =>
    intro x1 τ hq KX H locs ls hP hS hl
    obtain ⟨y, hy, h1, h2⟩ := hj_lp_s hq
    exact wX6_undo_36b hI C hK  hy (fun τ' hv H locs ls hP hS hl => by obtain rfl := h1 _ hv; exact KX H locs ls hP hS hl) (fun v1 τ' hv H locs ls hP hS hl => ih v1 τ' (h2 _ hv) KX H locs ls hP hS hl) hP hS hl
def fX6_undo (τ : hj_Ob) (sd : Int64) : Option (Int32 × hj_Ob) :=
  if (τ.1 13) = 0 then (some ((-3), τ)) else (hj_nm (hj_s τ 13 ((τ.1 13) - 1)) fun τ2 => hj_nm (hj_s τ2 14 (((τ2.1 14) + 13) - ((τ2.1 14) + 13) / 14 * 14)) fun τ3 => hj_o1 (hj_lp (fun q : (Int32 × hj_Ob) => fX6_undo_36 q.2 sd q.1) 100 (0, τ3)) fun τ9 => (some (τ9.1 13, τ9)))
set_option maxHeartbeats 4000000 in
set_option maxRecDepth 100000 in
theorem wX6_undo {p : Program} {l : Launch} {e : Env} {s : State} {m : MethodId} {args : Array Value} {below : List Frame} {meth : Method} {c : Code} {g : hj_G} {ad : Nat → Nat} (hI : hj_I 13 ad) (C : hj_C p s m args meth c cX6_undo RX6 wsX6_undo 2 (some .int)) (hK : hj_K g s) {τ : hj_Ob} {sd : Int64} {rF : Int32} {τF : hj_Ob}
    (hf : fX6_undo τ sd = some (rF, τF)) {H : Heap} {locs : List Loc} {ls : Array Slot} (hP : hj_P g 13 ad (hj_wm g ad τ sd) H) (hS : hj_S 13 ad s H locs) (hl : lv_has ls 2 [(0, .ref (ad 0))]) :
    W p l e rmX6_undo s m args below meth c H locs 0 0 (MQ below (hj_QI g 13 ad (hj_wm g ad τF sd) rF s.heap.size) args s 0 0 (hj_A 13 ad s.heap.size)) (F0 m 0 ls []) := by
  obtain ⟨hx, hb, hr, hml, hown, hts, hlocks⟩ := id C
  unfold fX6_undo at hf
  refine lv_aload_n hx hb dX6_undo_0 rfl (lv_at hl 0 rfl) ?_
  refine hj_get (ci := 6) (v := .int (τ.1 13)) (C := RX6) (T := TX6) (N := 24) hx hb hts iX6_undo_X6 hown hK hP (by decide) rfl rfl 13 (by decide) mX6_undo_1 rfl dX6_undo_1 ?_
  refine lv_if_ne (tgt := 10) hx hb dX6_undo_4 (by decide) (fun c1 => ?_) (fun c1 => ?_)
  · rw [if_neg c1] at hf
    refine lv_aload_n hx hb dX6_undo_10 rfl (lv_at hl 0 rfl) ?_
    refine lv_dup hx hb dX6_undo_11 rfl ?_
    refine hj_get (ci := 6) (v := .int (τ.1 13)) (C := RX6) (T := TX6) (N := 24) hx hb hts iX6_undo_X6 hown hK hP (by decide) rfl rfl 13 (by decide) mX6_undo_1 rfl dX6_undo_12 ?_
    refine lv_iconst (v := 1) hx hb dX6_undo_15 (by decide) ?_
    refine lv_isub hx hb dX6_undo_16 ?_
    refine hj_put (ci := 6) (v := .int ((τ.1 13) - 1)) (C := RX6) (T := TX6) (N := 24) hx hb hts iX6_undo_X6 tyX6 tyX6_ok nmX6 hown hK hI hP hS (by decide) rfl rfl 13 (by decide) mX6_undo_1 rfl rfl rfl (Nat.le_of_ble_eq_true rfl) dX6_undo_17 (wm_s (τ := τ) (k := 13) (v := (τ.1 13) - 1) rfl) (fun H locs hP hS => ?_)
    obtain ⟨τ2, eτ2⟩ : ∃ z : hj_Ob, z = hj_s τ 13 ((τ.1 13) - 1) := ⟨_, rfl⟩
    replace hf := hj_nm_y hf eτ2
    rw [← eτ2] at hP
    refine lv_aload_n hx hb dX6_undo_20 rfl (lv_at hl 0 rfl) ?_
    refine lv_aload_n hx hb dX6_undo_21 rfl (lv_at hl 0 rfl) ?_
    refine hj_get (ci := 6) (v := .int (τ2.1 14)) (C := RX6) (T := TX6) (N := 24) hx hb hts iX6_undo_X6 hown hK hP (by decide) rfl rfl 14 (by decide) mX6_undo_2 rfl dX6_undo_22 ?_
    refine lv_bipush (v := 13) hx hb dX6_undo_25 (by decide) ?_
    refine lv_iadd hx hb dX6_undo_27 ?_
    refine lv_bipush (v := 14) hx hb dX6_undo_28 (by decide) ?_
    refine lv_irem hx hb dX6_undo_30 (by decide) ?_
    refine hj_put (ci := 6) (v := .int (((τ2.1 14) + 13) - ((τ2.1 14) + 13) / 14 * 14)) (C := RX6) (T := TX6) (N := 24) hx hb hts iX6_undo_X6 tyX6 tyX6_ok nmX6 hown hK hI hP hS (by decide) rfl rfl 14 (by decide) mX6_undo_2 rfl rfl rfl (Nat.le_of_ble_eq_true rfl) dX6_undo_31 (wm_s (τ := τ2) (k := 14) (v := ((τ2.1 14) + 13) - ((τ2.1 14) + 13) / 14 * 14) rfl) (fun H locs hP hS => ?_)
    obtain ⟨τ3, eτ3⟩ : ∃ z : hj_Ob, z = hj_s τ2 14 (((τ2.1 14) + 13) - ((τ2.1 14) + 13) / 14 * 14) := ⟨_, rfl⟩
    replace hf := hj_nm_y hf eτ3
    rw [← eτ3] at hP
    refine lv_iconst (v := 0) hx hb dX6_undo_34 (by decide) ?_
    refine lv_istore_n (lv' := [(1, .int 0), (0, .ref (ad 0))]) hx hb dX6_undo_35 rfl hl (by decide) rfl (fun ls hl => ?_)
    obtain ⟨τ9, hlx, hf⟩ := hj_o1_s hf
    refine wX6_undo_36 hI C hK  100 0 τ3 hlx (fun H locs ls hP hS hl => ?_) H locs ls hP hS (lv_sub hl [1, 0] rfl)
    refine lv_aload_n hx hb dX6_undo_68 rfl (lv_at hl 0 rfl) ?_
    refine hj_get (ci := 6) (v := .int (τ9.1 13)) (C := RX6) (T := TX6) (N := 24) hx hb hts iX6_undo_X6 hown hK hP (by decide) rfl rfl 13 (by decide) mX6_undo_1 rfl dX6_undo_69 ?_
    have hq := Option.some.inj hf
    obtain ⟨rfl, rfl⟩ := Prod.mk.inj hq
    exact hj_reti C hP hK hS dX6_undo_72
  · rw [if_pos c1] at hf
    refine lv_bipush (v := (-3)) hx hb dX6_undo_7 (by decide) ?_
    have hq := Option.some.inj hf
    obtain ⟨rfl, rfl⟩ := Prod.mk.inj hq
    exact hj_reti C hP hK hS dX6_undo_9
set_option maxHeartbeats 4000000 in
set_option maxRecDepth 100000 in
theorem ctX6_undo (l : Launch) (g : hj_G) {ad : Nat → Nat} (hI : hj_I 13 ad) {τ : hj_Ob} {sd : Int64} {rF : Int32} {τF : hj_Ob} (hf : fX6_undo τ sd = some (rF, τF)) :
    hj_MI l yX6_undo wsX6_undo rmX6_undo g 13 ad hj_X0 [.ref (ad 0)] (hj_wm g ad τ sd) rF (hj_wm g ad τF sd) := by
  refine hj_ofI (cc := cX6_undo) (maxL := 2) (ret := (some .int)) (by decide) rfl (Nat.le_of_ble_eq_true rfl) ?_
  intro p e s m args below meth c ls C hP hK hX hl
  exact wX6_undo hI C hK hf hP va_S.rf hl

/-! X6_layTrial -/
abbrev rmX6_layTrial : Room := { frames := 0, cells := 0, slots := 0, locals := 0 }
theorem iX6_layTrial_X6 : ∀ w ∈ wsX60, w ∈ wsX6_layTrial := fun _ h => List.mem_cons_of_mem _ (List.mem_append_right _ h)
theorem mX6_layTrial_1 : Cond.fieldLink RX6 16 "HungryJuryModel" "now" "[I" ∈ wsX6_layTrial := List.mem_of_getElem? (i := 1) rfl
def fX6_layTrial_2 (τ : hj_Ob) (sd : Int64) (x1 : Int32) : Option (hj_Ob ⊕ (Int32 × hj_Ob)) :=
  if 15 ≤ x1 then (some (.inl τ)) else (hj_ck x1 30 (hj_ck (15 + x1) 30 (hj_nm (hj_a τ 4 (15 + x1) (τ.2 4 x1.toNatClampNeg)) fun τ4 => hj_nm (x1 + 1) fun y5 => some (.inr (y5, τ4)))))
set_option maxHeartbeats 4000000 in
set_option maxRecDepth 100000 in
theorem wX6_layTrial_2b {p : Program} {l : Launch} {e : Env} {s : State} {m : MethodId} {args : Array Value} {below : List Frame} {meth : Method} {c : Code} {g : hj_G} {ad : Nat → Nat} (hI : hj_I 13 ad) (C : hj_C p s m args meth c cX6_layTrial RX6 wsX6_layTrial 2 none) (hK : hj_K g s) {τ : hj_Ob} {sd : Int64} {x1 : Int32} {y : hj_Ob ⊕ (Int32 × hj_Ob)} {τF : hj_Ob}
    (hf : fX6_layTrial_2 τ sd x1 = some y) (KX : ∀ (τ' : hj_Ob), y = .inl τ' → ∀ (H : Heap) (locs : List Loc) (ls : Array Slot), hj_P g 13 ad (hj_wm g ad τ' sd) H → hj_S 13 ad s H locs → lv_has ls 2 [] → W p l e rmX6_layTrial s m args below meth c H locs 0 0 (MQ below (hj_QV g 13 ad (hj_wm g ad τF sd) s.heap.size) args s 0 0 (hj_A 13 ad s.heap.size)) (F0 m 29 ls [])) (KI : ∀ (v1 : Int32) (τ' : hj_Ob), y = .inr (v1, τ') → ∀ (H : Heap) (locs : List Loc) (ls : Array Slot), hj_P g 13 ad (hj_wm g ad τ' sd) H → hj_S 13 ad s H locs → lv_has ls 2 [(0, .ref (ad 0)), (1, .int v1)] → W p l e rmX6_layTrial s m args below meth c H locs 0 0 (MQ below (hj_QV g 13 ad (hj_wm g ad τF sd) s.heap.size) args s 0 0 (hj_A 13 ad s.heap.size)) (F0 m 2 ls [])) {H : Heap} {locs : List Loc} {ls : Array Slot} (hP : hj_P g 13 ad (hj_wm g ad τ sd) H) (hS : hj_S 13 ad s H locs) (hl : lv_has ls 2 [(0, .ref (ad 0)), (1, .int x1)]) :
    W p l e rmX6_layTrial s m args below meth c H locs 0 0 (MQ below (hj_QV g 13 ad (hj_wm g ad τF sd) s.heap.size) args s 0 0 (hj_A 13 ad s.heap.size)) (F0 m 2 ls []) := by
  obtain ⟨hx, hb, hr, hml, hown, hts, hlocks⟩ := id C
  unfold fX6_layTrial_2 at hf
  refine lv_iload_n hx hb dX6_layTrial_2 rfl (lv_at hl 1 rfl) ?_
  refine lv_bipush (v := 15) hx hb dX6_layTrial_3 (by decide) ?_
  refine lv_icmp_ge (tgt := 29) hx hb dX6_layTrial_5 (by decide) (fun c1 => ?_) (fun c1 => ?_)
  · rw [if_pos c1] at hf
    exact KX _ (Option.some.inj hf).symm _ _ _ hP hS (lv_sub hl [] rfl)
  · rw [if_neg c1] at hf
    refine lv_aload_n hx hb dX6_layTrial_8 rfl (lv_at hl 0 rfl) ?_
    refine hj_get (ci := 6) (v := .ref (ad 3)) (C := RX6) (T := TX6) (N := 24) hx hb hts iX6_layTrial_X6 hown hK hP (by decide) rfl rfl 4 (by decide) mX6_layTrial_1 rfl dX6_layTrial_9 ?_
    refine lv_bipush (v := 15) hx hb dX6_layTrial_12 (by decide) ?_
    refine lv_iload_n hx hb dX6_layTrial_14 rfl (lv_at hl 1 rfl) ?_
    refine lv_iadd hx hb dX6_layTrial_15 ?_
    refine lv_aload_n hx hb dX6_layTrial_16 rfl (lv_at hl 0 rfl) ?_
    refine hj_get (ci := 6) (v := .ref (ad 3)) (C := RX6) (T := TX6) (N := 24) hx hb hts iX6_layTrial_X6 hown hK hP (by decide) rfl rfl 4 (by decide) mX6_layTrial_1 rfl dX6_layTrial_17 ?_
    refine lv_iload_n hx hb dX6_layTrial_20 rfl (lv_at hl 1 rfl) ?_
    obtain ⟨hk2, hf⟩ := hj_ck_s hf
    refine hj_ial (f := τ.2 4) hx hb hK hP (by decide) rfl hk2 dX6_layTrial_21 ?_
    obtain ⟨hk3, hf⟩ := hj_ck_s hf
    refine hj_ias (f := τ.2 4) (v := (τ.2 4 x1.toNatClampNeg)) hx hb hK hI hP hS (by decide) rfl hk3 dX6_layTrial_22 (wm_a2 (τ := τ) (x := (15 + x1)) (v := (τ.2 4 x1.toNatClampNeg)) 3 4 rfl (by decide) (by decide) (by decide)) (fun H locs hP hS => ?_)
    obtain ⟨τ4, eτ4⟩ : ∃ z : hj_Ob, z = hj_a τ 4 (15 + x1) (τ.2 4 x1.toNatClampNeg) := ⟨_, rfl⟩
    replace hf := hj_nm_y hf eτ4
    rw [← eτ4] at hP
    obtain ⟨y5, ey5⟩ : ∃ z : Int32, z = x1 + 1 := ⟨_, rfl⟩
    replace hf := hj_nm_y hf ey5
    refine lv_iinc (v := y5) (lv' := [(1, .int y5), (0, .ref (ad 0))]) hx hb dX6_layTrial_23 hl (k := 1) rfl (by rw [ey5]; rfl) (by decide) rfl (fun ls hl => ?_)
    refine lv_goto (tgt := 2) hx hb dX6_layTrial_26 (by decide) ?_
    exact KI _ _ (Option.some.inj hf).symm _ _ _ hP hS (lv_sub hl [1, 0] rfl)
set_option maxHeartbeats 4000000 in
set_option maxRecDepth 100000 in
theorem wX6_layTrial_2 {p : Program} {l : Launch} {e : Env} {s : State} {m : MethodId} {args : Array Value} {below : List Frame} {meth : Method} {c : Code} {g : hj_G} {ad : Nat → Nat} (hI : hj_I 13 ad) (C : hj_C p s m args meth c cX6_layTrial RX6 wsX6_layTrial 2 none) (hK : hj_K g s) {sd : Int64} {τF : hj_Ob} {τe : hj_Ob} :
    ∀ (fu : Nat) (x1 : Int32) (τ : hj_Ob), hj_lp (fun q : (Int32 × hj_Ob) => fX6_layTrial_2 q.2 sd q.1) fu (x1, τ) = some τe → (∀ (H : Heap) (locs : List Loc) (ls : Array Slot), hj_P g 13 ad (hj_wm g ad τe sd) H → hj_S 13 ad s H locs → lv_has ls 2 [] → W p l e rmX6_layTrial s m args below meth c H locs 0 0 (MQ below (hj_QV g 13 ad (hj_wm g ad τF sd) s.heap.size) args s 0 0 (hj_A 13 ad s.heap.size)) (F0 m 29 ls [])) → ∀ (H : Heap) (locs : List Loc) (ls : Array Slot), hj_P g 13 ad (hj_wm g ad τ sd) H → hj_S 13 ad s H locs → lv_has ls 2 [(0, .ref (ad 0)), (1, .int x1)] →
    W p l e rmX6_layTrial s m args below meth c H locs 0 0 (MQ below (hj_QV g 13 ad (hj_wm g ad τF sd) s.heap.size) args s 0 0 (hj_A 13 ad s.heap.size)) (F0 m 2 ls []) := by
  intro fu
  induction fu with
  | zero => intro x1 τ hq; cases hq
  | succ fu ih =>
    intro x1 τ hq KX H locs ls hP hS hl
    obtain ⟨y, hy, h1, h2⟩ := hj_lp_s hq
    exact wX6_layTrial_2b hI C hK  hy (fun τ' hv H locs ls hP hS hl => by obtain rfl := h1 _ hv; exact KX H locs ls hP hS hl) (fun v1 τ' hv H locs ls hP hS hl => ih v1 τ' (h2 _ hv) KX H locs ls hP hS hl) hP hS hl
def fX6_layTrial (τ : hj_Ob) (sd : Int64) : Option hj_Ob :=
  hj_o1 (hj_lp (fun q : (Int32 × hj_Ob) => fX6_layTrial_2 q.2 sd q.1) 100 (0, τ)) fun τ6 => (some τ6)
set_option maxHeartbeats 4000000 in
set_option maxRecDepth 100000 in
theorem wX6_layTrial {p : Program} {l : Launch} {e : Env} {s : State} {m : MethodId} {args : Array Value} {below : List Frame} {meth : Method} {c : Code} {g : hj_G} {ad : Nat → Nat} (hI : hj_I 13 ad) (C : hj_C p s m args meth c cX6_layTrial RX6 wsX6_layTrial 2 none) (hK : hj_K g s) {τ : hj_Ob} {sd : Int64} {τF : hj_Ob}
    (hf : fX6_layTrial τ sd = some τF) {H : Heap} {locs : List Loc} {ls : Array Slot} (hP : hj_P g 13 ad (hj_wm g ad τ sd) H) (hS : hj_S 13 ad s H locs) (hl : lv_has ls 2 [(0, .ref (ad 0))]) :
    W p l e rmX6_layTrial s m args below meth c H locs 0 0 (MQ below (hj_QV g 13 ad (hj_wm g ad τF sd) s.heap.size) args s 0 0 (hj_A 13 ad s.heap.size)) (F0 m 0 ls []) := by
  obtain ⟨hx, hb, hr, hml, hown, hts, hlocks⟩ := id C
  unfold fX6_layTrial at hf
  refine lv_iconst (v := 0) hx hb dX6_layTrial_0 (by decide) ?_
  refine lv_istore_n (lv' := [(1, .int 0), (0, .ref (ad 0))]) hx hb dX6_layTrial_1 rfl hl (by decide) rfl (fun ls hl => ?_)
  obtain ⟨τ6, hlx, hf⟩ := hj_o1_s hf
  refine wX6_layTrial_2 hI C hK  100 0 τ hlx (fun H locs ls hP hS hl => ?_) H locs ls hP hS (lv_sub hl [1, 0] rfl)
  have hq := Option.some.inj hf
  obtain rfl := hq
  exact hj_retv C hP hK hS dX6_layTrial_29
set_option maxHeartbeats 4000000 in
set_option maxRecDepth 100000 in
theorem ctX6_layTrial (l : Launch) (g : hj_G) {ad : Nat → Nat} (hI : hj_I 13 ad) {τ : hj_Ob} {sd : Int64} {τF : hj_Ob} (hf : fX6_layTrial τ sd = some τF) :
    hj_MV l yX6_layTrial wsX6_layTrial rmX6_layTrial g 13 ad hj_X0 [.ref (ad 0)] (hj_wm g ad τ sd) (hj_wm g ad τF sd) := by
  refine hj_ofV (cc := cX6_layTrial) (maxL := 2) (ret := none) (by decide) rfl (Nat.le_of_ble_eq_true rfl) ?_
  intro p e s m args below meth c ls C hP hK hX hl
  exact wX6_layTrial hI C hK hf hP va_S.rf hl

/-! X6_ahead -/
abbrev rmX6_ahead : Room := { frames := 3, cells := 0, slots := 0, locals := 75 }
theorem mX6_ahead_1 : Cond.constantLong RX6 66 (9) ∈ wsX6_ahead := List.mem_of_getElem? (i := 1) rfl
theorem iX6_ahead_X6 : ∀ w ∈ wsX60, w ∈ wsX6_ahead := fun _ h => List.mem_cons_of_mem _ (List.mem_append_right _ h)
theorem mX6_ahead_2 : Cond.fieldLink RX6 16 "HungryJuryModel" "now" "[I" ∈ wsX6_ahead := List.mem_of_getElem? (i := 2) rfl
def fX6_ahead_21 (τ : hj_Ob) (sd : Int64) (x1 : Int32) (x2 : Int32) : Option (hj_Ob ⊕ (Int32 × hj_Ob)) :=
  if x1 ≤ x2 then (some (.inl τ)) else (hj_o2 (fX6_passOn τ sd 1) fun r5 τ6 => hj_nm (x2 + 1) fun y7 => some (.inr (y7, τ6)))
set_option maxHeartbeats 4000000 in
set_option maxRecDepth 100000 in
theorem wX6_ahead_21b {p : Program} {l : Launch} {e : Env} {s : State} {m : MethodId} {args : Array Value} {below : List Frame} {meth : Method} {c : Code} {g : hj_G} {ad : Nat → Nat} (hI : hj_I 13 ad) (C : hj_C p s m args meth c cX6_ahead RX6 wsX6_ahead 3 (some .int)) (hK : hj_K g s) {τ : hj_Ob} {sd : Int64} {x1 : Int32} {x2 : Int32} {y : hj_Ob ⊕ (Int32 × hj_Ob)} {rF : Int32} {τF : hj_Ob}
    (hf : fX6_ahead_21 τ sd x1 x2 = some y) (KX : ∀ (τ' : hj_Ob), y = .inl τ' → ∀ (H : Heap) (locs : List Loc) (ls : Array Slot), hj_P g 13 ad (hj_wm g ad τ' sd) H → hj_S 13 ad s H locs → lv_has ls 3 [(0, .ref (ad 0))] → W p l e rmX6_ahead s m args below meth c H locs 0 0 (MQ below (hj_QI g 13 ad (hj_wm g ad τF sd) rF s.heap.size) args s 0 0 (hj_A 13 ad s.heap.size)) (F0 m 38 ls [])) (KI : ∀ (v2 : Int32) (τ' : hj_Ob), y = .inr (v2, τ') → ∀ (H : Heap) (locs : List Loc) (ls : Array Slot), hj_P g 13 ad (hj_wm g ad τ' sd) H → hj_S 13 ad s H locs → lv_has ls 3 [(0, .ref (ad 0)), (1, .int x1), (2, .int v2)] → W p l e rmX6_ahead s m args below meth c H locs 0 0 (MQ below (hj_QI g 13 ad (hj_wm g ad τF sd) rF s.heap.size) args s 0 0 (hj_A 13 ad s.heap.size)) (F0 m 21 ls [])) {H : Heap} {locs : List Loc} {ls : Array Slot} (hP : hj_P g 13 ad (hj_wm g ad τ sd) H) (hS : hj_S 13 ad s H locs) (hl : lv_has ls 3 [(0, .ref (ad 0)), (1, .int x1), (2, .int x2)]) :
    W p l e rmX6_ahead s m args below meth c H locs 0 0 (MQ below (hj_QI g 13 ad (hj_wm g ad τF sd) rF s.heap.size) args s 0 0 (hj_A 13 ad s.heap.size)) (F0 m 21 ls []) := by
  obtain ⟨hx, hb, hr, hml, hown, hts, hlocks⟩ := id C
  unfold fX6_ahead_21 at hf
  refine lv_iload_n hx hb dX6_ahead_21 rfl (lv_at hl 2 rfl) ?_
  refine lv_iload_n hx hb dX6_ahead_22 rfl (lv_at hl 1 rfl) ?_
  refine lv_icmp_ge (tgt := 38) hx hb dX6_ahead_23 (by decide) (fun c4 => ?_) (fun c4 => ?_)
  · rw [if_pos c4] at hf
    exact KX _ (Option.some.inj hf).symm _ _ _ hP hS (lv_sub hl [0] rfl)
  · rw [if_neg c4] at hf
    refine lv_aload_n hx hb dX6_ahead_26 rfl (lv_at hl 0 rfl) ?_
    refine lv_iconst (v := 1) hx hb dX6_ahead_27 (by decide) ?_
    obtain ⟨r5, τ6, hc, hf⟩ := hj_o2_s hf
    refine hj_callVi (nL := 3) (As := [.int 1]) (rest := []) (i0 := 0) (C := RX6) (T := TX6) (N := 24) (ci := 6) ⟨hx, hb, hml, hown, hts⟩ (ctX6_passOn l g hI hc) (cwV 1 hts gX6_ahead_X6_passOn rfl rfl rfl (by decide +kernel) ⟨Nat.le_of_ble_eq_true rfl, Nat.le_of_ble_eq_true rfl⟩) hj_Xb0 (fun _ _ _ => trivial) hK hP hS (by decide) rfl rfl rfl hl.1 rfl (Nat.le_of_ble_eq_true rfl) dX6_ahead_28 (fun H locs hP hS => ?_)
    refine lv_pop hx hb dX6_ahead_31 rfl ?_
    obtain ⟨y7, ey7⟩ : ∃ z : Int32, z = x2 + 1 := ⟨_, rfl⟩
    replace hf := hj_nm_y hf ey7
    refine lv_iinc (v := y7) (lv' := [(2, .int y7), (0, .ref (ad 0)), (1, .int x1)]) hx hb dX6_ahead_32 hl (k := 2) rfl (by rw [ey7]; rfl) (by decide) rfl (fun ls hl => ?_)
    refine lv_goto (tgt := 21) hx hb dX6_ahead_35 (by decide) ?_
    exact KI _ _ (Option.some.inj hf).symm _ _ _ hP hS (lv_sub hl [1, 2, 0] rfl)
set_option maxHeartbeats 4000000 in
set_option maxRecDepth 100000 in
theorem wX6_ahead_21 {p : Program} {l : Launch} {e : Env} {s : State} {m : MethodId} {args : Array Value} {below : List Frame} {meth : Method} {c : Code} {g : hj_G} {ad : Nat → Nat} (hI : hj_I 13 ad) (C : hj_C p s m args meth c cX6_ahead RX6 wsX6_ahead 3 (some .int)) (hK : hj_K g s) {sd : Int64} {x1 : Int32} {rF : Int32} {τF : hj_Ob} {τe : hj_Ob} :
    ∀ (fu : Nat) (x2 : Int32) (τ : hj_Ob), hj_lp (fun q : (Int32 × hj_Ob) => fX6_ahead_21 q.2 sd x1 q.1) fu (x2, τ) = some τe → (∀ (H : Heap) (locs : List Loc) (ls : Array Slot), hj_P g 13 ad (hj_wm g ad τe sd) H → hj_S 13 ad s H locs → lv_has ls 3 [(0, .ref (ad 0))] → W p l e rmX6_ahead s m args below meth c H locs 0 0 (MQ below (hj_QI g 13 ad (hj_wm g ad τF sd) rF s.heap.size) args s 0 0 (hj_A 13 ad s.heap.size)) (F0 m 38 ls [])) → ∀ (H : Heap) (locs : List Loc) (ls : Array Slot), hj_P g 13 ad (hj_wm g ad τ sd) H → hj_S 13 ad s H locs → lv_has ls 3 [(0, .ref (ad 0)), (1, .int x1), (2, .int x2)] →
    W p l e rmX6_ahead s m args below meth c H locs 0 0 (MQ below (hj_QI g 13 ad (hj_wm g ad τF sd) rF s.heap.size) args s 0 0 (hj_A 13 ad s.heap.size)) (F0 m 21 ls []) := by
  intro fu
  induction fu with
  | zero => intro x2 τ hq; cases hq
  | succ fu ih =>
    intro x2 τ hq KX H locs ls hP hS hl
    obtain ⟨y, hy, h1, h2⟩ := hj_lp_s hq
    exact wX6_ahead_21b hI C hK  hy (fun τ' hv H locs ls hP hS hl => by obtain rfl := h1 _ hv; exact KX H locs ls hP hS hl) (fun v2 τ' hv H locs ls hP hS hl => ih v2 τ' (h2 _ hv) KX H locs ls hP hS hl) hP hS hl
def fX6_ahead (τ : hj_Ob) (sd : Int64) (x1 : Int32) : Option (Int32 × hj_Ob) :=
  hj_o1 (fX6_in x1.toInt64 0 9) fun r1 => if r1 = 0 then (some ((-2), τ)) else (hj_o1 (fX6_layTrial τ sd) fun τ3 => hj_o1 (hj_lp (fun q : (Int32 × hj_Ob) => fX6_ahead_21 q.2 sd x1 q.1) 100 (0, τ3)) fun τ8 => (hj_ck (15 : Int32) 30 (hj_ck (16 : Int32) 30 (some ((τ8.2 4 (15 : Int32).toNatClampNeg) &&& (τ8.2 4 (16 : Int32).toNatClampNeg), τ8)))))
set_option maxHeartbeats 4000000 in
set_option maxRecDepth 100000 in
theorem wX6_ahead {p : Program} {l : Launch} {e : Env} {s : State} {m : MethodId} {args : Array Value} {below : List Frame} {meth : Method} {c : Code} {g : hj_G} {ad : Nat → Nat} (hI : hj_I 13 ad) (C : hj_C p s m args meth c cX6_ahead RX6 wsX6_ahead 3 (some .int)) (hK : hj_K g s) {τ : hj_Ob} {sd : Int64} {x1 : Int32} {rF : Int32} {τF : hj_Ob}
    (hf : fX6_ahead τ sd x1 = some (rF, τF)) {H : Heap} {locs : List Loc} {ls : Array Slot} (hP : hj_P g 13 ad (hj_wm g ad τ sd) H) (hS : hj_S 13 ad s H locs) (hl : lv_has ls 3 [(0, .ref (ad 0)), (1, .int x1)]) :
    W p l e rmX6_ahead s m args below meth c H locs 0 0 (MQ below (hj_QI g 13 ad (hj_wm g ad τF sd) rF s.heap.size) args s 0 0 (hj_A 13 ad s.heap.size)) (F0 m 0 ls []) := by
  obtain ⟨hx, hb, hr, hml, hown, hts, hlocks⟩ := id C
  unfold fX6_ahead at hf
  refine lv_iload_n hx hb dX6_ahead_0 rfl (lv_at hl 1 rfl) ?_
  refine lv_i2l (v := x1.toInt64) hx hb dX6_ahead_1 rfl ?_
  refine lv_lconst (v := 0) hx hb dX6_ahead_2 (by decide) ?_
  refine lv_ldc2 hx hb hown (hts _ mX6_ahead_1) dX6_ahead_3 ?_
  obtain ⟨r1, hc, hf⟩ := hj_o1_s hf
  refine hj_callSi (nL := 3) (As := [.long x1.toInt64, .long 0, .long 9]) (rest := []) ⟨hx, hb, hml, hown, hts⟩ (ctX6_in l g (n := 13) (ad := ad) (w := (hj_wm g ad τ sd)) hc) (va_cwS 3 hts gX6_ahead_X6_in rfl rfl rfl (by decide +kernel) ⟨Nat.le_of_ble_eq_true rfl, Nat.le_of_ble_eq_true rfl⟩) hj_Xb0 (fun _ _ _ => trivial) hK hP hS rfl hl.1 rfl (Nat.le_of_ble_eq_true rfl) dX6_ahead_6 (fun H locs hP hS => ?_)
  refine lv_if_ne (tgt := 15) hx hb dX6_ahead_9 (by decide) (fun c2 => ?_) (fun c2 => ?_)
  · rw [if_neg c2] at hf
    refine lv_aload_n hx hb dX6_ahead_15 rfl (lv_at hl 0 rfl) ?_
    obtain ⟨τ3, hc, hf⟩ := hj_o1_s hf
    refine hj_callVv (nL := 3) (As := []) (rest := []) (i0 := 0) (C := RX6) (T := TX6) (N := 24) (ci := 6) ⟨hx, hb, hml, hown, hts⟩ (ctX6_layTrial l g hI hc) (cwV 0 hts gX6_ahead_X6_layTrial rfl rfl rfl (by decide +kernel) ⟨Nat.le_of_ble_eq_true rfl, Nat.le_of_ble_eq_true rfl⟩) hj_Xb0 (fun _ _ _ => trivial) hK hP hS (by decide) rfl rfl rfl hl.1 rfl (Nat.le_of_ble_eq_true rfl) dX6_ahead_16 (fun H locs hP hS => ?_)
    refine lv_iconst (v := 0) hx hb dX6_ahead_19 (by decide) ?_
    refine lv_istore_n (lv' := [(2, .int 0), (0, .ref (ad 0)), (1, .int x1)]) hx hb dX6_ahead_20 rfl hl (by decide) rfl (fun ls hl => ?_)
    obtain ⟨τ8, hlx, hf⟩ := hj_o1_s hf
    refine wX6_ahead_21 hI C hK  100 0 τ3 hlx (fun H locs ls hP hS hl => ?_) H locs ls hP hS (lv_sub hl [1, 2, 0] rfl)
    refine lv_aload_n hx hb dX6_ahead_38 rfl (lv_at hl 0 rfl) ?_
    refine hj_get (ci := 6) (v := .ref (ad 3)) (C := RX6) (T := TX6) (N := 24) hx hb hts iX6_ahead_X6 hown hK hP (by decide) rfl rfl 4 (by decide) mX6_ahead_2 rfl dX6_ahead_39 ?_
    refine lv_bipush (v := 15) hx hb dX6_ahead_42 (by decide) ?_
    obtain ⟨hk9, hf⟩ := hj_ck_s hf
    refine hj_ial (f := τ8.2 4) hx hb hK hP (by decide) rfl hk9 dX6_ahead_44 ?_
    refine lv_aload_n hx hb dX6_ahead_45 rfl (lv_at hl 0 rfl) ?_
    refine hj_get (ci := 6) (v := .ref (ad 3)) (C := RX6) (T := TX6) (N := 24) hx hb hts iX6_ahead_X6 hown hK hP (by decide) rfl rfl 4 (by decide) mX6_ahead_2 rfl dX6_ahead_46 ?_
    refine lv_bipush (v := 16) hx hb dX6_ahead_49 (by decide) ?_
    obtain ⟨hk10, hf⟩ := hj_ck_s hf
    refine hj_ial (f := τ8.2 4) hx hb hK hP (by decide) rfl hk10 dX6_ahead_51 ?_
    refine lv_iand hx hb dX6_ahead_52 ?_
    have hq := Option.some.inj hf
    obtain ⟨rfl, rfl⟩ := Prod.mk.inj hq
    exact hj_reti C hP hK hS dX6_ahead_53
  · rw [if_pos c2] at hf
    refine lv_bipush (v := (-2)) hx hb dX6_ahead_12 (by decide) ?_
    have hq := Option.some.inj hf
    obtain ⟨rfl, rfl⟩ := Prod.mk.inj hq
    exact hj_reti C hP hK hS dX6_ahead_14
set_option maxHeartbeats 4000000 in
set_option maxRecDepth 100000 in
theorem ctX6_ahead (l : Launch) (g : hj_G) {ad : Nat → Nat} (hI : hj_I 13 ad) {τ : hj_Ob} {sd : Int64} {x1 : Int32} {rF : Int32} {τF : hj_Ob} (hf : fX6_ahead τ sd x1 = some (rF, τF)) :
    hj_MI l yX6_ahead wsX6_ahead rmX6_ahead g 13 ad hj_X0 [.ref (ad 0), .int x1] (hj_wm g ad τ sd) rF (hj_wm g ad τF sd) := by
  refine hj_ofI (cc := cX6_ahead) (maxL := 3) (ret := (some .int)) (by decide) rfl (Nat.le_of_ble_eq_true rfl) ?_
  intro p e s m args below meth c ls C hP hK hX hl
  exact wX6_ahead hI C hK hf hP va_S.rf hl

/-! X6_runTrial -/
abbrev rmX6_runTrial : Room := { frames := 3, cells := 0, slots := 0, locals := 75 }
theorem iX6_runTrial_X6 : ∀ w ∈ wsX60, w ∈ wsX6_runTrial := fun _ h => List.mem_cons_of_mem _ (List.mem_append_right _ h)
theorem mX6_runTrial_1 : Cond.fieldLink RX6 143 "HungryJuryModel" "endIn" "I" ∈ wsX6_runTrial := List.mem_of_getElem? (i := 1) rfl
def fX6_runTrial_2 (τ : hj_Ob) (sd : Int64) (x1 : Int32) : Option (((Int32 × hj_Ob) ⊕ hj_Ob) ⊕ (Int32 × hj_Ob)) :=
  if 20 < x1 then (some (.inl (.inr τ))) else (hj_o1 (fX6_verdict τ sd 1) fun r2 => if r2 = 9 then (hj_o2 (fX6_passOn τ sd 1) fun r4 τ5 => hj_nm (x1 + 1) fun y6 => some (.inr (y6, τ5))) else (hj_nm (hj_s τ 16 x1) fun τ7 => hj_o1 (fX6_verdict τ7 sd 1) fun r8 => some (.inl (.inl (r8, τ7)))))
set_option maxHeartbeats 4000000 in
set_option maxRecDepth 100000 in
theorem wX6_runTrial_2b {p : Program} {l : Launch} {e : Env} {s : State} {m : MethodId} {args : Array Value} {below : List Frame} {meth : Method} {c : Code} {g : hj_G} {ad : Nat → Nat} (hI : hj_I 13 ad) (C : hj_C p s m args meth c cX6_runTrial RX6 wsX6_runTrial 2 (some .int)) (hK : hj_K g s) {τ : hj_Ob} {sd : Int64} {x1 : Int32} {y : ((Int32 × hj_Ob) ⊕ hj_Ob) ⊕ (Int32 × hj_Ob)} {rF : Int32} {τF : hj_Ob}
    (hf : fX6_runTrial_2 τ sd x1 = some y) (KR : ∀ r, y = .inl (.inl r) → r = (rF, τF)) (KX : ∀ (τ' : hj_Ob), y = .inl (.inr τ') → ∀ (H : Heap) (locs : List Loc) (ls : Array Slot), hj_P g 13 ad (hj_wm g ad τ' sd) H → hj_S 13 ad s H locs → lv_has ls 2 [(0, .ref (ad 0))] → W p l e rmX6_runTrial s m args below meth c H locs 0 0 (MQ below (hj_QI g 13 ad (hj_wm g ad τF sd) rF s.heap.size) args s 0 0 (hj_A 13 ad s.heap.size)) (F0 m 41 ls [])) (KI : ∀ (v1 : Int32) (τ' : hj_Ob), y = .inr (v1, τ') → ∀ (H : Heap) (locs : List Loc) (ls : Array Slot), hj_P g 13 ad (hj_wm g ad τ' sd) H → hj_S 13 ad s H locs → lv_has ls 2 [(0, .ref (ad 0)), (1, .int v1)] → W p l e rmX6_runTrial s m args below meth c H locs 0 0 (MQ below (hj_QI g 13 ad (hj_wm g ad τF sd) rF s.heap.size) args s 0 0 (hj_A 13 ad s.heap.size)) (F0 m 2 ls [])) {H : Heap} {locs : List Loc} {ls : Array Slot} (hP : hj_P g 13 ad (hj_wm g ad τ sd) H) (hS : hj_S 13 ad s H locs) (hl : lv_has ls 2 [(0, .ref (ad 0)), (1, .int x1)]) :
    W p l e rmX6_runTrial s m args below meth c H locs 0 0 (MQ below (hj_QI g 13 ad (hj_wm g ad τF sd) rF s.heap.size) args s 0 0 (hj_A 13 ad s.heap.size)) (F0 m 2 ls []) := by
  obtain ⟨hx, hb, hr, hml, hown, hts, hlocks⟩ := id C
  unfold fX6_runTrial_2 at hf
  refine lv_iload_n hx hb dX6_runTrial_2 rfl (lv_at hl 1 rfl) ?_
  refine lv_bipush (v := 20) hx hb dX6_runTrial_3 (by decide) ?_
  refine lv_icmp_gt (tgt := 41) hx hb dX6_runTrial_5 (by decide) (fun c1 => ?_) (fun c1 => ?_)
  · rw [if_pos c1] at hf
    exact KX _ (Option.some.inj hf).symm _ _ _ hP hS (lv_sub hl [0] rfl)
  · rw [if_neg c1] at hf
    refine lv_aload_n hx hb dX6_runTrial_8 rfl (lv_at hl 0 rfl) ?_
    refine lv_iconst (v := 1) hx hb dX6_runTrial_9 (by decide) ?_
    obtain ⟨r2, hc, hf⟩ := hj_o1_s hf
    refine hj_callVi (nL := 2) (As := [.int 1]) (rest := []) (i0 := 0) (C := RX6) (T := TX6) (N := 24) (ci := 6) ⟨hx, hb, hml, hown, hts⟩ (ctX6_verdict l g hI hc) (cwV 1 hts gX6_runTrial_X6_verdict rfl rfl rfl (by decide +kernel) ⟨Nat.le_of_ble_eq_true rfl, Nat.le_of_ble_eq_true rfl⟩) hj_Xb0 (fun _ _ _ => trivial) hK hP hS (by decide) rfl rfl rfl hl.1 rfl (Nat.le_of_ble_eq_true rfl) dX6_runTrial_10 (fun H locs hP hS => ?_)
    refine lv_bipush (v := 9) hx hb dX6_runTrial_13 (by decide) ?_
    refine lv_icmp_eq (tgt := 29) hx hb dX6_runTrial_15 (by decide) (fun c3 => ?_) (fun c3 => ?_)
    · rw [if_pos c3] at hf
      refine lv_aload_n hx hb dX6_runTrial_29 rfl (lv_at hl 0 rfl) ?_
      refine lv_iconst (v := 1) hx hb dX6_runTrial_30 (by decide) ?_
      obtain ⟨r4, τ5, hc, hf⟩ := hj_o2_s hf
      refine hj_callVi (nL := 2) (As := [.int 1]) (rest := []) (i0 := 0) (C := RX6) (T := TX6) (N := 24) (ci := 6) ⟨hx, hb, hml, hown, hts⟩ (ctX6_passOn l g hI hc) (cwV 1 hts gX6_runTrial_X6_passOn rfl rfl rfl (by decide +kernel) ⟨Nat.le_of_ble_eq_true rfl, Nat.le_of_ble_eq_true rfl⟩) hj_Xb0 (fun _ _ _ => trivial) hK hP hS (by decide) rfl rfl rfl hl.1 rfl (Nat.le_of_ble_eq_true rfl) dX6_runTrial_31 (fun H locs hP hS => ?_)
      refine lv_pop hx hb dX6_runTrial_34 rfl ?_
      obtain ⟨y6, ey6⟩ : ∃ z : Int32, z = x1 + 1 := ⟨_, rfl⟩
      replace hf := hj_nm_y hf ey6
      refine lv_iinc (v := y6) (lv' := [(1, .int y6), (0, .ref (ad 0))]) hx hb dX6_runTrial_35 hl (k := 1) rfl (by rw [ey6]; rfl) (by decide) rfl (fun ls hl => ?_)
      refine lv_goto (tgt := 2) hx hb dX6_runTrial_38 (by decide) ?_
      exact KI _ _ (Option.some.inj hf).symm _ _ _ hP hS (lv_sub hl [1, 0] rfl)
    · rw [if_neg c3] at hf
      refine lv_aload_n hx hb dX6_runTrial_18 rfl (lv_at hl 0 rfl) ?_
      refine lv_iload_n hx hb dX6_runTrial_19 rfl (lv_at hl 1 rfl) ?_
      refine hj_put (ci := 6) (v := .int x1) (C := RX6) (T := TX6) (N := 24) hx hb hts iX6_runTrial_X6 tyX6 tyX6_ok nmX6 hown hK hI hP hS (by decide) rfl rfl 16 (by decide) mX6_runTrial_1 rfl rfl rfl (Nat.le_of_ble_eq_true rfl) dX6_runTrial_20 (wm_s (τ := τ) (k := 16) (v := x1) rfl) (fun H locs hP hS => ?_)
      obtain ⟨τ7, eτ7⟩ : ∃ z : hj_Ob, z = hj_s τ 16 x1 := ⟨_, rfl⟩
      replace hf := hj_nm_y hf eτ7
      rw [← eτ7] at hP
      refine lv_aload_n hx hb dX6_runTrial_23 rfl (lv_at hl 0 rfl) ?_
      refine lv_iconst (v := 1) hx hb dX6_runTrial_24 (by decide) ?_
      obtain ⟨r8, hc, hf⟩ := hj_o1_s hf
      refine hj_callVi (nL := 2) (As := [.int 1]) (rest := []) (i0 := 0) (C := RX6) (T := TX6) (N := 24) (ci := 6) ⟨hx, hb, hml, hown, hts⟩ (ctX6_verdict l g hI hc) (cwV 1 hts gX6_runTrial_X6_verdict rfl rfl rfl (by decide +kernel) ⟨Nat.le_of_ble_eq_true rfl, Nat.le_of_ble_eq_true rfl⟩) hj_Xb0 (fun _ _ _ => trivial) hK hP hS (by decide) rfl rfl rfl hl.1 rfl (Nat.le_of_ble_eq_true rfl) dX6_runTrial_25 (fun H locs hP hS => ?_)
      have hq := KR _ (Option.some.inj hf).symm
      obtain ⟨rfl, rfl⟩ := Prod.mk.inj hq
      exact hj_reti C hP hK hS dX6_runTrial_28
set_option maxHeartbeats 4000000 in
set_option maxRecDepth 100000 in
theorem wX6_runTrial_2 {p : Program} {l : Launch} {e : Env} {s : State} {m : MethodId} {args : Array Value} {below : List Frame} {meth : Method} {c : Code} {g : hj_G} {ad : Nat → Nat} (hI : hj_I 13 ad) (C : hj_C p s m args meth c cX6_runTrial RX6 wsX6_runTrial 2 (some .int)) (hK : hj_K g s) {sd : Int64} {rF : Int32} {τF : hj_Ob} {ex : ((Int32 × hj_Ob) ⊕ hj_Ob)} :
    ∀ (fu : Nat) (x1 : Int32) (τ : hj_Ob), hj_lp (fun q : (Int32 × hj_Ob) => fX6_runTrial_2 q.2 sd q.1) fu (x1, τ) = some ex → (∀ r, ex = .inl r → r = (rF, τF)) → (∀ (τ' : hj_Ob), ex = .inr τ' → ∀ (H : Heap) (locs : List Loc) (ls : Array Slot), hj_P g 13 ad (hj_wm g ad τ' sd) H → hj_S 13 ad s H locs → lv_has ls 2 [(0, .ref (ad 0))] → W p l e rmX6_runTrial s m args below meth c H locs 0 0 (MQ below (hj_QI g 13 ad (hj_wm g ad τF sd) rF s.heap.size) args s 0 0 (hj_A 13 ad s.heap.size)) (F0 m 41 ls [])) → ∀ (H : Heap) (locs : List Loc) (ls : Array Slot), hj_P g 13 ad (hj_wm g ad τ sd) H → hj_S 13 ad s H locs → lv_has ls 2 [(0, .ref (ad 0)), (1, .int x1)] →
    W p l e rmX6_runTrial s m args below meth c H locs 0 0 (MQ below (hj_QI g 13 ad (hj_wm g ad τF sd) rF s.heap.size) args s 0 0 (hj_A 13 ad s.heap.size)) (F0 m 2 ls []) := by
  intro fu
  induction fu with
  | zero => intro x1 τ hq; cases hq
  | succ fu ih =>
    intro x1 τ hq KR KX H locs ls hP hS hl
    obtain ⟨y, hy, h1, h2⟩ := hj_lp_s hq
    exact wX6_runTrial_2b hI C hK  hy (fun r hr => KR r (h1 _ hr).symm) (fun τ' hv => KX τ' (h1 _ hv).symm) (fun v1 τ' hv H locs ls hP hS hl => ih v1 τ' (h2 _ hv) KR KX H locs ls hP hS hl) hP hS hl
def fX6_runTrial (τ : hj_Ob) (sd : Int64) : Option (Int32 × hj_Ob) :=
  hj_oe (fun r => r) (hj_lp (fun q : (Int32 × hj_Ob) => fX6_runTrial_2 q.2 sd q.1) 100 (0, τ)) (fun ex10 => hj_nm ex10 fun τ9 => hj_nm (hj_s τ9 16 (-9)) fun τ11 => some (9, τ11))
set_option maxHeartbeats 4000000 in
set_option maxRecDepth 100000 in
theorem wX6_runTrial {p : Program} {l : Launch} {e : Env} {s : State} {m : MethodId} {args : Array Value} {below : List Frame} {meth : Method} {c : Code} {g : hj_G} {ad : Nat → Nat} (hI : hj_I 13 ad) (C : hj_C p s m args meth c cX6_runTrial RX6 wsX6_runTrial 2 (some .int)) (hK : hj_K g s) {τ : hj_Ob} {sd : Int64} {rF : Int32} {τF : hj_Ob}
    (hf : fX6_runTrial τ sd = some (rF, τF)) {H : Heap} {locs : List Loc} {ls : Array Slot} (hP : hj_P g 13 ad (hj_wm g ad τ sd) H) (hS : hj_S 13 ad s H locs) (hl : lv_has ls 2 [(0, .ref (ad 0))]) :
    W p l e rmX6_runTrial s m args below meth c H locs 0 0 (MQ below (hj_QI g 13 ad (hj_wm g ad τF sd) rF s.heap.size) args s 0 0 (hj_A 13 ad s.heap.size)) (F0 m 0 ls []) := by
  obtain ⟨hx, hb, hr, hml, hown, hts, hlocks⟩ := id C
  unfold fX6_runTrial at hf
  refine lv_iconst (v := 0) hx hb dX6_runTrial_0 (by decide) ?_
  refine lv_istore_n (lv' := [(1, .int 0), (0, .ref (ad 0))]) hx hb dX6_runTrial_1 rfl hl (by decide) rfl (fun ls hl => ?_)
  obtain ⟨exx, hlx, hlr, hfx⟩ := hj_oe_s hf
  refine wX6_runTrial_2 hI C hK  100 0 τ hlx hlr (fun τ9 hxe H locs ls hP hS hl => ?_) H locs ls hP hS (lv_sub hl [1, 0] rfl)
  replace hf := hfx _ hxe
  replace hf := hj_nm_y (y := τ9) hf rfl
  refine lv_aload_n hx hb dX6_runTrial_41 rfl (lv_at hl 0 rfl) ?_
  refine lv_bipush (v := (-9)) hx hb dX6_runTrial_42 (by decide) ?_
  refine hj_put (ci := 6) (v := .int (-9)) (C := RX6) (T := TX6) (N := 24) hx hb hts iX6_runTrial_X6 tyX6 tyX6_ok nmX6 hown hK hI hP hS (by decide) rfl rfl 16 (by decide) mX6_runTrial_1 rfl rfl rfl (Nat.le_of_ble_eq_true rfl) dX6_runTrial_44 (wm_s (τ := τ9) (k := 16) (v := (-9)) rfl) (fun H locs hP hS => ?_)
  obtain ⟨τ11, eτ11⟩ : ∃ z : hj_Ob, z = hj_s τ9 16 (-9) := ⟨_, rfl⟩
  replace hf := hj_nm_y hf eτ11
  rw [← eτ11] at hP
  refine lv_bipush (v := 9) hx hb dX6_runTrial_47 (by decide) ?_
  have hq := Option.some.inj hf
  obtain ⟨rfl, rfl⟩ := Prod.mk.inj hq
  exact hj_reti C hP hK hS dX6_runTrial_49
set_option maxHeartbeats 4000000 in
set_option maxRecDepth 100000 in
theorem ctX6_runTrial (l : Launch) (g : hj_G) {ad : Nat → Nat} (hI : hj_I 13 ad) {τ : hj_Ob} {sd : Int64} {rF : Int32} {τF : hj_Ob} (hf : fX6_runTrial τ sd = some (rF, τF)) :
    hj_MI l yX6_runTrial wsX6_runTrial rmX6_runTrial g 13 ad hj_X0 [.ref (ad 0)] (hj_wm g ad τ sd) rF (hj_wm g ad τF sd) := by
  refine hj_ofI (cc := cX6_runTrial) (maxL := 2) (ret := (some .int)) (by decide) rfl (Nat.le_of_ble_eq_true rfl) ?_
  intro p e s m args below meth c ls C hP hK hX hl
  exact wX6_runTrial hI C hK hf hP va_S.rf hl

/-! X6_end -/
abbrev rmX6_end : Room := { frames := 4, cells := 0, slots := 0, locals := 96 }
theorem iX6_end_X6 : ∀ w ∈ wsX60, w ∈ wsX6_end := fun _ h => List.mem_cons_of_mem _ (List.mem_append_right _ h)
theorem mX6_end_1 : Cond.fieldLink RX6 143 "HungryJuryModel" "endIn" "I" ∈ wsX6_end := List.mem_of_getElem? (i := 1) rfl
def fX6_end (τ : hj_Ob) (sd : Int64) (x1 : Int32) : Option (Int32 × hj_Ob) :=
  hj_o1 (fX6_in x1.toInt64 0 1) fun r1 => if r1 = 0 then (some ((-2), τ)) else (hj_o1 (fX6_layTrial τ sd) fun τ3 => hj_o2 (fX6_runTrial τ3 sd) fun r4 τ5 => if x1 = 0 then (some (τ5.1 16, τ5)) else (if r4 = 9 then (some ((-9), τ5)) else (some (r4, τ5))))
set_option maxHeartbeats 4000000 in
set_option maxRecDepth 100000 in
theorem wX6_end {p : Program} {l : Launch} {e : Env} {s : State} {m : MethodId} {args : Array Value} {below : List Frame} {meth : Method} {c : Code} {g : hj_G} {ad : Nat → Nat} (hI : hj_I 13 ad) (C : hj_C p s m args meth c cX6_end RX6 wsX6_end 3 (some .int)) (hK : hj_K g s) {τ : hj_Ob} {sd : Int64} {x1 : Int32} {rF : Int32} {τF : hj_Ob}
    (hf : fX6_end τ sd x1 = some (rF, τF)) {H : Heap} {locs : List Loc} {ls : Array Slot} (hP : hj_P g 13 ad (hj_wm g ad τ sd) H) (hS : hj_S 13 ad s H locs) (hl : lv_has ls 3 [(0, .ref (ad 0)), (1, .int x1)]) :
    W p l e rmX6_end s m args below meth c H locs 0 0 (MQ below (hj_QI g 13 ad (hj_wm g ad τF sd) rF s.heap.size) args s 0 0 (hj_A 13 ad s.heap.size)) (F0 m 0 ls []) := by
  obtain ⟨hx, hb, hr, hml, hown, hts, hlocks⟩ := id C
  unfold fX6_end at hf
  refine lv_iload_n hx hb dX6_end_0 rfl (lv_at hl 1 rfl) ?_
  refine lv_i2l (v := x1.toInt64) hx hb dX6_end_1 rfl ?_
  refine lv_lconst (v := 0) hx hb dX6_end_2 (by decide) ?_
  refine lv_lconst (v := 1) hx hb dX6_end_3 (by decide) ?_
  obtain ⟨r1, hc, hf⟩ := hj_o1_s hf
  refine hj_callSi (nL := 3) (As := [.long x1.toInt64, .long 0, .long 1]) (rest := []) ⟨hx, hb, hml, hown, hts⟩ (ctX6_in l g (n := 13) (ad := ad) (w := (hj_wm g ad τ sd)) hc) (va_cwS 3 hts gX6_end_X6_in rfl rfl rfl (by decide +kernel) ⟨Nat.le_of_ble_eq_true rfl, Nat.le_of_ble_eq_true rfl⟩) hj_Xb0 (fun _ _ _ => trivial) hK hP hS rfl hl.1 rfl (Nat.le_of_ble_eq_true rfl) dX6_end_4 (fun H locs hP hS => ?_)
  refine lv_if_ne (tgt := 13) hx hb dX6_end_7 (by decide) (fun c2 => ?_) (fun c2 => ?_)
  · rw [if_neg c2] at hf
    refine lv_aload_n hx hb dX6_end_13 rfl (lv_at hl 0 rfl) ?_
    obtain ⟨τ3, hc, hf⟩ := hj_o1_s hf
    refine hj_callVv (nL := 3) (As := []) (rest := []) (i0 := 0) (C := RX6) (T := TX6) (N := 24) (ci := 6) ⟨hx, hb, hml, hown, hts⟩ (ctX6_layTrial l g hI hc) (cwV 0 hts gX6_end_X6_layTrial rfl rfl rfl (by decide +kernel) ⟨Nat.le_of_ble_eq_true rfl, Nat.le_of_ble_eq_true rfl⟩) hj_Xb0 (fun _ _ _ => trivial) hK hP hS (by decide) rfl rfl rfl hl.1 rfl (Nat.le_of_ble_eq_true rfl) dX6_end_14 (fun H locs hP hS => ?_)
    refine lv_aload_n hx hb dX6_end_17 rfl (lv_at hl 0 rfl) ?_
    obtain ⟨r4, τ5, hc, hf⟩ := hj_o2_s hf
    refine hj_callVi (nL := 3) (As := []) (rest := []) (i0 := 0) (C := RX6) (T := TX6) (N := 24) (ci := 6) ⟨hx, hb, hml, hown, hts⟩ (ctX6_runTrial l g hI hc) (cwV 0 hts gX6_end_X6_runTrial rfl rfl rfl (by decide +kernel) ⟨Nat.le_of_ble_eq_true rfl, Nat.le_of_ble_eq_true rfl⟩) hj_Xb0 (fun _ _ _ => trivial) hK hP hS (by decide) rfl rfl rfl hl.1 rfl (Nat.le_of_ble_eq_true rfl) dX6_end_18 (fun H locs hP hS => ?_)
    refine lv_istore_n (lv' := [(2, .int r4), (0, .ref (ad 0)), (1, .int x1)]) hx hb dX6_end_21 rfl hl (by decide) rfl (fun ls hl => ?_)
    refine lv_iload_n hx hb dX6_end_22 rfl (lv_at hl 2 rfl) ?_
    refine lv_if_ne (tgt := 33) hx hb dX6_end_23 (by decide) (fun c6 => ?_) (fun c6 => ?_)
    · rw [if_neg c6] at hf
      refine lv_iload_n hx hb dX6_end_33 rfl (lv_at hl 0 rfl) ?_
      refine lv_bipush (v := 9) hx hb dX6_end_34 (by decide) ?_
      refine lv_icmp_ne (tgt := 44) hx hb dX6_end_36 (by decide) (fun c7 => ?_) (fun c7 => ?_)
      · rw [if_neg c7] at hf
        refine lv_iload_n hx hb dX6_end_44 rfl (lv_at hl 0 rfl) ?_
        have hq := Option.some.inj hf
        obtain ⟨rfl, rfl⟩ := Prod.mk.inj hq
        exact hj_reti C hP hK hS dX6_end_45
      · rw [if_pos c7] at hf
        refine lv_bipush (v := (-9)) hx hb dX6_end_39 (by decide) ?_
        refine lv_goto (tgt := 45) hx hb dX6_end_41 (by decide) ?_
        have hq := Option.some.inj hf
        obtain ⟨rfl, rfl⟩ := Prod.mk.inj hq
        exact hj_reti C hP hK hS dX6_end_45
    · rw [if_pos c6] at hf
      refine lv_aload_n hx hb dX6_end_26 rfl (lv_at hl 1 rfl) ?_
      refine hj_get (ci := 6) (v := .int (τ5.1 16)) (C := RX6) (T := TX6) (N := 24) hx hb hts iX6_end_X6 hown hK hP (by decide) rfl rfl 16 (by decide) mX6_end_1 rfl dX6_end_27 ?_
      refine lv_goto (tgt := 45) hx hb dX6_end_30 (by decide) ?_
      have hq := Option.some.inj hf
      obtain ⟨rfl, rfl⟩ := Prod.mk.inj hq
      exact hj_reti C hP hK hS dX6_end_45
  · rw [if_pos c2] at hf
    refine lv_bipush (v := (-2)) hx hb dX6_end_10 (by decide) ?_
    have hq := Option.some.inj hf
    obtain ⟨rfl, rfl⟩ := Prod.mk.inj hq
    exact hj_reti C hP hK hS dX6_end_12
set_option maxHeartbeats 4000000 in
set_option maxRecDepth 100000 in
theorem ctX6_end (l : Launch) (g : hj_G) {ad : Nat → Nat} (hI : hj_I 13 ad) {τ : hj_Ob} {sd : Int64} {x1 : Int32} {rF : Int32} {τF : hj_Ob} (hf : fX6_end τ sd x1 = some (rF, τF)) :
    hj_MI l yX6_end wsX6_end rmX6_end g 13 ad hj_X0 [.ref (ad 0), .int x1] (hj_wm g ad τ sd) rF (hj_wm g ad τF sd) := by
  refine hj_ofI (cc := cX6_end) (maxL := 3) (ret := (some .int)) (by decide) rfl (Nat.le_of_ble_eq_true rfl) ?_
  intro p e s m args below meth c ls C hP hK hX hl
  exact wX6_end hI C hK hf hP va_S.rf hl
