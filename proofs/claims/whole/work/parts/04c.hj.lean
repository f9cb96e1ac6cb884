/-! X5_judge -/
abbrev rmX5_judge : Room := { frames := 4, cells := 0, slots := 0, locals := 90 }
theorem mX5_judge_1 : Cond.fieldLink RX5 155 "HungryJury" "HUNDREDS" "[I" ∈ wsX5_judge := List.mem_of_getElem? (i := 1) rfl
theorem iX5_judge_X5 : ∀ w ∈ wsX50, w ∈ wsX5_judge := fun _ h => List.mem_cons_of_mem _ (List.mem_append_left _ (List.mem_append_left _ (List.mem_append_right _ h)))
theorem mX5_judge_2 : Cond.fieldLink RX5 35 "HungryJury" "trial" "LHungryJury$Room;" ∈ wsX5_judge := List.mem_of_getElem? (i := 2) rfl
theorem mX5_judge_3 : Cond.fieldLink RX5 31 "HungryJury" "now" "LHungryJury$Room;" ∈ wsX5_judge := List.mem_of_getElem? (i := 3) rfl
def fX5_judge_39 (σ : Nat → hj_Ob) (bf : Nat → Nat) (sd : Int64) (x1 : Int32) (x2 : Int32) (x3 : Int32) : Option (((Int32 × (Nat → hj_Ob)) ⊕ (Nat → hj_Ob)) ⊕ (Int32 × (Nat → hj_Ob))) :=
  if x1 ≤ x3 then (some (.inl (.inr σ))) else (hj_ck ((x1 - 1) - x3) 5 (hj_nz (hs_H ((x1 - 1) - x3).toNatClampNeg) (hj_nm ((x2 / (hs_H ((x1 - 1) - x3).toNatClampNeg)) - (x2 / (hs_H ((x1 - 1) - x3).toNatClampNeg)) / 100 * 100) fun y11 => hj_nm (y11 / 10) fun y12 => hj_nm (y11 - y11 / 10 * 10) fun y13 => hj_o1 (fX2_canDo (σ 3) (σ 14) y12 y13) fun r14 => if r14 = 0 then (some (.inl (.inl (x3, σ)))) else (hj_o1 (fX2_carryOut (σ 3) (σ 14) y12 y13) fun ρ16 => hj_nm (va_up σ 14 ρ16) fun σ17 => hj_nm (x3 + 1) fun y18 => some (.inr (y18, σ17))))))
set_option maxHeartbeats 4000000 in
set_option maxRecDepth 100000 in
theorem wX5_judge_39b {p : Program} {l : Launch} {e : Env} {s : State} {m : MethodId} {args : Array Value} {below : List Frame} {meth : Method} {c : Code} {g : hj_G} {ad : Nat → Nat} (hI : hj_I 73 ad) (C : hj_C p s m args meth c cX5_judge RX5 wsX5_judge 7 (some .int)) (hK : hj_K g s) (hZ : hs_Z (hj_A 73 ad s.heap.size) s) {σ : Nat → hj_Ob} {bf : Nat → Nat} {sd : Int64} {x1 : Int32} {x2 : Int32} {x3 : Int32} {y : ((Int32 × (Nat → hj_Ob)) ⊕ (Nat → hj_Ob)) ⊕ (Int32 × (Nat → hj_Ob))} {rF : Int32} {σF : Nat → hj_Ob}
    (hf : fX5_judge_39 σ bf sd x1 x2 x3 = some y) (KR : ∀ r, y = .inl (.inl r) → r = (rF, σF)) (KX : ∀ (σ' : Nat → hj_Ob), y = .inl (.inr σ') → ∀ (H : Heap) (locs : List Loc) (ls : Array Slot), hj_P g 73 ad (hj_wx g ad σ' bf sd) H → hj_S 73 ad s H locs → lv_has ls 7 [] → W p l e rmX5_judge s m args below meth c H locs 0 0 (MQ below (hj_QI g 73 ad (hj_wx g ad σF bf sd) rF s.heap.size) args s 0 0 (hj_A 73 ad s.heap.size)) (F0 m 107 ls [])) (KI : ∀ (v3 : Int32) (σ' : Nat → hj_Ob), y = .inr (v3, σ') → ∀ (H : Heap) (locs : List Loc) (ls : Array Slot), hj_P g 73 ad (hj_wx g ad σ' bf sd) H → hj_S 73 ad s H locs → lv_has ls 7 [(0, .ref (ad 0)), (1, .int x1), (2, .int x2), (3, .int v3)] → W p l e rmX5_judge s m args below meth c H locs 0 0 (MQ below (hj_QI g 73 ad (hj_wx g ad σF bf sd) rF s.heap.size) args s 0 0 (hj_A 73 ad s.heap.size)) (F0 m 39 ls [])) {H : Heap} {locs : List Loc} {ls : Array Slot} (hP : hj_P g 73 ad (hj_wx g ad σ bf sd) H) (hS : hj_S 73 ad s H locs) (hl : lv_has ls 7 [(0, .ref (ad 0)), (1, .int x1), (2, .int x2), (3, .int x3)]) :
    W p l e rmX5_judge s m args below meth c H locs 0 0 (MQ below (hj_QI g 73 ad (hj_wx g ad σF bf sd) rF s.heap.size) args s 0 0 (hj_A 73 ad s.heap.size)) (F0 m 39 ls []) := by
  obtain ⟨hx, hb, hr, hml, hown, hts, hlocks⟩ := id C
  obtain ⟨t1, t2, hz1, hz2, hz3, hz4⟩ := id hZ
  unfold fX5_judge_39 at hf
  refine lv_iload_n hx hb dX5_judge_39 rfl (lv_at hl 3 rfl) ?_
  refine lv_iload_n hx hb dX5_judge_40 rfl (lv_at hl 1 rfl) ?_
  refine lv_icmp_ge (tgt := 107) hx hb dX5_judge_41 (by decide) (fun c8 => ?_) (fun c8 => ?_)
  · rw [if_pos c8] at hf
    exact KX _ (Option.some.inj hf).symm _ _ _ hP hS (lv_sub hl [] rfl)
  · rw [if_neg c8] at hf
    refine lv_iload_n hx hb dX5_judge_44 rfl (lv_at hl 2 rfl) ?_
    refine va_gets (C := "HungryJury") (n := "HUNDREDS") (d := "[I") (ref := "HungryJury") hx hb hz1 hS hown (hts _ mX5_judge_1) (fun _ h => h) dX5_judge_45 ?_
    refine lv_iload_n hx hb dX5_judge_48 rfl (lv_at hl 1 rfl) ?_
    refine lv_iconst (v := 1) hx hb dX5_judge_49 (by decide) ?_
    refine lv_isub hx hb dX5_judge_50 ?_
    refine lv_iload_n hx hb dX5_judge_51 rfl (lv_at hl 3 rfl) ?_
    refine lv_isub hx hb dX5_judge_52 ?_
    obtain ⟨hk9, hf⟩ := hj_ck_s hf
    refine va_ti hx hb hz2 hS hk9 rfl dX5_judge_53 ?_
    obtain ⟨hz10, hf⟩ := hj_nz_s hf
    refine lv_idiv hx hb dX5_judge_54 hz10 ?_
    refine lv_bipush (v := 100) hx hb dX5_judge_55 (by decide) ?_
    refine lv_irem hx hb dX5_judge_57 (by decide) ?_
    refine lv_topi (fun y11 ey11 => ?_)
    replace hf := hj_nm_y hf ey11
    refine lv_istore (lv' := [(4, .int y11), (0, .ref (ad 0)), (1, .int x1), (2, .int x2), (3, .int x3)]) hx hb dX5_judge_58 hl (by decide) rfl (fun ls hl => ?_)
    refine lv_iload hx hb dX5_judge_60 (lv_at hl 0 rfl) ?_
    refine lv_bipush (v := 10) hx hb dX5_judge_62 (by decide) ?_
    refine lv_idiv hx hb dX5_judge_64 (by decide) ?_
    refine lv_topi (fun y12 ey12 => ?_)
    replace hf := hj_nm_y hf ey12
    refine lv_istore (lv' := [(5, .int y12), (4, .int y11), (0, .ref (ad 0)), (1, .int x1), (2, .int x2), (3, .int x3)]) hx hb dX5_judge_65 hl (by decide) rfl (fun ls hl => ?_)
    refine lv_iload hx hb dX5_judge_67 (lv_at hl 1 rfl) ?_
    refine lv_bipush (v := 10) hx hb dX5_judge_69 (by decide) ?_
    refine lv_irem hx hb dX5_judge_71 (by decide) ?_
    refine lv_topi (fun y13 ey13 => ?_)
    replace hf := hj_nm_y hf ey13
    refine lv_istore (lv' := [(6, .int y13), (5, .int y12), (4, .int y11), (0, .ref (ad 0)), (1, .int x1), (2, .int x2), (3, .int x3)]) hx hb dX5_judge_72 hl (by decide) rfl (fun ls hl => ?_)
    refine lv_aload_n hx hb dX5_judge_74 rfl (lv_at hl 3 rfl) ?_
    refine hj_get (ci := 5) (v := .ref (ad 14)) (C := RX5) (T := TX5) (N := 10) hx hb hts iX5_judge_X5 hown hK hP (by decide) wx_at_h rfl 4 (by decide) mX5_judge_2 rfl dX5_judge_75 ?_
    refine lv_iload hx hb dX5_judge_78 (lv_at hl 1 rfl) ?_
    refine lv_iload hx hb dX5_judge_80 (lv_at hl 0 rfl) ?_
    obtain ⟨r14, hc, hf⟩ := hj_o1_s hf
    refine hj_callVi (nL := 7) (As := [.int y12, .int y13]) (rest := []) (i0 := 14) (C := RX2) (T := TX2) (N := 6) (ci := 2) ⟨hx, hb, hml, hown, hts⟩ (ctX2_canDo l g hI (σ := σ) (bf := bf) (sd := sd) wx_R_14 rfl rfl hc) (cwV 2 hts gX5_judge_X2_canDo rfl rfl rfl (by decide +kernel) ⟨Nat.le_of_ble_eq_true rfl, Nat.le_of_ble_eq_true rfl⟩) hj_Xb0 (fun _ _ _ => trivial) hK hP hS (by decide) (wx_at_r wx_R_14 rfl) rfl rfl hl.1 rfl (Nat.le_of_ble_eq_true rfl) dX5_judge_82 (fun H locs hP hS => ?_)
    refine lv_if_ne (tgt := 90) hx hb dX5_judge_85 (by decide) (fun c15 => ?_) (fun c15 => ?_)
    · rw [if_neg c15] at hf
      refine lv_aload_n hx hb dX5_judge_90 rfl (lv_at hl 3 rfl) ?_
      refine hj_get (ci := 5) (v := .ref (ad 14)) (C := RX5) (T := TX5) (N := 10) hx hb hts iX5_judge_X5 hown hK hP (by decide) wx_at_h rfl 4 (by decide) mX5_judge_2 rfl dX5_judge_91 ?_
      refine lv_iload hx hb dX5_judge_94 (lv_at hl 1 rfl) ?_
      refine lv_iload hx hb dX5_judge_96 (lv_at hl 0 rfl) ?_
      obtain ⟨ρ16, hc, hf⟩ := hj_o1_s hf
      refine hj_callVv (nL := 7) (As := [.int y12, .int y13]) (rest := []) (i0 := 14) (C := RX2) (T := TX2) (N := 6) (ci := 2) ⟨hx, hb, hml, hown, hts⟩ (ctX2_carryOut l g hI (σ := σ) (bf := bf) (sd := sd) wx_R_14 rfl rfl hc) (cwV 2 hts gX5_judge_X2_carryOut rfl rfl rfl (by decide +kernel) ⟨Nat.le_of_ble_eq_true rfl, Nat.le_of_ble_eq_true rfl⟩) hj_Xb0 (fun _ _ _ => trivial) hK hP hS (by decide) (wx_at_r wx_R_14 rfl) rfl rfl hl.1 rfl (Nat.le_of_ble_eq_true rfl) dX5_judge_98 (fun H locs hP hS => ?_)
      obtain ⟨σ17, eσ17⟩ : ∃ z : Nat → hj_Ob, z = va_up σ 14 ρ16 := ⟨_, rfl⟩
      replace hf := hj_nm_y hf eσ17
      rw [← eσ17] at hP
      obtain ⟨y18, ey18⟩ : ∃ z : Int32, z = x3 + 1 := ⟨_, rfl⟩
      replace hf := hj_nm_y hf ey18
      refine lv_iinc (v := y18) (lv' := [(3, .int y18), (6, .int y13), (5, .int y12), (4, .int y11), (0, .ref (ad 0)), (1, .int x1), (2, .int x2)]) hx hb dX5_judge_101 hl (k := 6) rfl (by rw [ey18]; rfl) (by decide) rfl (fun ls hl => ?_)
      refine lv_goto (tgt := 39) hx hb dX5_judge_104 (by decide) ?_
      exact KI _ _ (Option.some.inj hf).symm _ _ _ hP hS (lv_sub hl [4, 5, 6, 0] rfl)
    · rw [if_pos c15] at hf
      refine lv_iload_n hx hb dX5_judge_88 rfl (lv_at hl 6 rfl) ?_
      have hq := KR _ (Option.some.inj hf).symm
      obtain ⟨rfl, rfl⟩ := Prod.mk.inj hq
      exact hj_reti C hP hK hS dX5_judge_89
set_option maxHeartbeats 4000000 in
set_option maxRecDepth 100000 in
theorem wX5_judge_39 {p : Program} {l : Launch} {e : Env} {s : State} {m : MethodId} {args : Array Value} {below : List Frame} {meth : Method} {c : Code} {g : hj_G} {ad : Nat → Nat} (hI : hj_I 73 ad) (C : hj_C p s m args meth c cX5_judge RX5 wsX5_judge 7 (some .int)) (hK : hj_K g s) (hZ : hs_Z (hj_A 73 ad s.heap.size) s) {bf : Nat → Nat} {sd : Int64} {x1 : Int32} {x2 : Int32} {rF : Int32} {σF : Nat → hj_Ob} {ex : ((Int32 × (Nat → hj_Ob)) ⊕ (Nat → hj_Ob))} :
    ∀ (fu : Nat) (x3 : Int32) (σ : Nat → hj_Ob), hj_lp (fun q : (Int32 × (Nat → hj_Ob)) => fX5_judge_39 q.2 bf sd x1 x2 q.1) fu (x3, σ) = some ex → (∀ r, ex = .inl r → r = (rF, σF)) → (∀ (σ' : Nat → hj_Ob), ex = .inr σ' → ∀ (H : Heap) (locs : List Loc) (ls : Array Slot), hj_P g 73 ad (hj_wx g ad σ' bf sd) H → hj_S 73 ad s H locs → lv_has ls 7 [] → W p l e rmX5_judge s m args below meth c H locs 0 0 (MQ below (hj_QI g 73 ad (hj_wx g ad σF bf sd) rF s.heap.size) args s 0 0 (hj_A 73 ad s.heap.size)) (F0 m 107 ls [])) → ∀ (H : Heap) (locs : List Loc) (ls : Array Slot), hj_P g 73 ad (hj_wx g ad σ bf sd) H → hj_S 73 ad s H locs → lv_has ls 7 [(0, .ref (ad 0)), (1, .int x1), (2, .int x2), (3, .int x3)] →
    W p l e rmX5_judge s m args below meth c H locs 0 0 (MQ below (hj_QI g 73 ad (hj_wx g ad σF bf sd) rF s.heap.size) args s 0 0 (hj_A 73 ad s.heap.size)) (F0 m 39 ls []) := by
  intro fu
  induction fu with
  | zero => intro x3 σ hq; cases hq
  | succ fu ih =>
    intro x3 σ hq KR KX H locs ls hP hS hl
    obtain ⟨y, hy, h1, h2⟩ := hj_lp_s hq
    exact wX5_judge_39b hI C hK hZ  hy (fun r hr => KR r (h1 _ hr).symm) (fun σ' hv => KX σ' (h1 _ hv).symm) (fun v3 σ' hv H locs ls hP hS hl => ih v3 σ' (h2 _ hv) KR KX H locs ls hP hS hl) hP hS hl
def fX5_judge (σ : Nat → hj_Ob) (bf : Nat → Nat) (sd : Int64) (x1 : Int32) (x2 : Int32) : Option (Int32 × (Nat → hj_Ob)) :=
  if x1 < 1 then (some ((-2), σ)) else (if 4 < x1 then (some ((-2), σ)) else (if x2 < 0 then (some ((-2), σ)) else (hj_ck x1 5 (if x2 < (hs_H x1.toNatClampNeg) then (hj_o1 (fX2_copyFrom (σ 3) (σ 11) (σ 14)) fun ρ6 => hj_nm (va_up σ 14 ρ6) fun σ7 => hj_oe (fun r => r) (hj_lp (fun q : (Int32 × (Nat → hj_Ob)) => fX5_judge_39 q.2 bf sd x1 x2 q.1) 100 (0, σ7)) (fun ex20 => hj_nm ex20 fun σ19 => some ((-9), σ19))) else (some ((-2), σ))))))
set_option maxHeartbeats 4000000 in
set_option maxRecDepth 100000 in
theorem wX5_judge {p : Program} {l : Launch} {e : Env} {s : State} {m : MethodId} {args : Array Value} {below : List Frame} {meth : Method} {c : Code} {g : hj_G} {ad : Nat → Nat} (hI : hj_I 73 ad) (C : hj_C p s m args meth c cX5_judge RX5 wsX5_judge 7 (some .int)) (hK : hj_K g s) (hZ : hs_Z (hj_A 73 ad s.heap.size) s) {σ : Nat → hj_Ob} {bf : Nat → Nat} {sd : Int64} {x1 : Int32} {x2 : Int32} {rF : Int32} {σF : Nat → hj_Ob}
    (hf : fX5_judge σ bf sd x1 x2 = some (rF, σF)) {H : Heap} {locs : List Loc} {ls : Array Slot} (hP : hj_P g 73 ad (hj_wx g ad σ bf sd) H) (hS : hj_S 73 ad s H locs) (hl : lv_has ls 7 [(0, .ref (ad 0)), (1, .int x1), (2, .int x2)]) :
    W p l e rmX5_judge s m args below meth c H locs 0 0 (MQ below (hj_QI g 73 ad (hj_wx g ad σF bf sd) rF s.heap.size) args s 0 0 (hj_A 73 ad s.heap.size)) (F0 m 0 ls []) := by
  obtain ⟨hx, hb, hr, hml, hown, hts, hlocks⟩ := id C
  obtain ⟨t1, t2, hz1, hz2, hz3, hz4⟩ := id hZ
  unfold fX5_judge at hf
  refine lv_iload_n hx hb dX5_judge_0 rfl (lv_at hl 1 rfl) ?_
  refine lv_iconst (v := 1) hx hb dX5_judge_1 (by decide) ?_
  refine lv_icmp_lt (tgt := 23) hx hb dX5_judge_2 (by decide) (fun c1 => ?_) (fun c1 => ?_)
  · rw [if_pos c1] at hf
    refine lv_bipush (v := (-2)) hx hb dX5_judge_23 (by decide) ?_
    have hq := Option.some.inj hf
    obtain ⟨rfl, rfl⟩ := Prod.mk.inj hq
    exact hj_reti C hP hK hS dX5_judge_25
  · rw [if_neg c1] at hf
    refine lv_iload_n hx hb dX5_judge_5 rfl (lv_at hl 1 rfl) ?_
    refine lv_iconst (v := 4) hx hb dX5_judge_6 (by decide) ?_
    refine lv_icmp_gt (tgt := 23) hx hb dX5_judge_7 (by decide) (fun c2 => ?_) (fun c2 => ?_)
    · rw [if_pos c2] at hf
      refine lv_bipush (v := (-2)) hx hb dX5_judge_23 (by decide) ?_
      have hq := Option.some.inj hf
      obtain ⟨rfl, rfl⟩ := Prod.mk.inj hq
      exact hj_reti C hP hK hS dX5_judge_25
    · rw [if_neg c2] at hf
      refine lv_iload_n hx hb dX5_judge_10 rfl (lv_at hl 2 rfl) ?_
      refine lv_if_lt (tgt := 23) hx hb dX5_judge_11 (by decide) (fun c3 => ?_) (fun c3 => ?_)
      · rw [if_pos c3] at hf
        refine lv_bipush (v := (-2)) hx hb dX5_judge_23 (by decide) ?_
        have hq := Option.some.inj hf
        obtain ⟨rfl, rfl⟩ := Prod.mk.inj hq
        exact hj_reti C hP hK hS dX5_judge_25
      · rw [if_neg c3] at hf
        refine lv_iload_n hx hb dX5_judge_14 rfl (lv_at hl 2 rfl) ?_
        refine va_gets (C := "HungryJury") (n := "HUNDREDS") (d := "[I") (ref := "HungryJury") hx hb hz1 hS hown (hts _ mX5_judge_1) (fun _ h => h) dX5_judge_15 ?_
        refine lv_iload_n hx hb dX5_judge_18 rfl (lv_at hl 1 rfl) ?_
        obtain ⟨hk4, hf⟩ := hj_ck_s hf
        refine va_ti hx hb hz2 hS hk4 rfl dX5_judge_19 ?_
        refine lv_icmp_lt (tgt := 26) hx hb dX5_judge_20 (by decide) (fun c5 => ?_) (fun c5 => ?_)
        · rw [if_pos c5] at hf
          refine lv_aload_n hx hb dX5_judge_26 rfl (lv_at hl 0 rfl) ?_
          refine hj_get (ci := 5) (v := .ref (ad 14)) (C := RX5) (T := TX5) (N := 10) hx hb hts iX5_judge_X5 hown hK hP (by decide) wx_at_h rfl 4 (by decide) mX5_judge_2 rfl dX5_judge_27 ?_
          refine lv_aload_n hx hb dX5_judge_30 rfl (lv_at hl 0 rfl) ?_
          refine hj_get (ci := 5) (v := .ref (ad 11)) (C := RX5) (T := TX5) (N := 10) hx hb hts iX5_judge_X5 hown hK hP (by decide) wx_at_h rfl 3 (by decide) mX5_judge_3 rfl dX5_judge_31 ?_
          obtain ⟨ρ6, hc, hf⟩ := hj_o1_s hf
          refine hj_callVv (nL := 7) (As := [.ref (ad 11)]) (rest := []) (i0 := 14) (C := RX2) (T := TX2) (N := 6) (ci := 2) ⟨hx, hb, hml, hown, hts⟩ (ctX2_copyFrom l g hI (σ := σ) (bf := bf) (sd := sd) wx_R_14 rfl wx_R_11 (by decide) rfl rfl hc) (cwV 1 hts gX5_judge_X2_copyFrom rfl rfl rfl (by decide +kernel) ⟨Nat.le_of_ble_eq_true rfl, Nat.le_of_ble_eq_true rfl⟩) hj_Xb0 (fun _ _ _ => trivial) hK hP hS (by decide) (wx_at_r wx_R_14 rfl) rfl rfl hl.1 rfl (Nat.le_of_ble_eq_true rfl) dX5_judge_34 (fun H locs hP hS => ?_)
          obtain ⟨σ7, eσ7⟩ : ∃ z : Nat → hj_Ob, z = va_up σ 14 ρ6 := ⟨_, rfl⟩
          replace hf := hj_nm_y hf eσ7
          rw [← eσ7] at hP
          refine lv_iconst (v := 0) hx hb dX5_judge_37 (by decide) ?_
          refine lv_istore_n (lv' := [(3, .int 0), (0, .ref (ad 0)), (1, .int x1), (2, .int x2)]) hx hb dX5_judge_38 rfl hl (by decide) rfl (fun ls hl => ?_)
          obtain ⟨exx, hlx, hlr, hfx⟩ := hj_oe_s hf
          refine wX5_judge_39 hI C hK hZ  100 0 σ7 hlx hlr (fun σ19 hxe H locs ls hP hS hl => ?_) H locs ls hP hS (lv_sub hl [1, 2, 3, 0] rfl)
          replace hf := hfx _ hxe
          replace hf := hj_nm_y (y := σ19) hf rfl
          refine lv_bipush (v := (-9)) hx hb dX5_judge_107 (by decide) ?_
          have hq := Option.some.inj hf
          obtain ⟨rfl, rfl⟩ := Prod.mk.inj hq
          exact hj_reti C hP hK hS dX5_judge_109
        · rw [if_neg c5] at hf
          refine lv_bipush (v := (-2)) hx hb dX5_judge_23 (by decide) ?_
          have hq := Option.some.inj hf
          obtain ⟨rfl, rfl⟩ := Prod.mk.inj hq
          exact hj_reti C hP hK hS dX5_judge_25
set_option maxHeartbeats 4000000 in
set_option maxRecDepth 100000 in
theorem ctX5_judge (l : Launch) (g : hj_G) {ad : Nat → Nat} (hI : hj_I 73 ad) {σ : Nat → hj_Ob} {bf : Nat → Nat} {sd : Int64} {x1 : Int32} {x2 : Int32} {rF : Int32} {σF : Nat → hj_Ob} (hf : fX5_judge σ bf sd x1 x2 = some (rF, σF)) :
    hj_MI l yX5_judge wsX5_judge rmX5_judge g 73 ad hs_Z [.ref (ad 0), .int x1, .int x2] (hj_wx g ad σ bf sd) rF (hj_wx g ad σF bf sd) := by
  refine hj_ofI (cc := cX5_judge) (maxL := 7) (ret := (some .int)) (by decide) rfl (Nat.le_of_ble_eq_true rfl) ?_
  intro p e s m args below meth c ls C hP hK hX hl
  exact wX5_judge hI C hK hX hf hP va_S.rf hl

/-! X5_see -/
abbrev rmX5_see : Room := { frames := 1, cells := 0, slots := 0, locals := 23 }
theorem iX5_see_X5 : ∀ w ∈ wsX50, w ∈ wsX5_see := fun _ h => List.mem_cons_of_mem _ (List.mem_append_left _ (List.mem_append_left _ (List.mem_append_right _ h)))
theorem mX5_see_1 : Cond.fieldLink RX5 56 "HungryJury" "sights" "LHungryJury$Sights;" ∈ wsX5_see := List.mem_of_getElem? (i := 1) rfl
theorem iX5_see_X3 : ∀ w ∈ wsX30, w ∈ wsX5_see := fun _ h => List.mem_cons_of_mem _ (List.mem_append_left _ (List.mem_append_right _ h))
theorem mX5_see_2 : Cond.fieldLink RX5 169 "HungryJury$Sights" "size" "I" ∈ wsX5_see := List.mem_of_getElem? (i := 2) rfl
def fX5_see (σ : Nat → hj_Ob) (bf : Nat → Nat) (sd : Int64) (x1 : Int32) (x2 : Int32) (x3 : Int32) : Option (Int32 × (Nat → hj_Ob)) :=
  hj_o1 (fX5_isJuror σ bf sd x1) fun r1 => if r1 = 0 then (some ((-1), σ)) else (if x2 < 0 then (some ((-2), σ)) else (if 9 < x2 then (some ((-2), σ)) else (hj_o1 (fX5_isSide x3) fun r5 => if r5 = 0 then (some ((-2), σ)) else (hj_o2 (fX3_add (σ 63) x1 x2 x3) fun r7 ρ8 => hj_nm (va_up σ 63 ρ8) fun σ9 => if r7 = 0 then (some ((-4), σ9)) else (some ((σ9 63).1 3, σ9))))))
set_option maxHeartbeats 4000000 in
set_option maxRecDepth 100000 in
theorem wX5_see {p : Program} {l : Launch} {e : Env} {s : State} {m : MethodId} {args : Array Value} {below : List Frame} {meth : Method} {c : Code} {g : hj_G} {ad : Nat → Nat} (hI : hj_I 73 ad) (C : hj_C p s m args meth c cX5_see RX5 wsX5_see 4 (some .int)) (hK : hj_K g s) {σ : Nat → hj_Ob} {bf : Nat → Nat} {sd : Int64} {x1 : Int32} {x2 : Int32} {x3 : Int32} {rF : Int32} {σF : Nat → hj_Ob}
    (hf : fX5_see σ bf sd x1 x2 x3 = some (rF, σF)) {H : Heap} {locs : List Loc} {ls : Array Slot} (hP : hj_P g 73 ad (hj_wx g ad σ bf sd) H) (hS : hj_S 73 ad s H locs) (hl : lv_has ls 4 [(0, .ref (ad 0)), (1, .int x1), (2, .int x2), (3, .int x3)]) :
    W p l e rmX5_see s m args below meth c H locs 0 0 (MQ below (hj_QI g 73 ad (hj_wx g ad σF bf sd) rF s.heap.size) args s 0 0 (hj_A 73 ad s.heap.size)) (F0 m 0 ls []) := by
  obtain ⟨hx, hb, hr, hml, hown, hts, hlocks⟩ := id C
  unfold fX5_see at hf
  refine lv_aload_n hx hb dX5_see_0 rfl (lv_at hl 0 rfl) ?_
  refine lv_iload_n hx hb dX5_see_1 rfl (lv_at hl 1 rfl) ?_
  obtain ⟨r1, hc, hf⟩ := hj_o1_s hf
  refine hj_callVi (nL := 4) (As := [.int x1]) (rest := []) (i0 := 0) (C := RX5) (T := TX5) (N := 10) (ci := 5) ⟨hx, hb, hml, hown, hts⟩ (ctX5_isJuror l g hI hc) (cwV 1 hts gX5_see_X5_isJuror rfl rfl rfl (by decide +kernel) ⟨Nat.le_of_ble_eq_true rfl, Nat.le_of_ble_eq_true rfl⟩) hj_Xb0 (fun _ _ _ => trivial) hK hP hS (by decide) wx_at_h rfl rfl hl.1 rfl (Nat.le_of_ble_eq_true rfl) dX5_see_2 (fun H locs hP hS => ?_)
  refine lv_if_ne (tgt := 10) hx hb dX5_see_5 (by decide) (fun c2 => ?_) (fun c2 => ?_)
  · rw [if_neg c2] at hf
    refine lv_iload_n hx hb dX5_see_10 rfl (lv_at hl 2 rfl) ?_
    refine lv_if_lt (tgt := 27) hx hb dX5_see_11 (by decide) (fun c3 => ?_) (fun c3 => ?_)
    · rw [if_pos c3] at hf
      refine lv_bipush (v := (-2)) hx hb dX5_see_27 (by decide) ?_
      have hq := Option.some.inj hf
      obtain ⟨rfl, rfl⟩ := Prod.mk.inj hq
      exact hj_reti C hP hK hS dX5_see_29
    · rw [if_neg c3] at hf
      refine lv_iload_n hx hb dX5_see_14 rfl (lv_at hl 2 rfl) ?_
      refine lv_bipush (v := 9) hx hb dX5_see_15 (by decide) ?_
      refine lv_icmp_gt (tgt := 27) hx hb dX5_see_17 (by decide) (fun c4 => ?_) (fun c4 => ?_)
      · rw [if_pos c4] at hf
        refine lv_bipush (v := (-2)) hx hb dX5_see_27 (by decide) ?_
        have hq := Option.some.inj hf
        obtain ⟨rfl, rfl⟩ := Prod.mk.inj hq
        exact hj_reti C hP hK hS dX5_see_29
      · rw [if_neg c4] at hf
        refine lv_iload_n hx hb dX5_see_20 rfl (lv_at hl 3 rfl) ?_
        obtain ⟨r5, hc, hf⟩ := hj_o1_s hf
        refine hj_callSi (nL := 4) (As := [.int x3]) (rest := []) ⟨hx, hb, hml, hown, hts⟩ (ctX5_isSide l g (n := 73) (ad := ad) (w := (hj_wx g ad σ bf sd)) hc) (va_cwS 1 hts gX5_see_X5_isSide rfl rfl rfl (by decide +kernel) ⟨Nat.le_of_ble_eq_true rfl, Nat.le_of_ble_eq_true rfl⟩) hj_Xb0 (fun _ _ _ => trivial) hK hP hS rfl hl.1 rfl (Nat.le_of_ble_eq_true rfl) dX5_see_21 (fun H locs hP hS => ?_)
        refine lv_if_ne (tgt := 30) hx hb dX5_see_24 (by decide) (fun c6 => ?_) (fun c6 => ?_)
        · rw [if_neg c6] at hf
          refine lv_aload_n hx hb dX5_see_30 rfl (lv_at hl 0 rfl) ?_
          refine hj_get (ci := 5) (v := .ref (ad 63)) (C := RX5) (T := TX5) (N := 10) hx hb hts iX5_see_X5 hown hK hP (by decide) wx_at_h rfl 8 (by decide) mX5_see_1 rfl dX5_see_31 ?_
          refine lv_iload_n hx hb dX5_see_34 rfl (lv_at hl 1 rfl) ?_
          refine lv_iload_n hx hb dX5_see_35 rfl (lv_at hl 2 rfl) ?_
          refine lv_iload_n hx hb dX5_see_36 rfl (lv_at hl 3 rfl) ?_
          obtain ⟨r7, ρ8, hc, hf⟩ := hj_o2_s hf
          refine hj_callVi (nL := 4) (As := [.int x1, .int x2, .int x3]) (rest := []) (i0 := 63) (C := RX3) (T := TX3) (N := 4) (ci := 3) ⟨hx, hb, hml, hown, hts⟩ (ctX3_add l g hI (σ := σ) (bf := bf) (sd := sd) rfl hc) (cwV 3 hts gX5_see_X3_add rfl rfl rfl (by decide +kernel) ⟨Nat.le_of_ble_eq_true rfl, Nat.le_of_ble_eq_true rfl⟩) hj_Xb0 (fun _ _ _ => trivial) hK hP hS (by decide) (wx_at_s rfl) rfl rfl hl.1 rfl (Nat.le_of_ble_eq_true rfl) dX5_see_37 (fun H locs hP hS => ?_)
          obtain ⟨σ9, eσ9⟩ : ∃ z : Nat → hj_Ob, z = va_up σ 63 ρ8 := ⟨_, rfl⟩
          replace hf := hj_nm_y hf eσ9
          rw [← eσ9] at hP
          refine lv_if_eq (tgt := 53) hx hb dX5_see_40 (by decide) (fun c10 => ?_) (fun c10 => ?_)
          · rw [if_pos c10] at hf
            refine lv_bipush (v := (-4)) hx hb dX5_see_53 (by decide) ?_
            have hq := Option.some.inj hf
            obtain ⟨rfl, rfl⟩ := Prod.mk.inj hq
            exact hj_reti C hP hK hS dX5_see_55
          · rw [if_neg c10] at hf
            refine lv_aload_n hx hb dX5_see_43 rfl (lv_at hl 0 rfl) ?_
            refine hj_get (ci := 5) (v := .ref (ad 63)) (C := RX5) (T := TX5) (N := 10) hx hb hts iX5_see_X5 hown hK hP (by decide) wx_at_h rfl 8 (by decide) mX5_see_1 rfl dX5_see_44 ?_
            refine hj_get (ci := 3) (v := .int ((σ9 63).1 3)) (C := RX3) (T := TX3) (N := 4) hx hb hts iX5_see_X3 hown hK hP (by decide) (wx_at_s rfl) rfl 3 (by decide) mX5_see_2 rfl dX5_see_47 ?_
            refine lv_goto (tgt := 55) hx hb dX5_see_50 (by decide) ?_
            have hq := Option.some.inj hf
            obtain ⟨rfl, rfl⟩ := Prod.mk.inj hq
            exact hj_reti C hP hK hS dX5_see_55
        · rw [if_pos c6] at hf
          refine lv_bipush (v := (-2)) hx hb dX5_see_27 (by decide) ?_
          have hq := Option.some.inj hf
          obtain ⟨rfl, rfl⟩ := Prod.mk.inj hq
          exact hj_reti C hP hK hS dX5_see_29
  · rw [if_pos c2] at hf
    refine lv_iconst (v := (-1)) hx hb dX5_see_8 (by decide) ?_
    have hq := Option.some.inj hf
    obtain ⟨rfl, rfl⟩ := Prod.mk.inj hq
    exact hj_reti C hP hK hS dX5_see_9
set_option maxHeartbeats 4000000 in
set_option maxRecDepth 100000 in
theorem ctX5_see (l : Launch) (g : hj_G) {ad : Nat → Nat} (hI : hj_I 73 ad) {σ : Nat → hj_Ob} {bf : Nat → Nat} {sd : Int64} {x1 : Int32} {x2 : Int32} {x3 : Int32} {rF : Int32} {σF : Nat → hj_Ob} (hf : fX5_see σ bf sd x1 x2 x3 = some (rF, σF)) :
    hj_MI l yX5_see wsX5_see rmX5_see g 73 ad hj_X0 [.ref (ad 0), .int x1, .int x2, .int x3] (hj_wx g ad σ bf sd) rF (hj_wx g ad σF bf sd) := by
  refine hj_ofI (cc := cX5_see) (maxL := 4) (ret := (some .int)) (by decide) rfl (Nat.le_of_ble_eq_true rfl) ?_
  intro p e s m args below meth c ls C hP hK hX hl
  exact wX5_see hI C hK hf hP va_S.rf hl

/-! X5_unsee -/
abbrev rmX5_unsee : Room := { frames := 0, cells := 0, slots := 0, locals := 0 }
theorem iX5_unsee_X5 : ∀ w ∈ wsX50, w ∈ wsX5_unsee := fun _ h => List.mem_cons_of_mem _ (List.mem_append_left _ (List.mem_append_right _ h))
theorem mX5_unsee_1 : Cond.fieldLink RX5 56 "HungryJury" "sights" "LHungryJury$Sights;" ∈ wsX5_unsee := List.mem_of_getElem? (i := 1) rfl
theorem iX5_unsee_X3 : ∀ w ∈ wsX30, w ∈ wsX5_unsee := fun _ h => List.mem_cons_of_mem _ (List.mem_append_right _ h)
theorem mX5_unsee_2 : Cond.fieldLink RX5 169 "HungryJury$Sights" "size" "I" ∈ wsX5_unsee := List.mem_of_getElem? (i := 2) rfl
def fX5_unsee (σ : Nat → hj_Ob) (bf : Nat → Nat) (sd : Int64) : Option (Int32 × (Nat → hj_Ob)) :=
  hj_nm ((σ 63).1 3) fun y1 => hj_nm (va_up σ 63 (hj_s (σ 63) 3 0)) fun σ2 => some (y1, σ2)
set_option maxHeartbeats 4000000 in
set_option maxRecDepth 100000 in
theorem wX5_unsee {p : Program} {l : Launch} {e : Env} {s : State} {m : MethodId} {args : Array Value} {below : List Frame} {meth : Method} {c : Code} {g : hj_G} {ad : Nat → Nat} (hI : hj_I 73 ad) (C : hj_C p s m args meth c cX5_unsee RX5 wsX5_unsee 2 (some .int)) (hK : hj_K g s) {σ : Nat → hj_Ob} {bf : Nat → Nat} {sd : Int64} {rF : Int32} {σF : Nat → hj_Ob}
    (hf : fX5_unsee σ bf sd = some (rF, σF)) {H : Heap} {locs : List Loc} {ls : Array Slot} (hP : hj_P g 73 ad (hj_wx g ad σ bf sd) H) (hS : hj_S 73 ad s H locs) (hl : lv_has ls 2 [(0, .ref (ad 0))]) :
    W p l e rmX5_unsee s m args below meth c H locs 0 0 (MQ below (hj_QI g 73 ad (hj_wx g ad σF bf sd) rF s.heap.size) args s 0 0 (hj_A 73 ad s.heap.size)) (F0 m 0 ls []) := by
  obtain ⟨hx, hb, hr, hml, hown, hts, hlocks⟩ := id C
  unfold fX5_unsee at hf
  refine lv_aload_n hx hb dX5_unsee_0 rfl (lv_at hl 0 rfl) ?_
  refine hj_get (ci := 5) (v := .ref (ad 63)) (C := RX5) (T := TX5) (N := 10) hx hb hts iX5_unsee_X5 hown hK hP (by decide) wx_at_h rfl 8 (by decide) mX5_unsee_1 rfl dX5_unsee_1 ?_
  refine hj_get (ci := 3) (v := .int ((σ 63).1 3)) (C := RX3) (T := TX3) (N := 4) hx hb hts iX5_unsee_X3 hown hK hP (by decide) (wx_at_s rfl) rfl 3 (by decide) mX5_unsee_2 rfl dX5_unsee_4 ?_
  refine lv_topi (fun y1 ey1 => ?_)
  replace hf := hj_nm_y hf ey1
  refine lv_istore_n (lv' := [(1, .int y1), (0, .ref (ad 0))]) hx hb dX5_unsee_7 rfl hl (by decide) rfl (fun ls hl => ?_)
  refine lv_aload_n hx hb dX5_unsee_8 rfl (lv_at hl 1 rfl) ?_
  refine hj_get (ci := 5) (v := .ref (ad 63)) (C := RX5) (T := TX5) (N := 10) hx hb hts iX5_unsee_X5 hown hK hP (by decide) wx_at_h rfl 8 (by decide) mX5_unsee_1 rfl dX5_unsee_9 ?_
  refine lv_iconst (v := 0) hx hb dX5_unsee_12 (by decide) ?_
  refine hj_put (ci := 3) (v := .int 0) (C := RX3) (T := TX3) (N := 4) hx hb hts iX5_unsee_X3 tyX3 tyX3_ok nmX3 hown hK hI hP hS (by decide) (wx_at_s rfl) rfl 3 (by decide) mX5_unsee_2 rfl rfl rfl (Nat.le_of_ble_eq_true rfl) dX5_unsee_13 (wx_s_s rfl) (fun H locs hP hS => ?_)
  obtain ⟨σ2, eσ2⟩ : ∃ z : Nat → hj_Ob, z = va_up σ 63 (hj_s (σ 63) 3 0) := ⟨_, rfl⟩
  replace hf := hj_nm_y hf eσ2
  rw [← eσ2] at hP
  refine lv_iload_n hx hb dX5_unsee_16 rfl (lv_at hl 0 rfl) ?_
  have hq := Option.some.inj hf
  obtain ⟨rfl, rfl⟩ := Prod.mk.inj hq
  exact hj_reti C hP hK hS dX5_unsee_17
set_option maxHeartbeats 4000000 in
set_option maxRecDepth 100000 in
theorem ctX5_unsee (l : Launch) (g : hj_G) {ad : Nat → Nat} (hI : hj_I 73 ad) {σ : Nat → hj_Ob} {bf : Nat → Nat} {sd : Int64} {rF : Int32} {σF : Nat → hj_Ob} (hf : fX5_unsee σ bf sd = some (rF, σF)) :
    hj_MI l yX5_unsee wsX5_unsee rmX5_unsee g 73 ad hj_X0 [.ref (ad 0)] (hj_wx g ad σ bf sd) rF (hj_wx g ad σF bf sd) := by
  refine hj_ofI (cc := cX5_unsee) (maxL := 2) (ret := (some .int)) (by decide) rfl (Nat.le_of_ble_eq_true rfl) ?_
  intro p e s m args below meth c ls C hP hK hX hl
  exact wX5_unsee hI C hK hf hP va_S.rf hl

/-! X5_fitsWhatIsSeen -/
abbrev rmX5_fitsWhatIsSeen : Room := { frames := 3, cells := 0, slots := 0, locals := 68 }
theorem iX5_fitsWhatIsSeen_X5 : ∀ w ∈ wsX50, w ∈ wsX5_fitsWhatIsSeen := fun _ h => List.mem_cons_of_mem _ (List.mem_append_left _ (List.mem_append_left _ (List.mem_append_left _ (List.mem_append_right _ h))))
theorem mX5_fitsWhatIsSeen_1 : Cond.fieldLink RX5 35 "HungryJury" "trial" "LHungryJury$Room;" ∈ wsX5_fitsWhatIsSeen := List.mem_of_getElem? (i := 1) rfl
theorem mX5_fitsWhatIsSeen_2 : Cond.fieldLink RX5 31 "HungryJury" "now" "LHungryJury$Room;" ∈ wsX5_fitsWhatIsSeen := List.mem_of_getElem? (i := 2) rfl
theorem iX5_fitsWhatIsSeen_X2 : ∀ w ∈ wsX20, w ∈ wsX5_fitsWhatIsSeen := fun _ h => List.mem_cons_of_mem _ (List.mem_append_left _ (List.mem_append_left _ (List.mem_append_right _ h)))
theorem mX5_fitsWhatIsSeen_3 : Cond.fieldLink RX5 218 "HungryJury$Room" "yes" "I" ∈ wsX5_fitsWhatIsSeen := List.mem_of_getElem? (i := 3) rfl
theorem mX5_fitsWhatIsSeen_4 : Cond.fieldLink RX5 56 "HungryJury" "sights" "LHungryJury$Sights;" ∈ wsX5_fitsWhatIsSeen := List.mem_of_getElem? (i := 4) rfl
def fX5_fitsWhatIsSeen_21 (σ : Nat → hj_Ob) (bf : Nat → Nat) (sd : Int64) (x2 : Int32) : Option (((Int32 × (Nat → hj_Ob)) ⊕ (Nat → hj_Ob)) ⊕ (Int32 × (Nat → hj_Ob))) :=
  if 9 < x2 then (some (.inl (.inr σ))) else (hj_o1 (fX3_fit (σ 3) (σ 14) (σ 63) x2) fun r5 => if r5 = 0 then (some (.inl (.inl (0, σ)))) else (hj_o2 (fX2_passHour (σ 3) (σ 14)) fun r7 ρ8 => hj_nm (va_up σ 14 ρ8) fun σ9 => hj_nm (x2 + 1) fun y10 => some (.inr (y10, σ9))))
set_option maxHeartbeats 4000000 in
set_option maxRecDepth 100000 in
theorem wX5_fitsWhatIsSeen_21b {p : Program} {l : Launch} {e : Env} {s : State} {m : MethodId} {args : Array Value} {below : List Frame} {meth : Method} {c : Code} {g : hj_G} {ad : Nat → Nat} (hI : hj_I 73 ad) (C : hj_C p s m args meth c cX5_fitsWhatIsSeen RX5 wsX5_fitsWhatIsSeen 3 (some .boolean)) (hK : hj_K g s) {σ : Nat → hj_Ob} {bf : Nat → Nat} {sd : Int64} {x2 : Int32} {y : ((Int32 × (Nat → hj_Ob)) ⊕ (Nat → hj_Ob)) ⊕ (Int32 × (Nat → hj_Ob))} {rF : Int32} {σF : Nat → hj_Ob}
    (hf : fX5_fitsWhatIsSeen_21 σ bf sd x2 = some y) (KR : ∀ r, y = .inl (.inl r) → r = (rF, σF)) (KX : ∀ (σ' : Nat → hj_Ob), y = .inl (.inr σ') → ∀ (H : Heap) (locs : List Loc) (ls : Array Slot), hj_P g 73 ad (hj_wx g ad σ' bf sd) H → hj_S 73 ad s H locs → lv_has ls 3 [] → W p l e rmX5_fitsWhatIsSeen s m args below meth c H locs 0 0 (MQ below (hj_QI g 73 ad (hj_wx g ad σF bf sd) rF s.heap.size) args s 0 0 (hj_A 73 ad s.heap.size)) (F0 m 58 ls [])) (KI : ∀ (v2 : Int32) (σ' : Nat → hj_Ob), y = .inr (v2, σ') → ∀ (H : Heap) (locs : List Loc) (ls : Array Slot), hj_P g 73 ad (hj_wx g ad σ' bf sd) H → hj_S 73 ad s H locs → lv_has ls 3 [(0, .ref (ad 0)), (2, .int v2)] → W p l e rmX5_fitsWhatIsSeen s m args below meth c H locs 0 0 (MQ below (hj_QI g 73 ad (hj_wx g ad σF bf sd) rF s.heap.size) args s 0 0 (hj_A 73 ad s.heap.size)) (F0 m 21 ls [])) {H : Heap} {locs : List Loc} {ls : Array Slot} (hP : hj_P g 73 ad (hj_wx g ad σ bf sd) H) (hS : hj_S 73 ad s H locs) (hl : lv_has ls 3 [(0, .ref (ad 0)), (2, .int x2)]) :
    W p l e rmX5_fitsWhatIsSeen s m args below meth c H locs 0 0 (MQ below (hj_QI g 73 ad (hj_wx g ad σF bf sd) rF s.heap.size) args s 0 0 (hj_A 73 ad s.heap.size)) (F0 m 21 ls []) := by
  obtain ⟨hx, hb, hr, hml, hown, hts, hlocks⟩ := id C
  unfold fX5_fitsWhatIsSeen_21 at hf
  refine lv_iload_n hx hb dX5_fitsWhatIsSeen_21 rfl (lv_at hl 1 rfl) ?_
  refine lv_bipush (v := 9) hx hb dX5_fitsWhatIsSeen_22 (by decide) ?_
  refine lv_icmp_gt (tgt := 58) hx hb dX5_fitsWhatIsSeen_24 (by decide) (fun c4 => ?_) (fun c4 => ?_)
  · rw [if_pos c4] at hf
    exact KX _ (Option.some.inj hf).symm _ _ _ hP hS (lv_sub hl [] rfl)
  · rw [if_neg c4] at hf
    refine lv_aload_n hx hb dX5_fitsWhatIsSeen_27 rfl (lv_at hl 0 rfl) ?_
    refine hj_get (ci := 5) (v := .ref (ad 63)) (C := RX5) (T := TX5) (N := 10) hx hb hts iX5_fitsWhatIsSeen_X5 hown hK hP (by decide) wx_at_h rfl 8 (by decide) mX5_fitsWhatIsSeen_4 rfl dX5_fitsWhatIsSeen_28 ?_
    refine lv_aload_n hx hb dX5_fitsWhatIsSeen_31 rfl (lv_at hl 0 rfl) ?_
    refine hj_get (ci := 5) (v := .ref (ad 14)) (C := RX5) (T := TX5) (N := 10) hx hb hts iX5_fitsWhatIsSeen_X5 hown hK hP (by decide) wx_at_h rfl 4 (by decide) mX5_fitsWhatIsSeen_1 rfl dX5_fitsWhatIsSeen_32 ?_
    refine lv_iload_n hx hb dX5_fitsWhatIsSeen_35 rfl (lv_at hl 1 rfl) ?_
    obtain ⟨r5, hc, hf⟩ := hj_o1_s hf
    refine hj_callVi (nL := 3) (As := [.ref (ad 14), .int x2]) (rest := []) (i0 := 63) (C := RX3) (T := TX3) (N := 4) (ci := 3) ⟨hx, hb, hml, hown, hts⟩ (ctX3_fit l g hI (σ := σ) (bf := bf) (sd := sd) rfl rfl rfl hc) (cwV 2 hts gX5_fitsWhatIsSeen_X3_fit rfl rfl rfl (by decide +kernel) ⟨Nat.le_of_ble_eq_true rfl, Nat.le_of_ble_eq_true rfl⟩) hj_Xb0 (fun _ _ _ => trivial) hK hP hS (by decide) (wx_at_s rfl) rfl rfl hl.1 rfl (Nat.le_of_ble_eq_true rfl) dX5_fitsWhatIsSeen_36 (fun H locs hP hS => ?_)
    refine lv_if_ne (tgt := 44) hx hb dX5_fitsWhatIsSeen_39 (by decide) (fun c6 => ?_) (fun c6 => ?_)
    · rw [if_neg c6] at hf
      refine lv_aload_n hx hb dX5_fitsWhatIsSeen_44 rfl (lv_at hl 0 rfl) ?_
      refine hj_get (ci := 5) (v := .ref (ad 14)) (C := RX5) (T := TX5) (N := 10) hx hb hts iX5_fitsWhatIsSeen_X5 hown hK hP (by decide) wx_at_h rfl 4 (by decide) mX5_fitsWhatIsSeen_1 rfl dX5_fitsWhatIsSeen_45 ?_
      obtain ⟨r7, ρ8, hc, hf⟩ := hj_o2_s hf
      refine hj_callVi (nL := 3) (As := []) (rest := []) (i0 := 14) (C := RX2) (T := TX2) (N := 6) (ci := 2) ⟨hx, hb, hml, hown, hts⟩ (ctX2_passHour l g hI (σ := σ) (bf := bf) (sd := sd) wx_R_14 rfl rfl hc) (cwV 0 hts gX5_fitsWhatIsSeen_X2_passHour rfl rfl rfl (by decide +kernel) ⟨Nat.le_of_ble_eq_true rfl, Nat.le_of_ble_eq_true rfl⟩) hj_Xb0 (fun _ _ _ => trivial) hK hP hS (by decide) (wx_at_r wx_R_14 rfl) rfl rfl hl.1 rfl (Nat.le_of_ble_eq_true rfl) dX5_fitsWhatIsSeen_48 (fun H locs hP hS => ?_)
      obtain ⟨σ9, eσ9⟩ : ∃ z : Nat → hj_Ob, z = va_up σ 14 ρ8 := ⟨_, rfl⟩
      replace hf := hj_nm_y hf eσ9
      rw [← eσ9] at hP
      refine lv_pop hx hb dX5_fitsWhatIsSeen_51 rfl ?_
      obtain ⟨y10, ey10⟩ : ∃ z : Int32, z = x2 + 1 := ⟨_, rfl⟩
      replace hf := hj_nm_y hf ey10
      refine lv_iinc (v := y10) (lv' := [(2, .int y10), (0, .ref (ad 0))]) hx hb dX5_fitsWhatIsSeen_52 hl (k := 1) rfl (by rw [ey10]; rfl) (by decide) rfl (fun ls hl => ?_)
      refine lv_goto (tgt := 21) hx hb dX5_fitsWhatIsSeen_55 (by decide) ?_
      exact KI _ _ (Option.some.inj hf).symm _ _ _ hP hS (lv_sub hl [1, 0] rfl)
    · rw [if_pos c6] at hf
      refine lv_iconst (v := 0) hx hb dX5_fitsWhatIsSeen_42 (by decide) ?_
      have hq := KR _ (Option.some.inj hf).symm
      obtain ⟨rfl, rfl⟩ := Prod.mk.inj hq
      exact hj_retz (Or.inl rfl)  C hP hK hS dX5_fitsWhatIsSeen_43
set_option maxHeartbeats 4000000 in
set_option maxRecDepth 100000 in
theorem wX5_fitsWhatIsSeen_21 {p : Program} {l : Launch} {e : Env} {s : State} {m : MethodId} {args : Array Value} {below : List Frame} {meth : Method} {c : Code} {g : hj_G} {ad : Nat → Nat} (hI : hj_I 73 ad) (C : hj_C p s m args meth c cX5_fitsWhatIsSeen RX5 wsX5_fitsWhatIsSeen 3 (some .boolean)) (hK : hj_K g s) {bf : Nat → Nat} {sd : Int64} {rF : Int32} {σF : Nat → hj_Ob} {ex : ((Int32 × (Nat → hj_Ob)) ⊕ (Nat → hj_Ob))} :
    ∀ (fu : Nat) (x2 : Int32) (σ : Nat → hj_Ob), hj_lp (fun q : (Int32 × (Nat → hj_Ob)) => fX5_fitsWhatIsSeen_21 q.2 bf sd q.1) fu (x2, σ) = some ex → (∀ r, ex = .inl r → r = (rF, σF)) → (∀ (σ' : Nat → hj_Ob), ex = .inr σ' → ∀ (H : Heap) (locs : List Loc) (ls : Array Slot), hj_P g 73 ad (hj_wx g ad σ' bf sd) H → hj_S 73 ad s H locs → lv_has ls 3 [] → W p l e rmX5_fitsWhatIsSeen s m args below meth c H locs 0 0 (MQ below (hj_QI g 73 ad (hj_wx g ad σF bf sd) rF s.heap.size) args s 0 0 (hj_A 73 ad s.heap.size)) (F0 m 58 ls [])) → ∀ (H : Heap) (locs : List Loc) (ls : Array Slot), hj_P g 73 ad (hj_wx g ad σ bf sd) H → hj_S 73 ad s H locs → lv_has ls 3 [(0, .ref (ad 0)), (2, .int x2)] →
    W p l e rmX5_fitsWhatIsSeen s m args below meth c H locs 0 0 (MQ below (hj_QI g 73 ad (hj_wx g ad σF bf sd) rF s.heap.size) args s 0 0 (hj_A 73 ad s.heap.size)) (F0 m 21 ls []) := by
  intro fu
  induction fu with
  | zero => intro x2 σ hq; cases hq
  | succ fu ih =>
    intro x2 σ hq KR KX H locs ls hP hS hl
    obtain ⟨y, hy, h1, h2⟩ := hj_lp_s hq
    exact wX5_fitsWhatIsSeen_21b hI C hK  hy (fun r hr => KR r (h1 _ hr).symm) (fun σ' hv => KX σ' (h1 _ hv).symm) (fun v2 σ' hv H locs ls hP hS hl => ih v2 σ' (h2 _ hv) KR KX H locs ls hP hS hl) hP hS hl
def fX5_fitsWhatIsSeen (σ : Nat → hj_Ob) (bf : Nat → Nat) (sd : Int64) (x1 : Int32) : Option (Int32 × (Nat → hj_Ob)) :=
  hj_o1 (fX2_copyFrom (σ 3) (σ 11) (σ 14)) fun ρ1 => hj_nm (va_up σ 14 ρ1) fun σ2 => hj_nm (va_up σ2 14 (hj_s (σ2 14) 3 x1)) fun σ3 => hj_oe (fun r => r) (hj_lp (fun q : (Int32 × (Nat → hj_Ob)) => fX5_fitsWhatIsSeen_21 q.2 bf sd q.1) 100 (0, σ3)) (fun ex12 => hj_nm ex12 fun σ11 => some (1, σ11))
set_option maxHeartbeats 4000000 in
set_option maxRecDepth 100000 in
theorem wX5_fitsWhatIsSeen {p : Program} {l : Launch} {e : Env} {s : State} {m : MethodId} {args : Array Value} {below : List Frame} {meth : Method} {c : Code} {g : hj_G} {ad : Nat → Nat} (hI : hj_I 73 ad) (C : hj_C p s m args meth c cX5_fitsWhatIsSeen RX5 wsX5_fitsWhatIsSeen 3 (some .boolean)) (hK : hj_K g s) {σ : Nat → hj_Ob} {bf : Nat → Nat} {sd : Int64} {x1 : Int32} {rF : Int32} {σF : Nat → hj_Ob}
    (hf : fX5_fitsWhatIsSeen σ bf sd x1 = some (rF, σF)) {H : Heap} {locs : List Loc} {ls : Array Slot} (hP : hj_P g 73 ad (hj_wx g ad σ bf sd) H) (hS : hj_S 73 ad s H locs) (hl : lv_has ls 3 [(0, .ref (ad 0)), (1, .int x1)]) :
    W p l e rmX5_fitsWhatIsSeen s m args below meth c H locs 0 0 (MQ below (hj_QI g 73 ad (hj_wx g ad σF bf sd) rF s.heap.size) args s 0 0 (hj_A 73 ad s.heap.size)) (F0 m 0 ls []) := by
  obtain ⟨hx, hb, hr, hml, hown, hts, hlocks⟩ := id C
  unfold fX5_fitsWhatIsSeen at hf
  refine lv_aload_n hx hb dX5_fitsWhatIsSeen_0 rfl (lv_at hl 0 rfl) ?_
  refine hj_get (ci := 5) (v := .ref (ad 14)) (C := RX5) (T := TX5) (N := 10) hx hb hts iX5_fitsWhatIsSeen_X5 hown hK hP (by decide) wx_at_h rfl 4 (by decide) mX5_fitsWhatIsSeen_1 rfl dX5_fitsWhatIsSeen_1 ?_
  refine lv_aload_n hx hb dX5_fitsWhatIsSeen_4 rfl (lv_at hl 0 rfl) ?_
  refine hj_get (ci := 5) (v := .ref (ad 11)) (C := RX5) (T := TX5) (N := 10) hx hb hts iX5_fitsWhatIsSeen_X5 hown hK hP (by decide) wx_at_h rfl 3 (by decide) mX5_fitsWhatIsSeen_2 rfl dX5_fitsWhatIsSeen_5 ?_
  obtain ⟨ρ1, hc, hf⟩ := hj_o1_s hf
  refine hj_callVv (nL := 3) (As := [.ref (ad 11)]) (rest := []) (i0 := 14) (C := RX2) (T := TX2) (N := 6) (ci := 2) ⟨hx, hb, hml, hown, hts⟩ (ctX2_copyFrom l g hI (σ := σ) (bf := bf) (sd := sd) wx_R_14 rfl wx_R_11 (by decide) rfl rfl hc) (cwV 1 hts gX5_fitsWhatIsSeen_X2_copyFrom rfl rfl rfl (by decide +kernel) ⟨Nat.le_of_ble_eq_true rfl, Nat.le_of_ble_eq_true rfl⟩) hj_Xb0 (fun _ _ _ => trivial) hK hP hS (by decide) (wx_at_r wx_R_14 rfl) rfl rfl hl.1 rfl (Nat.le_of_ble_eq_true rfl) dX5_fitsWhatIsSeen_8 (fun H locs hP hS => ?_)
  obtain ⟨σ2, eσ2⟩ : ∃ z : Nat → hj_Ob, z = va_up σ 14 ρ1 := ⟨_, rfl⟩
  replace hf := hj_nm_y hf eσ2
  rw [← eσ2] at hP
  refine lv_aload_n hx hb dX5_fitsWhatIsSeen_11 rfl (lv_at hl 0 rfl) ?_
  refine hj_get (ci := 5) (v := .ref (ad 14)) (C := RX5) (T := TX5) (N := 10) hx hb hts iX5_fitsWhatIsSeen_X5 hown hK hP (by decide) wx_at_h rfl 4 (by decide) mX5_fitsWhatIsSeen_1 rfl dX5_fitsWhatIsSeen_12 ?_
  refine lv_iload_n hx hb dX5_fitsWhatIsSeen_15 rfl (lv_at hl 1 rfl) ?_
  refine hj_put (ci := 2) (v := .int x1) (C := RX2) (T := TX2) (N := 6) hx hb hts iX5_fitsWhatIsSeen_X2 tyX2 tyX2_ok nmX2 hown hK hI hP hS (by decide) (wx_at_r wx_R_14 rfl) rfl 3 (by decide) mX5_fitsWhatIsSeen_3 rfl rfl rfl (Nat.le_of_ble_eq_true rfl) dX5_fitsWhatIsSeen_16 (wx_s_r (k := 3) (v := x1) wx_R_14 rfl rfl) (fun H locs hP hS => ?_)
  obtain ⟨σ3, eσ3⟩ : ∃ z : Nat → hj_Ob, z = va_up σ2 14 (hj_s (σ2 14) 3 x1) := ⟨_, rfl⟩
  replace hf := hj_nm_y hf eσ3
  rw [← eσ3] at hP
  refine lv_iconst (v := 0) hx hb dX5_fitsWhatIsSeen_19 (by decide) ?_
  refine lv_istore_n (lv' := [(2, .int 0), (0, .ref (ad 0)), (1, .int x1)]) hx hb dX5_fitsWhatIsSeen_20 rfl hl (by decide) rfl (fun ls hl => ?_)
  obtain ⟨exx, hlx, hlr, hfx⟩ := hj_oe_s hf
  refine wX5_fitsWhatIsSeen_21 hI C hK  100 0 σ3 hlx hlr (fun σ11 hxe H locs ls hP hS hl => ?_) H locs ls hP hS (lv_sub hl [1, 0] rfl)
  replace hf := hfx _ hxe
  replace hf := hj_nm_y (y := σ11) hf rfl
  refine lv_iconst (v := 1) hx hb dX5_fitsWhatIsSeen_58 (by decide) ?_
  have hq := Option.some.inj hf
  obtain ⟨rfl, rfl⟩ := Prod.mk.inj hq
  exact hj_retz (Or.inr rfl)  C hP hK hS dX5_fitsWhatIsSeen_59
set_option maxHeartbeats 4000000 in
set_option maxRecDepth 100000 in
theorem ctX5_fitsWhatIsSeen (l : Launch) (g : hj_G) {ad : Nat → Nat} (hI : hj_I 73 ad) {σ : Nat → hj_Ob} {bf : Nat → Nat} {sd : Int64} {x1 : Int32} {rF : Int32} {σF : Nat → hj_Ob} (hf : fX5_fitsWhatIsSeen σ bf sd x1 = some (rF, σF)) :
    hj_MI l yX5_fitsWhatIsSeen wsX5_fitsWhatIsSeen rmX5_fitsWhatIsSeen g 73 ad hj_X0 [.ref (ad 0), .int x1] (hj_wx g ad σ bf sd) rF (hj_wx g ad σF bf sd) := by
  refine hj_ofI (cc := cX5_fitsWhatIsSeen) (maxL := 3) (ret := (some .boolean)) (by decide) rfl (Nat.le_of_ble_eq_true rfl) ?_
  intro p e s m args below meth c ls C hP hK hX hl
  exact wX5_fitsWhatIsSeen hI C hK hf hP va_S.rf hl

/-! X5_first -/
abbrev rmX5_first : Room := { frames := 4, cells := 0, slots := 0, locals := 90 }
theorem iX5_first_X5 : ∀ w ∈ wsX50, w ∈ wsX5_first := fun _ h => List.mem_cons_of_mem _ (List.mem_append_left _ (List.mem_append_left _ (List.mem_append_left _ (List.mem_append_right _ h))))
theorem mX5_first_1 : Cond.fieldLink RX5 31 "HungryJury" "now" "LHungryJury$Room;" ∈ wsX5_first := List.mem_of_getElem? (i := 1) rfl
theorem iX5_first_X2 : ∀ w ∈ wsX20, w ∈ wsX5_first := fun _ h => List.mem_cons_of_mem _ (List.mem_append_left _ (List.mem_append_left _ (List.mem_append_right _ h)))
theorem mX5_first_2 : Cond.fieldLink RX5 121 "HungryJury$Room" "there" "I" ∈ wsX5_first := List.mem_of_getElem? (i := 2) rfl
def fX5_first_28 (σ : Nat → hj_Ob) (bf : Nat → Nat) (sd : Int64) (x1 : Int32) (x2 : Int32) (x3 : Int32) (x4 : Int32) (x5 : Int32) : Option ((Int32 × Int32 × Int32 × (Nat → hj_Ob)) ⊕ (Int32 × Int32 × Int32 × Int32 × (Nat → hj_Ob))) :=
  if 64 ≤ x5 then (some (.inl (x2, x3, x4, σ))) else (if (x5 &&& (((σ 11).1 4) ^^^ (-1))) = 0 then (hj_o2 (fX5_fitsWhatIsSeen σ bf sd x5) fun r7 σ8 => if r7 = 0 then (hj_nm (x5 + 1) fun y10 => some (.inr (x2, x3, x4, y10, σ8))) else (hj_nm (x2 + 1) fun y11 => hj_nm (x3 &&& x5) fun y12 => hj_nm (x4 ||| x5) fun y13 => hj_nm (x5 + 1) fun y14 => some (.inr (y11, y12, y13, y14, σ8)))) else (hj_nm (x5 + 1) fun y6 => some (.inr (x2, x3, x4, y6, σ))))
set_option maxHeartbeats 4000000 in
set_option maxRecDepth 100000 in
theorem wX5_first_28b {p : Program} {l : Launch} {e : Env} {s : State} {m : MethodId} {args : Array Value} {below : List Frame} {meth : Method} {c : Code} {g : hj_G} {ad : Nat → Nat} (hI : hj_I 73 ad) (C : hj_C p s m args meth c cX5_first RX5 wsX5_first 6 (some .int)) (hK : hj_K g s) {σ : Nat → hj_Ob} {bf : Nat → Nat} {sd : Int64} {x1 : Int32} {x2 : Int32} {x3 : Int32} {x4 : Int32} {x5 : Int32} {y : (Int32 × Int32 × Int32 × (Nat → hj_Ob)) ⊕ (Int32 × Int32 × Int32 × Int32 × (Nat → hj_Ob))} {rF : Int32} {σF : Nat → hj_Ob}
    (hf : fX5_first_28 σ bf sd x1 x2 x3 x4 x5 = some y) (KX : ∀ (v2 : Int32) (v3 : Int32) (v4 : Int32) (σ' : Nat → hj_Ob), y = .inl (v2, v3, v4, σ') → ∀ (H : Heap) (locs : List Loc) (ls : Array Slot), hj_P g 73 ad (hj_wx g ad σ' bf sd) H → hj_S 73 ad s H locs → lv_has ls 6 [(0, .ref (ad 0)), (1, .int x1), (2, .int v2), (3, .int v3), (4, .int v4)] → W p l e rmX5_first s m args below meth c H locs 0 0 (MQ below (hj_QI g 73 ad (hj_wx g ad σF bf sd) rF s.heap.size) args s 0 0 (hj_A 73 ad s.heap.size)) (F0 m 80 ls [])) (KI : ∀ (v2 : Int32) (v3 : Int32) (v4 : Int32) (v5 : Int32) (σ' : Nat → hj_Ob), y = .inr (v2, v3, v4, v5, σ') → ∀ (H : Heap) (locs : List Loc) (ls : Array Slot), hj_P g 73 ad (hj_wx g ad σ' bf sd) H → hj_S 73 ad s H locs → lv_has ls 6 [(0, .ref (ad 0)), (1, .int x1), (2, .int v2), (3, .int v3), (4, .int v4), (5, .int v5)] → W p l e rmX5_first s m args below meth c H locs 0 0 (MQ below (hj_QI g 73 ad (hj_wx g ad σF bf sd) rF s.heap.size) args s 0 0 (hj_A 73 ad s.heap.size)) (F0 m 28 ls [])) {H : Heap} {locs : List Loc} {ls : Array Slot} (hP : hj_P g 73 ad (hj_wx g ad σ bf sd) H) (hS : hj_S 73 ad s H locs) (hl : lv_has ls 6 [(0, .ref (ad 0)), (1, .int x1), (2, .int x2), (3, .int x3), (4, .int x4), (5, .int x5)]) :
    W p l e rmX5_first s m args below meth c H locs 0 0 (MQ below (hj_QI g 73 ad (hj_wx g ad σF bf sd) rF s.heap.size) args s 0 0 (hj_A 73 ad s.heap.size)) (F0 m 28 ls []) := by
  obtain ⟨hx, hb, hr, hml, hown, hts, hlocks⟩ := id C
  unfold fX5_first_28 at hf
  refine lv_iload hx hb dX5_first_28 (lv_at hl 5 rfl) ?_
  refine lv_bipush (v := 64) hx hb dX5_first_30 (by decide) ?_
  refine lv_icmp_ge (tgt := 80) hx hb dX5_first_32 (by decide) (fun c4 => ?_) (fun c4 => ?_)
  · rw [if_pos c4] at hf
    exact KX _ _ _ _ (Option.some.inj hf).symm _ _ _ hP hS (lv_sub hl [0, 1, 2, 3, 4] rfl)
  · rw [if_neg c4] at hf
    refine lv_iload hx hb dX5_first_35 (lv_at hl 5 rfl) ?_
    refine lv_aload_n hx hb dX5_first_37 rfl (lv_at hl 0 rfl) ?_
    refine hj_get (ci := 5) (v := .ref (ad 11)) (C := RX5) (T := TX5) (N := 10) hx hb hts iX5_first_X5 hown hK hP (by decide) wx_at_h rfl 3 (by decide) mX5_first_1 rfl dX5_first_38 ?_
    refine hj_get (ci := 2) (v := .int ((σ 11).1 4)) (C := RX2) (T := TX2) (N := 6) hx hb hts iX5_first_X2 hown hK hP (by decide) (wx_at_r wx_R_11 rfl) rfl 4 (by decide) mX5_first_2 rfl dX5_first_41 ?_
    refine lv_iconst (v := (-1)) hx hb dX5_first_44 (by decide) ?_
    refine lv_ixor hx hb dX5_first_45 ?_
    refine lv_iand hx hb dX5_first_46 ?_
    refine lv_if_ne (tgt := 74) hx hb dX5_first_47 (by decide) (fun c5 => ?_) (fun c5 => ?_)
    · rw [if_neg c5] at hf
      obtain ⟨y6, ey6⟩ : ∃ z : Int32, z = x5 + 1 := ⟨_, rfl⟩
      replace hf := hj_nm_y hf ey6
      refine lv_iinc (v := y6) (lv' := [(5, .int y6), (0, .ref (ad 0)), (1, .int x1), (2, .int x2), (3, .int x3), (4, .int x4)]) hx hb dX5_first_74 hl (k := 5) rfl (by rw [ey6]; rfl) (by decide) rfl (fun ls hl => ?_)
      refine lv_goto (tgt := 28) hx hb dX5_first_77 (by decide) ?_
      exact KI _ _ _ _ _ (Option.some.inj hf).symm _ _ _ hP hS (lv_sub hl [1, 2, 3, 4, 5, 0] rfl)
    · rw [if_pos c5] at hf
      refine lv_aload_n hx hb dX5_first_50 rfl (lv_at hl 0 rfl) ?_
      refine lv_iload hx hb dX5_first_51 (lv_at hl 5 rfl) ?_
      obtain ⟨r7, σ8, hc, hf⟩ := hj_o2_s hf
      refine hj_callVi (nL := 6) (As := [.int x5]) (rest := []) (i0 := 0) (C := RX5) (T := TX5) (N := 10) (ci := 5) ⟨hx, hb, hml, hown, hts⟩ (ctX5_fitsWhatIsSeen l g hI hc) (cwV 1 hts gX5_first_X5_fitsWhatIsSeen rfl rfl rfl (by decide +kernel) ⟨Nat.le_of_ble_eq_true rfl, Nat.le_of_ble_eq_true rfl⟩) hj_Xb0 (fun _ _ _ => trivial) hK hP hS (by decide) wx_at_h rfl rfl hl.1 rfl (Nat.le_of_ble_eq_true rfl) dX5_first_53 (fun H locs hP hS => ?_)
      refine lv_if_eq (tgt := 74) hx hb dX5_first_56 (by decide) (fun c9 => ?_) (fun c9 => ?_)
      · rw [if_pos c9] at hf
        obtain ⟨y10, ey10⟩ : ∃ z : Int32, z = x5 + 1 := ⟨_, rfl⟩
        replace hf := hj_nm_y hf ey10
        refine lv_iinc (v := y10) (lv' := [(5, .int y10), (0, .ref (ad 0)), (1, .int x1), (2, .int x2), (3, .int x3), (4, .int x4)]) hx hb dX5_first_74 hl (k := 5) rfl (by rw [ey10]; rfl) (by decide) rfl (fun ls hl => ?_)
        refine lv_goto (tgt := 28) hx hb dX5_first_77 (by decide) ?_
        exact KI _ _ _ _ _ (Option.some.inj hf).symm _ _ _ hP hS (lv_sub hl [1, 2, 3, 4, 5, 0] rfl)
      · rw [if_neg c9] at hf
        obtain ⟨y11, ey11⟩ : ∃ z : Int32, z = x2 + 1 := ⟨_, rfl⟩
        replace hf := hj_nm_y hf ey11
        refine lv_iinc (v := y11) (lv' := [(2, .int y11), (0, .ref (ad 0)), (1, .int x1), (3, .int x3), (4, .int x4), (5, .int x5)]) hx hb dX5_first_59 hl (k := 2) rfl (by rw [ey11]; rfl) (by decide) rfl (fun ls hl => ?_)
        refine lv_iload_n hx hb dX5_first_62 rfl (lv_at hl 3 rfl) ?_
        refine lv_iload hx hb dX5_first_63 (lv_at hl 5 rfl) ?_
        refine lv_iand hx hb dX5_first_65 ?_
        refine lv_topi (fun y12 ey12 => ?_)
        replace hf := hj_nm_y hf ey12
        refine lv_istore_n (lv' := [(3, .int y12), (2, .int y11), (0, .ref (ad 0)), (1, .int x1), (4, .int x4), (5, .int x5)]) hx hb dX5_first_66 rfl hl (by decide) rfl (fun ls hl => ?_)
        refine lv_iload hx hb dX5_first_67 (lv_at hl 4 rfl) ?_
        refine lv_iload hx hb dX5_first_69 (lv_at hl 5 rfl) ?_
        refine lv_ior hx hb dX5_first_71 ?_
        refine lv_topi (fun y13 ey13 => ?_)
        replace hf := hj_nm_y hf ey13
        refine lv_istore (lv' := [(4, .int y13), (3, .int y12), (2, .int y11), (0, .ref (ad 0)), (1, .int x1), (5, .int x5)]) hx hb dX5_first_72 hl (by decide) rfl (fun ls hl => ?_)
        obtain ⟨y14, ey14⟩ : ∃ z : Int32, z = x5 + 1 := ⟨_, rfl⟩
        replace hf := hj_nm_y hf ey14
        refine lv_iinc (v := y14) (lv' := [(5, .int y14), (4, .int y13), (3, .int y12), (2, .int y11), (0, .ref (ad 0)), (1, .int x1)]) hx hb dX5_first_74 hl (k := 5) rfl (by rw [ey14]; rfl) (by decide) rfl (fun ls hl => ?_)
        refine lv_goto (tgt := 28) hx hb dX5_first_77 (by decide) ?_
        exact KI _ _ _ _ _ (Option.some.inj hf).symm _ _ _ hP hS (lv_sub hl [4, 5, 3, 2, 1, 0] rfl)
set_option maxHeartbeats 4000000 in
set_option maxRecDepth 100000 in
theorem wX5_first_28 {p : Program} {l : Launch} {e : Env} {s : State} {m : MethodId} {args : Array Value} {below : List Frame} {meth : Method} {c : Code} {g : hj_G} {ad : Nat → Nat} (hI : hj_I 73 ad) (C : hj_C p s m args meth c cX5_first RX5 wsX5_first 6 (some .int)) (hK : hj_K g s) {bf : Nat → Nat} {sd : Int64} {x1 : Int32} {rF : Int32} {σF : Nat → hj_Ob} {e2 : Int32} {e3 : Int32} {e4 : Int32} {σe : Nat → hj_Ob} :
    ∀ (fu : Nat) (x2 : Int32) (x3 : Int32) (x4 : Int32) (x5 : Int32) (σ : Nat → hj_Ob), hj_lp (fun q : (Int32 × Int32 × Int32 × Int32 × (Nat → hj_Ob)) => fX5_first_28 q.2.2.2.2 bf sd x1 q.1 q.2.1 q.2.2.1 q.2.2.2.1) fu (x2, x3, x4, x5, σ) = some (e2, e3, e4, σe) → (∀ (H : Heap) (locs : List Loc) (ls : Array Slot), hj_P g 73 ad (hj_wx g ad σe bf sd) H → hj_S 73 ad s H locs → lv_has ls 6 [(0, .ref (ad 0)), (1, .int x1), (2, .int e2), (3, .int e3), (4, .int e4)] → W p l e rmX5_first s m args below meth c H locs 0 0 (MQ below (hj_QI g 73 ad (hj_wx g ad σF bf sd) rF s.heap.size) args s 0 0 (hj_A 73 ad s.heap.size)) (F0 m 80 ls [])) → ∀ (H : Heap) (locs : List Loc) (ls : Array Slot), hj_P g 73 ad (hj_wx g ad σ bf sd) H → hj_S 73 ad s H locs → lv_has ls 6 [(0, .ref (ad 0)), (1, .int x1), (2, .int x2), (3, .int x3), (4, .int x4), (5, .int x5)] →
    W p l e rmX5_first s m args below meth c H locs 0 0 (MQ below (hj_QI g 73 ad (hj_wx g ad σF bf sd) rF s.heap.size) args s 0 0 (hj_A 73 ad s.heap.size)) (F0 m 28 ls []) := by
  intro fu
  induction fu with
  | zero => intro x2 x3 x4 x5 σ hq; cases hq
  | succ fu ih =>
    intro x2 x3 x4 x5 σ hq KX H locs ls hP hS hl
    obtain ⟨y, hy, h1, h2⟩ := hj_lp_s hq
    exact wX5_first_28b hI C hK  hy (fun v2 v3 v4 σ' hv H locs ls hP hS hl => by have hw := h1 _ hv; obtain ⟨rfl, hw0⟩ := Prod.mk.inj hw; obtain ⟨rfl, hw1⟩ := Prod.mk.inj hw0; obtain ⟨rfl, rfl⟩ := Prod.mk.inj hw1; exact KX H locs ls hP hS hl) (fun v2 v3 v4 v5 σ' hv H locs ls hP hS hl => ih v2 v3 v4 v5 σ' (h2 _ hv) KX H locs ls hP hS hl) hP hS hl
def fX5_first (σ : Nat → hj_Ob) (bf : Nat → Nat) (sd : Int64) (x1 : Int32) : Option (Int32 × (Nat → hj_Ob)) :=
  if x1 < 0 then (some ((-2), σ)) else (if x1 ≤ 2 then (hj_nm ((σ 11).1 4) fun y3 => hj_o4 (hj_lp (fun q : (Int32 × Int32 × Int32 × Int32 × (Nat → hj_Ob)) => fX5_first_28 q.2.2.2.2 bf sd x1 q.1 q.2.1 q.2.2.1 q.2.2.2.1) 100 (0, y3, 0, 0, σ)) fun e15 e16 e17 σ18 => (if x1 = 0 then (some (e15, σ18)) else (if e15 = 0 then (some ((-9), σ18)) else (if x1 = 1 then (some (e16, σ18)) else (some (((σ18 11).1 4) &&& (e17 ^^^ (-1)), σ18)))))) else (some ((-2), σ)))
set_option maxHeartbeats 4000000 in
set_option maxRecDepth 100000 in
theorem wX5_first {p : Program} {l : Launch} {e : Env} {s : State} {m : MethodId} {args : Array Value} {below : List Frame} {meth : Method} {c : Code} {g : hj_G} {ad : Nat → Nat} (hI : hj_I 73 ad) (C : hj_C p s m args meth c cX5_first RX5 wsX5_first 6 (some .int)) (hK : hj_K g s) {σ : Nat → hj_Ob} {bf : Nat → Nat} {sd : Int64} {x1 : Int32} {rF : Int32} {σF : Nat → hj_Ob}
    (hf : fX5_first σ bf sd x1 = some (rF, σF)) {H : Heap} {locs : List Loc} {ls : Array Slot} (hP : hj_P g 73 ad (hj_wx g ad σ bf sd) H) (hS : hj_S 73 ad s H locs) (hl : lv_has ls 6 [(0, .ref (ad 0)), (1, .int x1)]) :
    W p l e rmX5_first s m args below meth c H locs 0 0 (MQ below (hj_QI g 73 ad (hj_wx g ad σF bf sd) rF s.heap.size) args s 0 0 (hj_A 73 ad s.heap.size)) (F0 m 0 ls []) := by
  obtain ⟨hx, hb, hr, hml, hown, hts, hlocks⟩ := id C
  unfold fX5_first at hf
  refine lv_iload_n hx hb dX5_first_0 rfl (lv_at hl 1 rfl) ?_
  refine lv_if_lt (tgt := 9) hx hb dX5_first_1 (by decide) (fun c1 => ?_) (fun c1 => ?_)
  · rw [if_pos c1] at hf
    refine lv_bipush (v := (-2)) hx hb dX5_first_9 (by decide) ?_
    have hq := Option.some.inj hf
    obtain ⟨rfl, rfl⟩ := Prod.mk.inj hq
    exact hj_reti C hP hK hS dX5_first_11
  · rw [if_neg c1] at hf
    refine lv_iload_n hx hb dX5_first_4 rfl (lv_at hl 1 rfl) ?_
    refine lv_iconst (v := 2) hx hb dX5_first_5 (by decide) ?_
    refine lv_icmp_le (tgt := 12) hx hb dX5_first_6 (by decide) (fun c2 => ?_) (fun c2 => ?_)
    · rw [if_pos c2] at hf
      refine lv_iconst (v := 0) hx hb dX5_first_12 (by decide) ?_
      refine lv_istore_n (lv' := [(2, .int 0), (0, .ref (ad 0)), (1, .int x1)]) hx hb dX5_first_13 rfl hl (by decide) rfl (fun ls hl => ?_)
      refine lv_aload_n hx hb dX5_first_14 rfl (lv_at hl 1 rfl) ?_
      refine hj_get (ci := 5) (v := .ref (ad 11)) (C := RX5) (T := TX5) (N := 10) hx hb hts iX5_first_X5 hown hK hP (by decide) wx_at_h rfl 3 (by decide) mX5_first_1 rfl dX5_first_15 ?_
      refine hj_get (ci := 2) (v := .int ((σ 11).1 4)) (C := RX2) (T := TX2) (N := 6) hx hb hts iX5_first_X2 hown hK hP (by decide) (wx_at_r wx_R_11 rfl) rfl 4 (by decide) mX5_first_2 rfl dX5_first_18 ?_
      refine lv_topi (fun y3 ey3 => ?_)
      replace hf := hj_nm_y hf ey3
      refine lv_istore_n (lv' := [(3, .int y3), (2, .int 0), (0, .ref (ad 0)), (1, .int x1)]) hx hb dX5_first_21 rfl hl (by decide) rfl (fun ls hl => ?_)
      refine lv_iconst (v := 0) hx hb dX5_first_22 (by decide) ?_
      refine lv_istore (lv' := [(4, .int 0), (3, .int y3), (2, .int 0), (0, .ref (ad 0)), (1, .int x1)]) hx hb dX5_first_23 hl (by decide) rfl (fun ls hl => ?_)
      refine lv_iconst (v := 0) hx hb dX5_first_25 (by decide) ?_
      refine lv_istore (lv' := [(5, .int 0), (4, .int 0), (3, .int y3), (2, .int 0), (0, .ref (ad 0)), (1, .int x1)]) hx hb dX5_first_26 hl (by decide) rfl (fun ls hl => ?_)
      obtain ⟨e15, e16, e17, σ18, hlx, hf⟩ := hj_o4_s hf
      refine wX5_first_28 hI C hK  100 0 y3 0 0 σ hlx (fun H locs ls hP hS hl => ?_) H locs ls hP hS (lv_sub hl [4, 5, 3, 2, 1, 0] rfl)
      refine lv_iload_n hx hb dX5_first_80 rfl (lv_at hl 1 rfl) ?_
      refine lv_if_ne (tgt := 86) hx hb dX5_first_81 (by decide) (fun c19 => ?_) (fun c19 => ?_)
      · rw [if_neg c19] at hf
        refine lv_iload_n hx hb dX5_first_86 rfl (lv_at hl 2 rfl) ?_
        refine lv_if_ne (tgt := 93) hx hb dX5_first_87 (by decide) (fun c20 => ?_) (fun c20 => ?_)
        · rw [if_neg c20] at hf
          refine lv_iload_n hx hb dX5_first_93 rfl (lv_at hl 1 rfl) ?_
          refine lv_iconst (v := 1) hx hb dX5_first_94 (by decide) ?_
          refine lv_icmp_ne (tgt := 102) hx hb dX5_first_95 (by decide) (fun c21 => ?_) (fun c21 => ?_)
          · rw [if_neg c21] at hf
            refine lv_aload_n hx hb dX5_first_102 rfl (lv_at hl 0 rfl) ?_
            refine hj_get (ci := 5) (v := .ref (ad 11)) (C := RX5) (T := TX5) (N := 10) hx hb hts iX5_first_X5 hown hK hP (by decide) wx_at_h rfl 3 (by decide) mX5_first_1 rfl dX5_first_103 ?_
            refine hj_get (ci := 2) (v := .int ((σ18 11).1 4)) (C := RX2) (T := TX2) (N := 6) hx hb hts iX5_first_X2 hown hK hP (by decide) (wx_at_r wx_R_11 rfl) rfl 4 (by decide) mX5_first_2 rfl dX5_first_106 ?_
            refine lv_iload hx hb dX5_first_109 (lv_at hl 4 rfl) ?_
            refine lv_iconst (v := (-1)) hx hb dX5_first_111 (by decide) ?_
            refine lv_ixor hx hb dX5_first_112 ?_
            refine lv_iand hx hb dX5_first_113 ?_
            have hq := Option.some.inj hf
            obtain ⟨rfl, rfl⟩ := Prod.mk.inj hq
            exact hj_reti C hP hK hS dX5_first_114
          · rw [if_pos c21] at hf
            refine lv_iload_n hx hb dX5_first_98 rfl (lv_at hl 3 rfl) ?_
            refine lv_goto (tgt := 114) hx hb dX5_first_99 (by decide) ?_
            have hq := Option.some.inj hf
            obtain ⟨rfl, rfl⟩ := Prod.mk.inj hq
            exact hj_reti C hP hK hS dX5_first_114
        · rw [if_pos c20] at hf
          refine lv_bipush (v := (-9)) hx hb dX5_first_90 (by decide) ?_
          have hq := Option.some.inj hf
          obtain ⟨rfl, rfl⟩ := Prod.mk.inj hq
          exact hj_reti C hP hK hS dX5_first_92
      · rw [if_pos c19] at hf
        refine lv_iload_n hx hb dX5_first_84 rfl (lv_at hl 2 rfl) ?_
        have hq := Option.some.inj hf
        obtain ⟨rfl, rfl⟩ := Prod.mk.inj hq
        exact hj_reti C hP hK hS dX5_first_85
    · rw [if_neg c2] at hf
      refine lv_bipush (v := (-2)) hx hb dX5_first_9 (by decide) ?_
      have hq := Option.some.inj hf
      obtain ⟨rfl, rfl⟩ := Prod.mk.inj hq
      exact hj_reti C hP hK hS dX5_first_11
set_option maxHeartbeats 4000000 in
set_option maxRecDepth 100000 in
theorem ctX5_first (l : Launch) (g : hj_G) {ad : Nat → Nat} (hI : hj_I 73 ad) {σ : Nat → hj_Ob} {bf : Nat → Nat} {sd : Int64} {x1 : Int32} {rF : Int32} {σF : Nat → hj_Ob} (hf : fX5_first σ bf sd x1 = some (rF, σF)) :
    hj_MI l yX5_first wsX5_first rmX5_first g 73 ad hj_X0 [.ref (ad 0), .int x1] (hj_wx g ad σ bf sd) rF (hj_wx g ad σF bf sd) := by
  refine hj_ofI (cc := cX5_first) (maxL := 6) (ret := (some .int)) (by decide) rfl (Nat.le_of_ble_eq_true rfl) ?_
  intro p e s m args below meth c ls C hP hK hX hl
  exact wX5_first hI C hK hf hP va_S.rf hl

/-! X5_commonDivisor -/
abbrev rmX5_commonDivisor : Room := { frames := 0, cells := 0, slots := 0, locals := 0 }
def fX5_commonDivisor_7 (x2 : Int32) (x3 : Int32) (x4 : Int32) : Option (Int32 ⊕ (Int32 × Int32 × Int32)) :=
  if 64 ≤ x4 then (some (.inl x2)) else (if x3 ≤ 0 then (some (.inl x2)) else (hj_nz x3 (hj_nm (x2 - x2 / x3 * x3) fun y4 => hj_nm (x4 + 1) fun y5 => some (.inr (x3, y4, y5)))))
set_option maxHeartbeats 4000000 in
set_option maxRecDepth 100000 in
theorem wX5_commonDivisor_7b {p : Program} {l : Launch} {e : Env} {s : State} {m : MethodId} {args : Array Value} {below : List Frame} {meth : Method} {c : Code} {g : hj_G} {ad : Nat → Nat} {n : Nat} {w : Nat → va_E} (C : hj_C p s m args meth c cX5_commonDivisor RX5 wsX5_commonDivisor 6 (some .int)) (hK : hj_K g s) {x2 : Int32} {x3 : Int32} {x4 : Int32} {y : Int32 ⊕ (Int32 × Int32 × Int32)} {rF : Int32}
    (hf : fX5_commonDivisor_7 x2 x3 x4 = some y) (KX : ∀ (v2 : Int32), y = .inl v2 → ∀ (H : Heap) (locs : List Loc) (ls : Array Slot), hj_P g n ad w H → hj_S n ad s H locs → lv_has ls 6 [(2, .int v2)] → W p l e rmX5_commonDivisor s m args below meth c H locs 0 0 (MQ below (hj_QI g n ad w rF s.heap.size) args s 0 0 (hj_A n ad s.heap.size)) (F0 m 34 ls [])) (KI : ∀ (v2 : Int32) (v3 : Int32) (v4 : Int32), y = .inr (v2, v3, v4) → ∀ (H : Heap) (locs : List Loc) (ls : Array Slot), hj_P g n ad w H → hj_S n ad s H locs → lv_has ls 6 [(2, .int v2), (3, .int v3), (4, .int v4)] → W p l e rmX5_commonDivisor s m args below meth c H locs 0 0 (MQ below (hj_QI g n ad w rF s.heap.size) args s 0 0 (hj_A n ad s.heap.size)) (F0 m 7 ls [])) {H : Heap} {locs : List Loc} {ls : Array Slot} (hP : hj_P g n ad w H) (hS : hj_S n ad s H locs) (hl : lv_has ls 6 [(2, .int x2), (3, .int x3), (4, .int x4)]) :
    W p l e rmX5_commonDivisor s m args below meth c H locs 0 0 (MQ below (hj_QI g n ad w rF s.heap.size) args s 0 0 (hj_A n ad s.heap.size)) (F0 m 7 ls []) := by
  obtain ⟨hx, hb, hr, hml, hown, hts, hlocks⟩ := id C
  unfold fX5_commonDivisor_7 at hf
  refine lv_iload hx hb dX5_commonDivisor_7 (lv_at hl 2 rfl) ?_
  refine lv_bipush (v := 64) hx hb dX5_commonDivisor_9 (by decide) ?_
  refine lv_icmp_ge (tgt := 34) hx hb dX5_commonDivisor_11 (by decide) (fun c1 => ?_) (fun c1 => ?_)
  · rw [if_pos c1] at hf
    exact KX _ (Option.some.inj hf).symm _ _ _ hP hS (lv_sub hl [0] rfl)
  · rw [if_neg c1] at hf
    refine lv_iload_n hx hb dX5_commonDivisor_14 rfl (lv_at hl 1 rfl) ?_
    refine lv_if_le (tgt := 34) hx hb dX5_commonDivisor_15 (by decide) (fun c2 => ?_) (fun c2 => ?_)
    · rw [if_pos c2] at hf
      exact KX _ (Option.some.inj hf).symm _ _ _ hP hS (lv_sub hl [0] rfl)
    · rw [if_neg c2] at hf
      refine lv_iload_n hx hb dX5_commonDivisor_18 rfl (lv_at hl 0 rfl) ?_
      refine lv_iload_n hx hb dX5_commonDivisor_19 rfl (lv_at hl 1 rfl) ?_
      obtain ⟨hz3, hf⟩ := hj_nz_s hf
      refine lv_irem hx hb dX5_commonDivisor_20 hz3 ?_
      refine lv_topi (fun y4 ey4 => ?_)
      replace hf := hj_nm_y hf ey4
      refine lv_istore (lv' := [(5, .int y4), (2, .int x2), (3, .int x3), (4, .int x4)]) hx hb dX5_commonDivisor_21 hl (by decide) rfl (fun ls hl => ?_)
      refine lv_iload_n hx hb dX5_commonDivisor_23 rfl (lv_at hl 2 rfl) ?_
      refine lv_istore_n (lv' := [(2, .int x3), (5, .int y4), (3, .int x3), (4, .int x4)]) hx hb dX5_commonDivisor_24 rfl hl (by decide) rfl (fun ls hl => ?_)
      refine lv_iload hx hb dX5_commonDivisor_25 (lv_at hl 1 rfl) ?_
      refine lv_istore_n (lv' := [(3, .int y4), (2, .int x3), (5, .int y4), (4, .int x4)]) hx hb dX5_commonDivisor_27 rfl hl (by decide) rfl (fun ls hl => ?_)
      obtain ⟨y5, ey5⟩ : ∃ z : Int32, z = x4 + 1 := ⟨_, rfl⟩
      replace hf := hj_nm_y hf ey5
      refine lv_iinc (v := y5) (lv' := [(4, .int y5), (3, .int y4), (2, .int x3), (5, .int y4)]) hx hb dX5_commonDivisor_28 hl (k := 3) rfl (by rw [ey5]; rfl) (by decide) rfl (fun ls hl => ?_)
      refine lv_goto (tgt := 7) hx hb dX5_commonDivisor_31 (by decide) ?_
      exact KI _ _ _ (Option.some.inj hf).symm _ _ _ hP hS (lv_sub hl [2, 1, 0] rfl)
set_option maxHeartbeats 4000000 in
set_option maxRecDepth 100000 in
theorem wX5_commonDivisor_7 {p : Program} {l : Launch} {e : Env} {s : State} {m : MethodId} {args : Array Value} {below : List Frame} {meth : Method} {c : Code} {g : hj_G} {ad : Nat → Nat} {n : Nat} {w : Nat → va_E} (C : hj_C p s m args meth c cX5_commonDivisor RX5 wsX5_commonDivisor 6 (some .int)) (hK : hj_K g s) {rF : Int32} {e2 : Int32} :
    ∀ (fu : Nat) (x2 : Int32) (x3 : Int32) (x4 : Int32), hj_lp (fun q : (Int32 × Int32 × Int32) => fX5_commonDivisor_7 q.1 q.2.1 q.2.2) fu (x2, x3, x4) = some e2 → (∀ (H : Heap) (locs : List Loc) (ls : Array Slot), hj_P g n ad w H → hj_S n ad s H locs → lv_has ls 6 [(2, .int e2)] → W p l e rmX5_commonDivisor s m args below meth c H locs 0 0 (MQ below (hj_QI g n ad w rF s.heap.size) args s 0 0 (hj_A n ad s.heap.size)) (F0 m 34 ls [])) → ∀ (H : Heap) (locs : List Loc) (ls : Array Slot), hj_P g n ad w H → hj_S n ad s H locs → lv_has ls 6 [(2, .int x2), (3, .int x3), (4, .int x4)] →
    W p l e rmX5_commonDivisor s m args below meth c H locs 0 0 (MQ below (hj_QI g n ad w rF s.heap.size) args s 0 0 (hj_A n ad s.heap.size)) (F0 m 7 ls []) := by
  intro fu
  induction fu with
  | zero => intro x2 x3 x4 hq; cases hq
  | succ fu ih =>
    intro x2 x3 x4 hq KX H locs ls hP hS hl
    obtain ⟨y, hy, h1, h2⟩ := hj_lp_s hq
    exact wX5_commonDivisor_7b C hK  hy (fun v2 hv H locs ls hP hS hl => by obtain rfl := h1 _ hv; exact KX H locs ls hP hS hl) (fun v2 v3 v4 hv H locs ls hP hS hl => ih v2 v3 v4 (h2 _ hv) KX H locs ls hP hS hl) hP hS hl
def fX5_commonDivisor (x0 : Int32) (x1 : Int32) : Option Int32 :=
  hj_o1 (hj_lp (fun q : (Int32 × Int32 × Int32) => fX5_commonDivisor_7 q.1 q.2.1 q.2.2) 70 (x0, x1, 0)) fun e6 => (some e6)
set_option maxHeartbeats 4000000 in
set_option maxRecDepth 100000 in
theorem wX5_commonDivisor {p : Program} {l : Launch} {e : Env} {s : State} {m : MethodId} {args : Array Value} {below : List Frame} {meth : Method} {c : Code} {g : hj_G} {ad : Nat → Nat} {n : Nat} {w : Nat → va_E} (C : hj_C p s m args meth c cX5_commonDivisor RX5 wsX5_commonDivisor 6 (some .int)) (hK : hj_K g s) {x0 : Int32} {x1 : Int32} {rF : Int32}
    (hf : fX5_commonDivisor x0 x1 = some rF) {H : Heap} {locs : List Loc} {ls : Array Slot} (hP : hj_P g n ad w H) (hS : hj_S n ad s H locs) (hl : lv_has ls 6 [(0, .int x0), (1, .int x1)]) :
    W p l e rmX5_commonDivisor s m args below meth c H locs 0 0 (MQ below (hj_QI g n ad w rF s.heap.size) args s 0 0 (hj_A n ad s.heap.size)) (F0 m 0 ls []) := by
  obtain ⟨hx, hb, hr, hml, hown, hts, hlocks⟩ := id C
  unfold fX5_commonDivisor at hf
  refine lv_iload_n hx hb dX5_commonDivisor_0 rfl (lv_at hl 0 rfl) ?_
  refine lv_istore_n (lv' := [(2, .int x0), (0, .int x0), (1, .int x1)]) hx hb dX5_commonDivisor_1 rfl hl (by decide) rfl (fun ls hl => ?_)
  refine lv_iload_n hx hb dX5_commonDivisor_2 rfl (lv_at hl 2 rfl) ?_
  refine lv_istore_n (lv' := [(3, .int x1), (2, .int x0), (0, .int x0), (1, .int x1)]) hx hb dX5_commonDivisor_3 rfl hl (by decide) rfl (fun ls hl => ?_)
  refine lv_iconst (v := 0) hx hb dX5_commonDivisor_4 (by decide) ?_
  refine lv_istore (lv' := [(4, .int 0), (3, .int x1), (2, .int x0), (0, .int x0), (1, .int x1)]) hx hb dX5_commonDivisor_5 hl (by decide) rfl (fun ls hl => ?_)
  obtain ⟨e6, hlx, hf⟩ := hj_o1_s hf
  refine wX5_commonDivisor_7 C hK  70 x0 x1 0 hlx (fun H locs ls hP hS hl => ?_) H locs ls hP hS (lv_sub hl [2, 1, 0] rfl)
  refine lv_iload_n hx hb dX5_commonDivisor_34 rfl (lv_at hl 0 rfl) ?_
  have hq := Option.some.inj hf
  obtain rfl := hq
  exact hj_reti C hP hK hS dX5_commonDivisor_35
set_option maxHeartbeats 4000000 in
set_option maxRecDepth 100000 in
theorem ctX5_commonDivisor (l : Launch) (g : hj_G) {ad : Nat → Nat} {n : Nat} {w : Nat → va_E} {x0 : Int32} {x1 : Int32} {rF : Int32} (hf : fX5_commonDivisor x0 x1 = some rF) :
    hj_MI l yX5_commonDivisor wsX5_commonDivisor rmX5_commonDivisor g n ad hj_X0 [.int x0, .int x1] w rF w := by
  refine hj_ofI (cc := cX5_commonDivisor) (maxL := 6) (ret := (some .int)) (by decide) rfl (Nat.le_of_ble_eq_true rfl) ?_
  intro p e s m args below meth c ls C hP hK hX hl
  exact wX5_commonDivisor C hK hf hP va_S.rf hl

/-! X5_partOfFraction -/
abbrev rmX5_partOfFraction : Room := { frames := 1, cells := 0, slots := 0, locals := 25 }
theorem mX5_partOfFraction_1 : Cond.methodLink RX5 228 Lib.Math.abs.name ∈ wsX5_partOfFraction := List.mem_of_getElem? (i := 1) rfl
theorem mX5_partOfFraction_2 : Cond.static Lib.Math.abs.name ∈ wsX5_partOfFraction := List.mem_of_getElem? (i := 2) rfl
theorem mX5_partOfFraction_3 : Cond.initialized "java/lang/Math" ∈ wsX5_partOfFraction := List.mem_of_getElem? (i := 3) rfl
theorem mX5_partOfFraction_4 : Cond.code Lib.Math.abs.name Lib.Math.abs.code 1 (some .int) ∈ wsX5_partOfFraction := List.mem_of_getElem? (i := 4) rfl
def fX5_partOfFraction (x0 : Int32) (x1 : Int32) (x2 : Int32) : Option Int32 :=
  hj_o1 (fX5_commonDivisor (if 0 ≤ x0 then x0 else 0 - x0) x1) fun r1 => if 1 ≤ r1 then (if x2 = 0 then (hj_nz r1 (some (x1 / r1))) else (hj_nz r1 (some (x0 / r1)))) else (some (-2))
set_option maxHeartbeats 4000000 in
set_option maxRecDepth 100000 in
theorem wX5_partOfFraction {p : Program} {l : Launch} {e : Env} {s : State} {m : MethodId} {args : Array Value} {below : List Frame} {meth : Method} {c : Code} {g : hj_G} {ad : Nat → Nat} {n : Nat} {w : Nat → va_E} (C : hj_C p s m args meth c cX5_partOfFraction RX5 wsX5_partOfFraction 4 (some .int)) (hK : hj_K g s) {x0 : Int32} {x1 : Int32} {x2 : Int32} {rF : Int32}
    (hf : fX5_partOfFraction x0 x1 x2 = some rF) {H : Heap} {locs : List Loc} {ls : Array Slot} (hP : hj_P g n ad w H) (hS : hj_S n ad s H locs) (hl : lv_has ls 4 [(0, .int x0), (1, .int x1), (2, .int x2)]) :
    W p l e rmX5_partOfFraction s m args below meth c H locs 0 0 (MQ below (hj_QI g n ad w rF s.heap.size) args s 0 0 (hj_A n ad s.heap.size)) (F0 m 0 ls []) := by
  obtain ⟨hx, hb, hr, hml, hown, hts, hlocks⟩ := id C
  unfold fX5_partOfFraction at hf
  refine lv_iload_n hx hb dX5_partOfFraction_0 rfl (lv_at hl 0 rfl) ?_
  refine va_mabs hx hb (hml.trans hl.1.symm) hown (hts _ mX5_partOfFraction_1) (hts _ mX5_partOfFraction_2) (hts _ mX5_partOfFraction_3) (hts _ mX5_partOfFraction_4) (Nat.le_of_ble_eq_true rfl) (Nat.le_of_ble_eq_true rfl) (Nat.zero_le _) (Nat.zero_le _) dX5_partOfFraction_1 ?_
  refine lv_iload_n hx hb dX5_partOfFraction_4 rfl (lv_at hl 1 rfl) ?_
  obtain ⟨r1, hc, hf⟩ := hj_o1_s hf
  refine hj_callSi (nL := 4) (As := [.int (if 0 ≤ x0 then x0 else 0 - x0), .int x1]) (rest := []) ⟨hx, hb, hml, hown, hts⟩ (ctX5_commonDivisor l g (n := n) (ad := ad) (w := w) hc) (va_cwS 2 hts gX5_partOfFraction_X5_commonDivisor rfl rfl rfl (by decide +kernel) ⟨Nat.le_of_ble_eq_true rfl, Nat.le_of_ble_eq_true rfl⟩) hj_Xb0 (fun _ _ _ => trivial) hK hP hS rfl hl.1 rfl (Nat.le_of_ble_eq_true rfl) dX5_partOfFraction_5 (fun H locs hP hS => ?_)
  refine lv_istore_n (lv' := [(3, .int r1), (0, .int x0), (1, .int x1), (2, .int x2)]) hx hb dX5_partOfFraction_8 rfl hl (by decide) rfl (fun ls hl => ?_)
  refine lv_iload_n hx hb dX5_partOfFraction_9 rfl (lv_at hl 0 rfl) ?_
  refine lv_iconst (v := 1) hx hb dX5_partOfFraction_10 (by decide) ?_
  refine lv_icmp_ge (tgt := 17) hx hb dX5_partOfFraction_11 (by decide) (fun c2 => ?_) (fun c2 => ?_)
  · rw [if_pos c2] at hf
    refine lv_iload_n hx hb dX5_partOfFraction_17 rfl (lv_at hl 3 rfl) ?_
    refine lv_if_eq (tgt := 25) hx hb dX5_partOfFraction_18 (by decide) (fun c3 => ?_) (fun c3 => ?_)
    · rw [if_pos c3] at hf
      refine lv_iload_n hx hb dX5_partOfFraction_25 rfl (lv_at hl 2 rfl) ?_
      refine lv_iload_n hx hb dX5_partOfFraction_26 rfl (lv_at hl 0 rfl) ?_
      obtain ⟨hz4, hf⟩ := hj_nz_s hf
      refine lv_idiv hx hb dX5_partOfFraction_27 hz4 ?_
      have hq := Option.some.inj hf
      obtain rfl := hq
      exact hj_reti C hP hK hS dX5_partOfFraction_28
    · rw [if_neg c3] at hf
      refine lv_iload_n hx hb dX5_partOfFraction_21 rfl (lv_at hl 1 rfl) ?_
      refine lv_goto (tgt := 26) hx hb dX5_partOfFraction_22 (by decide) ?_
      refine lv_iload_n hx hb dX5_partOfFraction_26 rfl (lv_at hl 0 rfl) ?_
      obtain ⟨hz5, hf⟩ := hj_nz_s hf
      refine lv_idiv hx hb dX5_partOfFraction_27 hz5 ?_
      have hq := Option.some.inj hf
      obtain rfl := hq
      exact hj_reti C hP hK hS dX5_partOfFraction_28
  · rw [if_neg c2] at hf
    refine lv_bipush (v := (-2)) hx hb dX5_partOfFraction_14 (by decide) ?_
    have hq := Option.some.inj hf
    obtain rfl := hq
    exact hj_reti C hP hK hS dX5_partOfFraction_16
set_option maxHeartbeats 4000000 in
set_option maxRecDepth 100000 in
theorem ctX5_partOfFraction (l : Launch) (g : hj_G) {ad : Nat → Nat} {n : Nat} {w : Nat → va_E} {x0 : Int32} {x1 : Int32} {x2 : Int32} {rF : Int32} (hf : fX5_partOfFraction x0 x1 x2 = some rF) :
    hj_MI l yX5_partOfFraction wsX5_partOfFraction rmX5_partOfFraction g n ad hj_X0 [.int x0, .int x1, .int x2] w rF w := by
  refine hj_ofI (cc := cX5_partOfFraction) (maxL := 4) (ret := (some .int)) (by decide) rfl (Nat.le_of_ble_eq_true rfl) ?_
  intro p e s m args below meth c ls C hP hK hX hl
  exact wX5_partOfFraction C hK hf hP va_S.rf hl

/-! X5_endIsYesFrom -/
abbrev rmX5_endIsYesFrom : Room := { frames := 4, cells := 0, slots := 0, locals := 89 }
theorem iX5_endIsYesFrom_X5 : ∀ w ∈ wsX50, w ∈ wsX5_endIsYesFrom := fun _ h => List.mem_cons_of_mem _ (List.mem_append_left _ (List.mem_append_left _ (List.mem_append_right _ h)))
theorem mX5_endIsYesFrom_1 : Cond.fieldLink RX5 35 "HungryJury" "trial" "LHungryJury$Room;" ∈ wsX5_endIsYesFrom := List.mem_of_getElem? (i := 1) rfl
theorem mX5_endIsYesFrom_2 : Cond.fieldLink RX5 31 "HungryJury" "now" "LHungryJury$Room;" ∈ wsX5_endIsYesFrom := List.mem_of_getElem? (i := 2) rfl
theorem iX5_endIsYesFrom_X2 : ∀ w ∈ wsX20, w ∈ wsX5_endIsYesFrom := fun _ h => List.mem_cons_of_mem _ (List.mem_append_left _ (List.mem_append_right _ h))
theorem mX5_endIsYesFrom_3 : Cond.fieldLink RX5 218 "HungryJury$Room" "yes" "I" ∈ wsX5_endIsYesFrom := List.mem_of_getElem? (i := 3) rfl
def fX5_endIsYesFrom (σ : Nat → hj_Ob) (bf : Nat → Nat) (sd : Int64) (x1 : Int32) : Option (Int32 × (Nat → hj_Ob)) :=
  hj_o1 (fX2_copyFrom (σ 3) (σ 11) (σ 14)) fun ρ1 => hj_nm (va_up σ 14 ρ1) fun σ2 => hj_nm (va_up σ2 14 (hj_s (σ2 14) 3 x1)) fun σ3 => hj_o2 (fX2_passHoursToEnd (σ3 3) (σ3 14)) fun r4 ρ5 => hj_nm (va_up σ3 14 ρ5) fun σ6 => hj_o1 (fX2_verdict (σ6 3) (σ6 14)) fun r7 => if r7 = 1 then (some (1, σ6)) else (some (0, σ6))
set_option maxHeartbeats 4000000 in
set_option maxRecDepth 100000 in
theorem wX5_endIsYesFrom {p : Program} {l : Launch} {e : Env} {s : State} {m : MethodId} {args : Array Value} {below : List Frame} {meth : Method} {c : Code} {g : hj_G} {ad : Nat → Nat} (hI : hj_I 73 ad) (C : hj_C p s m args meth c cX5_endIsYesFrom RX5 wsX5_endIsYesFrom 2 (some .int)) (hK : hj_K g s) {σ : Nat → hj_Ob} {bf : Nat → Nat} {sd : Int64} {x1 : Int32} {rF : Int32} {σF : Nat → hj_Ob}
    (hf : fX5_endIsYesFrom σ bf sd x1 = some (rF, σF)) {H : Heap} {locs : List Loc} {ls : Array Slot} (hP : hj_P g 73 ad (hj_wx g ad σ bf sd) H) (hS : hj_S 73 ad s H locs) (hl : lv_has ls 2 [(0, .ref (ad 0)), (1, .int x1)]) :
    W p l e rmX5_endIsYesFrom s m args below meth c H locs 0 0 (MQ below (hj_QI g 73 ad (hj_wx g ad σF bf sd) rF s.heap.size) args s 0 0 (hj_A 73 ad s.heap.size)) (F0 m 0 ls []) := by
  obtain ⟨hx, hb, hr, hml, hown, hts, hlocks⟩ := id C
  unfold fX5_endIsYesFrom at hf
  refine lv_aload_n hx hb dX5_endIsYesFrom_0 rfl (lv_at hl 0 rfl) ?_
  refine hj_get (ci := 5) (v := .ref (ad 14)) (C := RX5) (T := TX5) (N := 10) hx hb hts iX5_endIsYesFrom_X5 hown hK hP (by decide) wx_at_h rfl 4 (by decide) mX5_endIsYesFrom_1 rfl dX5_endIsYesFrom_1 ?_
  refine lv_aload_n hx hb dX5_endIsYesFrom_4 rfl (lv_at hl 0 rfl) ?_
  refine hj_get (ci := 5) (v := .ref (ad 11)) (C := RX5) (T := TX5) (N := 10) hx hb hts iX5_endIsYesFrom_X5 hown hK hP (by decide) wx_at_h rfl 3 (by decide) mX5_endIsYesFrom_2 rfl dX5_endIsYesFrom_5 ?_
  obtain ⟨ρ1, hc, hf⟩ := hj_o1_s hf
  refine hj_callVv (nL := 2) (As := [.ref (ad 11)]) (rest := []) (i0 := 14) (C := RX2) (T := TX2) (N := 6) (ci := 2) ⟨hx, hb, hml, hown, hts⟩ (ctX2_copyFrom l g hI (σ := σ) (bf := bf) (sd := sd) wx_R_14 rfl wx_R_11 (by decide) rfl rfl hc) (cwV 1 hts gX5_endIsYesFrom_X2_copyFrom rfl rfl rfl (by decide +kernel) ⟨Nat.le_of_ble_eq_true rfl, Nat.le_of_ble_eq_true rfl⟩) hj_Xb0 (fun _ _ _ => trivial) hK hP hS (by decide) (wx_at_r wx_R_14 rfl) rfl rfl hl.1 rfl (Nat.le_of_ble_eq_true rfl) dX5_endIsYesFrom_8 (fun H locs hP hS => ?_)
  obtain ⟨σ2, eσ2⟩ : ∃ z : Nat → hj_Ob, z = va_up σ 14 ρ1 := ⟨_, rfl⟩
  replace hf := hj_nm_y hf eσ2
  rw [← eσ2] at hP
  refine lv_aload_n hx hb dX5_endIsYesFrom_11 rfl (lv_at hl 0 rfl) ?_
  refine hj_get (ci := 5) (v := .ref (ad 14)) (C := RX5) (T := TX5) (N := 10) hx hb hts iX5_endIsYesFrom_X5 hown hK hP (by decide) wx_at_h rfl 4 (by decide) mX5_endIsYesFrom_1 rfl dX5_endIsYesFrom_12 ?_
  refine lv_iload_n hx hb dX5_endIsYesFrom_15 rfl (lv_at hl 1 rfl) ?_
  refine hj_put (ci := 2) (v := .int x1) (C := RX2) (T := TX2) (N := 6) hx hb hts iX5_endIsYesFrom_X2 tyX2 tyX2_ok nmX2 hown hK hI hP hS (by decide) (wx_at_r wx_R_14 rfl) rfl 3 (by decide) mX5_endIsYesFrom_3 rfl rfl rfl (Nat.le_of_ble_eq_true rfl) dX5_endIsYesFrom_16 (wx_s_r (k := 3) (v := x1) wx_R_14 rfl rfl) (fun H locs hP hS => ?_)
  obtain ⟨σ3, eσ3⟩ : ∃ z : Nat → hj_Ob, z = va_up σ2 14 (hj_s (σ2 14) 3 x1) := ⟨_, rfl⟩
  replace hf := hj_nm_y hf eσ3
  rw [← eσ3] at hP
  refine lv_aload_n hx hb dX5_endIsYesFrom_19 rfl (lv_at hl 0 rfl) ?_
  refine hj_get (ci := 5) (v := .ref (ad 14)) (C := RX5) (T := TX5) (N := 10) hx hb hts iX5_endIsYesFrom_X5 hown hK hP (by decide) wx_at_h rfl 4 (by decide) mX5_endIsYesFrom_1 rfl dX5_endIsYesFrom_20 ?_
  obtain ⟨r4, ρ5, hc, hf⟩ := hj_o2_s hf
  refine hj_callVi (nL := 2) (As := []) (rest := []) (i0 := 14) (C := RX2) (T := TX2) (N := 6) (ci := 2) ⟨hx, hb, hml, hown, hts⟩ (ctX2_passHoursToEnd l g hI (σ := σ3) (bf := bf) (sd := sd) wx_R_14 rfl rfl hc) (cwV 0 hts gX5_endIsYesFrom_X2_passHoursToEnd rfl rfl rfl (by decide +kernel) ⟨Nat.le_of_ble_eq_true rfl, Nat.le_of_ble_eq_true rfl⟩) hj_Xb0 (fun _ _ _ => trivial) hK hP hS (by decide) (wx_at_r wx_R_14 rfl) rfl rfl hl.1 rfl (Nat.le_of_ble_eq_true rfl) dX5_endIsYesFrom_23 (fun H locs hP hS => ?_)
  obtain ⟨σ6, eσ6⟩ : ∃ z : Nat → hj_Ob, z = va_up σ3 14 ρ5 := ⟨_, rfl⟩
  replace hf := hj_nm_y hf eσ6
  rw [← eσ6] at hP
  refine lv_pop hx hb dX5_endIsYesFrom_26 rfl ?_
  refine lv_aload_n hx hb dX5_endIsYesFrom_27 rfl (lv_at hl 0 rfl) ?_
  refine hj_get (ci := 5) (v := .ref (ad 14)) (C := RX5) (T := TX5) (N := 10) hx hb hts iX5_endIsYesFrom_X5 hown hK hP (by decide) wx_at_h rfl 4 (by decide) mX5_endIsYesFrom_1 rfl dX5_endIsYesFrom_28 ?_
  obtain ⟨r7, hc, hf⟩ := hj_o1_s hf
  refine hj_callVi (nL := 2) (As := []) (rest := []) (i0 := 14) (C := RX2) (T := TX2) (N := 6) (ci := 2) ⟨hx, hb, hml, hown, hts⟩ (ctX2_verdict l g hI (σ := σ6) (bf := bf) (sd := sd) wx_R_14 rfl rfl hc) (cwV 0 hts gX5_endIsYesFrom_X2_verdict rfl rfl rfl (by decide +kernel) ⟨Nat.le_of_ble_eq_true rfl, Nat.le_of_ble_eq_true rfl⟩) hj_Xb0 (fun _ _ _ => trivial) hK hP hS (by decide) (wx_at_r wx_R_14 rfl) rfl rfl hl.1 rfl (Nat.le_of_ble_eq_true rfl) dX5_endIsYesFrom_31 (fun H locs hP hS => ?_)
  refine lv_iconst (v := 1) hx hb dX5_endIsYesFrom_34 (by decide) ?_
  refine lv_icmp_ne (tgt := 42) hx hb dX5_endIsYesFrom_35 (by decide) (fun c8 => ?_) (fun c8 => ?_)
  · rw [if_neg c8] at hf
    refine lv_iconst (v := 0) hx hb dX5_endIsYesFrom_42 (by decide) ?_
    have hq := Option.some.inj hf
    obtain ⟨rfl, rfl⟩ := Prod.mk.inj hq
    exact hj_reti C hP hK hS dX5_endIsYesFrom_43
  · rw [if_pos c8] at hf
    refine lv_iconst (v := 1) hx hb dX5_endIsYesFrom_38 (by decide) ?_
    refine lv_goto (tgt := 43) hx hb dX5_endIsYesFrom_39 (by decide) ?_
    have hq := Option.some.inj hf
    obtain ⟨rfl, rfl⟩ := Prod.mk.inj hq
    exact hj_reti C hP hK hS dX5_endIsYesFrom_43
set_option maxHeartbeats 4000000 in
set_option maxRecDepth 100000 in
theorem ctX5_endIsYesFrom (l : Launch) (g : hj_G) {ad : Nat → Nat} (hI : hj_I 73 ad) {σ : Nat → hj_Ob} {bf : Nat → Nat} {sd : Int64} {x1 : Int32} {rF : Int32} {σF : Nat → hj_Ob} (hf : fX5_endIsYesFrom σ bf sd x1 = some (rF, σF)) :
    hj_MI l yX5_endIsYesFrom wsX5_endIsYesFrom rmX5_endIsYesFrom g 73 ad hj_X0 [.ref (ad 0), .int x1] (hj_wx g ad σ bf sd) rF (hj_wx g ad σF bf sd) := by
  refine hj_ofI (cc := cX5_endIsYesFrom) (maxL := 2) (ret := (some .int)) (by decide) rfl (Nat.le_of_ble_eq_true rfl) ?_
  intro p e s m args below meth c ls C hP hK hX hl
  exact wX5_endIsYesFrom hI C hK hf hP va_S.rf hl

/-! X5_factorial -/
abbrev rmX5_factorial : Room := { frames := 0, cells := 0, slots := 0, locals := 0 }
theorem mX5_factorial_1 : Cond.fieldLink RX5 225 "HungryJury" "FACTORIALS" "[I" ∈ wsX5_factorial := List.mem_of_getElem? (i := 1) rfl
def fX5_factorial (x0 : Int32) : Option Int32 :=
  if x0 < 0 then (some 1) else (if x0 < 7 then (hj_ck x0 7 (some (hs_F x0.toNatClampNeg))) else (some 1))
set_option maxHeartbeats 4000000 in
set_option maxRecDepth 100000 in
theorem wX5_factorial {p : Program} {l : Launch} {e : Env} {s : State} {m : MethodId} {args : Array Value} {below : List Frame} {meth : Method} {c : Code} {g : hj_G} {ad : Nat → Nat} {n : Nat} {w : Nat → va_E} (C : hj_C p s m args meth c cX5_factorial RX5 wsX5_factorial 1 (some .int)) (hK : hj_K g s) (hZ : hs_Z (hj_A n ad s.heap.size) s) {x0 : Int32} {rF : Int32}
    (hf : fX5_factorial x0 = some rF) {H : Heap} {locs : List Loc} {ls : Array Slot} (hP : hj_P g n ad w H) (hS : hj_S n ad s H locs) (hl : lv_has ls 1 [(0, .int x0)]) :
    W p l e rmX5_factorial s m args below meth c H locs 0 0 (MQ below (hj_QI g n ad w rF s.heap.size) args s 0 0 (hj_A n ad s.heap.size)) (F0 m 0 ls []) := by
  obtain ⟨hx, hb, hr, hml, hown, hts, hlocks⟩ := id C
  obtain ⟨t1, t2, hz1, hz2, hz3, hz4⟩ := id hZ
  unfold fX5_factorial at hf
  refine lv_iload_n hx hb dX5_factorial_0 rfl (lv_at hl 0 rfl) ?_
  refine lv_if_lt (tgt := 12) hx hb dX5_factorial_1 (by decide) (fun c1 => ?_) (fun c1 => ?_)
  · rw [if_pos c1] at hf
    refine lv_iconst (v := 1) hx hb dX5_factorial_12 (by decide) ?_
    refine lv_goto (tgt := 21) hx hb dX5_factorial_13 (by decide) ?_
    have hq := Option.some.inj hf
    obtain rfl := hq
    exact hj_reti C hP hK hS dX5_factorial_21
  · rw [if_neg c1] at hf
    refine lv_iload_n hx hb dX5_factorial_4 rfl (lv_at hl 0 rfl) ?_
    refine va_gets (C := "HungryJury") (n := "FACTORIALS") (d := "[I") (ref := "HungryJury") hx hb hz3 hS hown (hts _ mX5_factorial_1) (fun _ h => h) dX5_factorial_5 ?_
    refine va_tlen hx hb hz4 hS (v := 7) (by decide) dX5_factorial_8 ?_
    refine lv_icmp_lt (tgt := 16) hx hb dX5_factorial_9 (by decide) (fun c2 => ?_) (fun c2 => ?_)
    · rw [if_pos c2] at hf
      refine va_gets (C := "HungryJury") (n := "FACTORIALS") (d := "[I") (ref := "HungryJury") hx hb hz3 hS hown (hts _ mX5_factorial_1) (fun _ h => h) dX5_factorial_16 ?_
      refine lv_iload_n hx hb dX5_factorial_19 rfl (lv_at hl 0 rfl) ?_
      obtain ⟨hk3, hf⟩ := hj_ck_s hf
      refine va_ti hx hb hz4 hS hk3 rfl dX5_factorial_20 ?_
      have hq := Option.some.inj hf
      obtain rfl := hq
      exact hj_reti C hP hK hS dX5_factorial_21
    · rw [if_neg c2] at hf
      refine lv_iconst (v := 1) hx hb dX5_factorial_12 (by decide) ?_
      refine lv_goto (tgt := 21) hx hb dX5_factorial_13 (by decide) ?_
      have hq := Option.some.inj hf
      obtain rfl := hq
      exact hj_reti C hP hK hS dX5_factorial_21
set_option maxHeartbeats 4000000 in
set_option maxRecDepth 100000 in
theorem ctX5_factorial (l : Launch) (g : hj_G) {ad : Nat → Nat} {n : Nat} {w : Nat → va_E} {x0 : Int32} {rF : Int32} (hf : fX5_factorial x0 = some rF) :
    hj_MI l yX5_factorial wsX5_factorial rmX5_factorial g n ad hs_Z [.int x0] w rF w := by
  refine hj_ofI (cc := cX5_factorial) (maxL := 1) (ret := (some .int)) (by decide) rfl (Nat.le_of_ble_eq_true rfl) ?_
  intro p e s m args below meth c ls C hP hK hX hl
  exact wX5_factorial C hK hX hf hP va_S.rf hl

/-! X5_ordersWith -/
abbrev rmX5_ordersWith : Room := { frames := 1, cells := 0, slots := 0, locals := 20 }
def fX5_ordersWith (x0 : Int32) (x1 : Int32) : Option Int32 :=
  hj_o1 (fX5_factorial x0) fun r1 => hj_o1 (fX5_factorial x1) fun r2 => some (r1 * r2)
set_option maxHeartbeats 4000000 in
set_option maxRecDepth 100000 in
theorem wX5_ordersWith {p : Program} {l : Launch} {e : Env} {s : State} {m : MethodId} {args : Array Value} {below : List Frame} {meth : Method} {c : Code} {g : hj_G} {ad : Nat → Nat} {n : Nat} {w : Nat → va_E} (C : hj_C p s m args meth c cX5_ordersWith RX5 wsX5_ordersWith 2 (some .int)) (hK : hj_K g s) (hZ : hs_Z (hj_A n ad s.heap.size) s) {x0 : Int32} {x1 : Int32} {rF : Int32}
    (hf : fX5_ordersWith x0 x1 = some rF) {H : Heap} {locs : List Loc} {ls : Array Slot} (hP : hj_P g n ad w H) (hS : hj_S n ad s H locs) (hl : lv_has ls 2 [(0, .int x0), (1, .int x1)]) :
    W p l e rmX5_ordersWith s m args below meth c H locs 0 0 (MQ below (hj_QI g n ad w rF s.heap.size) args s 0 0 (hj_A n ad s.heap.size)) (F0 m 0 ls []) := by
  obtain ⟨hx, hb, hr, hml, hown, hts, hlocks⟩ := id C
  unfold fX5_ordersWith at hf
  refine lv_iload_n hx hb dX5_ordersWith_0 rfl (lv_at hl 0 rfl) ?_
  obtain ⟨r1, hc, hf⟩ := hj_o1_s hf
  refine hj_callSi (nL := 2) (As := [.int x0]) (rest := []) ⟨hx, hb, hml, hown, hts⟩ (ctX5_factorial l g (n := n) (ad := ad) (w := w) hc) (va_cwS 1 hts gX5_ordersWith_X5_factorial rfl rfl rfl (by decide +kernel) ⟨Nat.le_of_ble_eq_true rfl, Nat.le_of_ble_eq_true rfl⟩) hs_Xb (hs_at hZ hS) hK hP hS rfl hl.1 rfl (Nat.le_of_ble_eq_true rfl) dX5_ordersWith_1 (fun H locs hP hS => ?_)
  refine lv_iload_n hx hb dX5_ordersWith_4 rfl (lv_at hl 1 rfl) ?_
  obtain ⟨r2, hc, hf⟩ := hj_o1_s hf
  refine hj_callSi (nL := 2) (As := [.int x1]) (rest := [.int r1]) ⟨hx, hb, hml, hown, hts⟩ (ctX5_factorial l g (n := n) (ad := ad) (w := w) hc) (va_cwS 1 hts gX5_ordersWith_X5_factorial rfl rfl rfl (by decide +kernel) ⟨Nat.le_of_ble_eq_true rfl, Nat.le_of_ble_eq_true rfl⟩) hs_Xb (hs_at hZ hS) hK hP hS rfl hl.1 rfl (Nat.le_of_ble_eq_true rfl) dX5_ordersWith_5 (fun H locs hP hS => ?_)
  refine lv_imul hx hb dX5_ordersWith_8 ?_
  have hq := Option.some.inj hf
  obtain rfl := hq
  exact hj_reti C hP hK hS dX5_ordersWith_9
set_option maxHeartbeats 4000000 in
set_option maxRecDepth 100000 in
theorem ctX5_ordersWith (l : Launch) (g : hj_G) {ad : Nat → Nat} {n : Nat} {w : Nat → va_E} {x0 : Int32} {x1 : Int32} {rF : Int32} (hf : fX5_ordersWith x0 x1 = some rF) :
    hj_MI l yX5_ordersWith wsX5_ordersWith rmX5_ordersWith g n ad hs_Z [.int x0, .int x1] w rF w := by
  refine hj_ofI (cc := cX5_ordersWith) (maxL := 2) (ret := (some .int)) (by decide) rfl (Nat.le_of_ble_eq_true rfl) ?_
  intro p e s m args below meth c ls C hP hK hX hl
  exact wX5_ordersWith C hK hX hf hP va_S.rf hl

/-! X5_share -/
abbrev rmX5_share : Room := { frames := 5, cells := 0, slots := 0, locals := 110 }
theorem iX5_share_X5 : ∀ w ∈ wsX50, w ∈ wsX5_share := fun _ h => List.mem_cons_of_mem _ (List.mem_append_left _ (List.mem_append_left _ (List.mem_append_right _ h)))
theorem mX5_share_1 : Cond.fieldLink RX5 31 "HungryJury" "now" "LHungryJury$Room;" ∈ wsX5_share := List.mem_of_getElem? (i := 1) rfl
theorem iX5_share_X2 : ∀ w ∈ wsX20, w ∈ wsX5_share := fun _ h => List.mem_cons_of_mem _ (List.mem_append_left _ (List.mem_append_right _ h))
theorem mX5_share_2 : Cond.fieldLink RX5 121 "HungryJury$Room" "there" "I" ∈ wsX5_share := List.mem_of_getElem? (i := 2) rfl
def fX5_share_48 (σ : Nat → hj_Ob) (bf : Nat → Nat) (sd : Int64) (x1 : Int32) (x2 : Int32) (x3 : Int32) (x4 : Int32) (x5 : Int32) : Option ((Int32 × (Nat → hj_Ob)) ⊕ (Int32 × Int32 × (Nat → hj_Ob))) :=
  if 64 ≤ x5 then (some (.inl (x4, σ))) else (if (x5 &&& (x3 ^^^ (-1))) = 0 then (hj_o2 (fX5_endIsYesFrom σ bf sd (x5 ||| ((1 : Int32) <<< (x1 &&& 31)))) fun r9 σ10 => hj_o2 (fX5_endIsYesFrom σ10 bf sd x5) fun r11 σ12 => hj_nm (r9 - r11) fun y13 => hj_o1 (fJ6_bitCount_0f7a4 x5) fun r14 => hj_o1 (fJ6_bitCount_0f7a4 (x3 &&& (x5 ^^^ (-1)))) fun r15 => hj_o1 (fX5_ordersWith r14 r15) fun r16 => hj_nm (x4 + (y13 * r16)) fun y17 => hj_nm (x5 + 1) fun y18 => some (.inr (y17, y18, σ12))) else (hj_nm (x5 + 1) fun y8 => some (.inr (x4, y8, σ))))
set_option maxHeartbeats 4000000 in
set_option maxRecDepth 100000 in
theorem wX5_share_48b {p : Program} {l : Launch} {e : Env} {s : State} {m : MethodId} {args : Array Value} {below : List Frame} {meth : Method} {c : Code} {g : hj_G} {ad : Nat → Nat} (hI : hj_I 73 ad) (C : hj_C p s m args meth c cX5_share RX5 wsX5_share 7 (some .int)) (hK : hj_K g s) (hZ : hs_Z (hj_A 73 ad s.heap.size) s) {σ : Nat → hj_Ob} {bf : Nat → Nat} {sd : Int64} {x1 : Int32} {x2 : Int32} {x3 : Int32} {x4 : Int32} {x5 : Int32} {y : (Int32 × (Nat → hj_Ob)) ⊕ (Int32 × Int32 × (Nat → hj_Ob))} {rF : Int32} {σF : Nat → hj_Ob}
    (hf : fX5_share_48 σ bf sd x1 x2 x3 x4 x5 = some y) (KX : ∀ (v4 : Int32) (σ' : Nat → hj_Ob), y = .inl (v4, σ') → ∀ (H : Heap) (locs : List Loc) (ls : Array Slot), hj_P g 73 ad (hj_wx g ad σ' bf sd) H → hj_S 73 ad s H locs → lv_has ls 7 [(0, .ref (ad 0)), (2, .int x2), (4, .int v4)] → W p l e rmX5_share s m args below meth c H locs 0 0 (MQ below (hj_QI g 73 ad (hj_wx g ad σF bf sd) rF s.heap.size) args s 0 0 (hj_A 73 ad s.heap.size)) (F0 m 114 ls [])) (KI : ∀ (v4 : Int32) (v5 : Int32) (σ' : Nat → hj_Ob), y = .inr (v4, v5, σ') → ∀ (H : Heap) (locs : List Loc) (ls : Array Slot), hj_P g 73 ad (hj_wx g ad σ' bf sd) H → hj_S 73 ad s H locs → lv_has ls 7 [(0, .ref (ad 0)), (1, .int x1), (2, .int x2), (3, .int x3), (4, .int v4), (5, .int v5)] → W p l e rmX5_share s m args below meth c H locs 0 0 (MQ below (hj_QI g 73 ad (hj_wx g ad σF bf sd) rF s.heap.size) args s 0 0 (hj_A 73 ad s.heap.size)) (F0 m 48 ls [])) {H : Heap} {locs : List Loc} {ls : Array Slot} (hP : hj_P g 73 ad (hj_wx g ad σ bf sd) H) (hS : hj_S 73 ad s H locs) (hl : lv_has ls 7 [(0, .ref (ad 0)), (1, .int x1), (2, .int x2), (3, .int x3), (4, .int x4), (5, .int x5)]) :
    W p l e rmX5_share s m args below meth c H locs 0 0 (MQ below (hj_QI g 73 ad (hj_wx g ad σF bf sd) rF s.heap.size) args s 0 0 (hj_A 73 ad s.heap.size)) (F0 m 48 ls []) := by
  obtain ⟨hx, hb, hr, hml, hown, hts, hlocks⟩ := id C
  unfold fX5_share_48 at hf
  refine lv_iload hx hb dX5_share_48 (lv_at hl 5 rfl) ?_
  refine lv_bipush (v := 64) hx hb dX5_share_50 (by decide) ?_
  refine lv_icmp_ge (tgt := 114) hx hb dX5_share_52 (by decide) (fun c6 => ?_) (fun c6 => ?_)
  · rw [if_pos c6] at hf
    exact KX _ _ (Option.some.inj hf).symm _ _ _ hP hS (lv_sub hl [0, 2, 4] rfl)
  · rw [if_neg c6] at hf
    refine lv_iload hx hb dX5_share_55 (lv_at hl 5 rfl) ?_
    refine lv_iload_n hx hb dX5_share_57 rfl (lv_at hl 3 rfl) ?_
    refine lv_iconst (v := (-1)) hx hb dX5_share_58 (by decide) ?_
    refine lv_ixor hx hb dX5_share_59 ?_
    refine lv_iand hx hb dX5_share_60 ?_
    refine lv_if_ne (tgt := 108) hx hb dX5_share_61 (by decide) (fun c7 => ?_) (fun c7 => ?_)
    · rw [if_neg c7] at hf
      obtain ⟨y8, ey8⟩ : ∃ z : Int32, z = x5 + 1 := ⟨_, rfl⟩
      replace hf := hj_nm_y hf ey8
      refine lv_iinc (v := y8) (lv' := [(5, .int y8), (0, .ref (ad 0)), (1, .int x1), (2, .int x2), (3, .int x3), (4, .int x4)]) hx hb dX5_share_108 hl (k := 5) rfl (by rw [ey8]; rfl) (by decide) rfl (fun ls hl => ?_)
      refine lv_goto (tgt := 48) hx hb dX5_share_111 (by decide) ?_
      exact KI _ _ _ (Option.some.inj hf).symm _ _ _ hP hS (lv_sub hl [1, 2, 3, 4, 5, 0] rfl)
    · rw [if_pos c7] at hf
      refine lv_aload_n hx hb dX5_share_64 rfl (lv_at hl 0 rfl) ?_
      refine lv_iload hx hb dX5_share_65 (lv_at hl 5 rfl) ?_
      refine lv_iconst (v := 1) hx hb dX5_share_67 (by decide) ?_
      refine lv_iload_n hx hb dX5_share_68 rfl (lv_at hl 1 rfl) ?_
      refine lv_ishl hx hb dX5_share_69 ?_
      refine lv_ior hx hb dX5_share_70 ?_
      obtain ⟨r9, σ10, hc, hf⟩ := hj_o2_s hf
      refine hj_callVi (nL := 7) (As := [.int (x5 ||| ((1 : Int32) <<< (x1 &&& 31)))]) (rest := []) (i0 := 0) (C := RX5) (T := TX5) (N := 10) (ci := 5) ⟨hx, hb, hml, hown, hts⟩ (ctX5_endIsYesFrom l g hI hc) (cwV 1 hts gX5_share_X5_endIsYesFrom rfl rfl rfl (by decide +kernel) ⟨Nat.le_of_ble_eq_true rfl, Nat.le_of_ble_eq_true rfl⟩) hj_Xb0 (fun _ _ _ => trivial) hK hP hS (by decide) wx_at_h rfl rfl hl.1 rfl (Nat.le_of_ble_eq_true rfl) dX5_share_71 (fun H locs hP hS => ?_)
      refine lv_aload_n hx hb dX5_share_74 rfl (lv_at hl 0 rfl) ?_
      refine lv_iload hx hb dX5_share_75 (lv_at hl 5 rfl) ?_
      obtain ⟨r11, σ12, hc, hf⟩ := hj_o2_s hf
      refine hj_callVi (nL := 7) (As := [.int x5]) (rest := [.int r9]) (i0 := 0) (C := RX5) (T := TX5) (N := 10) (ci := 5) ⟨hx, hb, hml, hown, hts⟩ (ctX5_endIsYesFrom l g hI hc) (cwV 1 hts gX5_share_X5_endIsYesFrom rfl rfl rfl (by decide +kernel) ⟨Nat.le_of_ble_eq_true rfl, Nat.le_of_ble_eq_true rfl⟩) hj_Xb0 (fun _ _ _ => trivial) hK hP hS (by decide) wx_at_h rfl rfl hl.1 rfl (Nat.le_of_ble_eq_true rfl) dX5_share_77 (fun H locs hP hS => ?_)
      refine lv_isub hx hb dX5_share_80 ?_
      refine lv_topi (fun y13 ey13 => ?_)
      replace hf := hj_nm_y hf ey13
      refine lv_istore (lv' := [(6, .int y13), (0, .ref (ad 0)), (1, .int x1), (2, .int x2), (3, .int x3), (4, .int x4), (5, .int x5)]) hx hb dX5_share_81 hl (by decide) rfl (fun ls hl => ?_)
      refine lv_iload hx hb dX5_share_83 (lv_at hl 5 rfl) ?_
      refine lv_iload hx hb dX5_share_85 (lv_at hl 0 rfl) ?_
      refine lv_iload hx hb dX5_share_87 (lv_at hl 6 rfl) ?_
      obtain ⟨r14, hc, hf⟩ := hj_o1_s hf
      refine hj_callSi (nL := 7) (As := [.int x5]) (rest := [.int y13, .int x4]) ⟨hx, hb, hml, hown, hts⟩ (ctJ6_bitCount_0f7a4 l g (n := 73) (ad := ad) (w := (hj_wx g ad σ12 bf sd)) hc) (va_cwS 1 hts gX5_share_J6_bitCount_0f7a4 rfl rfl rfl (by decide +kernel) ⟨Nat.le_of_ble_eq_true rfl, Nat.le_of_ble_eq_true rfl⟩) hj_Xb0 (fun _ _ _ => trivial) hK hP hS rfl hl.1 rfl (Nat.le_of_ble_eq_true rfl) dX5_share_89 (fun H locs hP hS => ?_)
      refine lv_iload_n hx hb dX5_share_92 rfl (lv_at hl 4 rfl) ?_
      refine lv_iload hx hb dX5_share_93 (lv_at hl 6 rfl) ?_
      refine lv_iconst (v := (-1)) hx hb dX5_share_95 (by decide) ?_
      refine lv_ixor hx hb dX5_share_96 ?_
      refine lv_iand hx hb dX5_share_97 ?_
      obtain ⟨r15, hc, hf⟩ := hj_o1_s hf
      refine hj_callSi (nL := 7) (As := [.int (x3 &&& (x5 ^^^ (-1)))]) (rest := [.int r14, .int y13, .int x4]) ⟨hx, hb, hml, hown, hts⟩ (ctJ6_bitCount_0f7a4 l g (n := 73) (ad := ad) (w := (hj_wx g ad σ12 bf sd)) hc) (va_cwS 1 hts gX5_share_J6_bitCount_0f7a4 rfl rfl rfl (by decide +kernel) ⟨Nat.le_of_ble_eq_true rfl, Nat.le_of_ble_eq_true rfl⟩) hj_Xb0 (fun _ _ _ => trivial) hK hP hS rfl hl.1 rfl (Nat.le_of_ble_eq_true rfl) dX5_share_98 (fun H locs hP hS => ?_)
      obtain ⟨r16, hc, hf⟩ := hj_o1_s hf
      refine hj_callSi (nL := 7) (As := [.int r14, .int r15]) (rest := [.int y13, .int x4]) ⟨hx, hb, hml, hown, hts⟩ (ctX5_ordersWith l g (n := 73) (ad := ad) (w := (hj_wx g ad σ12 bf sd)) hc) (va_cwS 2 hts gX5_share_X5_ordersWith rfl rfl rfl (by decide +kernel) ⟨Nat.le_of_ble_eq_true rfl, Nat.le_of_ble_eq_true rfl⟩) hs_Xb (hs_at hZ hS) hK hP hS rfl hl.1 rfl (Nat.le_of_ble_eq_true rfl) dX5_share_101 (fun H locs hP hS => ?_)
      refine lv_imul hx hb dX5_share_104 ?_
      refine lv_iadd hx hb dX5_share_105 ?_
      refine lv_topi (fun y17 ey17 => ?_)
      replace hf := hj_nm_y hf ey17
      refine lv_istore (lv' := [(4, .int y17), (6, .int y13), (0, .ref (ad 0)), (1, .int x1), (2, .int x2), (3, .int x3), (5, .int x5)]) hx hb dX5_share_106 hl (by decide) rfl (fun ls hl => ?_)
      obtain ⟨y18, ey18⟩ : ∃ z : Int32, z = x5 + 1 := ⟨_, rfl⟩
      replace hf := hj_nm_y hf ey18
      refine lv_iinc (v := y18) (lv' := [(5, .int y18), (4, .int y17), (6, .int y13), (0, .ref (ad 0)), (1, .int x1), (2, .int x2), (3, .int x3)]) hx hb dX5_share_108 hl (k := 6) rfl (by rw [ey18]; rfl) (by decide) rfl (fun ls hl => ?_)
      refine lv_goto (tgt := 48) hx hb dX5_share_111 (by decide) ?_
      exact KI _ _ _ (Option.some.inj hf).symm _ _ _ hP hS (lv_sub hl [3, 4, 5, 6, 1, 0] rfl)
set_option maxHeartbeats 4000000 in
set_option maxRecDepth 100000 in
theorem wX5_share_48 {p : Program} {l : Launch} {e : Env} {s : State} {m : MethodId} {args : Array Value} {below : List Frame} {meth : Method} {c : Code} {g : hj_G} {ad : Nat → Nat} (hI : hj_I 73 ad) (C : hj_C p s m args meth c cX5_share RX5 wsX5_share 7 (some .int)) (hK : hj_K g s) (hZ : hs_Z (hj_A 73 ad s.heap.size) s) {bf : Nat → Nat} {sd : Int64} {x1 : Int32} {x2 : Int32} {x3 : Int32} {rF : Int32} {σF : Nat → hj_Ob} {e4 : Int32} {σe : Nat → hj_Ob} :
    ∀ (fu : Nat) (x4 : Int32) (x5 : Int32) (σ : Nat → hj_Ob), hj_lp (fun q : (Int32 × Int32 × (Nat → hj_Ob)) => fX5_share_48 q.2.2 bf sd x1 x2 x3 q.1 q.2.1) fu (x4, x5, σ) = some (e4, σe) → (∀ (H : Heap) (locs : List Loc) (ls : Array Slot), hj_P g 73 ad (hj_wx g ad σe bf sd) H → hj_S 73 ad s H locs → lv_has ls 7 [(0, .ref (ad 0)), (2, .int x2), (4, .int e4)] → W p l e rmX5_share s m args below meth c H locs 0 0 (MQ below (hj_QI g 73 ad (hj_wx g ad σF bf sd) rF s.heap.size) args s 0 0 (hj_A 73 ad s.heap.size)) (F0 m 114 ls [])) → ∀ (H : Heap) (locs : List Loc) (ls : Array Slot), hj_P g 73 ad (hj_wx g ad σ bf sd) H → hj_S 73 ad s H locs → lv_has ls 7 [(0, .ref (ad 0)), (1, .int x1), (2, .int x2), (3, .int x3), (4, .int x4), (5, .int x5)] →
    W p l e rmX5_share s m args below meth c H locs 0 0 (MQ below (hj_QI g 73 ad (hj_wx g ad σF bf sd) rF s.heap.size) args s 0 0 (hj_A 73 ad s.heap.size)) (F0 m 48 ls []) := by
  intro fu
  induction fu with
  | zero => intro x4 x5 σ hq; cases hq
  | succ fu ih =>
    intro x4 x5 σ hq KX H locs ls hP hS hl
    obtain ⟨y, hy, h1, h2⟩ := hj_lp_s hq
    exact wX5_share_48b hI C hK hZ  hy (fun v4 σ' hv H locs ls hP hS hl => by have hw := h1 _ hv; obtain ⟨rfl, rfl⟩ := Prod.mk.inj hw; exact KX H locs ls hP hS hl) (fun v4 v5 σ' hv H locs ls hP hS hl => ih v4 v5 σ' (h2 _ hv) KX H locs ls hP hS hl) hP hS hl
def fX5_share (σ : Nat → hj_Ob) (bf : Nat → Nat) (sd : Int64) (x1 : Int32) (x2 : Int32) : Option (Int32 × (Nat → hj_Ob)) :=
  hj_o1 (fX5_isJuror σ bf sd x1) fun r1 => if r1 = 0 then (some ((-1), σ)) else (hj_o1 (fX2_isThere (σ 3) (σ 11) x1) fun r3 => if r3 = 0 then (hj_o1 (fX5_partOfFraction 0 1 x2) fun r24 => some (r24, σ)) else (hj_nm (((σ 11).1 4) &&& (((1 : Int32) <<< (x1 &&& 31)) ^^^ (-1))) fun y5 => hj_o2 (hj_lp (fun q : (Int32 × Int32 × (Nat → hj_Ob)) => fX5_share_48 q.2.2 bf sd x1 x2 y5 q.1 q.2.1) 100 (0, 0, σ)) fun e19 σ20 => (hj_o1 (fJ6_bitCount_0f7a4 ((σ20 11).1 4)) fun r21 => hj_o1 (fX5_factorial r21) fun r22 => hj_o1 (fX5_partOfFraction e19 r22 x2) fun r23 => some (r23, σ20))))
set_option maxHeartbeats 4000000 in
set_option maxRecDepth 100000 in
theorem wX5_share {p : Program} {l : Launch} {e : Env} {s : State} {m : MethodId} {args : Array Value} {below : List Frame} {meth : Method} {c : Code} {g : hj_G} {ad : Nat → Nat} (hI : hj_I 73 ad) (C : hj_C p s m args meth c cX5_share RX5 wsX5_share 7 (some .int)) (hK : hj_K g s) (hZ : hs_Z (hj_A 73 ad s.heap.size) s) {σ : Nat → hj_Ob} {bf : Nat → Nat} {sd : Int64} {x1 : Int32} {x2 : Int32} {rF : Int32} {σF : Nat → hj_Ob}
    (hf : fX5_share σ bf sd x1 x2 = some (rF, σF)) {H : Heap} {locs : List Loc} {ls : Array Slot} (hP : hj_P g 73 ad (hj_wx g ad σ bf sd) H) (hS : hj_S 73 ad s H locs) (hl : lv_has ls 7 [(0, .ref (ad 0)), (1, .int x1), (2, .int x2)]) :
    W p l e rmX5_share s m args below meth c H locs 0 0 (MQ below (hj_QI g 73 ad (hj_wx g ad σF bf sd) rF s.heap.size) args s 0 0 (hj_A 73 ad s.heap.size)) (F0 m 0 ls []) := by
  obtain ⟨hx, hb, hr, hml, hown, hts, hlocks⟩ := id C
  unfold fX5_share at hf
  refine lv_aload_n hx hb dX5_share_0 rfl (lv_at hl 0 rfl) ?_
  refine lv_iload_n hx hb dX5_share_1 rfl (lv_at hl 1 rfl) ?_
  obtain ⟨r1, hc, hf⟩ := hj_o1_s hf
  refine hj_callVi (nL := 7) (As := [.int x1]) (rest := []) (i0 := 0) (C := RX5) (T := TX5) (N := 10) (ci := 5) ⟨hx, hb, hml, hown, hts⟩ (ctX5_isJuror l g hI hc) (cwV 1 hts gX5_share_X5_isJuror rfl rfl rfl (by decide +kernel) ⟨Nat.le_of_ble_eq_true rfl, Nat.le_of_ble_eq_true rfl⟩) hj_Xb0 (fun _ _ _ => trivial) hK hP hS (by decide) wx_at_h rfl rfl hl.1 rfl (Nat.le_of_ble_eq_true rfl) dX5_share_2 (fun H locs hP hS => ?_)
  refine lv_if_ne (tgt := 10) hx hb dX5_share_5 (by decide) (fun c2 => ?_) (fun c2 => ?_)
  · rw [if_neg c2] at hf
    refine lv_aload_n hx hb dX5_share_10 rfl (lv_at hl 0 rfl) ?_
    refine hj_get (ci := 5) (v := .ref (ad 11)) (C := RX5) (T := TX5) (N := 10) hx hb hts iX5_share_X5 hown hK hP (by decide) wx_at_h rfl 3 (by decide) mX5_share_1 rfl dX5_share_11 ?_
    refine lv_iload_n hx hb dX5_share_14 rfl (lv_at hl 1 rfl) ?_
    obtain ⟨r3, hc, hf⟩ := hj_o1_s hf
    refine hj_callVi (nL := 7) (As := [.int x1]) (rest := []) (i0 := 11) (C := RX2) (T := TX2) (N := 6) (ci := 2) ⟨hx, hb, hml, hown, hts⟩ (ctX2_isThere l g hI (σ := σ) (bf := bf) (sd := sd) wx_R_11 rfl rfl hc) (cwV 1 hts gX5_share_X2_isThere rfl rfl rfl (by decide +kernel) ⟨Nat.le_of_ble_eq_true rfl, Nat.le_of_ble_eq_true rfl⟩) hj_Xb0 (fun _ _ _ => trivial) hK hP hS (by decide) (wx_at_r wx_R_11 rfl) rfl rfl hl.1 rfl (Nat.le_of_ble_eq_true rfl) dX5_share_15 (fun H locs hP hS => ?_)
    refine lv_if_ne (tgt := 28) hx hb dX5_share_18 (by decide) (fun c4 => ?_) (fun c4 => ?_)
    · rw [if_neg c4] at hf
      refine lv_aload_n hx hb dX5_share_28 rfl (lv_at hl 0 rfl) ?_
      refine hj_get (ci := 5) (v := .ref (ad 11)) (C := RX5) (T := TX5) (N := 10) hx hb hts iX5_share_X5 hown hK hP (by decide) wx_at_h rfl 3 (by decide) mX5_share_1 rfl dX5_share_29 ?_
      refine hj_get (ci := 2) (v := .int ((σ 11).1 4)) (C := RX2) (T := TX2) (N := 6) hx hb hts iX5_share_X2 hown hK hP (by decide) (wx_at_r wx_R_11 rfl) rfl 4 (by decide) mX5_share_2 rfl dX5_share_32 ?_
      refine lv_iconst (v := 1) hx hb dX5_share_35 (by decide) ?_
      refine lv_iload_n hx hb dX5_share_36 rfl (lv_at hl 1 rfl) ?_
      refine lv_ishl hx hb dX5_share_37 ?_
      refine lv_iconst (v := (-1)) hx hb dX5_share_38 (by decide) ?_
      refine lv_ixor hx hb dX5_share_39 ?_
      refine lv_iand hx hb dX5_share_40 ?_
      refine lv_topi (fun y5 ey5 => ?_)
      replace hf := hj_nm_y hf ey5
      refine lv_istore_n (lv' := [(3, .int y5), (0, .ref (ad 0)), (1, .int x1), (2, .int x2)]) hx hb dX5_share_41 rfl hl (by decide) rfl (fun ls hl => ?_)
      refine lv_iconst (v := 0) hx hb dX5_share_42 (by decide) ?_
      refine lv_istore (lv' := [(4, .int 0), (3, .int y5), (0, .ref (ad 0)), (1, .int x1), (2, .int x2)]) hx hb dX5_share_43 hl (by decide) rfl (fun ls hl => ?_)
      refine lv_iconst (v := 0) hx hb dX5_share_45 (by decide) ?_
      refine lv_istore (lv' := [(5, .int 0), (4, .int 0), (3, .int y5), (0, .ref (ad 0)), (1, .int x1), (2, .int x2)]) hx hb dX5_share_46 hl (by decide) rfl (fun ls hl => ?_)
      obtain ⟨e19, σ20, hlx, hf⟩ := hj_o2_s hf
      refine wX5_share_48 hI C hK hZ  100 0 0 σ hlx (fun H locs ls hP hS hl => ?_) H locs ls hP hS (lv_sub hl [3, 4, 5, 2, 1, 0] rfl)
      refine lv_iload hx hb dX5_share_114 (lv_at hl 2 rfl) ?_
      refine lv_aload_n hx hb dX5_share_116 rfl (lv_at hl 0 rfl) ?_
      refine hj_get (ci := 5) (v := .ref (ad 11)) (C := RX5) (T := TX5) (N := 10) hx hb hts iX5_share_X5 hown hK hP (by decide) wx_at_h rfl 3 (by decide) mX5_share_1 rfl dX5_share_117 ?_
      refine hj_get (ci := 2) (v := .int ((σ20 11).1 4)) (C := RX2) (T := TX2) (N := 6) hx hb hts iX5_share_X2 hown hK hP (by decide) (wx_at_r wx_R_11 rfl) rfl 4 (by decide) mX5_share_2 rfl dX5_share_120 ?_
      obtain ⟨r21, hc, hf⟩ := hj_o1_s hf
      refine hj_callSi (nL := 7) (As := [.int ((σ20 11).1 4)]) (rest := [.int e19]) ⟨hx, hb, hml, hown, hts⟩ (ctJ6_bitCount_0f7a4 l g (n := 73) (ad := ad) (w := (hj_wx g ad σ20 bf sd)) hc) (va_cwS 1 hts gX5_share_J6_bitCount_0f7a4 rfl rfl rfl (by decide +kernel) ⟨Nat.le_of_ble_eq_true rfl, Nat.le_of_ble_eq_true rfl⟩) hj_Xb0 (fun _ _ _ => trivial) hK hP hS rfl hl.1 rfl (Nat.le_of_ble_eq_true rfl) dX5_share_123 (fun H locs hP hS => ?_)
      obtain ⟨r22, hc, hf⟩ := hj_o1_s hf
      refine hj_callSi (nL := 7) (As := [.int r21]) (rest := [.int e19]) ⟨hx, hb, hml, hown, hts⟩ (ctX5_factorial l g (n := 73) (ad := ad) (w := (hj_wx g ad σ20 bf sd)) hc) (va_cwS 1 hts gX5_share_X5_factorial rfl rfl rfl (by decide +kernel) ⟨Nat.le_of_ble_eq_true rfl, Nat.le_of_ble_eq_true rfl⟩) hs_Xb (hs_at hZ hS) hK hP hS rfl hl.1 rfl (Nat.le_of_ble_eq_true rfl) dX5_share_126 (fun H locs hP hS => ?_)
      refine lv_iload_n hx hb dX5_share_129 rfl (lv_at hl 1 rfl) ?_
      obtain ⟨r23, hc, hf⟩ := hj_o1_s hf
      refine hj_callSi (nL := 7) (As := [.int e19, .int r22, .int x2]) (rest := []) ⟨hx, hb, hml, hown, hts⟩ (ctX5_partOfFraction l g (n := 73) (ad := ad) (w := (hj_wx g ad σ20 bf sd)) hc) (va_cwS 3 hts gX5_share_X5_partOfFraction rfl rfl rfl (by decide +kernel) ⟨Nat.le_of_ble_eq_true rfl, Nat.le_of_ble_eq_true rfl⟩) hj_Xb0 (fun _ _ _ => trivial) hK hP hS rfl hl.1 rfl (Nat.le_of_ble_eq_true rfl) dX5_share_130 (fun H locs hP hS => ?_)
      have hq := Option.some.inj hf
      obtain ⟨rfl, rfl⟩ := Prod.mk.inj hq
      exact hj_reti C hP hK hS dX5_share_133
    · rw [if_pos c4] at hf
      refine lv_iconst (v := 0) hx hb dX5_share_21 (by decide) ?_
      refine lv_iconst (v := 1) hx hb dX5_share_22 (by decide) ?_
      refine lv_iload_n hx hb dX5_share_23 rfl (lv_at hl 2 rfl) ?_
      obtain ⟨r24, hc, hf⟩ := hj_o1_s hf
      refine hj_callSi (nL := 7) (As := [.int 0, .int 1, .int x2]) (rest := []) ⟨hx, hb, hml, hown, hts⟩ (ctX5_partOfFraction l g (n := 73) (ad := ad) (w := (hj_wx g ad σ bf sd)) hc) (va_cwS 3 hts gX5_share_X5_partOfFraction rfl rfl rfl (by decide +kernel) ⟨Nat.le_of_ble_eq_true rfl, Nat.le_of_ble_eq_true rfl⟩) hj_Xb0 (fun _ _ _ => trivial) hK hP hS rfl hl.1 rfl (Nat.le_of_ble_eq_true rfl) dX5_share_24 (fun H locs hP hS => ?_)
      have hq := Option.some.inj hf
      obtain ⟨rfl, rfl⟩ := Prod.mk.inj hq
      exact hj_reti C hP hK hS dX5_share_27
  · rw [if_pos c2] at hf
    refine lv_iconst (v := (-1)) hx hb dX5_share_8 (by decide) ?_
    have hq := Option.some.inj hf
    obtain ⟨rfl, rfl⟩ := Prod.mk.inj hq
    exact hj_reti C hP hK hS dX5_share_9
set_option maxHeartbeats 4000000 in
set_option maxRecDepth 100000 in
theorem ctX5_share (l : Launch) (g : hj_G) {ad : Nat → Nat} (hI : hj_I 73 ad) {σ : Nat → hj_Ob} {bf : Nat → Nat} {sd : Int64} {x1 : Int32} {x2 : Int32} {rF : Int32} {σF : Nat → hj_Ob} (hf : fX5_share σ bf sd x1 x2 = some (rF, σF)) :
    hj_MI l yX5_share wsX5_share rmX5_share g 73 ad hs_Z [.ref (ad 0), .int x1, .int x2] (hj_wx g ad σ bf sd) rF (hj_wx g ad σF bf sd) := by
  refine hj_ofI (cc := cX5_share) (maxL := 7) (ret := (some .int)) (by decide) rfl (Nat.le_of_ble_eq_true rfl) ?_
  intro p e s m args below meth c ls C hP hK hX hl
  exact wX5_share hI C hK hX hf hP va_S.rf hl
