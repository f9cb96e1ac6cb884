/-! X6_assizes -/
abbrev rmX6_assizes : Room := { frames := 3, cells := 0, slots := 0, locals := 75 }
theorem mX6_assizes_1 : Cond.constantLong RX6 202 (20) ∈ wsX6_assizes := List.mem_of_getElem? (i := 1) rfl
theorem iX6_assizes_X6 : ∀ w ∈ wsX60, w ∈ wsX6_assizes := fun _ h => List.mem_cons_of_mem _ (List.mem_append_right _ h)
theorem mX6_assizes_2 : Cond.fieldLink RX6 198 "HungryJuryModel" "seed" "J" ∈ wsX6_assizes := List.mem_of_getElem? (i := 2) rfl
theorem mX6_assizes_3 : Cond.constantLong RX6 204 (6364136223846793005) ∈ wsX6_assizes := List.mem_of_getElem? (i := 3) rfl
theorem mX6_assizes_4 : Cond.constantLong RX6 206 (1442695040888963407) ∈ wsX6_assizes := List.mem_of_getElem? (i := 4) rfl
theorem mX6_assizes_5 : Cond.constantLong RX6 66 (9) ∈ wsX6_assizes := List.mem_of_getElem? (i := 5) rfl
theorem mX6_assizes_6 : Cond.fieldLink RX6 16 "HungryJuryModel" "now" "[I" ∈ wsX6_assizes := List.mem_of_getElem? (i := 6) rfl
def fX6_assizes_106 (τ : hj_Ob) (sd : Int64) (x1 : Int32) (x2 : Int32) (x3 : Int32) : Option ((Int32 × hj_Ob × Int64) ⊕ (Int32 × Int32 × hj_Ob × Int64)) :=
  hj_o1 (fX6_verdict τ sd 1) fun r10 => if r10 = 9 then (hj_nm (x2 + 0) fun y14 => hj_nm (x3 + 1) fun y15 => some (.inr (y14, y15, τ, sd))) else (hj_nm (x2 + 1) fun y12 => hj_nm (x3 + 1) fun y13 => some (.inr (y12, y13, τ, sd)))
set_option maxHeartbeats 4000000 in
set_option maxRecDepth 100000 in
theorem wX6_assizes_106 {p : Program} {l : Launch} {e : Env} {s : State} {m : MethodId} {args : Array Value} {below : List Frame} {meth : Method} {c : Code} {g : hj_G} {ad : Nat → Nat} (hI : hj_I 13 ad) (C : hj_C p s m args meth c cX6_assizes RX6 wsX6_assizes 5 (some .int)) (hK : hj_K g s) {τ : hj_Ob} {sd : Int64} {x1 : Int32} {x2 : Int32} {x3 : Int32} {y : (Int32 × hj_Ob × Int64) ⊕ (Int32 × Int32 × hj_Ob × Int64)} {rF : Int32} {τF : hj_Ob} {sdF : Int64}
    (hf : fX6_assizes_106 τ sd x1 x2 x3 = some y) (KX : ∀ (v2 : Int32) (τ' : hj_Ob) (sd' : Int64), y = .inl (v2, τ', sd') → ∀ (H : Heap) (locs : List Loc) (ls : Array Slot), hj_P g 13 ad (hj_wm g ad τ' sd') H → hj_S 13 ad s H locs → lv_has ls 5 [(2, .int v2)] → W p l e rmX6_assizes s m args below meth c H locs 0 0 (MQ below (hj_QI g 13 ad (hj_wm g ad τF sdF) rF s.heap.size) args s 0 0 (hj_A 13 ad s.heap.size)) (F0 m 130 ls [])) (KI : ∀ (v2 : Int32) (v3 : Int32) (τ' : hj_Ob) (sd' : Int64), y = .inr (v2, v3, τ', sd') → ∀ (H : Heap) (locs : List Loc) (ls : Array Slot), hj_P g 13 ad (hj_wm g ad τ' sd') H → hj_S 13 ad s H locs → lv_has ls 5 [(0, .ref (ad 0)), (1, .int x1), (2, .int v2), (3, .int v3)] → W p l e rmX6_assizes s m args below meth c H locs 0 0 (MQ below (hj_QI g 13 ad (hj_wm g ad τF sdF) rF s.heap.size) args s 0 0 (hj_A 13 ad s.heap.size)) (F0 m 23 ls [])) {H : Heap} {locs : List Loc} {ls : Array Slot} (hP : hj_P g 13 ad (hj_wm g ad τ sd) H) (hS : hj_S 13 ad s H locs) (hl : lv_has ls 5 [(0, .ref (ad 0)), (1, .int x1), (2, .int x2), (3, .int x3)]) :
    W p l e rmX6_assizes s m args below meth c H locs 0 0 (MQ below (hj_QI g 13 ad (hj_wm g ad τF sdF) rF s.heap.size) args s 0 0 (hj_A 13 ad s.heap.size)) (F0 m 106 ls []) := by
  obtain ⟨hx, hb, hr, hml, hown, hts, hlocks⟩ := id C
  unfold fX6_assizes_106 at hf
  refine lv_iload_n hx hb dX6_assizes_106 rfl (lv_at hl 2 rfl) ?_
  refine lv_aload_n hx hb dX6_assizes_107 rfl (lv_at hl 0 rfl) ?_
  refine lv_iconst (v := 1) hx hb dX6_assizes_108 (by decide) ?_
  obtain ⟨r10, hc, hf⟩ := hj_o1_s hf
  refine hj_callVi (nL := 5) (As := [.int 1]) (rest := [.int x2]) (i0 := 0) (C := RX6) (T := TX6) (N := 24) (ci := 6) ⟨hx, hb, hml, hown, hts⟩ (ctX6_verdict l g hI hc) (cwV 1 hts gX6_assizes_X6_verdict rfl rfl rfl (by decide +kernel) ⟨Nat.le_of_ble_eq_true rfl, Nat.le_of_ble_eq_true rfl⟩) hj_Xb0 (fun _ _ _ => trivial) hK hP hS (by decide) rfl rfl rfl hl.1 rfl (Nat.le_of_ble_eq_true rfl) dX6_assizes_109 (fun H locs hP hS => ?_)
  refine lv_bipush (v := 9) hx hb dX6_assizes_112 (by decide) ?_
  refine lv_icmp_ne (tgt := 121) hx hb dX6_assizes_114 (by decide) (fun c11 => ?_) (fun c11 => ?_)
  · rw [if_neg c11] at hf
    refine lv_iconst (v := 1) hx hb dX6_assizes_121 (by decide) ?_
    refine lv_iadd hx hb dX6_assizes_122 ?_
    refine lv_topi (fun y12 ey12 => ?_)
    replace hf := hj_nm_y hf ey12
    refine lv_istore_n (lv' := [(2, .int y12), (0, .ref (ad 0)), (1, .int x1), (3, .int x3)]) hx hb dX6_assizes_123 rfl hl (by decide) rfl (fun ls hl => ?_)
    obtain ⟨y13, ey13⟩ : ∃ z : Int32, z = x3 + 1 := ⟨_, rfl⟩
    replace hf := hj_nm_y hf ey13
    refine lv_iinc (v := y13) (lv' := [(3, .int y13), (2, .int y12), (0, .ref (ad 0)), (1, .int x1)]) hx hb dX6_assizes_124 hl (k := 3) rfl (by rw [ey13]; rfl) (by decide) rfl (fun ls hl => ?_)
    refine lv_goto (tgt := 23) hx hb dX6_assizes_127 (by decide) ?_
    exact KI _ _ _ _ (Option.some.inj hf).symm _ _ _ hP hS (lv_sub hl [2, 3, 1, 0] rfl)
  · rw [if_pos c11] at hf
    refine lv_iconst (v := 0) hx hb dX6_assizes_117 (by decide) ?_
    refine lv_goto (tgt := 122) hx hb dX6_assizes_118 (by decide) ?_
    refine lv_iadd hx hb dX6_assizes_122 ?_
    refine lv_topi (fun y14 ey14 => ?_)
    replace hf := hj_nm_y hf ey14
    refine lv_istore_n (lv' := [(2, .int y14), (0, .ref (ad 0)), (1, .int x1), (3, .int x3)]) hx hb dX6_assizes_123 rfl hl (by decide) rfl (fun ls hl => ?_)
    obtain ⟨y15, ey15⟩ : ∃ z : Int32, z = x3 + 1 := ⟨_, rfl⟩
    replace hf := hj_nm_y hf ey15
    refine lv_iinc (v := y15) (lv' := [(3, .int y15), (2, .int y14), (0, .ref (ad 0)), (1, .int x1)]) hx hb dX6_assizes_124 hl (k := 3) rfl (by rw [ey15]; rfl) (by decide) rfl (fun ls hl => ?_)
    refine lv_goto (tgt := 23) hx hb dX6_assizes_127 (by decide) ?_
    exact KI _ _ _ _ (Option.some.inj hf).symm _ _ _ hP hS (lv_sub hl [2, 3, 1, 0] rfl)
def fX6_assizes_23 (τ : hj_Ob) (sd : Int64) (x1 : Int32) (x2 : Int32) (x3 : Int32) : Option ((Int32 × hj_Ob × Int64) ⊕ (Int32 × Int32 × hj_Ob × Int64)) :=
  if x1 ≤ x3 then (some (.inl (x2, τ, sd))) else (hj_nm ((sd * 6364136223846793005) + 1442695040888963407) fun sd5 => hj_nm ((((sd5.toUInt64 >>> ((33 : Int32).toInt64.toUInt64 &&& Int64.toUInt64 63)).toInt64) - ((sd5.toUInt64 >>> ((33 : Int32).toInt64.toUInt64 &&& Int64.toUInt64 63)).toInt64) / 9 * 9).toInt32) fun y6 => if y6 ≤ 5 then (hj_o1 (fX6_isJuror τ sd5 y6) fun r8 => if r8 = 0 then (fX6_assizes_106 τ sd5 x1 x2 x3) else (hj_o1 (fX6_isThere τ sd5 1 y6) fun r16 => if r16 = 0 then (fX6_assizes_106 τ sd5 x1 x2 x3) else (hj_ck (15 : Int32) 30 (hj_ck (15 : Int32) 30 (hj_nm (hj_a τ 4 (15 : Int32) ((τ.2 4 (15 : Int32).toNatClampNeg) ^^^ ((1 : Int32) <<< (y6 &&& 31)))) fun τ20 => fX6_assizes_106 τ20 sd5 x1 x2 x3))))) else (hj_o2 (fX6_passOn τ sd5 1) fun r21 τ22 => fX6_assizes_106 τ22 sd5 x1 x2 x3))
set_option maxHeartbeats 4000000 in
set_option maxRecDepth 100000 in
theorem wX6_assizes_23b {p : Program} {l : Launch} {e : Env} {s : State} {m : MethodId} {args : Array Value} {below : List Frame} {meth : Method} {c : Code} {g : hj_G} {ad : Nat → Nat} (hI : hj_I 13 ad) (C : hj_C p s m args meth c cX6_assizes RX6 wsX6_assizes 5 (some .int)) (hK : hj_K g s) {τ : hj_Ob} {sd : Int64} {x1 : Int32} {x2 : Int32} {x3 : Int32} {y : (Int32 × hj_Ob × Int64) ⊕ (Int32 × Int32 × hj_Ob × Int64)} {rF : Int32} {τF : hj_Ob} {sdF : Int64}
    (hf : fX6_assizes_23 τ sd x1 x2 x3 = some y) (KX : ∀ (v2 : Int32) (τ' : hj_Ob) (sd' : Int64), y = .inl (v2, τ', sd') → ∀ (H : Heap) (locs : List Loc) (ls : Array Slot), hj_P g 13 ad (hj_wm g ad τ' sd') H → hj_S 13 ad s H locs → lv_has ls 5 [(2, .int v2)] → W p l e rmX6_assizes s m args below meth c H locs 0 0 (MQ below (hj_QI g 13 ad (hj_wm g ad τF sdF) rF s.heap.size) args s 0 0 (hj_A 13 ad s.heap.size)) (F0 m 130 ls [])) (KI : ∀ (v2 : Int32) (v3 : Int32) (τ' : hj_Ob) (sd' : Int64), y = .inr (v2, v3, τ', sd') → ∀ (H : Heap) (locs : List Loc) (ls : Array Slot), hj_P g 13 ad (hj_wm g ad τ' sd') H → hj_S 13 ad s H locs → lv_has ls 5 [(0, .ref (ad 0)), (1, .int x1), (2, .int v2), (3, .int v3)] → W p l e rmX6_assizes s m args below meth c H locs 0 0 (MQ below (hj_QI g 13 ad (hj_wm g ad τF sdF) rF s.heap.size) args s 0 0 (hj_A 13 ad s.heap.size)) (F0 m 23 ls [])) {H : Heap} {locs : List Loc} {ls : Array Slot} (hP : hj_P g 13 ad (hj_wm g ad τ sd) H) (hS : hj_S 13 ad s H locs) (hl : lv_has ls 5 [(0, .ref (ad 0)), (1, .int x1), (2, .int x2), (3, .int x3)]) :
    W p l e rmX6_assizes s m args below meth c H locs 0 0 (MQ below (hj_QI g 13 ad (hj_wm g ad τF sdF) rF s.heap.size) args s 0 0 (hj_A 13 ad s.heap.size)) (F0 m 23 ls []) := by
  obtain ⟨hx, hb, hr, hml, hown, hts, hlocks⟩ := id C
  unfold fX6_assizes_23 at hf
  refine lv_iload_n hx hb dX6_assizes_23 rfl (lv_at hl 3 rfl) ?_
  refine lv_iload_n hx hb dX6_assizes_24 rfl (lv_at hl 1 rfl) ?_
  refine lv_icmp_ge (tgt := 130) hx hb dX6_assizes_25 (by decide) (fun c4 => ?_) (fun c4 => ?_)
  · rw [if_pos c4] at hf
    exact KX _ _ _ (Option.some.inj hf).symm _ _ _ hP hS (lv_sub hl [2] rfl)
  · rw [if_neg c4] at hf
    refine lv_aload_n hx hb dX6_assizes_28 rfl (lv_at hl 0 rfl) ?_
    refine lv_aload_n hx hb dX6_assizes_29 rfl (lv_at hl 0 rfl) ?_
    refine hj_get (ci := 6) (v := .long sd) (C := RX6) (T := TX6) (N := 24) hx hb hts iX6_assizes_X6 hown hK hP (by decide) rfl rfl 21 (by decide) mX6_assizes_2 rfl dX6_assizes_30 ?_
    refine lv_ldc2 hx hb hown (hts _ mX6_assizes_3) dX6_assizes_33 ?_
    refine lv_lmul hx hb dX6_assizes_36 ?_
    refine lv_ldc2 hx hb hown (hts _ mX6_assizes_4) dX6_assizes_37 ?_
    refine lv_ladd hx hb dX6_assizes_40 ?_
    refine hj_put (ci := 6) (v := .long ((sd * 6364136223846793005) + 1442695040888963407)) (C := RX6) (T := TX6) (N := 24) hx hb hts iX6_assizes_X6 tyX6 tyX6_ok nmX6 hown hK hI hP hS (by decide) rfl rfl 21 (by decide) mX6_assizes_2 rfl rfl rfl (Nat.le_of_ble_eq_true rfl) dX6_assizes_41 wm_d (fun H locs hP hS => ?_)
    obtain ⟨sd5, esd5⟩ : ∃ z : Int64, z = (sd * 6364136223846793005) + 1442695040888963407 := ⟨_, rfl⟩
    replace hf := hj_nm_y hf esd5
    rw [← esd5] at hP
    refine lv_aload_n hx hb dX6_assizes_44 rfl (lv_at hl 0 rfl) ?_
    refine hj_get (ci := 6) (v := .long sd5) (C := RX6) (T := TX6) (N := 24) hx hb hts iX6_assizes_X6 hown hK hP (by decide) rfl rfl 21 (by decide) mX6_assizes_2 rfl dX6_assizes_45 ?_
    refine lv_bipush (v := 33) hx hb dX6_assizes_48 (by decide) ?_
    refine lv_lushr (v := (sd5.toUInt64 >>> ((33 : Int32).toInt64.toUInt64 &&& Int64.toUInt64 63)).toInt64) hx hb dX6_assizes_50 rfl ?_
    refine lv_ldc2 hx hb hown (hts _ mX6_assizes_5) dX6_assizes_51 ?_
    refine lv_lrem hx hb dX6_assizes_54 (by decide) ?_
    refine lv_l2i (v := (((sd5.toUInt64 >>> ((33 : Int32).toInt64.toUInt64 &&& Int64.toUInt64 63)).toInt64) - ((sd5.toUInt64 >>> ((33 : Int32).toInt64.toUInt64 &&& Int64.toUInt64 63)).toInt64) / 9 * 9).toInt32) hx hb dX6_assizes_55 rfl ?_
    refine lv_topi (fun y6 ey6 => ?_)
    replace hf := hj_nm_y hf ey6
    refine lv_istore (lv' := [(4, .int y6), (0, .ref (ad 0)), (1, .int x1), (2, .int x2), (3, .int x3)]) hx hb dX6_assizes_56 hl (by decide) rfl (fun ls hl => ?_)
    refine lv_iload hx hb dX6_assizes_58 (lv_at hl 0 rfl) ?_
    refine lv_iconst (v := 5) hx hb dX6_assizes_60 (by decide) ?_
    refine lv_icmp_le (tgt := 73) hx hb dX6_assizes_61 (by decide) (fun c7 => ?_) (fun c7 => ?_)
    · rw [if_pos c7] at hf
      refine lv_aload_n hx hb dX6_assizes_73 rfl (lv_at hl 1 rfl) ?_
      refine lv_iload hx hb dX6_assizes_74 (lv_at hl 0 rfl) ?_
      obtain ⟨r8, hc, hf⟩ := hj_o1_s hf
      refine hj_callVi (nL := 5) (As := [.int y6]) (rest := []) (i0 := 0) (C := RX6) (T := TX6) (N := 24) (ci := 6) ⟨hx, hb, hml, hown, hts⟩ (ctX6_isJuror l g hI hc) (cwV 1 hts gX6_assizes_X6_isJuror rfl rfl rfl (by decide +kernel) ⟨Nat.le_of_ble_eq_true rfl, Nat.le_of_ble_eq_true rfl⟩) hj_Xb0 (fun _ _ _ => trivial) hK hP hS (by decide) rfl rfl rfl hl.1 rfl (Nat.le_of_ble_eq_true rfl) dX6_assizes_76 (fun H locs hP hS => ?_)
      refine lv_if_eq (tgt := 106) hx hb dX6_assizes_79 (by decide) (fun c9 => ?_) (fun c9 => ?_)
      · rw [if_pos c9] at hf
        exact wX6_assizes_106 hI C hK  hf KX KI hP hS (lv_sub hl [1, 2, 3, 4] rfl)
      · rw [if_neg c9] at hf
        refine lv_aload_n hx hb dX6_assizes_82 rfl (lv_at hl 1 rfl) ?_
        refine lv_iconst (v := 1) hx hb dX6_assizes_83 (by decide) ?_
        refine lv_iload hx hb dX6_assizes_84 (lv_at hl 0 rfl) ?_
        obtain ⟨r16, hc, hf⟩ := hj_o1_s hf
        refine hj_callVi (nL := 5) (As := [.int 1, .int y6]) (rest := []) (i0 := 0) (C := RX6) (T := TX6) (N := 24) (ci := 6) ⟨hx, hb, hml, hown, hts⟩ (ctX6_isThere l g hI hc) (cwV 2 hts gX6_assizes_X6_isThere rfl rfl rfl (by decide +kernel) ⟨Nat.le_of_ble_eq_true rfl, Nat.le_of_ble_eq_true rfl⟩) hj_Xb0 (fun _ _ _ => trivial) hK hP hS (by decide) rfl rfl rfl hl.1 rfl (Nat.le_of_ble_eq_true rfl) dX6_assizes_86 (fun H locs hP hS => ?_)
        refine lv_if_eq (tgt := 106) hx hb dX6_assizes_89 (by decide) (fun c17 => ?_) (fun c17 => ?_)
        · rw [if_pos c17] at hf
          exact wX6_assizes_106 hI C hK  hf KX KI hP hS (lv_sub hl [1, 2, 3, 4] rfl)
        · rw [if_neg c17] at hf
          refine lv_aload_n hx hb dX6_assizes_92 rfl (lv_at hl 1 rfl) ?_
          refine hj_get (ci := 6) (v := .ref (ad 3)) (C := RX6) (T := TX6) (N := 24) hx hb hts iX6_assizes_X6 hown hK hP (by decide) rfl rfl 4 (by decide) mX6_assizes_6 rfl dX6_assizes_93 ?_
          refine lv_bipush (v := 15) hx hb dX6_assizes_96 (by decide) ?_
          refine lv_dup2_11 hx hb dX6_assizes_98 rfl rfl ?_
          obtain ⟨hk18, hf⟩ := hj_ck_s hf
          refine hj_ial (f := τ.2 4) hx hb hK hP (by decide) rfl hk18 dX6_assizes_99 ?_
          refine lv_iconst (v := 1) hx hb dX6_assizes_100 (by decide) ?_
          refine lv_iload hx hb dX6_assizes_101 (lv_at hl 0 rfl) ?_
          refine lv_ishl hx hb dX6_assizes_103 ?_
          refine lv_ixor hx hb dX6_assizes_104 ?_
          obtain ⟨hk19, hf⟩ := hj_ck_s hf
          refine hj_ias (f := τ.2 4) (v := ((τ.2 4 (15 : Int32).toNatClampNeg) ^^^ ((1 : Int32) <<< (y6 &&& 31)))) hx hb hK hI hP hS (by decide) rfl hk19 dX6_assizes_105 (wm_a2 (τ := τ) (x := (15 : Int32)) (v := ((τ.2 4 (15 : Int32).toNatClampNeg) ^^^ ((1 : Int32) <<< (y6 &&& 31)))) 3 4 rfl (by decide) (by decide) (by decide)) (fun H locs hP hS => ?_)
          obtain ⟨τ20, eτ20⟩ : ∃ z : hj_Ob, z = hj_a τ 4 (15 : Int32) ((τ.2 4 (15 : Int32).toNatClampNeg) ^^^ ((1 : Int32) <<< (y6 &&& 31))) := ⟨_, rfl⟩
          replace hf := hj_nm_y hf eτ20
          rw [← eτ20] at hP
          exact wX6_assizes_106 hI C hK  hf KX KI hP hS (lv_sub hl [1, 2, 3, 4] rfl)
    · rw [if_neg c7] at hf
      refine lv_aload_n hx hb dX6_assizes_64 rfl (lv_at hl 1 rfl) ?_
      refine lv_iconst (v := 1) hx hb dX6_assizes_65 (by decide) ?_
      obtain ⟨r21, τ22, hc, hf⟩ := hj_o2_s hf
      refine hj_callVi (nL := 5) (As := [.int 1]) (rest := []) (i0 := 0) (C := RX6) (T := TX6) (N := 24) (ci := 6) ⟨hx, hb, hml, hown, hts⟩ (ctX6_passOn l g hI hc) (cwV 1 hts gX6_assizes_X6_passOn rfl rfl rfl (by decide +kernel) ⟨Nat.le_of_ble_eq_true rfl, Nat.le_of_ble_eq_true rfl⟩) hj_Xb0 (fun _ _ _ => trivial) hK hP hS (by decide) rfl rfl rfl hl.1 rfl (Nat.le_of_ble_eq_true rfl) dX6_assizes_66 (fun H locs hP hS => ?_)
      refine lv_pop hx hb dX6_assizes_69 rfl ?_
      refine lv_goto (tgt := 106) hx hb dX6_assizes_70 (by decide) ?_
      exact wX6_assizes_106 hI C hK  hf KX KI hP hS (lv_sub hl [1, 2, 3, 4] rfl)
set_option maxHeartbeats 4000000 in
set_option maxRecDepth 100000 in
theorem wX6_assizes_23 {p : Program} {l : Launch} {e : Env} {s : State} {m : MethodId} {args : Array Value} {below : List Frame} {meth : Method} {c : Code} {g : hj_G} {ad : Nat → Nat} (hI : hj_I 13 ad) (C : hj_C p s m args meth c cX6_assizes RX6 wsX6_assizes 5 (some .int)) (hK : hj_K g s) {x1 : Int32} {rF : Int32} {τF : hj_Ob} {sdF : Int64} {e2 : Int32} {τe : hj_Ob} {sde : Int64} :
    ∀ (fu : Nat) (x2 : Int32) (x3 : Int32) (τ : hj_Ob) (sd : Int64), hj_lp (fun q : (Int32 × Int32 × hj_Ob × Int64) => fX6_assizes_23 q.2.2.1 q.2.2.2 x1 q.1 q.2.1) fu (x2, x3, τ, sd) = some (e2, τe, sde) → (∀ (H : Heap) (locs : List Loc) (ls : Array Slot), hj_P g 13 ad (hj_wm g ad τe sde) H → hj_S 13 ad s H locs → lv_has ls 5 [(2, .int e2)] → W p l e rmX6_assizes s m args below meth c H locs 0 0 (MQ below (hj_QI g 13 ad (hj_wm g ad τF sdF) rF s.heap.size) args s 0 0 (hj_A 13 ad s.heap.size)) (F0 m 130 ls [])) → ∀ (H : Heap) (locs : List Loc) (ls : Array Slot), hj_P g 13 ad (hj_wm g ad τ sd) H → hj_S 13 ad s H locs → lv_has ls 5 [(0, .ref (ad 0)), (1, .int x1), (2, .int x2), (3, .int x3)] →
    W p l e rmX6_assizes s m args below meth c H locs 0 0 (MQ below (hj_QI g 13 ad (hj_wm g ad τF sdF) rF s.heap.size) args s 0 0 (hj_A 13 ad s.heap.size)) (F0 m 23 ls []) := by
  intro fu
  induction fu with
  | zero => intro x2 x3 τ sd hq; cases hq
  | succ fu ih =>
    intro x2 x3 τ sd hq KX H locs ls hP hS hl
    obtain ⟨y, hy, h1, h2⟩ := hj_lp_s hq
    exact wX6_assizes_23b hI C hK  hy (fun v2 τ' sd' hv H locs ls hP hS hl => by have hw := h1 _ hv; obtain ⟨rfl, hw0⟩ := Prod.mk.inj hw; obtain ⟨rfl, rfl⟩ := Prod.mk.inj hw0; exact KX H locs ls hP hS hl) (fun v2 v3 τ' sd' hv H locs ls hP hS hl => ih v2 v3 τ' sd' (h2 _ hv) KX H locs ls hP hS hl) hP hS hl
def fX6_assizes (τ : hj_Ob) (sd : Int64) (x1 : Int32) : Option (Int32 × hj_Ob × Int64) :=
  hj_o1 (fX6_in x1.toInt64 1 20) fun r1 => if r1 = 0 then (some ((-2), τ, sd)) else (hj_o1 (fX6_layTrial τ sd) fun τ3 => hj_o3 (hj_lp (fun q : (Int32 × Int32 × hj_Ob × Int64) => fX6_assizes_23 q.2.2.1 q.2.2.2 x1 q.1 q.2.1) 100 (0, 0, τ3, sd)) fun e23 τ24 sd25 => (some (e23, τ24, sd25)))
set_option maxHeartbeats 4000000 in
set_option maxRecDepth 100000 in
theorem wX6_assizes {p : Program} {l : Launch} {e : Env} {s : State} {m : MethodId} {args : Array Value} {below : List Frame} {meth : Method} {c : Code} {g : hj_G} {ad : Nat → Nat} (hI : hj_I 13 ad) (C : hj_C p s m args meth c cX6_assizes RX6 wsX6_assizes 5 (some .int)) (hK : hj_K g s) {τ : hj_Ob} {sd : Int64} {x1 : Int32} {rF : Int32} {τF : hj_Ob} {sdF : Int64}
    (hf : fX6_assizes τ sd x1 = some (rF, τF, sdF)) {H : Heap} {locs : List Loc} {ls : Array Slot} (hP : hj_P g 13 ad (hj_wm g ad τ sd) H) (hS : hj_S 13 ad s H locs) (hl : lv_has ls 5 [(0, .ref (ad 0)), (1, .int x1)]) :
    W p l e rmX6_assizes s m args below meth c H locs 0 0 (MQ below (hj_QI g 13 ad (hj_wm g ad τF sdF) rF s.heap.size) args s 0 0 (hj_A 13 ad s.heap.size)) (F0 m 0 ls []) := by
  obtain ⟨hx, hb, hr, hml, hown, hts, hlocks⟩ := id C
  unfold fX6_assizes at hf
  refine lv_iload_n hx hb dX6_assizes_0 rfl (lv_at hl 1 rfl) ?_
  refine lv_i2l (v := x1.toInt64) hx hb dX6_assizes_1 rfl ?_
  refine lv_lconst (v := 1) hx hb dX6_assizes_2 (by decide) ?_
  refine lv_ldc2 hx hb hown (hts _ mX6_assizes_1) dX6_assizes_3 ?_
  obtain ⟨r1, hc, hf⟩ := hj_o1_s hf
  refine hj_callSi (nL := 5) (As := [.long x1.toInt64, .long 1, .long 20]) (rest := []) ⟨hx, hb, hml, hown, hts⟩ (ctX6_in l g (n := 13) (ad := ad) (w := (hj_wm g ad τ sd)) hc) (va_cwS 3 hts gX6_assizes_X6_in rfl rfl rfl (by decide +kernel) ⟨Nat.le_of_ble_eq_true rfl, Nat.le_of_ble_eq_true rfl⟩) hj_Xb0 (fun _ _ _ => trivial) hK hP hS rfl hl.1 rfl (Nat.le_of_ble_eq_true rfl) dX6_assizes_6 (fun H locs hP hS => ?_)
  refine lv_if_ne (tgt := 15) hx hb dX6_assizes_9 (by decide) (fun c2 => ?_) (fun c2 => ?_)
  · rw [if_neg c2] at hf
    refine lv_aload_n hx hb dX6_assizes_15 rfl (lv_at hl 0 rfl) ?_
    obtain ⟨τ3, hc, hf⟩ := hj_o1_s hf
    refine hj_callVv (nL := 5) (As := []) (rest := []) (i0 := 0) (C := RX6) (T := TX6) (N := 24) (ci := 6) ⟨hx, hb, hml, hown, hts⟩ (ctX6_layTrial l g hI hc) (cwV 0 hts gX6_assizes_X6_layTrial rfl rfl rfl (by decide +kernel) ⟨Nat.le_of_ble_eq_true rfl, Nat.le_of_ble_eq_true rfl⟩) hj_Xb0 (fun _ _ _ => trivial) hK hP hS (by decide) rfl rfl rfl hl.1 rfl (Nat.le_of_ble_eq_true rfl) dX6_assizes_16 (fun H locs hP hS => ?_)
    refine lv_iconst (v := 0) hx hb dX6_assizes_19 (by decide) ?_
    refine lv_istore_n (lv' := [(2, .int 0), (0, .ref (ad 0)), (1, .int x1)]) hx hb dX6_assizes_20 rfl hl (by decide) rfl (fun ls hl => ?_)
    refine lv_iconst (v := 0) hx hb dX6_assizes_21 (by decide) ?_
    refine lv_istore_n (lv' := [(3, .int 0), (2, .int 0), (0, .ref (ad 0)), (1, .int x1)]) hx hb dX6_assizes_22 rfl hl (by decide) rfl (fun ls hl => ?_)
    obtain ⟨e23, τ24, sd25, hlx, hf⟩ := hj_o3_s hf
    refine wX6_assizes_23 hI C hK  100 0 0 τ3 sd hlx (fun H locs ls hP hS hl => ?_) H locs ls hP hS (lv_sub hl [2, 3, 1, 0] rfl)
    refine lv_iload_n hx hb dX6_assizes_130 rfl (lv_at hl 0 rfl) ?_
    have hq := Option.some.inj hf
    obtain ⟨rfl, hq0⟩ := Prod.mk.inj hq
    obtain ⟨rfl, rfl⟩ := Prod.mk.inj hq0
    exact hj_reti C hP hK hS dX6_assizes_131
  · rw [if_pos c2] at hf
    refine lv_bipush (v := (-2)) hx hb dX6_assizes_12 (by decide) ?_
    have hq := Option.some.inj hf
    obtain ⟨rfl, hq0⟩ := Prod.mk.inj hq
    obtain ⟨rfl, rfl⟩ := Prod.mk.inj hq0
    exact hj_reti C hP hK hS dX6_assizes_14
set_option maxHeartbeats 4000000 in
set_option maxRecDepth 100000 in
theorem ctX6_assizes (l : Launch) (g : hj_G) {ad : Nat → Nat} (hI : hj_I 13 ad) {τ : hj_Ob} {sd : Int64} {x1 : Int32} {rF : Int32} {τF : hj_Ob} {sdF : Int64} (hf : fX6_assizes τ sd x1 = some (rF, τF, sdF)) :
    hj_MI l yX6_assizes wsX6_assizes rmX6_assizes g 13 ad hj_X0 [.ref (ad 0), .int x1] (hj_wm g ad τ sd) rF (hj_wm g ad τF sdF) := by
  refine hj_ofI (cc := cX6_assizes) (maxL := 5) (ret := (some .int)) (by decide) rfl (Nat.le_of_ble_eq_true rfl) ?_
  intro p e s m args below meth c ls C hP hK hX hl
  exact wX6_assizes hI C hK hf hP va_S.rf hl

/-! X6_keep -/
abbrev rmX6_keep : Room := { frames := 1, cells := 0, slots := 0, locals := 25 }
theorem iX6_keep_X6 : ∀ w ∈ wsX60, w ∈ wsX6_keep := fun _ h => List.mem_cons_of_mem _ (List.mem_append_right _ h)
theorem mX6_keep_1 : Cond.fieldLink RX6 40 "HungryJuryModel" "isKept" "[Z" ∈ wsX6_keep := List.mem_of_getElem? (i := 1) rfl
theorem mX6_keep_2 : Cond.fieldLink RX6 44 "HungryJuryModel" "kept" "[I" ∈ wsX6_keep := List.mem_of_getElem? (i := 2) rfl
theorem mX6_keep_3 : Cond.fieldLink RX6 16 "HungryJuryModel" "now" "[I" ∈ wsX6_keep := List.mem_of_getElem? (i := 3) rfl
def fX6_keep_21 (τ : hj_Ob) (sd : Int64) (x1 : Int32) (x2 : Int32) : Option (hj_Ob ⊕ (Int32 × hj_Ob)) :=
  if 15 ≤ x2 then (some (.inl τ)) else (hj_ck x2 30 (hj_ck ((15 * x1) + x2) 30 (hj_nm (hj_a τ 23 ((15 * x1) + x2) (τ.2 4 x2.toNatClampNeg)) fun τ8 => hj_nm (x2 + 1) fun y9 => some (.inr (y9, τ8)))))
set_option maxHeartbeats 4000000 in
set_option maxRecDepth 100000 in
theorem wX6_keep_21b {p : Program} {l : Launch} {e : Env} {s : State} {m : MethodId} {args : Array Value} {below : List Frame} {meth : Method} {c : Code} {g : hj_G} {ad : Nat → Nat} (hI : hj_I 13 ad) (C : hj_C p s m args meth c cX6_keep RX6 wsX6_keep 3 (some .int)) (hK : hj_K g s) {τ : hj_Ob} {sd : Int64} {x1 : Int32} {x2 : Int32} {y : hj_Ob ⊕ (Int32 × hj_Ob)} {rF : Int32} {τF : hj_Ob}
    (hf : fX6_keep_21 τ sd x1 x2 = some y) (KX : ∀ (τ' : hj_Ob), y = .inl τ' → ∀ (H : Heap) (locs : List Loc) (ls : Array Slot), hj_P g 13 ad (hj_wm g ad τ' sd) H → hj_S 13 ad s H locs → lv_has ls 3 [(0, .ref (ad 0))] → W p l e rmX6_keep s m args below meth c H locs 0 0 (MQ below (hj_QI g 13 ad (hj_wm g ad τF sd) rF s.heap.size) args s 0 0 (hj_A 13 ad s.heap.size)) (F0 m 50 ls [])) (KI : ∀ (v2 : Int32) (τ' : hj_Ob), y = .inr (v2, τ') → ∀ (H : Heap) (locs : List Loc) (ls : Array Slot), hj_P g 13 ad (hj_wm g ad τ' sd) H → hj_S 13 ad s H locs → lv_has ls 3 [(0, .ref (ad 0)), (1, .int x1), (2, .int v2)] → W p l e rmX6_keep s m args below meth c H locs 0 0 (MQ below (hj_QI g 13 ad (hj_wm g ad τF sd) rF s.heap.size) args s 0 0 (hj_A 13 ad s.heap.size)) (F0 m 21 ls [])) {H : Heap} {locs : List Loc} {ls : Array Slot} (hP : hj_P g 13 ad (hj_wm g ad τ sd) H) (hS : hj_S 13 ad s H locs) (hl : lv_has ls 3 [(0, .ref (ad 0)), (1, .int x1), (2, .int x2)]) :
    W p l e rmX6_keep s m args below meth c H locs 0 0 (MQ below (hj_QI g 13 ad (hj_wm g ad τF sd) rF s.heap.size) args s 0 0 (hj_A 13 ad s.heap.size)) (F0 m 21 ls []) := by
  obtain ⟨hx, hb, hr, hml, hown, hts, hlocks⟩ := id C
  unfold fX6_keep_21 at hf
  refine lv_iload_n hx hb dX6_keep_21 rfl (lv_at hl 2 rfl) ?_
  refine lv_bipush (v := 15) hx hb dX6_keep_22 (by decide) ?_
  refine lv_icmp_ge (tgt := 50) hx hb dX6_keep_24 (by decide) (fun c5 => ?_) (fun c5 => ?_)
  · rw [if_pos c5] at hf
    exact KX _ (Option.some.inj hf).symm _ _ _ hP hS (lv_sub hl [0] rfl)
  · rw [if_neg c5] at hf
    refine lv_aload_n hx hb dX6_keep_27 rfl (lv_at hl 0 rfl) ?_
    refine hj_get (ci := 6) (v := .ref (ad 12)) (C := RX6) (T := TX6) (N := 24) hx hb hts iX6_keep_X6 hown hK hP (by decide) rfl rfl 23 (by decide) mX6_keep_2 rfl dX6_keep_28 ?_
    refine lv_bipush (v := 15) hx hb dX6_keep_31 (by decide) ?_
    refine lv_iload_n hx hb dX6_keep_33 rfl (lv_at hl 1 rfl) ?_
    refine lv_imul hx hb dX6_keep_34 ?_
    refine lv_iload_n hx hb dX6_keep_35 rfl (lv_at hl 2 rfl) ?_
    refine lv_iadd hx hb dX6_keep_36 ?_
    refine lv_aload_n hx hb dX6_keep_37 rfl (lv_at hl 0 rfl) ?_
    refine hj_get (ci := 6) (v := .ref (ad 3)) (C := RX6) (T := TX6) (N := 24) hx hb hts iX6_keep_X6 hown hK hP (by decide) rfl rfl 4 (by decide) mX6_keep_3 rfl dX6_keep_38 ?_
    refine lv_iload_n hx hb dX6_keep_41 rfl (lv_at hl 2 rfl) ?_
    obtain ⟨hk6, hf⟩ := hj_ck_s hf
    refine hj_ial (f := τ.2 4) hx hb hK hP (by decide) rfl hk6 dX6_keep_42 ?_
    obtain ⟨hk7, hf⟩ := hj_ck_s hf
    refine hj_ias (f := τ.2 23) (v := (τ.2 4 x2.toNatClampNeg)) hx hb hK hI hP hS (by decide) rfl hk7 dX6_keep_43 (wm_a2 (τ := τ) (x := ((15 * x1) + x2)) (v := (τ.2 4 x2.toNatClampNeg)) 12 23 rfl (by decide) (by decide) (by decide)) (fun H locs hP hS => ?_)
    obtain ⟨τ8, eτ8⟩ : ∃ z : hj_Ob, z = hj_a τ 23 ((15 * x1) + x2) (τ.2 4 x2.toNatClampNeg) := ⟨_, rfl⟩
    replace hf := hj_nm_y hf eτ8
    rw [← eτ8] at hP
    obtain ⟨y9, ey9⟩ : ∃ z : Int32, z = x2 + 1 := ⟨_, rfl⟩
    replace hf := hj_nm_y hf ey9
    refine lv_iinc (v := y9) (lv' := [(2, .int y9), (0, .ref (ad 0)), (1, .int x1)]) hx hb dX6_keep_44 hl (k := 2) rfl (by rw [ey9]; rfl) (by decide) rfl (fun ls hl => ?_)
    refine lv_goto (tgt := 21) hx hb dX6_keep_47 (by decide) ?_
    exact KI _ _ (Option.some.inj hf).symm _ _ _ hP hS (lv_sub hl [1, 2, 0] rfl)
set_option maxHeartbeats 4000000 in
set_option maxRecDepth 100000 in
theorem wX6_keep_21 {p : Program} {l : Launch} {e : Env} {s : State} {m : MethodId} {args : Array Value} {below : List Frame} {meth : Method} {c : Code} {g : hj_G} {ad : Nat → Nat} (hI : hj_I 13 ad) (C : hj_C p s m args meth c cX6_keep RX6 wsX6_keep 3 (some .int)) (hK : hj_K g s) {sd : Int64} {x1 : Int32} {rF : Int32} {τF : hj_Ob} {τe : hj_Ob} :
    ∀ (fu : Nat) (x2 : Int32) (τ : hj_Ob), hj_lp (fun q : (Int32 × hj_Ob) => fX6_keep_21 q.2 sd x1 q.1) fu (x2, τ) = some τe → (∀ (H : Heap) (locs : List Loc) (ls : Array Slot), hj_P g 13 ad (hj_wm g ad τe sd) H → hj_S 13 ad s H locs → lv_has ls 3 [(0, .ref (ad 0))] → W p l e rmX6_keep s m args below meth c H locs 0 0 (MQ below (hj_QI g 13 ad (hj_wm g ad τF sd) rF s.heap.size) args s 0 0 (hj_A 13 ad s.heap.size)) (F0 m 50 ls [])) → ∀ (H : Heap) (locs : List Loc) (ls : Array Slot), hj_P g 13 ad (hj_wm g ad τ sd) H → hj_S 13 ad s H locs → lv_has ls 3 [(0, .ref (ad 0)), (1, .int x1), (2, .int x2)] →
    W p l e rmX6_keep s m args below meth c H locs 0 0 (MQ below (hj_QI g 13 ad (hj_wm g ad τF sd) rF s.heap.size) args s 0 0 (hj_A 13 ad s.heap.size)) (F0 m 21 ls []) := by
  intro fu
  induction fu with
  | zero => intro x2 τ hq; cases hq
  | succ fu ih =>
    intro x2 τ hq KX H locs ls hP hS hl
    obtain ⟨y, hy, h1, h2⟩ := hj_lp_s hq
    exact wX6_keep_21b hI C hK  hy (fun τ' hv H locs ls hP hS hl => by obtain rfl := h1 _ hv; exact KX H locs ls hP hS hl) (fun v2 τ' hv H locs ls hP hS hl => ih v2 τ' (h2 _ hv) KX H locs ls hP hS hl) hP hS hl
def fX6_keep (τ : hj_Ob) (sd : Int64) (x1 : Int32) : Option (Int32 × hj_Ob) :=
  hj_o1 (fX6_in x1.toInt64 0 1) fun r1 => if r1 = 0 then (some ((-1), τ)) else (hj_ck x1 2 (hj_nm (hj_a τ 22 x1 (vp_nar .boolean 1)) fun τ4 => hj_o1 (hj_lp (fun q : (Int32 × hj_Ob) => fX6_keep_21 q.2 sd x1 q.1) 100 (0, τ4)) fun τ10 => (hj_ck (2 : Int32) 30 (some (τ10.2 4 (2 : Int32).toNatClampNeg, τ10)))))
set_option maxHeartbeats 4000000 in
set_option maxRecDepth 100000 in
theorem wX6_keep {p : Program} {l : Launch} {e : Env} {s : State} {m : MethodId} {args : Array Value} {below : List Frame} {meth : Method} {c : Code} {g : hj_G} {ad : Nat → Nat} (hI : hj_I 13 ad) (C : hj_C p s m args meth c cX6_keep RX6 wsX6_keep 3 (some .int)) (hK : hj_K g s) {τ : hj_Ob} {sd : Int64} {x1 : Int32} {rF : Int32} {τF : hj_Ob}
    (hf : fX6_keep τ sd x1 = some (rF, τF)) {H : Heap} {locs : List Loc} {ls : Array Slot} (hP : hj_P g 13 ad (hj_wm g ad τ sd) H) (hS : hj_S 13 ad s H locs) (hl : lv_has ls 3 [(0, .ref (ad 0)), (1, .int x1)]) :
    W p l e rmX6_keep s m args below meth c H locs 0 0 (MQ below (hj_QI g 13 ad (hj_wm g ad τF sd) rF s.heap.size) args s 0 0 (hj_A 13 ad s.heap.size)) (F0 m 0 ls []) := by
  obtain ⟨hx, hb, hr, hml, hown, hts, hlocks⟩ := id C
  unfold fX6_keep at hf
  refine lv_iload_n hx hb dX6_keep_0 rfl (lv_at hl 1 rfl) ?_
  refine lv_i2l (v := x1.toInt64) hx hb dX6_keep_1 rfl ?_
  refine lv_lconst (v := 0) hx hb dX6_keep_2 (by decide) ?_
  refine lv_lconst (v := 1) hx hb dX6_keep_3 (by decide) ?_
  obtain ⟨r1, hc, hf⟩ := hj_o1_s hf
  refine hj_callSi (nL := 3) (As := [.long x1.toInt64, .long 0, .long 1]) (rest := []) ⟨hx, hb, hml, hown, hts⟩ (ctX6_in l g (n := 13) (ad := ad) (w := (hj_wm g ad τ sd)) hc) (va_cwS 3 hts gX6_keep_X6_in rfl rfl rfl (by decide +kernel) ⟨Nat.le_of_ble_eq_true rfl, Nat.le_of_ble_eq_true rfl⟩) hj_Xb0 (fun _ _ _ => trivial) hK hP hS rfl hl.1 rfl (Nat.le_of_ble_eq_true rfl) dX6_keep_4 (fun H locs hP hS => ?_)
  refine lv_if_ne (tgt := 12) hx hb dX6_keep_7 (by decide) (fun c2 => ?_) (fun c2 => ?_)
  · rw [if_neg c2] at hf
    refine lv_aload_n hx hb dX6_keep_12 rfl (lv_at hl 0 rfl) ?_
    refine hj_get (ci := 6) (v := .ref (ad 11)) (C := RX6) (T := TX6) (N := 24) hx hb hts iX6_keep_X6 hown hK hP (by decide) rfl rfl 22 (by decide) mX6_keep_1 rfl dX6_keep_13 ?_
    refine lv_iload_n hx hb dX6_keep_16 rfl (lv_at hl 1 rfl) ?_
    refine lv_iconst (v := 1) hx hb dX6_keep_17 (by decide) ?_
    obtain ⟨hk3, hf⟩ := hj_ck_s hf
    refine hj_zas (f := τ.2 22) (v := 1) hx hb hK hI hP hS (by decide) rfl hk3 dX6_keep_18 (wm_z (τ := τ) (x := x1) (v := (vp_nar .boolean 1))) (fun H locs hP hS => ?_)
    obtain ⟨τ4, eτ4⟩ : ∃ z : hj_Ob, z = hj_a τ 22 x1 (vp_nar .boolean 1) := ⟨_, rfl⟩
    replace hf := hj_nm_y hf eτ4
    rw [← eτ4] at hP
    refine lv_iconst (v := 0) hx hb dX6_keep_19 (by decide) ?_
    refine lv_istore_n (lv' := [(2, .int 0), (0, .ref (ad 0)), (1, .int x1)]) hx hb dX6_keep_20 rfl hl (by decide) rfl (fun ls hl => ?_)
    obtain ⟨τ10, hlx, hf⟩ := hj_o1_s hf
    refine wX6_keep_21 hI C hK  100 0 τ4 hlx (fun H locs ls hP hS hl => ?_) H locs ls hP hS (lv_sub hl [1, 2, 0] rfl)
    refine lv_aload_n hx hb dX6_keep_50 rfl (lv_at hl 0 rfl) ?_
    refine hj_get (ci := 6) (v := .ref (ad 3)) (C := RX6) (T := TX6) (N := 24) hx hb hts iX6_keep_X6 hown hK hP (by decide) rfl rfl 4 (by decide) mX6_keep_3 rfl dX6_keep_51 ?_
    refine lv_iconst (v := 2) hx hb dX6_keep_54 (by decide) ?_
    obtain ⟨hk11, hf⟩ := hj_ck_s hf
    refine hj_ial (f := τ10.2 4) hx hb hK hP (by decide) rfl hk11 dX6_keep_55 ?_
    have hq := Option.some.inj hf
    obtain ⟨rfl, rfl⟩ := Prod.mk.inj hq
    exact hj_reti C hP hK hS dX6_keep_56
  · rw [if_pos c2] at hf
    refine lv_iconst (v := (-1)) hx hb dX6_keep_10 (by decide) ?_
    have hq := Option.some.inj hf
    obtain ⟨rfl, rfl⟩ := Prod.mk.inj hq
    exact hj_reti C hP hK hS dX6_keep_11
set_option maxHeartbeats 4000000 in
set_option maxRecDepth 100000 in
theorem ctX6_keep (l : Launch) (g : hj_G) {ad : Nat → Nat} (hI : hj_I 13 ad) {τ : hj_Ob} {sd : Int64} {x1 : Int32} {rF : Int32} {τF : hj_Ob} (hf : fX6_keep τ sd x1 = some (rF, τF)) :
    hj_MI l yX6_keep wsX6_keep rmX6_keep g 13 ad hj_X0 [.ref (ad 0), .int x1] (hj_wm g ad τ sd) rF (hj_wm g ad τF sd) := by
  refine hj_ofI (cc := cX6_keep) (maxL := 3) (ret := (some .int)) (by decide) rfl (Nat.le_of_ble_eq_true rfl) ?_
  intro p e s m args below meth c ls C hP hK hX hl
  exact wX6_keep hI C hK hf hP va_S.rf hl

/-! X6_again -/
abbrev rmX6_again : Room := { frames := 1, cells := 0, slots := 0, locals := 25 }
theorem iX6_again_X6 : ∀ w ∈ wsX60, w ∈ wsX6_again := fun _ h => List.mem_cons_of_mem _ (List.mem_append_right _ h)
theorem mX6_again_1 : Cond.fieldLink RX6 40 "HungryJuryModel" "isKept" "[Z" ∈ wsX6_again := List.mem_of_getElem? (i := 1) rfl
theorem mX6_again_2 : Cond.fieldLink RX6 16 "HungryJuryModel" "now" "[I" ∈ wsX6_again := List.mem_of_getElem? (i := 2) rfl
theorem mX6_again_3 : Cond.fieldLink RX6 44 "HungryJuryModel" "kept" "[I" ∈ wsX6_again := List.mem_of_getElem? (i := 3) rfl
theorem mX6_again_4 : Cond.fieldLink RX6 99 "HungryJuryModel" "acts" "I" ∈ wsX6_again := List.mem_of_getElem? (i := 4) rfl
def fX6_again_26 (τ : hj_Ob) (sd : Int64) (x1 : Int32) (x2 : Int32) : Option (hj_Ob ⊕ (Int32 × hj_Ob)) :=
  if 15 ≤ x2 then (some (.inl τ)) else (hj_ck ((15 * x1) + x2) 30 (hj_ck x2 30 (hj_nm (hj_a τ 4 x2 (τ.2 23 ((15 * x1) + x2).toNatClampNeg)) fun τ8 => hj_nm (x2 + 1) fun y9 => some (.inr (y9, τ8)))))
set_option maxHeartbeats 4000000 in
set_option maxRecDepth 100000 in
theorem wX6_again_26b {p : Program} {l : Launch} {e : Env} {s : State} {m : MethodId} {args : Array Value} {below : List Frame} {meth : Method} {c : Code} {g : hj_G} {ad : Nat → Nat} (hI : hj_I 13 ad) (C : hj_C p s m args meth c cX6_again RX6 wsX6_again 3 (some .int)) (hK : hj_K g s) {τ : hj_Ob} {sd : Int64} {x1 : Int32} {x2 : Int32} {y : hj_Ob ⊕ (Int32 × hj_Ob)} {rF : Int32} {τF : hj_Ob}
    (hf : fX6_again_26 τ sd x1 x2 = some y) (KX : ∀ (τ' : hj_Ob), y = .inl τ' → ∀ (H : Heap) (locs : List Loc) (ls : Array Slot), hj_P g 13 ad (hj_wm g ad τ' sd) H → hj_S 13 ad s H locs → lv_has ls 3 [(0, .ref (ad 0))] → W p l e rmX6_again s m args below meth c H locs 0 0 (MQ below (hj_QI g 13 ad (hj_wm g ad τF sd) rF s.heap.size) args s 0 0 (hj_A 13 ad s.heap.size)) (F0 m 55 ls [])) (KI : ∀ (v2 : Int32) (τ' : hj_Ob), y = .inr (v2, τ') → ∀ (H : Heap) (locs : List Loc) (ls : Array Slot), hj_P g 13 ad (hj_wm g ad τ' sd) H → hj_S 13 ad s H locs → lv_has ls 3 [(0, .ref (ad 0)), (1, .int x1), (2, .int v2)] → W p l e rmX6_again s m args below meth c H locs 0 0 (MQ below (hj_QI g 13 ad (hj_wm g ad τF sd) rF s.heap.size) args s 0 0 (hj_A 13 ad s.heap.size)) (F0 m 26 ls [])) {H : Heap} {locs : List Loc} {ls : Array Slot} (hP : hj_P g 13 ad (hj_wm g ad τ sd) H) (hS : hj_S 13 ad s H locs) (hl : lv_has ls 3 [(0, .ref (ad 0)), (1, .int x1), (2, .int x2)]) :
    W p l e rmX6_again s m args below meth c H locs 0 0 (MQ below (hj_QI g 13 ad (hj_wm g ad τF sd) rF s.heap.size) args s 0 0 (hj_A 13 ad s.heap.size)) (F0 m 26 ls []) := by
  obtain ⟨hx, hb, hr, hml, hown, hts, hlocks⟩ := id C
  unfold fX6_again_26 at hf
  refine lv_iload_n hx hb dX6_again_26 rfl (lv_at hl 2 rfl) ?_
  refine lv_bipush (v := 15) hx hb dX6_again_27 (by decide) ?_
  refine lv_icmp_ge (tgt := 55) hx hb dX6_again_29 (by decide) (fun c5 => ?_) (fun c5 => ?_)
  · rw [if_pos c5] at hf
    exact KX _ (Option.some.inj hf).symm _ _ _ hP hS (lv_sub hl [0] rfl)
  · rw [if_neg c5] at hf
    refine lv_aload_n hx hb dX6_again_32 rfl (lv_at hl 0 rfl) ?_
    refine hj_get (ci := 6) (v := .ref (ad 3)) (C := RX6) (T := TX6) (N := 24) hx hb hts iX6_again_X6 hown hK hP (by decide) rfl rfl 4 (by decide) mX6_again_2 rfl dX6_again_33 ?_
    refine lv_iload_n hx hb dX6_again_36 rfl (lv_at hl 2 rfl) ?_
    refine lv_aload_n hx hb dX6_again_37 rfl (lv_at hl 0 rfl) ?_
    refine hj_get (ci := 6) (v := .ref (ad 12)) (C := RX6) (T := TX6) (N := 24) hx hb hts iX6_again_X6 hown hK hP (by decide) rfl rfl 23 (by decide) mX6_again_3 rfl dX6_again_38 ?_
    refine lv_bipush (v := 15) hx hb dX6_again_41 (by decide) ?_
    refine lv_iload_n hx hb dX6_again_43 rfl (lv_at hl 1 rfl) ?_
    refine lv_imul hx hb dX6_again_44 ?_
    refine lv_iload_n hx hb dX6_again_45 rfl (lv_at hl 2 rfl) ?_
    refine lv_iadd hx hb dX6_again_46 ?_
    obtain ⟨hk6, hf⟩ := hj_ck_s hf
    refine hj_ial (f := τ.2 23) hx hb hK hP (by decide) rfl hk6 dX6_again_47 ?_
    obtain ⟨hk7, hf⟩ := hj_ck_s hf
    refine hj_ias (f := τ.2 4) (v := (τ.2 23 ((15 * x1) + x2).toNatClampNeg)) hx hb hK hI hP hS (by decide) rfl hk7 dX6_again_48 (wm_a2 (τ := τ) (x := x2) (v := (τ.2 23 ((15 * x1) + x2).toNatClampNeg)) 3 4 rfl (by decide) (by decide) (by decide)) (fun H locs hP hS => ?_)
    obtain ⟨τ8, eτ8⟩ : ∃ z : hj_Ob, z = hj_a τ 4 x2 (τ.2 23 ((15 * x1) + x2).toNatClampNeg) := ⟨_, rfl⟩
    replace hf := hj_nm_y hf eτ8
    rw [← eτ8] at hP
    obtain ⟨y9, ey9⟩ : ∃ z : Int32, z = x2 + 1 := ⟨_, rfl⟩
    replace hf := hj_nm_y hf ey9
    refine lv_iinc (v := y9) (lv' := [(2, .int y9), (0, .ref (ad 0)), (1, .int x1)]) hx hb dX6_again_49 hl (k := 2) rfl (by rw [ey9]; rfl) (by decide) rfl (fun ls hl => ?_)
    refine lv_goto (tgt := 26) hx hb dX6_again_52 (by decide) ?_
    exact KI _ _ (Option.some.inj hf).symm _ _ _ hP hS (lv_sub hl [1, 2, 0] rfl)
set_option maxHeartbeats 4000000 in
set_option maxRecDepth 100000 in
theorem wX6_again_26 {p : Program} {l : Launch} {e : Env} {s : State} {m : MethodId} {args : Array Value} {below : List Frame} {meth : Method} {c : Code} {g : hj_G} {ad : Nat → Nat} (hI : hj_I 13 ad) (C : hj_C p s m args meth c cX6_again RX6 wsX6_again 3 (some .int)) (hK : hj_K g s) {sd : Int64} {x1 : Int32} {rF : Int32} {τF : hj_Ob} {τe : hj_Ob} :
    ∀ (fu : Nat) (x2 : Int32) (τ : hj_Ob), hj_lp (fun q : (Int32 × hj_Ob) => fX6_again_26 q.2 sd x1 q.1) fu (x2, τ) = some τe → (∀ (H : Heap) (locs : List Loc) (ls : Array Slot), hj_P g 13 ad (hj_wm g ad τe sd) H → hj_S 13 ad s H locs → lv_has ls 3 [(0, .ref (ad 0))] → W p l e rmX6_again s m args below meth c H locs 0 0 (MQ below (hj_QI g 13 ad (hj_wm g ad τF sd) rF s.heap.size) args s 0 0 (hj_A 13 ad s.heap.size)) (F0 m 55 ls [])) → ∀ (H : Heap) (locs : List Loc) (ls : Array Slot), hj_P g 13 ad (hj_wm g ad τ sd) H → hj_S 13 ad s H locs → lv_has ls 3 [(0, .ref (ad 0)), (1, .int x1), (2, .int x2)] →
    W p l e rmX6_again s m args below meth c H locs 0 0 (MQ below (hj_QI g 13 ad (hj_wm g ad τF sd) rF s.heap.size) args s 0 0 (hj_A 13 ad s.heap.size)) (F0 m 26 ls []) := by
  intro fu
  induction fu with
  | zero => intro x2 τ hq; cases hq
  | succ fu ih =>
    intro x2 τ hq KX H locs ls hP hS hl
    obtain ⟨y, hy, h1, h2⟩ := hj_lp_s hq
    exact wX6_again_26b hI C hK  hy (fun τ' hv H locs ls hP hS hl => by obtain rfl := h1 _ hv; exact KX H locs ls hP hS hl) (fun v2 τ' hv H locs ls hP hS hl => ih v2 τ' (h2 _ hv) KX H locs ls hP hS hl) hP hS hl
def fX6_again (τ : hj_Ob) (sd : Int64) (x1 : Int32) : Option (Int32 × hj_Ob) :=
  hj_o1 (fX6_in x1.toInt64 0 1) fun r1 => if r1 = 0 then (some ((-1), τ)) else (hj_ck x1 2 (if (τ.2 22 x1.toNatClampNeg) = 0 then (some ((-3), τ)) else (hj_o1 (hj_lp (fun q : (Int32 × hj_Ob) => fX6_again_26 q.2 sd x1 q.1) 100 (0, τ)) fun τ10 => (hj_nm (hj_s τ10 13 0) fun τ11 => hj_ck (2 : Int32) 30 (some (τ11.2 4 (2 : Int32).toNatClampNeg, τ11))))))
set_option maxHeartbeats 4000000 in
set_option maxRecDepth 100000 in
theorem wX6_again {p : Program} {l : Launch} {e : Env} {s : State} {m : MethodId} {args : Array Value} {below : List Frame} {meth : Method} {c : Code} {g : hj_G} {ad : Nat → Nat} (hI : hj_I 13 ad) (C : hj_C p s m args meth c cX6_again RX6 wsX6_again 3 (some .int)) (hK : hj_K g s) {τ : hj_Ob} {sd : Int64} {x1 : Int32} {rF : Int32} {τF : hj_Ob}
    (hf : fX6_again τ sd x1 = some (rF, τF)) {H : Heap} {locs : List Loc} {ls : Array Slot} (hP : hj_P g 13 ad (hj_wm g ad τ sd) H) (hS : hj_S 13 ad s H locs) (hl : lv_has ls 3 [(0, .ref (ad 0)), (1, .int x1)]) :
    W p l e rmX6_again s m args below meth c H locs 0 0 (MQ below (hj_QI g 13 ad (hj_wm g ad τF sd) rF s.heap.size) args s 0 0 (hj_A 13 ad s.heap.size)) (F0 m 0 ls []) := by
  obtain ⟨hx, hb, hr, hml, hown, hts, hlocks⟩ := id C
  unfold fX6_again at hf
  refine lv_iload_n hx hb dX6_again_0 rfl (lv_at hl 1 rfl) ?_
  refine lv_i2l (v := x1.toInt64) hx hb dX6_again_1 rfl ?_
  refine lv_lconst (v := 0) hx hb dX6_again_2 (by decide) ?_
  refine lv_lconst (v := 1) hx hb dX6_again_3 (by decide) ?_
  obtain ⟨r1, hc, hf⟩ := hj_o1_s hf
  refine hj_callSi (nL := 3) (As := [.long x1.toInt64, .long 0, .long 1]) (rest := []) ⟨hx, hb, hml, hown, hts⟩ (ctX6_in l g (n := 13) (ad := ad) (w := (hj_wm g ad τ sd)) hc) (va_cwS 3 hts gX6_again_X6_in rfl rfl rfl (by decide +kernel) ⟨Nat.le_of_ble_eq_true rfl, Nat.le_of_ble_eq_true rfl⟩) hj_Xb0 (fun _ _ _ => trivial) hK hP hS rfl hl.1 rfl (Nat.le_of_ble_eq_true rfl) dX6_again_4 (fun H locs hP hS => ?_)
  refine lv_if_ne (tgt := 12) hx hb dX6_again_7 (by decide) (fun c2 => ?_) (fun c2 => ?_)
  · rw [if_neg c2] at hf
    refine lv_aload_n hx hb dX6_again_12 rfl (lv_at hl 0 rfl) ?_
    refine hj_get (ci := 6) (v := .ref (ad 11)) (C := RX6) (T := TX6) (N := 24) hx hb hts iX6_again_X6 hown hK hP (by decide) rfl rfl 22 (by decide) mX6_again_1 rfl dX6_again_13 ?_
    refine lv_iload_n hx hb dX6_again_16 rfl (lv_at hl 1 rfl) ?_
    obtain ⟨hk3, hf⟩ := hj_ck_s hf
    refine hj_zal (f := τ.2 22) hx hb hK hP (by decide) rfl hk3 dX6_again_17 ?_
    refine lv_if_ne (tgt := 24) hx hb dX6_again_18 (by decide) (fun c4 => ?_) (fun c4 => ?_)
    · rw [if_neg c4] at hf
      refine lv_iconst (v := 0) hx hb dX6_again_24 (by decide) ?_
      refine lv_istore_n (lv' := [(2, .int 0), (0, .ref (ad 0)), (1, .int x1)]) hx hb dX6_again_25 rfl hl (by decide) rfl (fun ls hl => ?_)
      obtain ⟨τ10, hlx, hf⟩ := hj_o1_s hf
      refine wX6_again_26 hI C hK  100 0 τ hlx (fun H locs ls hP hS hl => ?_) H locs ls hP hS (lv_sub hl [1, 2, 0] rfl)
      refine lv_aload_n hx hb dX6_again_55 rfl (lv_at hl 0 rfl) ?_
      refine lv_iconst (v := 0) hx hb dX6_again_56 (by decide) ?_
      refine hj_put (ci := 6) (v := .int 0) (C := RX6) (T := TX6) (N := 24) hx hb hts iX6_again_X6 tyX6 tyX6_ok nmX6 hown hK hI hP hS (by decide) rfl rfl 13 (by decide) mX6_again_4 rfl rfl rfl (Nat.le_of_ble_eq_true rfl) dX6_again_57 (wm_s (τ := τ10) (k := 13) (v := 0) rfl) (fun H locs hP hS => ?_)
      obtain ⟨τ11, eτ11⟩ : ∃ z : hj_Ob, z = hj_s τ10 13 0 := ⟨_, rfl⟩
      replace hf := hj_nm_y hf eτ11
      rw [← eτ11] at hP
      refine lv_aload_n hx hb dX6_again_60 rfl (lv_at hl 0 rfl) ?_
      refine hj_get (ci := 6) (v := .ref (ad 3)) (C := RX6) (T := TX6) (N := 24) hx hb hts iX6_again_X6 hown hK hP (by decide) rfl rfl 4 (by decide) mX6_again_2 rfl dX6_again_61 ?_
      refine lv_iconst (v := 2) hx hb dX6_again_64 (by decide) ?_
      obtain ⟨hk12, hf⟩ := hj_ck_s hf
      refine hj_ial (f := τ11.2 4) hx hb hK hP (by decide) rfl hk12 dX6_again_65 ?_
      have hq := Option.some.inj hf
      obtain ⟨rfl, rfl⟩ := Prod.mk.inj hq
      exact hj_reti C hP hK hS dX6_again_66
    · rw [if_pos c4] at hf
      refine lv_bipush (v := (-3)) hx hb dX6_again_21 (by decide) ?_
      have hq := Option.some.inj hf
      obtain ⟨rfl, rfl⟩ := Prod.mk.inj hq
      exact hj_reti C hP hK hS dX6_again_23
  · rw [if_pos c2] at hf
    refine lv_iconst (v := (-1)) hx hb dX6_again_10 (by decide) ?_
    have hq := Option.some.inj hf
    obtain ⟨rfl, rfl⟩ := Prod.mk.inj hq
    exact hj_reti C hP hK hS dX6_again_11
set_option maxHeartbeats 4000000 in
set_option maxRecDepth 100000 in
theorem ctX6_again (l : Launch) (g : hj_G) {ad : Nat → Nat} (hI : hj_I 13 ad) {τ : hj_Ob} {sd : Int64} {x1 : Int32} {rF : Int32} {τF : hj_Ob} (hf : fX6_again τ sd x1 = some (rF, τF)) :
    hj_MI l yX6_again wsX6_again rmX6_again g 13 ad hj_X0 [.ref (ad 0), .int x1] (hj_wm g ad τ sd) rF (hj_wm g ad τF sd) := by
  refine hj_ofI (cc := cX6_again) (maxL := 3) (ret := (some .int)) (by decide) rfl (Nat.le_of_ble_eq_true rfl) ?_
  intro p e s m args below meth c ls C hP hK hX hl
  exact wX6_again hI C hK hf hP va_S.rf hl

/-! X6_count -/
abbrev rmX6_count : Room := { frames := 2, cells := 0, slots := 0, locals := 46 }
theorem iX6_count_X6 : ∀ w ∈ wsX60, w ∈ wsX6_count := fun _ h => List.mem_cons_of_mem _ (List.mem_append_right _ h)
theorem mX6_count_1 : Cond.fieldLink RX6 57 "HungryJuryModel" "length" "I" ∈ wsX6_count := List.mem_of_getElem? (i := 1) rfl
theorem mX6_count_2 : Cond.fieldLink RX6 96 "HungryJuryModel" "jurors" "I" ∈ wsX6_count := List.mem_of_getElem? (i := 2) rfl
theorem mX6_count_3 : Cond.fieldLink RX6 47 "HungryJuryModel" "need" "I" ∈ wsX6_count := List.mem_of_getElem? (i := 3) rfl
theorem mX6_count_4 : Cond.fieldLink RX6 16 "HungryJuryModel" "now" "[I" ∈ wsX6_count := List.mem_of_getElem? (i := 4) rfl
theorem mX6_count_5 : Cond.fieldLink RX6 99 "HungryJuryModel" "acts" "I" ∈ wsX6_count := List.mem_of_getElem? (i := 5) rfl
theorem mX6_count_6 : Cond.fieldLink RX6 161 "HungryJuryModel" "seen" "I" ∈ wsX6_count := List.mem_of_getElem? (i := 6) rfl
def fX6_count (τ : hj_Ob) (sd : Int64) (x1 : Int32) : Option Int32 :=
  if x1 = 0 then (some (τ.1 10)) else (if x1 = 1 then (some (τ.1 0)) else (if x1 = 2 then (some (τ.1 1)) else (if x1 = 3 then (hj_ck (2 : Int32) 30 (some (τ.2 4 (2 : Int32).toNatClampNeg))) else (if x1 = 4 then (hj_ck (1 : Int32) 30 (some (τ.2 4 (1 : Int32).toNatClampNeg))) else (if x1 = 5 then (hj_ck (0 : Int32) 30 (hj_ck (1 : Int32) 30 (some ((τ.2 4 (0 : Int32).toNatClampNeg) &&& (τ.2 4 (1 : Int32).toNatClampNeg))))) else (if x1 = 6 then (hj_o1 (fX6_verdict τ sd 0) fun r12 => some r12) else (if x1 = 7 then (some (τ.1 13)) else (if x1 = 8 then (some (τ.1 17)) else (some (-2))))))))))
set_option maxHeartbeats 4000000 in
set_option maxRecDepth 100000 in
theorem wX6_count {p : Program} {l : Launch} {e : Env} {s : State} {m : MethodId} {args : Array Value} {below : List Frame} {meth : Method} {c : Code} {g : hj_G} {ad : Nat → Nat} (hI : hj_I 13 ad) (C : hj_C p s m args meth c cX6_count RX6 wsX6_count 2 (some .int)) (hK : hj_K g s) {τ : hj_Ob} {sd : Int64} {x1 : Int32} {rF : Int32}
    (hf : fX6_count τ sd x1 = some rF) {H : Heap} {locs : List Loc} {ls : Array Slot} (hP : hj_P g 13 ad (hj_wm g ad τ sd) H) (hS : hj_S 13 ad s H locs) (hl : lv_has ls 2 [(0, .ref (ad 0)), (1, .int x1)]) :
    W p l e rmX6_count s m args below meth c H locs 0 0 (MQ below (hj_QI g 13 ad (hj_wm g ad τ sd) rF s.heap.size) args s 0 0 (hj_A 13 ad s.heap.size)) (F0 m 0 ls []) := by
  obtain ⟨hx, hb, hr, hml, hown, hts, hlocks⟩ := id C
  unfold fX6_count at hf
  refine lv_iload_n hx hb dX6_count_0 rfl (lv_at hl 1 rfl) ?_
  by_cases c1 : x1 = 0
  · rw [if_pos c1] at hf
    refine lv_tableIn (tgt := 52) hx hb dX6_count_1 (by rw [c1]; decide) (by rw [c1]; decide) (by rw [c1]; rfl) (by decide) ?_
    refine lv_aload_n hx hb dX6_count_52 rfl (lv_at hl 0 rfl) ?_
    refine hj_get (ci := 6) (v := .int (τ.1 10)) (C := RX6) (T := TX6) (N := 24) hx hb hts iX6_count_X6 hown hK hP (by decide) rfl rfl 10 (by decide) mX6_count_1 rfl dX6_count_53 ?_
    have hq := Option.some.inj hf
    obtain rfl := hq
    exact hj_reti C hP hK hS dX6_count_56
  rw [if_neg c1] at hf
  by_cases c2 : x1 = 1
  · rw [if_pos c2] at hf
    refine lv_tableIn (tgt := 57) hx hb dX6_count_1 (by rw [c2]; decide) (by rw [c2]; decide) (by rw [c2]; rfl) (by decide) ?_
    refine lv_aload_n hx hb dX6_count_57 rfl (lv_at hl 0 rfl) ?_
    refine hj_get (ci := 6) (v := .int (τ.1 0)) (C := RX6) (T := TX6) (N := 24) hx hb hts iX6_count_X6 hown hK hP (by decide) rfl rfl 0 (by decide) mX6_count_2 rfl dX6_count_58 ?_
    have hq := Option.some.inj hf
    obtain rfl := hq
    exact hj_reti C hP hK hS dX6_count_61
  rw [if_neg c2] at hf
  by_cases c3 : x1 = 2
  · rw [if_pos c3] at hf
    refine lv_tableIn (tgt := 62) hx hb dX6_count_1 (by rw [c3]; decide) (by rw [c3]; decide) (by rw [c3]; rfl) (by decide) ?_
    refine lv_aload_n hx hb dX6_count_62 rfl (lv_at hl 0 rfl) ?_
    refine hj_get (ci := 6) (v := .int (τ.1 1)) (C := RX6) (T := TX6) (N := 24) hx hb hts iX6_count_X6 hown hK hP (by decide) rfl rfl 1 (by decide) mX6_count_3 rfl dX6_count_63 ?_
    have hq := Option.some.inj hf
    obtain rfl := hq
    exact hj_reti C hP hK hS dX6_count_66
  rw [if_neg c3] at hf
  by_cases c4 : x1 = 3
  · rw [if_pos c4] at hf
    refine lv_tableIn (tgt := 67) hx hb dX6_count_1 (by rw [c4]; decide) (by rw [c4]; decide) (by rw [c4]; rfl) (by decide) ?_
    refine lv_aload_n hx hb dX6_count_67 rfl (lv_at hl 0 rfl) ?_
    refine hj_get (ci := 6) (v := .ref (ad 3)) (C := RX6) (T := TX6) (N := 24) hx hb hts iX6_count_X6 hown hK hP (by decide) rfl rfl 4 (by decide) mX6_count_4 rfl dX6_count_68 ?_
    refine lv_iconst (v := 2) hx hb dX6_count_71 (by decide) ?_
    obtain ⟨hk5, hf⟩ := hj_ck_s hf
    refine hj_ial (f := τ.2 4) hx hb hK hP (by decide) rfl hk5 dX6_count_72 ?_
    have hq := Option.some.inj hf
    obtain rfl := hq
    exact hj_reti C hP hK hS dX6_count_73
  rw [if_neg c4] at hf
  by_cases c6 : x1 = 4
  · rw [if_pos c6] at hf
    refine lv_tableIn (tgt := 74) hx hb dX6_count_1 (by rw [c6]; decide) (by rw [c6]; decide) (by rw [c6]; rfl) (by decide) ?_
    refine lv_aload_n hx hb dX6_count_74 rfl (lv_at hl 0 rfl) ?_
    refine hj_get (ci := 6) (v := .ref (ad 3)) (C := RX6) (T := TX6) (N := 24) hx hb hts iX6_count_X6 hown hK hP (by decide) rfl rfl 4 (by decide) mX6_count_4 rfl dX6_count_75 ?_
    refine lv_iconst (v := 1) hx hb dX6_count_78 (by decide) ?_
    obtain ⟨hk7, hf⟩ := hj_ck_s hf
    refine hj_ial (f := τ.2 4) hx hb hK hP (by decide) rfl hk7 dX6_count_79 ?_
    have hq := Option.some.inj hf
    obtain rfl := hq
    exact hj_reti C hP hK hS dX6_count_80
  rw [if_neg c6] at hf
  by_cases c8 : x1 = 5
  · rw [if_pos c8] at hf
    refine lv_tableIn (tgt := 81) hx hb dX6_count_1 (by rw [c8]; decide) (by rw [c8]; decide) (by rw [c8]; rfl) (by decide) ?_
    refine lv_aload_n hx hb dX6_count_81 rfl (lv_at hl 0 rfl) ?_
    refine hj_get (ci := 6) (v := .ref (ad 3)) (C := RX6) (T := TX6) (N := 24) hx hb hts iX6_count_X6 hown hK hP (by decide) rfl rfl 4 (by decide) mX6_count_4 rfl dX6_count_82 ?_
    refine lv_iconst (v := 0) hx hb dX6_count_85 (by decide) ?_
    obtain ⟨hk9, hf⟩ := hj_ck_s hf
    refine hj_ial (f := τ.2 4) hx hb hK hP (by decide) rfl hk9 dX6_count_86 ?_
    refine lv_aload_n hx hb dX6_count_87 rfl (lv_at hl 0 rfl) ?_
    refine hj_get (ci := 6) (v := .ref (ad 3)) (C := RX6) (T := TX6) (N := 24) hx hb hts iX6_count_X6 hown hK hP (by decide) rfl rfl 4 (by decide) mX6_count_4 rfl dX6_count_88 ?_
    refine lv_iconst (v := 1) hx hb dX6_count_91 (by decide) ?_
    obtain ⟨hk10, hf⟩ := hj_ck_s hf
    refine hj_ial (f := τ.2 4) hx hb hK hP (by decide) rfl hk10 dX6_count_92 ?_
    refine lv_iand hx hb dX6_count_93 ?_
    have hq := Option.some.inj hf
    obtain rfl := hq
    exact hj_reti C hP hK hS dX6_count_94
  rw [if_neg c8] at hf
  by_cases c11 : x1 = 6
  · rw [if_pos c11] at hf
    refine lv_tableIn (tgt := 95) hx hb dX6_count_1 (by rw [c11]; decide) (by rw [c11]; decide) (by rw [c11]; rfl) (by decide) ?_
    refine lv_aload_n hx hb dX6_count_95 rfl (lv_at hl 0 rfl) ?_
    refine lv_iconst (v := 0) hx hb dX6_count_96 (by decide) ?_
    obtain ⟨r12, hc, hf⟩ := hj_o1_s hf
    refine hj_callVi (nL := 2) (As := [.int 0]) (rest := []) (i0 := 0) (C := RX6) (T := TX6) (N := 24) (ci := 6) ⟨hx, hb, hml, hown, hts⟩ (ctX6_verdict l g hI hc) (cwV 1 hts gX6_count_X6_verdict rfl rfl rfl (by decide +kernel) ⟨Nat.le_of_ble_eq_true rfl, Nat.le_of_ble_eq_true rfl⟩) hj_Xb0 (fun _ _ _ => trivial) hK hP hS (by decide) rfl rfl rfl hl.1 rfl (Nat.le_of_ble_eq_true rfl) dX6_count_97 (fun H locs hP hS => ?_)
    have hq := Option.some.inj hf
    obtain rfl := hq
    exact hj_reti C hP hK hS dX6_count_100
  rw [if_neg c11] at hf
  by_cases c13 : x1 = 7
  · rw [if_pos c13] at hf
    refine lv_tableIn (tgt := 101) hx hb dX6_count_1 (by rw [c13]; decide) (by rw [c13]; decide) (by rw [c13]; rfl) (by decide) ?_
    refine lv_aload_n hx hb dX6_count_101 rfl (lv_at hl 0 rfl) ?_
    refine hj_get (ci := 6) (v := .int (τ.1 13)) (C := RX6) (T := TX6) (N := 24) hx hb hts iX6_count_X6 hown hK hP (by decide) rfl rfl 13 (by decide) mX6_count_5 rfl dX6_count_102 ?_
    have hq := Option.some.inj hf
    obtain rfl := hq
    exact hj_reti C hP hK hS dX6_count_105
  rw [if_neg c13] at hf
  by_cases c14 : x1 = 8
  · rw [if_pos c14] at hf
    refine lv_tableIn (tgt := 106) hx hb dX6_count_1 (by rw [c14]; decide) (by rw [c14]; decide) (by rw [c14]; rfl) (by decide) ?_
    refine lv_aload_n hx hb dX6_count_106 rfl (lv_at hl 0 rfl) ?_
    refine hj_get (ci := 6) (v := .int (τ.1 17)) (C := RX6) (T := TX6) (N := 24) hx hb hts iX6_count_X6 hown hK hP (by decide) rfl rfl 17 (by decide) mX6_count_6 rfl dX6_count_107 ?_
    have hq := Option.some.inj hf
    obtain rfl := hq
    exact hj_reti C hP hK hS dX6_count_110
  rw [if_neg c14] at hf
  refine lv_tableOut (tgt := 111) hx hb dX6_count_1 (by have qc1 := lv_neT c1 (k := 0) (a := 0) (by decide); have qc2 := lv_neT c2 (k := 1) (a := 1) (by decide); have qc3 := lv_neT c3 (k := 2) (a := 2) (by decide); have qc4 := lv_neT c4 (k := 3) (a := 3) (by decide); have qc6 := lv_neT c6 (k := 4) (a := 4) (by decide); have qc8 := lv_neT c8 (k := 5) (a := 5) (by decide); have qc11 := lv_neT c11 (k := 6) (a := 6) (by decide); have qc13 := lv_neT c13 (k := 7) (a := 7) (by decide); have qc14 := lv_neT c14 (k := 8) (a := 8) (by decide); omega) (by decide) ?_
  refine lv_bipush (v := (-2)) hx hb dX6_count_111 (by decide) ?_
  have hq := Option.some.inj hf
  obtain rfl := hq
  exact hj_reti C hP hK hS dX6_count_113
set_option maxHeartbeats 4000000 in
set_option maxRecDepth 100000 in
theorem ctX6_count (l : Launch) (g : hj_G) {ad : Nat → Nat} (hI : hj_I 13 ad) {τ : hj_Ob} {sd : Int64} {x1 : Int32} {rF : Int32} (hf : fX6_count τ sd x1 = some rF) :
    hj_MI l yX6_count wsX6_count rmX6_count g 13 ad hj_X0 [.ref (ad 0), .int x1] (hj_wm g ad τ sd) rF (hj_wm g ad τ sd) := by
  refine hj_ofI (cc := cX6_count) (maxL := 2) (ret := (some .int)) (by decide) rfl (Nat.le_of_ble_eq_true rfl) ?_
  intro p e s m args below meth c ls C hP hK hX hl
  exact wX6_count hI C hK hf hP va_S.rf hl
