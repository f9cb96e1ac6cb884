/-! X6_tryThing -/
abbrev rmX6_tryThing : Room := { frames := 3, cells := 0, slots := 0, locals := 75 }
theorem iX6_tryThing_X6 : ∀ w ∈ wsX60, w ∈ wsX6_tryThing := fun _ h => List.mem_cons_of_mem _ (List.mem_append_right _ h)
theorem mX6_tryThing_1 : Cond.fieldLink RX6 16 "HungryJuryModel" "now" "[I" ∈ wsX6_tryThing := List.mem_of_getElem? (i := 1) rfl
def fX6_tryThing_16 (τ : hj_Ob) (sd : Int64) (x1 : Int32) (x2 : Int32) : Option (Int32 × hj_Ob) :=
  hj_o1 (fX6_isJuror τ sd x2) fun r2 => if r2 = 0 then (some (0, τ)) else (hj_o1 (fX6_isThere τ sd 1 x2) fun r4 => if r4 = 0 then (some (0, τ)) else (if x1 = 1 then (hj_o1 (fX6_canArgue τ sd 1 x2) fun r7 => hj_ck (18 + x2) 30 (if r7 = 0 then (hj_ck (18 + x2) 30 (hj_nm (hj_a τ 4 (18 + x2) ((τ.2 4 (18 + x2).toNatClampNeg) - 0)) fun τ11 => hj_bz r7 (some (r7, τ11)))) else (hj_ck (18 + x2) 30 (hj_nm (hj_a τ 4 (18 + x2) ((τ.2 4 (18 + x2).toNatClampNeg) - 1)) fun τ13 => hj_bz r7 (some (r7, τ13)))))) else (if x1 = 2 then (hj_o1 (fX6_canFeed τ sd 1 x2) fun r15 => hj_ck (24 + x2) 30 (hj_nm (hj_a τ 4 (24 + x2) 0) fun τ17 => hj_bz r15 (some (r15, τ17)))) else (if x1 = 3 then (hj_o1 (fX6_dieOn τ sd 1 x2) fun τ19 => some (1, τ19)) else (if x1 = 4 then (hj_ck (15 : Int32) 30 (hj_ck (15 : Int32) 30 (hj_nm (hj_a τ 4 (15 : Int32) ((τ.2 4 (15 : Int32).toNatClampNeg) ^^^ ((1 : Int32) <<< (x2 &&& 31)))) fun τ23 => some (1, τ23)))) else (some (0, τ)))))))
set_option maxHeartbeats 4000000 in
set_option maxRecDepth 100000 in
theorem wX6_tryThing_16 {p : Program} {l : Launch} {e : Env} {s : State} {m : MethodId} {args : Array Value} {below : List Frame} {meth : Method} {c : Code} {g : hj_G} {ad : Nat → Nat} (hI : hj_I 13 ad) (C : hj_C p s m args meth c cX6_tryThing RX6 wsX6_tryThing 5 (some .boolean)) (hK : hj_K g s) {τ : hj_Ob} {sd : Int64} {x1 : Int32} {x2 : Int32} {rF : Int32} {τF : hj_Ob}
    (hf : fX6_tryThing_16 τ sd x1 x2 = some (rF, τF)) {H : Heap} {locs : List Loc} {ls : Array Slot} (hP : hj_P g 13 ad (hj_wm g ad τ sd) H) (hS : hj_S 13 ad s H locs) (hl : lv_has ls 5 [(0, .ref (ad 0)), (1, .int x1), (2, .int x2)]) :
    W p l e rmX6_tryThing s m args below meth c H locs 0 0 (MQ below (hj_QI g 13 ad (hj_wm g ad τF sd) rF s.heap.size) args s 0 0 (hj_A 13 ad s.heap.size)) (F0 m 16 ls []) := by
  obtain ⟨hx, hb, hr, hml, hown, hts, hlocks⟩ := id C
  unfold fX6_tryThing_16 at hf
  refine lv_aload_n hx hb dX6_tryThing_16 rfl (lv_at hl 0 rfl) ?_
  refine lv_iload_n hx hb dX6_tryThing_17 rfl (lv_at hl 2 rfl) ?_
  obtain ⟨r2, hc, hf⟩ := hj_o1_s hf
  refine hj_callVi (nL := 5) (As := [.int x2]) (rest := []) (i0 := 0) (C := RX6) (T := TX6) (N := 24) (ci := 6) ⟨hx, hb, hml, hown, hts⟩ (ctX6_isJuror l g hI hc) (cwV 1 hts gX6_tryThing_X6_isJuror rfl rfl rfl (by decide +kernel) ⟨Nat.le_of_ble_eq_true rfl, Nat.le_of_ble_eq_true rfl⟩) hj_Xb0 (fun _ _ _ => trivial) hK hP hS (by decide) rfl rfl rfl hl.1 rfl (Nat.le_of_ble_eq_true rfl) dX6_tryThing_18 (fun H locs hP hS => ?_)
  refine lv_if_eq (tgt := 33) hx hb dX6_tryThing_21 (by decide) (fun c3 => ?_) (fun c3 => ?_)
  · rw [if_pos c3] at hf
    refine lv_iconst (v := 0) hx hb dX6_tryThing_33 (by decide) ?_
    have hq := Option.some.inj hf
    obtain ⟨rfl, rfl⟩ := Prod.mk.inj hq
    exact hj_retz (Or.inl rfl)  C hP hK hS dX6_tryThing_34
  · rw [if_neg c3] at hf
    refine lv_aload_n hx hb dX6_tryThing_24 rfl (lv_at hl 0 rfl) ?_
    refine lv_iconst (v := 1) hx hb dX6_tryThing_25 (by decide) ?_
    refine lv_iload_n hx hb dX6_tryThing_26 rfl (lv_at hl 2 rfl) ?_
    obtain ⟨r4, hc, hf⟩ := hj_o1_s hf
    refine hj_callVi (nL := 5) (As := [.int 1, .int x2]) (rest := []) (i0 := 0) (C := RX6) (T := TX6) (N := 24) (ci := 6) ⟨hx, hb, hml, hown, hts⟩ (ctX6_isThere l g hI hc) (cwV 2 hts gX6_tryThing_X6_isThere rfl rfl rfl (by decide +kernel) ⟨Nat.le_of_ble_eq_true rfl, Nat.le_of_ble_eq_true rfl⟩) hj_Xb0 (fun _ _ _ => trivial) hK hP hS (by decide) rfl rfl rfl hl.1 rfl (Nat.le_of_ble_eq_true rfl) dX6_tryThing_27 (fun H locs hP hS => ?_)
    refine lv_if_ne (tgt := 35) hx hb dX6_tryThing_30 (by decide) (fun c5 => ?_) (fun c5 => ?_)
    · rw [if_neg c5] at hf
      refine lv_iload_n hx hb dX6_tryThing_35 rfl (lv_at hl 1 rfl) ?_
      by_cases c6 : x1 = 1
      · rw [if_pos c6] at hf
        refine lv_tableIn (tgt := 68) hx hb dX6_tryThing_36 (by rw [c6]; decide) (by rw [c6]; decide) (by rw [c6]; rfl) (by decide) ?_
        refine lv_aload_n hx hb dX6_tryThing_68 rfl (lv_at hl 0 rfl) ?_
        refine lv_iconst (v := 1) hx hb dX6_tryThing_69 (by decide) ?_
        refine lv_iload_n hx hb dX6_tryThing_70 rfl (lv_at hl 2 rfl) ?_
        obtain ⟨r7, hc, hf⟩ := hj_o1_s hf
        refine hj_callVi (nL := 5) (As := [.int 1, .int x2]) (rest := []) (i0 := 0) (C := RX6) (T := TX6) (N := 24) (ci := 6) ⟨hx, hb, hml, hown, hts⟩ (ctX6_canArgue l g hI hc) (cwV 2 hts gX6_tryThing_X6_canArgue rfl rfl rfl (by decide +kernel) ⟨Nat.le_of_ble_eq_true rfl, Nat.le_of_ble_eq_true rfl⟩) hj_Xb0 (fun _ _ _ => trivial) hK hP hS (by decide) rfl rfl rfl hl.1 rfl (Nat.le_of_ble_eq_true rfl) dX6_tryThing_71 (fun H locs hP hS => ?_)
        refine lv_istore_n (lv' := [(3, .int r7), (0, .ref (ad 0)), (1, .int x1), (2, .int x2)]) hx hb dX6_tryThing_74 rfl hl (by decide) rfl (fun ls hl => ?_)
        refine lv_aload_n hx hb dX6_tryThing_75 rfl (lv_at hl 1 rfl) ?_
        refine hj_get (ci := 6) (v := .ref (ad 3)) (C := RX6) (T := TX6) (N := 24) hx hb hts iX6_tryThing_X6 hown hK hP (by decide) rfl rfl 4 (by decide) mX6_tryThing_1 rfl dX6_tryThing_76 ?_
        refine lv_bipush (v := 18) hx hb dX6_tryThing_79 (by decide) ?_
        refine lv_iload_n hx hb dX6_tryThing_81 rfl (lv_at hl 3 rfl) ?_
        refine lv_iadd hx hb dX6_tryThing_82 ?_
        refine lv_dup2_11 hx hb dX6_tryThing_83 rfl rfl ?_
        obtain ⟨hk8, hf⟩ := hj_ck_s hf
        refine hj_ial (f := τ.2 4) hx hb hK hP (by decide) rfl hk8 dX6_tryThing_84 ?_
        refine lv_iload_n hx hb dX6_tryThing_85 rfl (lv_at hl 0 rfl) ?_
        refine lv_if_eq (tgt := 93) hx hb dX6_tryThing_86 (by decide) (fun c9 => ?_) (fun c9 => ?_)
        · rw [if_pos c9] at hf
          refine lv_iconst (v := 0) hx hb dX6_tryThing_93 (by decide) ?_
          refine lv_isub hx hb dX6_tryThing_94 ?_
          obtain ⟨hk10, hf⟩ := hj_ck_s hf
          refine hj_ias (f := τ.2 4) (v := ((τ.2 4 (18 + x2).toNatClampNeg) - 0)) hx hb hK hI hP hS (by decide) rfl hk10 dX6_tryThing_95 (wm_a2 (τ := τ) (x := (18 + x2)) (v := ((τ.2 4 (18 + x2).toNatClampNeg) - 0)) 3 4 rfl (by decide) (by decide) (by decide)) (fun H locs hP hS => ?_)
          obtain ⟨τ11, eτ11⟩ : ∃ z : hj_Ob, z = hj_a τ 4 (18 + x2) ((τ.2 4 (18 + x2).toNatClampNeg) - 0) := ⟨_, rfl⟩
          replace hf := hj_nm_y hf eτ11
          rw [← eτ11] at hP
          refine lv_iload_n hx hb dX6_tryThing_96 rfl (lv_at hl 0 rfl) ?_
          obtain ⟨hz, hf⟩ := hj_bz_s hf
          have hq := Option.some.inj hf
          obtain ⟨rfl, rfl⟩ := Prod.mk.inj hq
          exact hj_retz hz  C hP hK hS dX6_tryThing_97
        · rw [if_neg c9] at hf
          refine lv_iconst (v := 1) hx hb dX6_tryThing_89 (by decide) ?_
          refine lv_goto (tgt := 94) hx hb dX6_tryThing_90 (by decide) ?_
          refine lv_isub hx hb dX6_tryThing_94 ?_
          obtain ⟨hk12, hf⟩ := hj_ck_s hf
          refine hj_ias (f := τ.2 4) (v := ((τ.2 4 (18 + x2).toNatClampNeg) - 1)) hx hb hK hI hP hS (by decide) rfl hk12 dX6_tryThing_95 (wm_a2 (τ := τ) (x := (18 + x2)) (v := ((τ.2 4 (18 + x2).toNatClampNeg) - 1)) 3 4 rfl (by decide) (by decide) (by decide)) (fun H locs hP hS => ?_)
          obtain ⟨τ13, eτ13⟩ : ∃ z : hj_Ob, z = hj_a τ 4 (18 + x2) ((τ.2 4 (18 + x2).toNatClampNeg) - 1) := ⟨_, rfl⟩
          replace hf := hj_nm_y hf eτ13
          rw [← eτ13] at hP
          refine lv_iload_n hx hb dX6_tryThing_96 rfl (lv_at hl 0 rfl) ?_
          obtain ⟨hz, hf⟩ := hj_bz_s hf
          have hq := Option.some.inj hf
          obtain ⟨rfl, rfl⟩ := Prod.mk.inj hq
          exact hj_retz hz  C hP hK hS dX6_tryThing_97
      rw [if_neg c6] at hf
      by_cases c14 : x1 = 2
      · rw [if_pos c14] at hf
        refine lv_tableIn (tgt := 98) hx hb dX6_tryThing_36 (by rw [c14]; decide) (by rw [c14]; decide) (by rw [c14]; rfl) (by decide) ?_
        refine lv_aload_n hx hb dX6_tryThing_98 rfl (lv_at hl 0 rfl) ?_
        refine lv_iconst (v := 1) hx hb dX6_tryThing_99 (by decide) ?_
        refine lv_iload_n hx hb dX6_tryThing_100 rfl (lv_at hl 2 rfl) ?_
        obtain ⟨r15, hc, hf⟩ := hj_o1_s hf
        refine hj_callVi (nL := 5) (As := [.int 1, .int x2]) (rest := []) (i0 := 0) (C := RX6) (T := TX6) (N := 24) (ci := 6) ⟨hx, hb, hml, hown, hts⟩ (ctX6_canFeed l g hI hc) (cwV 2 hts gX6_tryThing_X6_canFeed rfl rfl rfl (by decide +kernel) ⟨Nat.le_of_ble_eq_true rfl, Nat.le_of_ble_eq_true rfl⟩) hj_Xb0 (fun _ _ _ => trivial) hK hP hS (by decide) rfl rfl rfl hl.1 rfl (Nat.le_of_ble_eq_true rfl) dX6_tryThing_101 (fun H locs hP hS => ?_)
        refine lv_istore (lv' := [(4, .int r15), (0, .ref (ad 0)), (1, .int x1), (2, .int x2)]) hx hb dX6_tryThing_104 hl (by decide) rfl (fun ls hl => ?_)
        refine lv_aload_n hx hb dX6_tryThing_106 rfl (lv_at hl 1 rfl) ?_
        refine hj_get (ci := 6) (v := .ref (ad 3)) (C := RX6) (T := TX6) (N := 24) hx hb hts iX6_tryThing_X6 hown hK hP (by decide) rfl rfl 4 (by decide) mX6_tryThing_1 rfl dX6_tryThing_107 ?_
        refine lv_bipush (v := 24) hx hb dX6_tryThing_110 (by decide) ?_
        refine lv_iload_n hx hb dX6_tryThing_112 rfl (lv_at hl 3 rfl) ?_
        refine lv_iadd hx hb dX6_tryThing_113 ?_
        refine lv_iconst (v := 0) hx hb dX6_tryThing_114 (by decide) ?_
        obtain ⟨hk16, hf⟩ := hj_ck_s hf
        refine hj_ias (f := τ.2 4) (v := 0) hx hb hK hI hP hS (by decide) rfl hk16 dX6_tryThing_115 (wm_a2 (τ := τ) (x := (24 + x2)) (v := 0) 3 4 rfl (by decide) (by decide) (by decide)) (fun H locs hP hS => ?_)
        obtain ⟨τ17, eτ17⟩ : ∃ z : hj_Ob, z = hj_a τ 4 (24 + x2) 0 := ⟨_, rfl⟩
        replace hf := hj_nm_y hf eτ17
        rw [← eτ17] at hP
        refine lv_iload hx hb dX6_tryThing_116 (lv_at hl 0 rfl) ?_
        obtain ⟨hz, hf⟩ := hj_bz_s hf
        have hq := Option.some.inj hf
        obtain ⟨rfl, rfl⟩ := Prod.mk.inj hq
        exact hj_retz hz  C hP hK hS dX6_tryThing_118
      rw [if_neg c14] at hf
      by_cases c18 : x1 = 3
      · rw [if_pos c18] at hf
        refine lv_tableIn (tgt := 119) hx hb dX6_tryThing_36 (by rw [c18]; decide) (by rw [c18]; decide) (by rw [c18]; rfl) (by decide) ?_
        refine lv_aload_n hx hb dX6_tryThing_119 rfl (lv_at hl 0 rfl) ?_
        refine lv_iconst (v := 1) hx hb dX6_tryThing_120 (by decide) ?_
        refine lv_iload_n hx hb dX6_tryThing_121 rfl (lv_at hl 2 rfl) ?_
        obtain ⟨τ19, hc, hf⟩ := hj_o1_s hf
        refine hj_callVv (nL := 5) (As := [.int 1, .int x2]) (rest := []) (i0 := 0) (C := RX6) (T := TX6) (N := 24) (ci := 6) ⟨hx, hb, hml, hown, hts⟩ (ctX6_dieOn l g hI hc) (cwV 2 hts gX6_tryThing_X6_dieOn rfl rfl rfl (by decide +kernel) ⟨Nat.le_of_ble_eq_true rfl, Nat.le_of_ble_eq_true rfl⟩) hj_Xb0 (fun _ _ _ => trivial) hK hP hS (by decide) rfl rfl rfl hl.1 rfl (Nat.le_of_ble_eq_true rfl) dX6_tryThing_122 (fun H locs hP hS => ?_)
        refine lv_iconst (v := 1) hx hb dX6_tryThing_125 (by decide) ?_
        have hq := Option.some.inj hf
        obtain ⟨rfl, rfl⟩ := Prod.mk.inj hq
        exact hj_retz (Or.inr rfl)  C hP hK hS dX6_tryThing_126
      rw [if_neg c18] at hf
      by_cases c20 : x1 = 4
      · rw [if_pos c20] at hf
        refine lv_tableIn (tgt := 127) hx hb dX6_tryThing_36 (by rw [c20]; decide) (by rw [c20]; decide) (by rw [c20]; rfl) (by decide) ?_
        refine lv_aload_n hx hb dX6_tryThing_127 rfl (lv_at hl 0 rfl) ?_
        refine hj_get (ci := 6) (v := .ref (ad 3)) (C := RX6) (T := TX6) (N := 24) hx hb hts iX6_tryThing_X6 hown hK hP (by decide) rfl rfl 4 (by decide) mX6_tryThing_1 rfl dX6_tryThing_128 ?_
        refine lv_bipush (v := 15) hx hb dX6_tryThing_131 (by decide) ?_
        refine lv_dup2_11 hx hb dX6_tryThing_133 rfl rfl ?_
        obtain ⟨hk21, hf⟩ := hj_ck_s hf
        refine hj_ial (f := τ.2 4) hx hb hK hP (by decide) rfl hk21 dX6_tryThing_134 ?_
        refine lv_iconst (v := 1) hx hb dX6_tryThing_135 (by decide) ?_
        refine lv_iload_n hx hb dX6_tryThing_136 rfl (lv_at hl 2 rfl) ?_
        refine lv_ishl hx hb dX6_tryThing_137 ?_
        refine lv_ixor hx hb dX6_tryThing_138 ?_
        obtain ⟨hk22, hf⟩ := hj_ck_s hf
        refine hj_ias (f := τ.2 4) (v := ((τ.2 4 (15 : Int32).toNatClampNeg) ^^^ ((1 : Int32) <<< (x2 &&& 31)))) hx hb hK hI hP hS (by decide) rfl hk22 dX6_tryThing_139 (wm_a2 (τ := τ) (x := (15 : Int32)) (v := ((τ.2 4 (15 : Int32).toNatClampNeg) ^^^ ((1 : Int32) <<< (x2 &&& 31)))) 3 4 rfl (by decide) (by decide) (by decide)) (fun H locs hP hS => ?_)
        obtain ⟨τ23, eτ23⟩ : ∃ z : hj_Ob, z = hj_a τ 4 (15 : Int32) ((τ.2 4 (15 : Int32).toNatClampNeg) ^^^ ((1 : Int32) <<< (x2 &&& 31))) := ⟨_, rfl⟩
        replace hf := hj_nm_y hf eτ23
        rw [← eτ23] at hP
        refine lv_iconst (v := 1) hx hb dX6_tryThing_140 (by decide) ?_
        have hq := Option.some.inj hf
        obtain ⟨rfl, rfl⟩ := Prod.mk.inj hq
        exact hj_retz (Or.inr rfl)  C hP hK hS dX6_tryThing_141
      rw [if_neg c20] at hf
      refine lv_tableOut (tgt := 142) hx hb dX6_tryThing_36 (by have qc6 := lv_neT c6 (k := 1) (a := 1) (by decide); have qc14 := lv_neT c14 (k := 2) (a := 2) (by decide); have qc18 := lv_neT c18 (k := 3) (a := 3) (by decide); have qc20 := lv_neT c20 (k := 4) (a := 4) (by decide); omega) (by decide) ?_
      refine lv_iconst (v := 0) hx hb dX6_tryThing_142 (by decide) ?_
      have hq := Option.some.inj hf
      obtain ⟨rfl, rfl⟩ := Prod.mk.inj hq
      exact hj_retz (Or.inl rfl)  C hP hK hS dX6_tryThing_143
    · rw [if_pos c5] at hf
      refine lv_iconst (v := 0) hx hb dX6_tryThing_33 (by decide) ?_
      have hq := Option.some.inj hf
      obtain ⟨rfl, rfl⟩ := Prod.mk.inj hq
      exact hj_retz (Or.inl rfl)  C hP hK hS dX6_tryThing_34
def fX6_tryThing (τ : hj_Ob) (sd : Int64) (x1 : Int32) (x2 : Int32) : Option (Int32 × hj_Ob) :=
  if x1 = 0 then (if x2 = 0 then (hj_o2 (fX6_passOn τ sd 1) fun r25 τ26 => some (1, τ26)) else (fX6_tryThing_16 τ sd x1 x2)) else (fX6_tryThing_16 τ sd x1 x2)
set_option maxHeartbeats 4000000 in
set_option maxRecDepth 100000 in
theorem wX6_tryThing {p : Program} {l : Launch} {e : Env} {s : State} {m : MethodId} {args : Array Value} {below : List Frame} {meth : Method} {c : Code} {g : hj_G} {ad : Nat → Nat} (hI : hj_I 13 ad) (C : hj_C p s m args meth c cX6_tryThing RX6 wsX6_tryThing 5 (some .boolean)) (hK : hj_K g s) {τ : hj_Ob} {sd : Int64} {x1 : Int32} {x2 : Int32} {rF : Int32} {τF : hj_Ob}
    (hf : fX6_tryThing τ sd x1 x2 = some (rF, τF)) {H : Heap} {locs : List Loc} {ls : Array Slot} (hP : hj_P g 13 ad (hj_wm g ad τ sd) H) (hS : hj_S 13 ad s H locs) (hl : lv_has ls 5 [(0, .ref (ad 0)), (1, .int x1), (2, .int x2)]) :
    W p l e rmX6_tryThing s m args below meth c H locs 0 0 (MQ below (hj_QI g 13 ad (hj_wm g ad τF sd) rF s.heap.size) args s 0 0 (hj_A 13 ad s.heap.size)) (F0 m 0 ls []) := by
  obtain ⟨hx, hb, hr, hml, hown, hts, hlocks⟩ := id C
  unfold fX6_tryThing at hf
  refine lv_iload_n hx hb dX6_tryThing_0 rfl (lv_at hl 1 rfl) ?_
  refine lv_if_ne (tgt := 16) hx hb dX6_tryThing_1 (by decide) (fun c1 => ?_) (fun c1 => ?_)
  · rw [if_neg c1] at hf
    exact wX6_tryThing_16 hI C hK  hf hP hS (lv_sub hl [0, 1, 2] rfl)
  · rw [if_pos c1] at hf
    refine lv_iload_n hx hb dX6_tryThing_4 rfl (lv_at hl 2 rfl) ?_
    refine lv_if_ne (tgt := 16) hx hb dX6_tryThing_5 (by decide) (fun c24 => ?_) (fun c24 => ?_)
    · rw [if_neg c24] at hf
      exact wX6_tryThing_16 hI C hK  hf hP hS (lv_sub hl [0, 1, 2] rfl)
    · rw [if_pos c24] at hf
      refine lv_aload_n hx hb dX6_tryThing_8 rfl (lv_at hl 0 rfl) ?_
      refine lv_iconst (v := 1) hx hb dX6_tryThing_9 (by decide) ?_
      obtain ⟨r25, τ26, hc, hf⟩ := hj_o2_s hf
      refine hj_callVi (nL := 5) (As := [.int 1]) (rest := []) (i0 := 0) (C := RX6) (T := TX6) (N := 24) (ci := 6) ⟨hx, hb, hml, hown, hts⟩ (ctX6_passOn l g hI hc) (cwV 1 hts gX6_tryThing_X6_passOn rfl rfl rfl (by decide +kernel) ⟨Nat.le_of_ble_eq_true rfl, Nat.le_of_ble_eq_true rfl⟩) hj_Xb0 (fun _ _ _ => trivial) hK hP hS (by decide) rfl rfl rfl hl.1 rfl (Nat.le_of_ble_eq_true rfl) dX6_tryThing_10 (fun H locs hP hS => ?_)
      refine lv_pop hx hb dX6_tryThing_13 rfl ?_
      refine lv_iconst (v := 1) hx hb dX6_tryThing_14 (by decide) ?_
      have hq := Option.some.inj hf
      obtain ⟨rfl, rfl⟩ := Prod.mk.inj hq
      exact hj_retz (Or.inr rfl)  C hP hK hS dX6_tryThing_15
set_option maxHeartbeats 4000000 in
set_option maxRecDepth 100000 in
theorem ctX6_tryThing (l : Launch) (g : hj_G) {ad : Nat → Nat} (hI : hj_I 13 ad) {τ : hj_Ob} {sd : Int64} {x1 : Int32} {x2 : Int32} {rF : Int32} {τF : hj_Ob} (hf : fX6_tryThing τ sd x1 x2 = some (rF, τF)) :
    hj_MI l yX6_tryThing wsX6_tryThing rmX6_tryThing g 13 ad hj_X0 [.ref (ad 0), .int x1, .int x2] (hj_wm g ad τ sd) rF (hj_wm g ad τF sd) := by
  refine hj_ofI (cc := cX6_tryThing) (maxL := 5) (ret := (some .boolean)) (by decide) rfl (Nat.le_of_ble_eq_true rfl) ?_
  intro p e s m args below meth c ls C hP hK hX hl
  exact wX6_tryThing hI C hK hf hP va_S.rf hl

/-! X6_judge -/
abbrev rmX6_judge : Room := { frames := 4, cells := 0, slots := 0, locals := 99 }
theorem mX6_judge_1 : Cond.constantLong RX6 156 (4) ∈ wsX6_judge := List.mem_of_getElem? (i := 1) rfl
def fX6_judge_39 (τ : hj_Ob) (sd : Int64) (x1 : Int32) (x2 : Int32) (x3 : Int32) : Option (((Int32 × hj_Ob) ⊕ hj_Ob) ⊕ (Int32 × hj_Ob)) :=
  if x1 ≤ x3 then (some (.inl (.inr τ))) else (hj_o1 (fX6_tenTo (2 * ((x1 - 1) - x3))) fun r8 => hj_nz r8 (hj_nm ((x2 / r8) - (x2 / r8) / 100 * 100) fun y10 => hj_o2 (fX6_tryThing τ sd (y10 / 10) (y10 - y10 / 10 * 10)) fun r11 τ12 => if r11 = 0 then (some (.inl (.inl (x3, τ12)))) else (hj_nm (x3 + 1) fun y14 => some (.inr (y14, τ12)))))
set_option maxHeartbeats 4000000 in
set_option maxRecDepth 100000 in
theorem wX6_judge_39b {p : Program} {l : Launch} {e : Env} {s : State} {m : MethodId} {args : Array Value} {below : List Frame} {meth : Method} {c : Code} {g : hj_G} {ad : Nat → Nat} (hI : hj_I 13 ad) (C : hj_C p s m args meth c cX6_judge RX6 wsX6_judge 5 (some .int)) (hK : hj_K g s) {τ : hj_Ob} {sd : Int64} {x1 : Int32} {x2 : Int32} {x3 : Int32} {y : ((Int32 × hj_Ob) ⊕ hj_Ob) ⊕ (Int32 × hj_Ob)} {rF : Int32} {τF : hj_Ob}
    (hf : fX6_judge_39 τ sd x1 x2 x3 = some y) (KR : ∀ r, y = .inl (.inl r) → r = (rF, τF)) (KX : ∀ (τ' : hj_Ob), y = .inl (.inr τ') → ∀ (H : Heap) (locs : List Loc) (ls : Array Slot), hj_P g 13 ad (hj_wm g ad τ' sd) H → hj_S 13 ad s H locs → lv_has ls 5 [] → W p l e rmX6_judge s m args below meth c H locs 0 0 (MQ below (hj_QI g 13 ad (hj_wm g ad τF sd) rF s.heap.size) args s 0 0 (hj_A 13 ad s.heap.size)) (F0 m 86 ls [])) (KI : ∀ (v3 : Int32) (τ' : hj_Ob), y = .inr (v3, τ') → ∀ (H : Heap) (locs : List Loc) (ls : Array Slot), hj_P g 13 ad (hj_wm g ad τ' sd) H → hj_S 13 ad s H locs → lv_has ls 5 [(0, .ref (ad 0)), (1, .int x1), (2, .int x2), (3, .int v3)] → W p l e rmX6_judge s m args below meth c H locs 0 0 (MQ below (hj_QI g 13 ad (hj_wm g ad τF sd) rF s.heap.size) args s 0 0 (hj_A 13 ad s.heap.size)) (F0 m 39 ls [])) {H : Heap} {locs : List Loc} {ls : Array Slot} (hP : hj_P g 13 ad (hj_wm g ad τ sd) H) (hS : hj_S 13 ad s H locs) (hl : lv_has ls 5 [(0, .ref (ad 0)), (1, .int x1), (2, .int x2), (3, .int x3)]) :
    W p l e rmX6_judge s m args below meth c H locs 0 0 (MQ below (hj_QI g 13 ad (hj_wm g ad τF sd) rF s.heap.size) args s 0 0 (hj_A 13 ad s.heap.size)) (F0 m 39 ls []) := by
  obtain ⟨hx, hb, hr, hml, hown, hts, hlocks⟩ := id C
  unfold fX6_judge_39 at hf
  refine lv_iload_n hx hb dX6_judge_39 rfl (lv_at hl 3 rfl) ?_
  refine lv_iload_n hx hb dX6_judge_40 rfl (lv_at hl 1 rfl) ?_
  refine lv_icmp_ge (tgt := 86) hx hb dX6_judge_41 (by decide) (fun c7 => ?_) (fun c7 => ?_)
  · rw [if_pos c7] at hf
    exact KX _ (Option.some.inj hf).symm _ _ _ hP hS (lv_sub hl [] rfl)
  · rw [if_neg c7] at hf
    refine lv_iload_n hx hb dX6_judge_44 rfl (lv_at hl 2 rfl) ?_
    refine lv_iconst (v := 2) hx hb dX6_judge_45 (by decide) ?_
    refine lv_iload_n hx hb dX6_judge_46 rfl (lv_at hl 1 rfl) ?_
    refine lv_iconst (v := 1) hx hb dX6_judge_47 (by decide) ?_
    refine lv_isub hx hb dX6_judge_48 ?_
    refine lv_iload_n hx hb dX6_judge_49 rfl (lv_at hl 3 rfl) ?_
    refine lv_isub hx hb dX6_judge_50 ?_
    refine lv_imul hx hb dX6_judge_51 ?_
    obtain ⟨r8, hc, hf⟩ := hj_o1_s hf
    refine hj_callSi (nL := 5) (As := [.int (2 * ((x1 - 1) - x3))]) (rest := [.int x2]) ⟨hx, hb, hml, hown, hts⟩ (ctX6_tenTo l g (n := 13) (ad := ad) (w := (hj_wm g ad τ sd)) hc) (va_cwS 1 hts gX6_judge_X6_tenTo rfl rfl rfl (by decide +kernel) ⟨Nat.le_of_ble_eq_true rfl, Nat.le_of_ble_eq_true rfl⟩) hj_Xb0 (fun _ _ _ => trivial) hK hP hS rfl hl.1 rfl (Nat.le_of_ble_eq_true rfl) dX6_judge_52 (fun H locs hP hS => ?_)
    obtain ⟨hz9, hf⟩ := hj_nz_s hf
    refine lv_idiv hx hb dX6_judge_55 hz9 ?_
    refine lv_bipush (v := 100) hx hb dX6_judge_56 (by decide) ?_
    refine lv_irem hx hb dX6_judge_58 (by decide) ?_
    refine lv_topi (fun y10 ey10 => ?_)
    replace hf := hj_nm_y hf ey10
    refine lv_istore (lv' := [(4, .int y10), (0, .ref (ad 0)), (1, .int x1), (2, .int x2), (3, .int x3)]) hx hb dX6_judge_59 hl (by decide) rfl (fun ls hl => ?_)
    refine lv_aload_n hx hb dX6_judge_61 rfl (lv_at hl 1 rfl) ?_
    refine lv_iload hx hb dX6_judge_62 (lv_at hl 0 rfl) ?_
    refine lv_bipush (v := 10) hx hb dX6_judge_64 (by decide) ?_
    refine lv_idiv hx hb dX6_judge_66 (by decide) ?_
    refine lv_iload hx hb dX6_judge_67 (lv_at hl 0 rfl) ?_
    refine lv_bipush (v := 10) hx hb dX6_judge_69 (by decide) ?_
    refine lv_irem hx hb dX6_judge_71 (by decide) ?_
    obtain ⟨r11, τ12, hc, hf⟩ := hj_o2_s hf
    refine hj_callVi (nL := 5) (As := [.int (y10 / 10), .int (y10 - y10 / 10 * 10)]) (rest := []) (i0 := 0) (C := RX6) (T := TX6) (N := 24) (ci := 6) ⟨hx, hb, hml, hown, hts⟩ (ctX6_tryThing l g hI hc) (cwV 2 hts gX6_judge_X6_tryThing rfl rfl rfl (by decide +kernel) ⟨Nat.le_of_ble_eq_true rfl, Nat.le_of_ble_eq_true rfl⟩) hj_Xb0 (fun _ _ _ => trivial) hK hP hS (by decide) rfl rfl rfl hl.1 rfl (Nat.le_of_ble_eq_true rfl) dX6_judge_72 (fun H locs hP hS => ?_)
    refine lv_if_ne (tgt := 80) hx hb dX6_judge_75 (by decide) (fun c13 => ?_) (fun c13 => ?_)
    · rw [if_neg c13] at hf
      obtain ⟨y14, ey14⟩ : ∃ z : Int32, z = x3 + 1 := ⟨_, rfl⟩
      replace hf := hj_nm_y hf ey14
      refine lv_iinc (v := y14) (lv' := [(3, .int y14), (4, .int y10), (0, .ref (ad 0)), (1, .int x1), (2, .int x2)]) hx hb dX6_judge_80 hl (k := 4) rfl (by rw [ey14]; rfl) (by decide) rfl (fun ls hl => ?_)
      refine lv_goto (tgt := 39) hx hb dX6_judge_83 (by decide) ?_
      exact KI _ _ (Option.some.inj hf).symm _ _ _ hP hS (lv_sub hl [2, 3, 4, 0] rfl)
    · rw [if_pos c13] at hf
      refine lv_iload_n hx hb dX6_judge_78 rfl (lv_at hl 4 rfl) ?_
      have hq := KR _ (Option.some.inj hf).symm
      obtain ⟨rfl, rfl⟩ := Prod.mk.inj hq
      exact hj_reti C hP hK hS dX6_judge_79
set_option maxHeartbeats 4000000 in
set_option maxRecDepth 100000 in
theorem wX6_judge_39 {p : Program} {l : Launch} {e : Env} {s : State} {m : MethodId} {args : Array Value} {below : List Frame} {meth : Method} {c : Code} {g : hj_G} {ad : Nat → Nat} (hI : hj_I 13 ad) (C : hj_C p s m args meth c cX6_judge RX6 wsX6_judge 5 (some .int)) (hK : hj_K g s) {sd : Int64} {x1 : Int32} {x2 : Int32} {rF : Int32} {τF : hj_Ob} {ex : ((Int32 × hj_Ob) ⊕ hj_Ob)} :
    ∀ (fu : Nat) (x3 : Int32) (τ : hj_Ob), hj_lp (fun q : (Int32 × hj_Ob) => fX6_judge_39 q.2 sd x1 x2 q.1) fu (x3, τ) = some ex → (∀ r, ex = .inl r → r = (rF, τF)) → (∀ (τ' : hj_Ob), ex = .inr τ' → ∀ (H : Heap) (locs : List Loc) (ls : Array Slot), hj_P g 13 ad (hj_wm g ad τ' sd) H → hj_S 13 ad s H locs → lv_has ls 5 [] → W p l e rmX6_judge s m args below meth c H locs 0 0 (MQ below (hj_QI g 13 ad (hj_wm g ad τF sd) rF s.heap.size) args s 0 0 (hj_A 13 ad s.heap.size)) (F0 m 86 ls [])) → ∀ (H : Heap) (locs : List Loc) (ls : Array Slot), hj_P g 13 ad (hj_wm g ad τ sd) H → hj_S 13 ad s H locs → lv_has ls 5 [(0, .ref (ad 0)), (1, .int x1), (2, .int x2), (3, .int x3)] →
    W p l e rmX6_judge s m args below meth c H locs 0 0 (MQ below (hj_QI g 13 ad (hj_wm g ad τF sd) rF s.heap.size) args s 0 0 (hj_A 13 ad s.heap.size)) (F0 m 39 ls []) := by
  intro fu
  induction fu with
  | zero => intro x3 τ hq; cases hq
  | succ fu ih =>
    intro x3 τ hq KR KX H locs ls hP hS hl
    obtain ⟨y, hy, h1, h2⟩ := hj_lp_s hq
    exact wX6_judge_39b hI C hK  hy (fun r hr => KR r (h1 _ hr).symm) (fun τ' hv => KX τ' (h1 _ hv).symm) (fun v3 τ' hv H locs ls hP hS hl => ih v3 τ' (h2 _ hv) KR KX H locs ls hP hS hl) hP hS hl
def fX6_judge (τ : hj_Ob) (sd : Int64) (x1 : Int32) (x2 : Int32) : Option (Int32 × hj_Ob) :=
  hj_o1 (fX6_in x1.toInt64 1 4) fun r1 => if r1 = 0 then (some ((-2), τ)) else (hj_o1 (fX6_tenTo (2 * x1)) fun r3 => hj_o1 (fX6_in x2.toInt64 0 ((r3 - 1).toInt64)) fun r4 => if r4 = 0 then (some ((-2), τ)) else (hj_o1 (fX6_layTrial τ sd) fun τ6 => hj_oe (fun r => r) (hj_lp (fun q : (Int32 × hj_Ob) => fX6_judge_39 q.2 sd x1 x2 q.1) 100 (0, τ6)) (fun ex16 => hj_nm ex16 fun τ15 => some ((-9), τ15))))
set_option maxHeartbeats 4000000 in
set_option maxRecDepth 100000 in
theorem wX6_judge {p : Program} {l : Launch} {e : Env} {s : State} {m : MethodId} {args : Array Value} {below : List Frame} {meth : Method} {c : Code} {g : hj_G} {ad : Nat → Nat} (hI : hj_I 13 ad) (C : hj_C p s m args meth c cX6_judge RX6 wsX6_judge 5 (some .int)) (hK : hj_K g s) {τ : hj_Ob} {sd : Int64} {x1 : Int32} {x2 : Int32} {rF : Int32} {τF : hj_Ob}
    (hf : fX6_judge τ sd x1 x2 = some (rF, τF)) {H : Heap} {locs : List Loc} {ls : Array Slot} (hP : hj_P g 13 ad (hj_wm g ad τ sd) H) (hS : hj_S 13 ad s H locs) (hl : lv_has ls 5 [(0, .ref (ad 0)), (1, .int x1), (2, .int x2)]) :
    W p l e rmX6_judge s m args below meth c H locs 0 0 (MQ below (hj_QI g 13 ad (hj_wm g ad τF sd) rF s.heap.size) args s 0 0 (hj_A 13 ad s.heap.size)) (F0 m 0 ls []) := by
  obtain ⟨hx, hb, hr, hml, hown, hts, hlocks⟩ := id C
  unfold fX6_judge at hf
  refine lv_iload_n hx hb dX6_judge_0 rfl (lv_at hl 1 rfl) ?_
  refine lv_i2l (v := x1.toInt64) hx hb dX6_judge_1 rfl ?_
  refine lv_lconst (v := 1) hx hb dX6_judge_2 (by decide) ?_
  refine lv_ldc2 hx hb hown (hts _ mX6_judge_1) dX6_judge_3 ?_
  obtain ⟨r1, hc, hf⟩ := hj_o1_s hf
  refine hj_callSi (nL := 5) (As := [.long x1.toInt64, .long 1, .long 4]) (rest := []) ⟨hx, hb, hml, hown, hts⟩ (ctX6_in l g (n := 13) (ad := ad) (w := (hj_wm g ad τ sd)) hc) (va_cwS 3 hts gX6_judge_X6_in rfl rfl rfl (by decide +kernel) ⟨Nat.le_of_ble_eq_true rfl, Nat.le_of_ble_eq_true rfl⟩) hj_Xb0 (fun _ _ _ => trivial) hK hP hS rfl hl.1 rfl (Nat.le_of_ble_eq_true rfl) dX6_judge_6 (fun H locs hP hS => ?_)
  refine lv_if_eq (tgt := 30) hx hb dX6_judge_9 (by decide) (fun c2 => ?_) (fun c2 => ?_)
  · rw [if_pos c2] at hf
    refine lv_bipush (v := (-2)) hx hb dX6_judge_30 (by decide) ?_
    have hq := Option.some.inj hf
    obtain ⟨rfl, rfl⟩ := Prod.mk.inj hq
    exact hj_reti C hP hK hS dX6_judge_32
  · rw [if_neg c2] at hf
    refine lv_iload_n hx hb dX6_judge_12 rfl (lv_at hl 2 rfl) ?_
    refine lv_i2l (v := x2.toInt64) hx hb dX6_judge_13 rfl ?_
    refine lv_lconst (v := 0) hx hb dX6_judge_14 (by decide) ?_
    refine lv_iconst (v := 2) hx hb dX6_judge_15 (by decide) ?_
    refine lv_iload_n hx hb dX6_judge_16 rfl (lv_at hl 1 rfl) ?_
    refine lv_imul hx hb dX6_judge_17 ?_
    obtain ⟨r3, hc, hf⟩ := hj_o1_s hf
    refine hj_callSi (nL := 5) (As := [.int (2 * x1)]) (rest := [.long 0, .long x2.toInt64]) ⟨hx, hb, hml, hown, hts⟩ (ctX6_tenTo l g (n := 13) (ad := ad) (w := (hj_wm g ad τ sd)) hc) (va_cwS 1 hts gX6_judge_X6_tenTo rfl rfl rfl (by decide +kernel) ⟨Nat.le_of_ble_eq_true rfl, Nat.le_of_ble_eq_true rfl⟩) hj_Xb0 (fun _ _ _ => trivial) hK hP hS rfl hl.1 rfl (Nat.le_of_ble_eq_true rfl) dX6_judge_18 (fun H locs hP hS => ?_)
    refine lv_iconst (v := 1) hx hb dX6_judge_21 (by decide) ?_
    refine lv_isub hx hb dX6_judge_22 ?_
    refine lv_i2l (v := (r3 - 1).toInt64) hx hb dX6_judge_23 rfl ?_
    obtain ⟨r4, hc, hf⟩ := hj_o1_s hf
    refine hj_callSi (nL := 5) (As := [.long x2.toInt64, .long 0, .long ((r3 - 1).toInt64)]) (rest := []) ⟨hx, hb, hml, hown, hts⟩ (ctX6_in l g (n := 13) (ad := ad) (w := (hj_wm g ad τ sd)) hc) (va_cwS 3 hts gX6_judge_X6_in rfl rfl rfl (by decide +kernel) ⟨Nat.le_of_ble_eq_true rfl, Nat.le_of_ble_eq_true rfl⟩) hj_Xb0 (fun _ _ _ => trivial) hK hP hS rfl hl.1 rfl (Nat.le_of_ble_eq_true rfl) dX6_judge_24 (fun H locs hP hS => ?_)
    refine lv_if_ne (tgt := 33) hx hb dX6_judge_27 (by decide) (fun c5 => ?_) (fun c5 => ?_)
    · rw [if_neg c5] at hf
      refine lv_aload_n hx hb dX6_judge_33 rfl (lv_at hl 0 rfl) ?_
      obtain ⟨τ6, hc, hf⟩ := hj_o1_s hf
      refine hj_callVv (nL := 5) (As := []) (rest := []) (i0 := 0) (C := RX6) (T := TX6) (N := 24) (ci := 6) ⟨hx, hb, hml, hown, hts⟩ (ctX6_layTrial l g hI hc) (cwV 0 hts gX6_judge_X6_layTrial rfl rfl rfl (by decide +kernel) ⟨Nat.le_of_ble_eq_true rfl, Nat.le_of_ble_eq_true rfl⟩) hj_Xb0 (fun _ _ _ => trivial) hK hP hS (by decide) rfl rfl rfl hl.1 rfl (Nat.le_of_ble_eq_true rfl) dX6_judge_34 (fun H locs hP hS => ?_)
      refine lv_iconst (v := 0) hx hb dX6_judge_37 (by decide) ?_
      refine lv_istore_n (lv' := [(3, .int 0), (0, .ref (ad 0)), (1, .int x1), (2, .int x2)]) hx hb dX6_judge_38 rfl hl (by decide) rfl (fun ls hl => ?_)
      obtain ⟨exx, hlx, hlr, hfx⟩ := hj_oe_s hf
      refine wX6_judge_39 hI C hK  100 0 τ6 hlx hlr (fun τ15 hxe H locs ls hP hS hl => ?_) H locs ls hP hS (lv_sub hl [1, 2, 3, 0] rfl)
      replace hf := hfx _ hxe
      replace hf := hj_nm_y (y := τ15) hf rfl
      refine lv_bipush (v := (-9)) hx hb dX6_judge_86 (by decide) ?_
      have hq := Option.some.inj hf
      obtain ⟨rfl, rfl⟩ := Prod.mk.inj hq
      exact hj_reti C hP hK hS dX6_judge_88
    · rw [if_pos c5] at hf
      refine lv_bipush (v := (-2)) hx hb dX6_judge_30 (by decide) ?_
      have hq := Option.some.inj hf
      obtain ⟨rfl, rfl⟩ := Prod.mk.inj hq
      exact hj_reti C hP hK hS dX6_judge_32
set_option maxHeartbeats 4000000 in
set_option maxRecDepth 100000 in
theorem ctX6_judge (l : Launch) (g : hj_G) {ad : Nat → Nat} (hI : hj_I 13 ad) {τ : hj_Ob} {sd : Int64} {x1 : Int32} {x2 : Int32} {rF : Int32} {τF : hj_Ob} (hf : fX6_judge τ sd x1 x2 = some (rF, τF)) :
    hj_MI l yX6_judge wsX6_judge rmX6_judge g 13 ad hj_X0 [.ref (ad 0), .int x1, .int x2] (hj_wm g ad τ sd) rF (hj_wm g ad τF sd) := by
  refine hj_ofI (cc := cX6_judge) (maxL := 5) (ret := (some .int)) (by decide) rfl (Nat.le_of_ble_eq_true rfl) ?_
  intro p e s m args below meth c ls C hP hK hX hl
  exact wX6_judge hI C hK hf hP va_S.rf hl

/-! X6_see -/
abbrev rmX6_see : Room := { frames := 2, cells := 0, slots := 0, locals := 46 }
theorem mX6_see_1 : Cond.constantLong RX6 66 (9) ∈ wsX6_see := List.mem_of_getElem? (i := 1) rfl
theorem iX6_see_X6 : ∀ w ∈ wsX60, w ∈ wsX6_see := fun _ h => List.mem_cons_of_mem _ (List.mem_append_right _ h)
theorem mX6_see_2 : Cond.fieldLink RX6 161 "HungryJuryModel" "seen" "I" ∈ wsX6_see := List.mem_of_getElem? (i := 2) rfl
theorem mX6_see_3 : Cond.fieldLink RX6 31 "HungryJuryModel" "seenOf" "[I" ∈ wsX6_see := List.mem_of_getElem? (i := 3) rfl
theorem mX6_see_4 : Cond.fieldLink RX6 34 "HungryJuryModel" "seenBehind" "[I" ∈ wsX6_see := List.mem_of_getElem? (i := 4) rfl
theorem mX6_see_5 : Cond.fieldLink RX6 37 "HungryJuryModel" "seenFor" "[I" ∈ wsX6_see := List.mem_of_getElem? (i := 5) rfl
def fX6_see (τ : hj_Ob) (sd : Int64) (x1 : Int32) (x2 : Int32) (x3 : Int32) : Option (Int32 × hj_Ob) :=
  hj_o1 (fX6_isJuror τ sd x1) fun r1 => if r1 = 0 then (some ((-1), τ)) else (hj_o1 (fX6_in x2.toInt64 0 9) fun r3 => if r3 = 0 then (some ((-2), τ)) else (hj_o1 (fX6_in x3.toInt64 0 1) fun r5 => if r5 = 0 then (some ((-2), τ)) else (if (τ.1 17) = 6 then (some ((-4), τ)) else (hj_ck (τ.1 17) 6 (hj_nm (hj_a τ 18 (τ.1 17) x1) fun τ9 => hj_ck (τ9.1 17) 6 (hj_nm (hj_a τ9 19 (τ9.1 17) x2) fun τ11 => hj_ck (τ11.1 17) 6 (hj_nm (hj_a τ11 20 (τ11.1 17) x3) fun τ13 => hj_nm (hj_s τ13 17 ((τ13.1 17) + 1)) fun τ14 => some (τ14.1 17, τ14))))))))
set_option maxHeartbeats 4000000 in
set_option maxRecDepth 100000 in
theorem wX6_see {p : Program} {l : Launch} {e : Env} {s : State} {m : MethodId} {args : Array Value} {below : List Frame} {meth : Method} {c : Code} {g : hj_G} {ad : Nat → Nat} (hI : hj_I 13 ad) (C : hj_C p s m args meth c cX6_see RX6 wsX6_see 4 (some .int)) (hK : hj_K g s) {τ : hj_Ob} {sd : Int64} {x1 : Int32} {x2 : Int32} {x3 : Int32} {rF : Int32} {τF : hj_Ob}
    (hf : fX6_see τ sd x1 x2 x3 = some (rF, τF)) {H : Heap} {locs : List Loc} {ls : Array Slot} (hP : hj_P g 13 ad (hj_wm g ad τ sd) H) (hS : hj_S 13 ad s H locs) (hl : lv_has ls 4 [(0, .ref (ad 0)), (1, .int x1), (2, .int x2), (3, .int x3)]) :
    W p l e rmX6_see s m args below meth c H locs 0 0 (MQ below (hj_QI g 13 ad (hj_wm g ad τF sd) rF s.heap.size) args s 0 0 (hj_A 13 ad s.heap.size)) (F0 m 0 ls []) := by
  obtain ⟨hx, hb, hr, hml, hown, hts, hlocks⟩ := id C
  unfold fX6_see at hf
  refine lv_aload_n hx hb dX6_see_0 rfl (lv_at hl 0 rfl) ?_
  refine lv_iload_n hx hb dX6_see_1 rfl (lv_at hl 1 rfl) ?_
  obtain ⟨r1, hc, hf⟩ := hj_o1_s hf
  refine hj_callVi (nL := 4) (As := [.int x1]) (rest := []) (i0 := 0) (C := RX6) (T := TX6) (N := 24) (ci := 6) ⟨hx, hb, hml, hown, hts⟩ (ctX6_isJuror l g hI hc) (cwV 1 hts gX6_see_X6_isJuror rfl rfl rfl (by decide +kernel) ⟨Nat.le_of_ble_eq_true rfl, Nat.le_of_ble_eq_true rfl⟩) hj_Xb0 (fun _ _ _ => trivial) hK hP hS (by decide) rfl rfl rfl hl.1 rfl (Nat.le_of_ble_eq_true rfl) dX6_see_2 (fun H locs hP hS => ?_)
  refine lv_if_ne (tgt := 10) hx hb dX6_see_5 (by decide) (fun c2 => ?_) (fun c2 => ?_)
  · rw [if_neg c2] at hf
    refine lv_iload_n hx hb dX6_see_10 rfl (lv_at hl 2 rfl) ?_
    refine lv_i2l (v := x2.toInt64) hx hb dX6_see_11 rfl ?_
    refine lv_lconst (v := 0) hx hb dX6_see_12 (by decide) ?_
    refine lv_ldc2 hx hb hown (hts _ mX6_see_1) dX6_see_13 ?_
    obtain ⟨r3, hc, hf⟩ := hj_o1_s hf
    refine hj_callSi (nL := 4) (As := [.long x2.toInt64, .long 0, .long 9]) (rest := []) ⟨hx, hb, hml, hown, hts⟩ (ctX6_in l g (n := 13) (ad := ad) (w := (hj_wm g ad τ sd)) hc) (va_cwS 3 hts gX6_see_X6_in rfl rfl rfl (by decide +kernel) ⟨Nat.le_of_ble_eq_true rfl, Nat.le_of_ble_eq_true rfl⟩) hj_Xb0 (fun _ _ _ => trivial) hK hP hS rfl hl.1 rfl (Nat.le_of_ble_eq_true rfl) dX6_see_16 (fun H locs hP hS => ?_)
    refine lv_if_eq (tgt := 32) hx hb dX6_see_19 (by decide) (fun c4 => ?_) (fun c4 => ?_)
    · rw [if_pos c4] at hf
      refine lv_bipush (v := (-2)) hx hb dX6_see_32 (by decide) ?_
      have hq := Option.some.inj hf
      obtain ⟨rfl, rfl⟩ := Prod.mk.inj hq
      exact hj_reti C hP hK hS dX6_see_34
    · rw [if_neg c4] at hf
      refine lv_iload_n hx hb dX6_see_22 rfl (lv_at hl 3 rfl) ?_
      refine lv_i2l (v := x3.toInt64) hx hb dX6_see_23 rfl ?_
      refine lv_lconst (v := 0) hx hb dX6_see_24 (by decide) ?_
      refine lv_lconst (v := 1) hx hb dX6_see_25 (by decide) ?_
      obtain ⟨r5, hc, hf⟩ := hj_o1_s hf
      refine hj_callSi (nL := 4) (As := [.long x3.toInt64, .long 0, .long 1]) (rest := []) ⟨hx, hb, hml, hown, hts⟩ (ctX6_in l g (n := 13) (ad := ad) (w := (hj_wm g ad τ sd)) hc) (va_cwS 3 hts gX6_see_X6_in rfl rfl rfl (by decide +kernel) ⟨Nat.le_of_ble_eq_true rfl, Nat.le_of_ble_eq_true rfl⟩) hj_Xb0 (fun _ _ _ => trivial) hK hP hS rfl hl.1 rfl (Nat.le_of_ble_eq_true rfl) dX6_see_26 (fun H locs hP hS => ?_)
      refine lv_if_ne (tgt := 35) hx hb dX6_see_29 (by decide) (fun c6 => ?_) (fun c6 => ?_)
      · rw [if_neg c6] at hf
        refine lv_aload_n hx hb dX6_see_35 rfl (lv_at hl 0 rfl) ?_
        refine hj_get (ci := 6) (v := .int (τ.1 17)) (C := RX6) (T := TX6) (N := 24) hx hb hts iX6_see_X6 hown hK hP (by decide) rfl rfl 17 (by decide) mX6_see_2 rfl dX6_see_36 ?_
        refine lv_bipush (v := 6) hx hb dX6_see_39 (by decide) ?_
        refine lv_icmp_ne (tgt := 47) hx hb dX6_see_41 (by decide) (fun c7 => ?_) (fun c7 => ?_)
        · rw [if_neg c7] at hf
          refine lv_aload_n hx hb dX6_see_47 rfl (lv_at hl 0 rfl) ?_
          refine hj_get (ci := 6) (v := .ref (ad 8)) (C := RX6) (T := TX6) (N := 24) hx hb hts iX6_see_X6 hown hK hP (by decide) rfl rfl 18 (by decide) mX6_see_3 rfl dX6_see_48 ?_
          refine lv_aload_n hx hb dX6_see_51 rfl (lv_at hl 0 rfl) ?_
          refine hj_get (ci := 6) (v := .int (τ.1 17)) (C := RX6) (T := TX6) (N := 24) hx hb hts iX6_see_X6 hown hK hP (by decide) rfl rfl 17 (by decide) mX6_see_2 rfl dX6_see_52 ?_
          refine lv_iload_n hx hb dX6_see_55 rfl (lv_at hl 1 rfl) ?_
          obtain ⟨hk8, hf⟩ := hj_ck_s hf
          refine hj_ias (f := τ.2 18) (v := x1) hx hb hK hI hP hS (by decide) rfl hk8 dX6_see_56 (wm_a2 (τ := τ) (x := (τ.1 17)) (v := x1) 8 18 rfl (by decide) (by decide) (by decide)) (fun H locs hP hS => ?_)
          obtain ⟨τ9, eτ9⟩ : ∃ z : hj_Ob, z = hj_a τ 18 (τ.1 17) x1 := ⟨_, rfl⟩
          replace hf := hj_nm_y hf eτ9
          rw [← eτ9] at hP
          refine lv_aload_n hx hb dX6_see_57 rfl (lv_at hl 0 rfl) ?_
          refine hj_get (ci := 6) (v := .ref (ad 9)) (C := RX6) (T := TX6) (N := 24) hx hb hts iX6_see_X6 hown hK hP (by decide) rfl rfl 19 (by decide) mX6_see_4 rfl dX6_see_58 ?_
          refine lv_aload_n hx hb dX6_see_61 rfl (lv_at hl 0 rfl) ?_
          refine hj_get (ci := 6) (v := .int (τ9.1 17)) (C := RX6) (T := TX6) (N := 24) hx hb hts iX6_see_X6 hown hK hP (by decide) rfl rfl 17 (by decide) mX6_see_2 rfl dX6_see_62 ?_
          refine lv_iload_n hx hb dX6_see_65 rfl (lv_at hl 2 rfl) ?_
          obtain ⟨hk10, hf⟩ := hj_ck_s hf
          refine hj_ias (f := τ9.2 19) (v := x2) hx hb hK hI hP hS (by decide) rfl hk10 dX6_see_66 (wm_a2 (τ := τ9) (x := (τ9.1 17)) (v := x2) 9 19 rfl (by decide) (by decide) (by decide)) (fun H locs hP hS => ?_)
          obtain ⟨τ11, eτ11⟩ : ∃ z : hj_Ob, z = hj_a τ9 19 (τ9.1 17) x2 := ⟨_, rfl⟩
          replace hf := hj_nm_y hf eτ11
          rw [← eτ11] at hP
          refine lv_aload_n hx hb dX6_see_67 rfl (lv_at hl 0 rfl) ?_
          refine hj_get (ci := 6) (v := .ref (ad 10)) (C := RX6) (T := TX6) (N := 24) hx hb hts iX6_see_X6 hown hK hP (by decide) rfl rfl 20 (by decide) mX6_see_5 rfl dX6_see_68 ?_
          refine lv_aload_n hx hb dX6_see_71 rfl (lv_at hl 0 rfl) ?_
          refine hj_get (ci := 6) (v := .int (τ11.1 17)) (C := RX6) (T := TX6) (N := 24) hx hb hts iX6_see_X6 hown hK hP (by decide) rfl rfl 17 (by decide) mX6_see_2 rfl dX6_see_72 ?_
          refine lv_iload_n hx hb dX6_see_75 rfl (lv_at hl 3 rfl) ?_
          obtain ⟨hk12, hf⟩ := hj_ck_s hf
          refine hj_ias (f := τ11.2 20) (v := x3) hx hb hK hI hP hS (by decide) rfl hk12 dX6_see_76 (wm_a2 (τ := τ11) (x := (τ11.1 17)) (v := x3) 10 20 rfl (by decide) (by decide) (by decide)) (fun H locs hP hS => ?_)
          obtain ⟨τ13, eτ13⟩ : ∃ z : hj_Ob, z = hj_a τ11 20 (τ11.1 17) x3 := ⟨_, rfl⟩
          replace hf := hj_nm_y hf eτ13
          rw [← eτ13] at hP
          refine lv_aload_n hx hb dX6_see_77 rfl (lv_at hl 0 rfl) ?_
          refine lv_dup hx hb dX6_see_78 rfl ?_
          refine hj_get (ci := 6) (v := .int (τ13.1 17)) (C := RX6) (T := TX6) (N := 24) hx hb hts iX6_see_X6 hown hK hP (by decide) rfl rfl 17 (by decide) mX6_see_2 rfl dX6_see_79 ?_
          refine lv_iconst (v := 1) hx hb dX6_see_82 (by decide) ?_
          refine lv_iadd hx hb dX6_see_83 ?_
          refine hj_put (ci := 6) (v := .int ((τ13.1 17) + 1)) (C := RX6) (T := TX6) (N := 24) hx hb hts iX6_see_X6 tyX6 tyX6_ok nmX6 hown hK hI hP hS (by decide) rfl rfl 17 (by decide) mX6_see_2 rfl rfl rfl (Nat.le_of_ble_eq_true rfl) dX6_see_84 (wm_s (τ := τ13) (k := 17) (v := (τ13.1 17) + 1) rfl) (fun H locs hP hS => ?_)
          obtain ⟨τ14, eτ14⟩ : ∃ z : hj_Ob, z = hj_s τ13 17 ((τ13.1 17) + 1) := ⟨_, rfl⟩
          replace hf := hj_nm_y hf eτ14
          rw [← eτ14] at hP
          refine lv_aload_n hx hb dX6_see_87 rfl (lv_at hl 0 rfl) ?_
          refine hj_get (ci := 6) (v := .int (τ14.1 17)) (C := RX6) (T := TX6) (N := 24) hx hb hts iX6_see_X6 hown hK hP (by decide) rfl rfl 17 (by decide) mX6_see_2 rfl dX6_see_88 ?_
          have hq := Option.some.inj hf
          obtain ⟨rfl, rfl⟩ := Prod.mk.inj hq
          exact hj_reti C hP hK hS dX6_see_91
        · rw [if_pos c7] at hf
          refine lv_bipush (v := (-4)) hx hb dX6_see_44 (by decide) ?_
          have hq := Option.some.inj hf
          obtain ⟨rfl, rfl⟩ := Prod.mk.inj hq
          exact hj_reti C hP hK hS dX6_see_46
      · rw [if_pos c6] at hf
        refine lv_bipush (v := (-2)) hx hb dX6_see_32 (by decide) ?_
        have hq := Option.some.inj hf
        obtain ⟨rfl, rfl⟩ := Prod.mk.inj hq
        exact hj_reti C hP hK hS dX6_see_34
  · rw [if_pos c2] at hf
    refine lv_iconst (v := (-1)) hx hb dX6_see_8 (by decide) ?_
    have hq := Option.some.inj hf
    obtain ⟨rfl, rfl⟩ := Prod.mk.inj hq
    exact hj_reti C hP hK hS dX6_see_9
set_option maxHeartbeats 4000000 in
set_option maxRecDepth 100000 in
theorem ctX6_see (l : Launch) (g : hj_G) {ad : Nat → Nat} (hI : hj_I 13 ad) {τ : hj_Ob} {sd : Int64} {x1 : Int32} {x2 : Int32} {x3 : Int32} {rF : Int32} {τF : hj_Ob} (hf : fX6_see τ sd x1 x2 x3 = some (rF, τF)) :
    hj_MI l yX6_see wsX6_see rmX6_see g 13 ad hj_X0 [.ref (ad 0), .int x1, .int x2, .int x3] (hj_wm g ad τ sd) rF (hj_wm g ad τF sd) := by
  refine hj_ofI (cc := cX6_see) (maxL := 4) (ret := (some .int)) (by decide) rfl (Nat.le_of_ble_eq_true rfl) ?_
  intro p e s m args below meth c ls C hP hK hX hl
  exact wX6_see hI C hK hf hP va_S.rf hl

/-! X6_unsee -/
abbrev rmX6_unsee : Room := { frames := 0, cells := 0, slots := 0, locals := 0 }
theorem iX6_unsee_X6 : ∀ w ∈ wsX60, w ∈ wsX6_unsee := fun _ h => List.mem_cons_of_mem _ (List.mem_append_right _ h)
theorem mX6_unsee_1 : Cond.fieldLink RX6 161 "HungryJuryModel" "seen" "I" ∈ wsX6_unsee := List.mem_of_getElem? (i := 1) rfl
def fX6_unsee (τ : hj_Ob) (sd : Int64) : Option (Int32 × hj_Ob) :=
  hj_nm (τ.1 17) fun y1 => hj_nm (hj_s τ 17 0) fun τ2 => some (y1, τ2)
set_option maxHeartbeats 4000000 in
set_option maxRecDepth 100000 in
theorem wX6_unsee {p : Program} {l : Launch} {e : Env} {s : State} {m : MethodId} {args : Array Value} {below : List Frame} {meth : Method} {c : Code} {g : hj_G} {ad : Nat → Nat} (hI : hj_I 13 ad) (C : hj_C p s m args meth c cX6_unsee RX6 wsX6_unsee 2 (some .int)) (hK : hj_K g s) {τ : hj_Ob} {sd : Int64} {rF : Int32} {τF : hj_Ob}
    (hf : fX6_unsee τ sd = some (rF, τF)) {H : Heap} {locs : List Loc} {ls : Array Slot} (hP : hj_P g 13 ad (hj_wm g ad τ sd) H) (hS : hj_S 13 ad s H locs) (hl : lv_has ls 2 [(0, .ref (ad 0))]) :
    W p l e rmX6_unsee s m args below meth c H locs 0 0 (MQ below (hj_QI g 13 ad (hj_wm g ad τF sd) rF s.heap.size) args s 0 0 (hj_A 13 ad s.heap.size)) (F0 m 0 ls []) := by
  obtain ⟨hx, hb, hr, hml, hown, hts, hlocks⟩ := id C
  unfold fX6_unsee at hf
  refine lv_aload_n hx hb dX6_unsee_0 rfl (lv_at hl 0 rfl) ?_
  refine hj_get (ci := 6) (v := .int (τ.1 17)) (C := RX6) (T := TX6) (N := 24) hx hb hts iX6_unsee_X6 hown hK hP (by decide) rfl rfl 17 (by decide) mX6_unsee_1 rfl dX6_unsee_1 ?_
  refine lv_topi (fun y1 ey1 => ?_)
  replace hf := hj_nm_y hf ey1
  refine lv_istore_n (lv' := [(1, .int y1), (0, .ref (ad 0))]) hx hb dX6_unsee_4 rfl hl (by decide) rfl (fun ls hl => ?_)
  refine lv_aload_n hx hb dX6_unsee_5 rfl (lv_at hl 1 rfl) ?_
  refine lv_iconst (v := 0) hx hb dX6_unsee_6 (by decide) ?_
  refine hj_put (ci := 6) (v := .int 0) (C := RX6) (T := TX6) (N := 24) hx hb hts iX6_unsee_X6 tyX6 tyX6_ok nmX6 hown hK hI hP hS (by decide) rfl rfl 17 (by decide) mX6_unsee_1 rfl rfl rfl (Nat.le_of_ble_eq_true rfl) dX6_unsee_7 (wm_s (τ := τ) (k := 17) (v := 0) rfl) (fun H locs hP hS => ?_)
  obtain ⟨τ2, eτ2⟩ : ∃ z : hj_Ob, z = hj_s τ 17 0 := ⟨_, rfl⟩
  replace hf := hj_nm_y hf eτ2
  rw [← eτ2] at hP
  refine lv_iload_n hx hb dX6_unsee_10 rfl (lv_at hl 0 rfl) ?_
  have hq := Option.some.inj hf
  obtain ⟨rfl, rfl⟩ := Prod.mk.inj hq
  exact hj_reti C hP hK hS dX6_unsee_11
set_option maxHeartbeats 4000000 in
set_option maxRecDepth 100000 in
theorem ctX6_unsee (l : Launch) (g : hj_G) {ad : Nat → Nat} (hI : hj_I 13 ad) {τ : hj_Ob} {sd : Int64} {rF : Int32} {τF : hj_Ob} (hf : fX6_unsee τ sd = some (rF, τF)) :
    hj_MI l yX6_unsee wsX6_unsee rmX6_unsee g 13 ad hj_X0 [.ref (ad 0)] (hj_wm g ad τ sd) rF (hj_wm g ad τF sd) := by
  refine hj_ofI (cc := cX6_unsee) (maxL := 2) (ret := (some .int)) (by decide) rfl (Nat.le_of_ble_eq_true rfl) ?_
  intro p e s m args below meth c ls C hP hK hX hl
  exact wX6_unsee hI C hK hf hP va_S.rf hl

/-! X6_isSeen -/
abbrev rmX6_isSeen : Room := { frames := 2, cells := 0, slots := 0, locals := 46 }
theorem iX6_isSeen_X6 : ∀ w ∈ wsX60, w ∈ wsX6_isSeen := fun _ h => List.mem_cons_of_mem _ (List.mem_append_right _ h)
theorem mX6_isSeen_1 : Cond.fieldLink RX6 161 "HungryJuryModel" "seen" "I" ∈ wsX6_isSeen := List.mem_of_getElem? (i := 1) rfl
theorem mX6_isSeen_2 : Cond.fieldLink RX6 34 "HungryJuryModel" "seenBehind" "[I" ∈ wsX6_isSeen := List.mem_of_getElem? (i := 2) rfl
theorem mX6_isSeen_4 : Cond.fieldLink RX6 16 "HungryJuryModel" "now" "[I" ∈ wsX6_isSeen := List.mem_of_getElem? (i := 4) rfl
theorem mX6_isSeen_3 : Cond.fieldLink RX6 31 "HungryJuryModel" "seenOf" "[I" ∈ wsX6_isSeen := List.mem_of_getElem? (i := 3) rfl
theorem mX6_isSeen_5 : Cond.fieldLink RX6 37 "HungryJuryModel" "seenFor" "[I" ∈ wsX6_isSeen := List.mem_of_getElem? (i := 5) rfl
def fX6_isSeen_54 (τ : hj_Ob) (sd : Int64) (x1 : Int32) (x2 : Int32) (x3 : Int32) (z0 : Int32) : Option (Int32 ⊕ (Int32 × Int32)) :=
  if x2 = 0 then (hj_nm (x3 + 1) fun y5 => some (.inr (0, y5))) else (if z0 = 0 then (hj_nm (x3 + 1) fun y7 => some (.inr (1, y7))) else (hj_ck (15 : Int32) 30 (hj_ck x3 6 (hj_ck x3 6 (if (((τ.2 4 (15 : Int32).toNatClampNeg) >>> ((τ.2 18 x3.toNatClampNeg) &&& 31)) &&& 1) = (τ.2 20 x3.toNatClampNeg) then (hj_nm (x3 + 1) fun y13 => some (.inr (1, y13))) else (hj_nm (x3 + 1) fun y12 => some (.inr (0, y12))))))))
set_option maxHeartbeats 4000000 in
set_option maxRecDepth 100000 in
theorem wX6_isSeen_54 {p : Program} {l : Launch} {e : Env} {s : State} {m : MethodId} {args : Array Value} {below : List Frame} {meth : Method} {c : Code} {g : hj_G} {ad : Nat → Nat} (hI : hj_I 13 ad) (C : hj_C p s m args meth c cX6_isSeen RX6 wsX6_isSeen 5 (some .boolean)) (hK : hj_K g s) {τ : hj_Ob} {sd : Int64} {x1 : Int32} {x2 : Int32} {x3 : Int32} {z0 : Int32} {y : Int32 ⊕ (Int32 × Int32)} {rF : Int32}
    (hf : fX6_isSeen_54 τ sd x1 x2 x3 z0 = some y) (KX : ∀ (v2 : Int32), y = .inl v2 → ∀ (H : Heap) (locs : List Loc) (ls : Array Slot), hj_P g 13 ad (hj_wm g ad τ sd) H → hj_S 13 ad s H locs → lv_has ls 5 [(2, .int v2)] → W p l e rmX6_isSeen s m args below meth c H locs 0 0 (MQ below (hj_QI g 13 ad (hj_wm g ad τ sd) rF s.heap.size) args s 0 0 (hj_A 13 ad s.heap.size)) (F0 m 102 ls [])) (KI : ∀ (v2 : Int32) (v3 : Int32), y = .inr (v2, v3) → ∀ (H : Heap) (locs : List Loc) (ls : Array Slot), hj_P g 13 ad (hj_wm g ad τ sd) H → hj_S 13 ad s H locs → lv_has ls 5 [(0, .ref (ad 0)), (1, .int x1), (2, .int v2), (3, .int v3)] → W p l e rmX6_isSeen s m args below meth c H locs 0 0 (MQ below (hj_QI g 13 ad (hj_wm g ad τ sd) rF s.heap.size) args s 0 0 (hj_A 13 ad s.heap.size)) (F0 m 4 ls [])) {H : Heap} {locs : List Loc} {ls : Array Slot} (hP : hj_P g 13 ad (hj_wm g ad τ sd) H) (hS : hj_S 13 ad s H locs) (hl : lv_has ls 5 [(0, .ref (ad 0)), (1, .int x1), (2, .int x2), (3, .int x3)]) :
    W p l e rmX6_isSeen s m args below meth c H locs 0 0 (MQ below (hj_QI g 13 ad (hj_wm g ad τ sd) rF s.heap.size) args s 0 0 (hj_A 13 ad s.heap.size)) (F0 m 54 ls [.int z0]) := by
  obtain ⟨hx, hb, hr, hml, hown, hts, hlocks⟩ := id C
  unfold fX6_isSeen_54 at hf
  refine lv_istore (lv' := [(4, .int z0), (0, .ref (ad 0)), (1, .int x1), (2, .int x2), (3, .int x3)]) hx hb dX6_isSeen_54 hl (by decide) rfl (fun ls hl => ?_)
  refine lv_iload_n hx hb dX6_isSeen_56 rfl (lv_at hl 3 rfl) ?_
  refine lv_if_eq (tgt := 94) hx hb dX6_isSeen_57 (by decide) (fun c4 => ?_) (fun c4 => ?_)
  · rw [if_pos c4] at hf
    refine lv_iconst (v := 0) hx hb dX6_isSeen_94 (by decide) ?_
    refine lv_istore_n (lv' := [(2, .int 0), (4, .int z0), (0, .ref (ad 0)), (1, .int x1), (3, .int x3)]) hx hb dX6_isSeen_95 rfl hl (by decide) rfl (fun ls hl => ?_)
    obtain ⟨y5, ey5⟩ : ∃ z : Int32, z = x3 + 1 := ⟨_, rfl⟩
    replace hf := hj_nm_y hf ey5
    refine lv_iinc (v := y5) (lv' := [(3, .int y5), (2, .int 0), (4, .int z0), (0, .ref (ad 0)), (1, .int x1)]) hx hb dX6_isSeen_96 hl (k := 4) rfl (by rw [ey5]; rfl) (by decide) rfl (fun ls hl => ?_)
    refine lv_goto (tgt := 4) hx hb dX6_isSeen_99 (by decide) ?_
    exact KI _ _ (Option.some.inj hf).symm _ _ _ hP hS (lv_sub hl [3, 4, 1, 0] rfl)
  · rw [if_neg c4] at hf
    refine lv_iload hx hb dX6_isSeen_60 (lv_at hl 0 rfl) ?_
    refine lv_if_eq (tgt := 90) hx hb dX6_isSeen_62 (by decide) (fun c6 => ?_) (fun c6 => ?_)
    · rw [if_pos c6] at hf
      refine lv_iconst (v := 1) hx hb dX6_isSeen_90 (by decide) ?_
      refine lv_goto (tgt := 95) hx hb dX6_isSeen_91 (by decide) ?_
      refine lv_istore_n (lv' := [(2, .int 1), (4, .int z0), (0, .ref (ad 0)), (1, .int x1), (3, .int x3)]) hx hb dX6_isSeen_95 rfl hl (by decide) rfl (fun ls hl => ?_)
      obtain ⟨y7, ey7⟩ : ∃ z : Int32, z = x3 + 1 := ⟨_, rfl⟩
      replace hf := hj_nm_y hf ey7
      refine lv_iinc (v := y7) (lv' := [(3, .int y7), (2, .int 1), (4, .int z0), (0, .ref (ad 0)), (1, .int x1)]) hx hb dX6_isSeen_96 hl (k := 4) rfl (by rw [ey7]; rfl) (by decide) rfl (fun ls hl => ?_)
      refine lv_goto (tgt := 4) hx hb dX6_isSeen_99 (by decide) ?_
      exact KI _ _ (Option.some.inj hf).symm _ _ _ hP hS (lv_sub hl [3, 4, 1, 0] rfl)
    · rw [if_neg c6] at hf
      refine lv_aload_n hx hb dX6_isSeen_65 rfl (lv_at hl 1 rfl) ?_
      refine hj_get (ci := 6) (v := .ref (ad 3)) (C := RX6) (T := TX6) (N := 24) hx hb hts iX6_isSeen_X6 hown hK hP (by decide) rfl rfl 4 (by decide) mX6_isSeen_4 rfl dX6_isSeen_66 ?_
      refine lv_bipush (v := 15) hx hb dX6_isSeen_69 (by decide) ?_
      obtain ⟨hk8, hf⟩ := hj_ck_s hf
      refine hj_ial (f := τ.2 4) hx hb hK hP (by decide) rfl hk8 dX6_isSeen_71 ?_
      refine lv_aload_n hx hb dX6_isSeen_72 rfl (lv_at hl 1 rfl) ?_
      refine hj_get (ci := 6) (v := .ref (ad 8)) (C := RX6) (T := TX6) (N := 24) hx hb hts iX6_isSeen_X6 hown hK hP (by decide) rfl rfl 18 (by decide) mX6_isSeen_3 rfl dX6_isSeen_73 ?_
      refine lv_iload_n hx hb dX6_isSeen_76 rfl (lv_at hl 4 rfl) ?_
      obtain ⟨hk9, hf⟩ := hj_ck_s hf
      refine hj_ial (f := τ.2 18) hx hb hK hP (by decide) rfl hk9 dX6_isSeen_77 ?_
      refine lv_ishr hx hb dX6_isSeen_78 ?_
      refine lv_iconst (v := 1) hx hb dX6_isSeen_79 (by decide) ?_
      refine lv_iand hx hb dX6_isSeen_80 ?_
      refine lv_aload_n hx hb dX6_isSeen_81 rfl (lv_at hl 1 rfl) ?_
      refine hj_get (ci := 6) (v := .ref (ad 10)) (C := RX6) (T := TX6) (N := 24) hx hb hts iX6_isSeen_X6 hown hK hP (by decide) rfl rfl 20 (by decide) mX6_isSeen_5 rfl dX6_isSeen_82 ?_
      refine lv_iload_n hx hb dX6_isSeen_85 rfl (lv_at hl 4 rfl) ?_
      obtain ⟨hk10, hf⟩ := hj_ck_s hf
      refine hj_ial (f := τ.2 20) hx hb hK hP (by decide) rfl hk10 dX6_isSeen_86 ?_
      refine lv_icmp_ne (tgt := 94) hx hb dX6_isSeen_87 (by decide) (fun c11 => ?_) (fun c11 => ?_)
      · rw [if_neg c11] at hf
        refine lv_iconst (v := 0) hx hb dX6_isSeen_94 (by decide) ?_
        refine lv_istore_n (lv' := [(2, .int 0), (4, .int z0), (0, .ref (ad 0)), (1, .int x1), (3, .int x3)]) hx hb dX6_isSeen_95 rfl hl (by decide) rfl (fun ls hl => ?_)
        obtain ⟨y12, ey12⟩ : ∃ z : Int32, z = x3 + 1 := ⟨_, rfl⟩
        replace hf := hj_nm_y hf ey12
        refine lv_iinc (v := y12) (lv' := [(3, .int y12), (2, .int 0), (4, .int z0), (0, .ref (ad 0)), (1, .int x1)]) hx hb dX6_isSeen_96 hl (k := 4) rfl (by rw [ey12]; rfl) (by decide) rfl (fun ls hl => ?_)
        refine lv_goto (tgt := 4) hx hb dX6_isSeen_99 (by decide) ?_
        exact KI _ _ (Option.some.inj hf).symm _ _ _ hP hS (lv_sub hl [3, 4, 1, 0] rfl)
      · rw [if_pos c11] at hf
        refine lv_iconst (v := 1) hx hb dX6_isSeen_90 (by decide) ?_
        refine lv_goto (tgt := 95) hx hb dX6_isSeen_91 (by decide) ?_
        refine lv_istore_n (lv' := [(2, .int 1), (4, .int z0), (0, .ref (ad 0)), (1, .int x1), (3, .int x3)]) hx hb dX6_isSeen_95 rfl hl (by decide) rfl (fun ls hl => ?_)
        obtain ⟨y13, ey13⟩ : ∃ z : Int32, z = x3 + 1 := ⟨_, rfl⟩
        replace hf := hj_nm_y hf ey13
        refine lv_iinc (v := y13) (lv' := [(3, .int y13), (2, .int 1), (4, .int z0), (0, .ref (ad 0)), (1, .int x1)]) hx hb dX6_isSeen_96 hl (k := 4) rfl (by rw [ey13]; rfl) (by decide) rfl (fun ls hl => ?_)
        refine lv_goto (tgt := 4) hx hb dX6_isSeen_99 (by decide) ?_
        exact KI _ _ (Option.some.inj hf).symm _ _ _ hP hS (lv_sub hl [3, 4, 1, 0] rfl)
def fX6_isSeen_4 (τ : hj_Ob) (sd : Int64) (x1 : Int32) (x2 : Int32) (x3 : Int32) : Option (Int32 ⊕ (Int32 × Int32)) :=
  if (τ.1 17) ≤ x3 then (some (.inl x2)) else (hj_ck x3 6 (if (τ.2 19 x3.toNatClampNeg) = x1 then (hj_ck x3 6 (hj_o1 (fX6_isJuror τ sd (τ.2 18 x3.toNatClampNeg)) fun r15 => if r15 = 0 then (fX6_isSeen_54 τ sd x1 x2 x3 0) else (hj_ck x3 6 (hj_o1 (fX6_isThere τ sd 1 (τ.2 18 x3.toNatClampNeg)) fun r18 => if r18 = 0 then (fX6_isSeen_54 τ sd x1 x2 x3 0) else (fX6_isSeen_54 τ sd x1 x2 x3 1))))) else (fX6_isSeen_54 τ sd x1 x2 x3 0)))
set_option maxHeartbeats 4000000 in
set_option maxRecDepth 100000 in
theorem wX6_isSeen_4b {p : Program} {l : Launch} {e : Env} {s : State} {m : MethodId} {args : Array Value} {below : List Frame} {meth : Method} {c : Code} {g : hj_G} {ad : Nat → Nat} (hI : hj_I 13 ad) (C : hj_C p s m args meth c cX6_isSeen RX6 wsX6_isSeen 5 (some .boolean)) (hK : hj_K g s) {τ : hj_Ob} {sd : Int64} {x1 : Int32} {x2 : Int32} {x3 : Int32} {y : Int32 ⊕ (Int32 × Int32)} {rF : Int32}
    (hf : fX6_isSeen_4 τ sd x1 x2 x3 = some y) (KX : ∀ (v2 : Int32), y = .inl v2 → ∀ (H : Heap) (locs : List Loc) (ls : Array Slot), hj_P g 13 ad (hj_wm g ad τ sd) H → hj_S 13 ad s H locs → lv_has ls 5 [(2, .int v2)] → W p l e rmX6_isSeen s m args below meth c H locs 0 0 (MQ below (hj_QI g 13 ad (hj_wm g ad τ sd) rF s.heap.size) args s 0 0 (hj_A 13 ad s.heap.size)) (F0 m 102 ls [])) (KI : ∀ (v2 : Int32) (v3 : Int32), y = .inr (v2, v3) → ∀ (H : Heap) (locs : List Loc) (ls : Array Slot), hj_P g 13 ad (hj_wm g ad τ sd) H → hj_S 13 ad s H locs → lv_has ls 5 [(0, .ref (ad 0)), (1, .int x1), (2, .int v2), (3, .int v3)] → W p l e rmX6_isSeen s m args below meth c H locs 0 0 (MQ below (hj_QI g 13 ad (hj_wm g ad τ sd) rF s.heap.size) args s 0 0 (hj_A 13 ad s.heap.size)) (F0 m 4 ls [])) {H : Heap} {locs : List Loc} {ls : Array Slot} (hP : hj_P g 13 ad (hj_wm g ad τ sd) H) (hS : hj_S 13 ad s H locs) (hl : lv_has ls 5 [(0, .ref (ad 0)), (1, .int x1), (2, .int x2), (3, .int x3)]) :
    W p l e rmX6_isSeen s m args below meth c H locs 0 0 (MQ below (hj_QI g 13 ad (hj_wm g ad τ sd) rF s.heap.size) args s 0 0 (hj_A 13 ad s.heap.size)) (F0 m 4 ls []) := by
  obtain ⟨hx, hb, hr, hml, hown, hts, hlocks⟩ := id C
  unfold fX6_isSeen_4 at hf
  refine lv_iload_n hx hb dX6_isSeen_4 rfl (lv_at hl 3 rfl) ?_
  refine lv_aload_n hx hb dX6_isSeen_5 rfl (lv_at hl 0 rfl) ?_
  refine hj_get (ci := 6) (v := .int (τ.1 17)) (C := RX6) (T := TX6) (N := 24) hx hb hts iX6_isSeen_X6 hown hK hP (by decide) rfl rfl 17 (by decide) mX6_isSeen_1 rfl dX6_isSeen_6 ?_
  refine lv_icmp_ge (tgt := 102) hx hb dX6_isSeen_9 (by decide) (fun c1 => ?_) (fun c1 => ?_)
  · rw [if_pos c1] at hf
    exact KX _ (Option.some.inj hf).symm _ _ _ hP hS (lv_sub hl [2] rfl)
  · rw [if_neg c1] at hf
    refine lv_aload_n hx hb dX6_isSeen_12 rfl (lv_at hl 0 rfl) ?_
    refine hj_get (ci := 6) (v := .ref (ad 9)) (C := RX6) (T := TX6) (N := 24) hx hb hts iX6_isSeen_X6 hown hK hP (by decide) rfl rfl 19 (by decide) mX6_isSeen_2 rfl dX6_isSeen_13 ?_
    refine lv_iload_n hx hb dX6_isSeen_16 rfl (lv_at hl 3 rfl) ?_
    obtain ⟨hk2, hf⟩ := hj_ck_s hf
    refine hj_ial (f := τ.2 19) hx hb hK hP (by decide) rfl hk2 dX6_isSeen_17 ?_
    refine lv_iload_n hx hb dX6_isSeen_18 rfl (lv_at hl 1 rfl) ?_
    refine lv_icmp_ne (tgt := 53) hx hb dX6_isSeen_19 (by decide) (fun c3 => ?_) (fun c3 => ?_)
    · rw [if_neg c3] at hf
      refine lv_iconst (v := 0) hx hb dX6_isSeen_53 (by decide) ?_
      exact wX6_isSeen_54 hI C hK  hf KX KI hP hS (lv_sub hl [0, 1, 2, 3] rfl)
    · rw [if_pos c3] at hf
      refine lv_aload_n hx hb dX6_isSeen_22 rfl (lv_at hl 0 rfl) ?_
      refine lv_aload_n hx hb dX6_isSeen_23 rfl (lv_at hl 0 rfl) ?_
      refine hj_get (ci := 6) (v := .ref (ad 8)) (C := RX6) (T := TX6) (N := 24) hx hb hts iX6_isSeen_X6 hown hK hP (by decide) rfl rfl 18 (by decide) mX6_isSeen_3 rfl dX6_isSeen_24 ?_
      refine lv_iload_n hx hb dX6_isSeen_27 rfl (lv_at hl 3 rfl) ?_
      obtain ⟨hk14, hf⟩ := hj_ck_s hf
      refine hj_ial (f := τ.2 18) hx hb hK hP (by decide) rfl hk14 dX6_isSeen_28 ?_
      obtain ⟨r15, hc, hf⟩ := hj_o1_s hf
      refine hj_callVi (nL := 5) (As := [.int (τ.2 18 x3.toNatClampNeg)]) (rest := []) (i0 := 0) (C := RX6) (T := TX6) (N := 24) (ci := 6) ⟨hx, hb, hml, hown, hts⟩ (ctX6_isJuror l g hI hc) (cwV 1 hts gX6_isSeen_X6_isJuror rfl rfl rfl (by decide +kernel) ⟨Nat.le_of_ble_eq_true rfl, Nat.le_of_ble_eq_true rfl⟩) hj_Xb0 (fun _ _ _ => trivial) hK hP hS (by decide) rfl rfl rfl hl.1 rfl (Nat.le_of_ble_eq_true rfl) dX6_isSeen_29 (fun H locs hP hS => ?_)
      refine lv_if_eq (tgt := 53) hx hb dX6_isSeen_32 (by decide) (fun c16 => ?_) (fun c16 => ?_)
      · rw [if_pos c16] at hf
        refine lv_iconst (v := 0) hx hb dX6_isSeen_53 (by decide) ?_
        exact wX6_isSeen_54 hI C hK  hf KX KI hP hS (lv_sub hl [0, 1, 2, 3] rfl)
      · rw [if_neg c16] at hf
        refine lv_aload_n hx hb dX6_isSeen_35 rfl (lv_at hl 0 rfl) ?_
        refine lv_iconst (v := 1) hx hb dX6_isSeen_36 (by decide) ?_
        refine lv_aload_n hx hb dX6_isSeen_37 rfl (lv_at hl 0 rfl) ?_
        refine hj_get (ci := 6) (v := .ref (ad 8)) (C := RX6) (T := TX6) (N := 24) hx hb hts iX6_isSeen_X6 hown hK hP (by decide) rfl rfl 18 (by decide) mX6_isSeen_3 rfl dX6_isSeen_38 ?_
        refine lv_iload_n hx hb dX6_isSeen_41 rfl (lv_at hl 3 rfl) ?_
        obtain ⟨hk17, hf⟩ := hj_ck_s hf
        refine hj_ial (f := τ.2 18) hx hb hK hP (by decide) rfl hk17 dX6_isSeen_42 ?_
        obtain ⟨r18, hc, hf⟩ := hj_o1_s hf
        refine hj_callVi (nL := 5) (As := [.int 1, .int (τ.2 18 x3.toNatClampNeg)]) (rest := []) (i0 := 0) (C := RX6) (T := TX6) (N := 24) (ci := 6) ⟨hx, hb, hml, hown, hts⟩ (ctX6_isThere l g hI hc) (cwV 2 hts gX6_isSeen_X6_isThere rfl rfl rfl (by decide +kernel) ⟨Nat.le_of_ble_eq_true rfl, Nat.le_of_ble_eq_true rfl⟩) hj_Xb0 (fun _ _ _ => trivial) hK hP hS (by decide) rfl rfl rfl hl.1 rfl (Nat.le_of_ble_eq_true rfl) dX6_isSeen_43 (fun H locs hP hS => ?_)
        refine lv_if_eq (tgt := 53) hx hb dX6_isSeen_46 (by decide) (fun c19 => ?_) (fun c19 => ?_)
        · rw [if_pos c19] at hf
          refine lv_iconst (v := 0) hx hb dX6_isSeen_53 (by decide) ?_
          exact wX6_isSeen_54 hI C hK  hf KX KI hP hS (lv_sub hl [0, 1, 2, 3] rfl)
        · rw [if_neg c19] at hf
          refine lv_iconst (v := 1) hx hb dX6_isSeen_49 (by decide) ?_
          refine lv_goto (tgt := 54) hx hb dX6_isSeen_50 (by decide) ?_
          exact wX6_isSeen_54 hI C hK  hf KX KI hP hS (lv_sub hl [0, 1, 2, 3] rfl)
set_option maxHeartbeats 4000000 in
set_option maxRecDepth 100000 in
theorem wX6_isSeen_4 {p : Program} {l : Launch} {e : Env} {s : State} {m : MethodId} {args : Array Value} {below : List Frame} {meth : Method} {c : Code} {g : hj_G} {ad : Nat → Nat} (hI : hj_I 13 ad) (C : hj_C p s m args meth c cX6_isSeen RX6 wsX6_isSeen 5 (some .boolean)) (hK : hj_K g s) {τ : hj_Ob} {sd : Int64} {x1 : Int32} {rF : Int32} {e2 : Int32} :
    ∀ (fu : Nat) (x2 : Int32) (x3 : Int32), hj_lp (fun q : (Int32 × Int32) => fX6_isSeen_4 τ sd x1 q.1 q.2) fu (x2, x3) = some e2 → (∀ (H : Heap) (locs : List Loc) (ls : Array Slot), hj_P g 13 ad (hj_wm g ad τ sd) H → hj_S 13 ad s H locs → lv_has ls 5 [(2, .int e2)] → W p l e rmX6_isSeen s m args below meth c H locs 0 0 (MQ below (hj_QI g 13 ad (hj_wm g ad τ sd) rF s.heap.size) args s 0 0 (hj_A 13 ad s.heap.size)) (F0 m 102 ls [])) → ∀ (H : Heap) (locs : List Loc) (ls : Array Slot), hj_P g 13 ad (hj_wm g ad τ sd) H → hj_S 13 ad s H locs → lv_has ls 5 [(0, .ref (ad 0)), (1, .int x1), (2, .int x2), (3, .int x3)] →
    W p l e rmX6_isSeen s m args below meth c H locs 0 0 (MQ below (hj_QI g 13 ad (hj_wm g ad τ sd) rF s.heap.size) args s 0 0 (hj_A 13 ad s.heap.size)) (F0 m 4 ls []) := by
  intro fu
  induction fu with
  | zero => intro x2 x3 hq; cases hq
  | succ fu ih =>
    intro x2 x3 hq KX H locs ls hP hS hl
    obtain ⟨y, hy, h1, h2⟩ := hj_lp_s hq
    exact wX6_isSeen_4b hI C hK  hy (fun v2 hv H locs ls hP hS hl => by obtain rfl := h1 _ hv; exact KX H locs ls hP hS hl) (fun v2 v3 hv H locs ls hP hS hl => ih v2 v3 (h2 _ hv) KX H locs ls hP hS hl) hP hS hl
def fX6_isSeen (τ : hj_Ob) (sd : Int64) (x1 : Int32) : Option Int32 :=
  hj_o1 (hj_lp (fun q : (Int32 × Int32) => fX6_isSeen_4 τ sd x1 q.1 q.2) 100 (1, 0)) fun e20 => (hj_bz e20 (some e20))
set_option maxHeartbeats 4000000 in
set_option maxRecDepth 100000 in
theorem wX6_isSeen {p : Program} {l : Launch} {e : Env} {s : State} {m : MethodId} {args : Array Value} {below : List Frame} {meth : Method} {c : Code} {g : hj_G} {ad : Nat → Nat} (hI : hj_I 13 ad) (C : hj_C p s m args meth c cX6_isSeen RX6 wsX6_isSeen 5 (some .boolean)) (hK : hj_K g s) {τ : hj_Ob} {sd : Int64} {x1 : Int32} {rF : Int32}
    (hf : fX6_isSeen τ sd x1 = some rF) {H : Heap} {locs : List Loc} {ls : Array Slot} (hP : hj_P g 13 ad (hj_wm g ad τ sd) H) (hS : hj_S 13 ad s H locs) (hl : lv_has ls 5 [(0, .ref (ad 0)), (1, .int x1)]) :
    W p l e rmX6_isSeen s m args below meth c H locs 0 0 (MQ below (hj_QI g 13 ad (hj_wm g ad τ sd) rF s.heap.size) args s 0 0 (hj_A 13 ad s.heap.size)) (F0 m 0 ls []) := by
  obtain ⟨hx, hb, hr, hml, hown, hts, hlocks⟩ := id C
  unfold fX6_isSeen at hf
  refine lv_iconst (v := 1) hx hb dX6_isSeen_0 (by decide) ?_
  refine lv_istore_n (lv' := [(2, .int 1), (0, .ref (ad 0)), (1, .int x1)]) hx hb dX6_isSeen_1 rfl hl (by decide) rfl (fun ls hl => ?_)
  refine lv_iconst (v := 0) hx hb dX6_isSeen_2 (by decide) ?_
  refine lv_istore_n (lv' := [(3, .int 0), (2, .int 1), (0, .ref (ad 0)), (1, .int x1)]) hx hb dX6_isSeen_3 rfl hl (by decide) rfl (fun ls hl => ?_)
  obtain ⟨e20, hlx, hf⟩ := hj_o1_s hf
  refine wX6_isSeen_4 hI C hK  100 1 0 hlx (fun H locs ls hP hS hl => ?_) H locs ls hP hS (lv_sub hl [2, 3, 1, 0] rfl)
  refine lv_iload_n hx hb dX6_isSeen_102 rfl (lv_at hl 0 rfl) ?_
  obtain ⟨hz, hf⟩ := hj_bz_s hf
  have hq := Option.some.inj hf
  obtain rfl := hq
  exact hj_retz hz  C hP hK hS dX6_isSeen_103
set_option maxHeartbeats 4000000 in
set_option maxRecDepth 100000 in
theorem ctX6_isSeen (l : Launch) (g : hj_G) {ad : Nat → Nat} (hI : hj_I 13 ad) {τ : hj_Ob} {sd : Int64} {x1 : Int32} {rF : Int32} (hf : fX6_isSeen τ sd x1 = some rF) :
    hj_MI l yX6_isSeen wsX6_isSeen rmX6_isSeen g 13 ad hj_X0 [.ref (ad 0), .int x1] (hj_wm g ad τ sd) rF (hj_wm g ad τ sd) := by
  refine hj_ofI (cc := cX6_isSeen) (maxL := 5) (ret := (some .boolean)) (by decide) rfl (Nat.le_of_ble_eq_true rfl) ?_
  intro p e s m args below meth c ls C hP hK hX hl
  exact wX6_isSeen hI C hK hf hP va_S.rf hl

/-! X6_layYes -/
abbrev rmX6_layYes : Room := { frames := 1, cells := 0, slots := 0, locals := 21 }
theorem iX6_layYes_X6 : ∀ w ∈ wsX60, w ∈ wsX6_layYes := fun _ h => List.mem_cons_of_mem _ (List.mem_append_right _ h)
theorem mX6_layYes_1 : Cond.fieldLink RX6 16 "HungryJuryModel" "now" "[I" ∈ wsX6_layYes := List.mem_of_getElem? (i := 1) rfl
def fX6_layYes (τ : hj_Ob) (sd : Int64) (x1 : Int32) : Option hj_Ob :=
  hj_o1 (fX6_layTrial τ sd) fun τ1 => hj_ck (0 : Int32) 30 (hj_ck (1 : Int32) 30 (hj_ck (15 : Int32) 30 (hj_nm (hj_a τ1 4 (15 : Int32) (((τ1.2 4 (0 : Int32).toNatClampNeg) &&& ((τ1.2 4 (1 : Int32).toNatClampNeg) ^^^ (-1))) ||| x1)) fun τ5 => some τ5)))
set_option maxHeartbeats 4000000 in
set_option maxRecDepth 100000 in
theorem wX6_layYes {p : Program} {l : Launch} {e : Env} {s : State} {m : MethodId} {args : Array Value} {below : List Frame} {meth : Method} {c : Code} {g : hj_G} {ad : Nat → Nat} (hI : hj_I 13 ad) (C : hj_C p s m args meth c cX6_layYes RX6 wsX6_layYes 2 none) (hK : hj_K g s) {τ : hj_Ob} {sd : Int64} {x1 : Int32} {τF : hj_Ob}
    (hf : fX6_layYes τ sd x1 = some τF) {H : Heap} {locs : List Loc} {ls : Array Slot} (hP : hj_P g 13 ad (hj_wm g ad τ sd) H) (hS : hj_S 13 ad s H locs) (hl : lv_has ls 2 [(0, .ref (ad 0)), (1, .int x1)]) :
    W p l e rmX6_layYes s m args below meth c H locs 0 0 (MQ below (hj_QV g 13 ad (hj_wm g ad τF sd) s.heap.size) args s 0 0 (hj_A 13 ad s.heap.size)) (F0 m 0 ls []) := by
  obtain ⟨hx, hb, hr, hml, hown, hts, hlocks⟩ := id C
  unfold fX6_layYes at hf
  refine lv_aload_n hx hb dX6_layYes_0 rfl (lv_at hl 0 rfl) ?_
  obtain ⟨τ1, hc, hf⟩ := hj_o1_s hf
  refine hj_callVv (nL := 2) (As := []) (rest := []) (i0 := 0) (C := RX6) (T := TX6) (N := 24) (ci := 6) ⟨hx, hb, hml, hown, hts⟩ (ctX6_layTrial l g hI hc) (cwV 0 hts gX6_layYes_X6_layTrial rfl rfl rfl (by decide +kernel) ⟨Nat.le_of_ble_eq_true rfl, Nat.le_of_ble_eq_true rfl⟩) hj_Xb0 (fun _ _ _ => trivial) hK hP hS (by decide) rfl rfl rfl hl.1 rfl (Nat.le_of_ble_eq_true rfl) dX6_layYes_1 (fun H locs hP hS => ?_)
  refine lv_aload_n hx hb dX6_layYes_4 rfl (lv_at hl 0 rfl) ?_
  refine hj_get (ci := 6) (v := .ref (ad 3)) (C := RX6) (T := TX6) (N := 24) hx hb hts iX6_layYes_X6 hown hK hP (by decide) rfl rfl 4 (by decide) mX6_layYes_1 rfl dX6_layYes_5 ?_
  refine lv_bipush (v := 15) hx hb dX6_layYes_8 (by decide) ?_
  refine lv_aload_n hx hb dX6_layYes_10 rfl (lv_at hl 0 rfl) ?_
  refine hj_get (ci := 6) (v := .ref (ad 3)) (C := RX6) (T := TX6) (N := 24) hx hb hts iX6_layYes_X6 hown hK hP (by decide) rfl rfl 4 (by decide) mX6_layYes_1 rfl dX6_layYes_11 ?_
  refine lv_iconst (v := 0) hx hb dX6_layYes_14 (by decide) ?_
  obtain ⟨hk2, hf⟩ := hj_ck_s hf
  refine hj_ial (f := τ1.2 4) hx hb hK hP (by decide) rfl hk2 dX6_layYes_15 ?_
  refine lv_aload_n hx hb dX6_layYes_16 rfl (lv_at hl 0 rfl) ?_
  refine hj_get (ci := 6) (v := .ref (ad 3)) (C := RX6) (T := TX6) (N := 24) hx hb hts iX6_layYes_X6 hown hK hP (by decide) rfl rfl 4 (by decide) mX6_layYes_1 rfl dX6_layYes_17 ?_
  refine lv_iconst (v := 1) hx hb dX6_layYes_20 (by decide) ?_
  obtain ⟨hk3, hf⟩ := hj_ck_s hf
  refine hj_ial (f := τ1.2 4) hx hb hK hP (by decide) rfl hk3 dX6_layYes_21 ?_
  refine lv_iconst (v := (-1)) hx hb dX6_layYes_22 (by decide) ?_
  refine lv_ixor hx hb dX6_layYes_23 ?_
  refine lv_iand hx hb dX6_layYes_24 ?_
  refine lv_iload_n hx hb dX6_layYes_25 rfl (lv_at hl 1 rfl) ?_
  refine lv_ior hx hb dX6_layYes_26 ?_
  obtain ⟨hk4, hf⟩ := hj_ck_s hf
  refine hj_ias (f := τ1.2 4) (v := (((τ1.2 4 (0 : Int32).toNatClampNeg) &&& ((τ1.2 4 (1 : Int32).toNatClampNeg) ^^^ (-1))) ||| x1)) hx hb hK hI hP hS (by decide) rfl hk4 dX6_layYes_27 (wm_a2 (τ := τ1) (x := (15 : Int32)) (v := (((τ1.2 4 (0 : Int32).toNatClampNeg) &&& ((τ1.2 4 (1 : Int32).toNatClampNeg) ^^^ (-1))) ||| x1)) 3 4 rfl (by decide) (by decide) (by decide)) (fun H locs hP hS => ?_)
  obtain ⟨τ5, eτ5⟩ : ∃ z : hj_Ob, z = hj_a τ1 4 (15 : Int32) (((τ1.2 4 (0 : Int32).toNatClampNeg) &&& ((τ1.2 4 (1 : Int32).toNatClampNeg) ^^^ (-1))) ||| x1) := ⟨_, rfl⟩
  replace hf := hj_nm_y hf eτ5
  rw [← eτ5] at hP
  have hq := Option.some.inj hf
  obtain rfl := hq
  exact hj_retv C hP hK hS dX6_layYes_28
set_option maxHeartbeats 4000000 in
set_option maxRecDepth 100000 in
theorem ctX6_layYes (l : Launch) (g : hj_G) {ad : Nat → Nat} (hI : hj_I 13 ad) {τ : hj_Ob} {sd : Int64} {x1 : Int32} {τF : hj_Ob} (hf : fX6_layYes τ sd x1 = some τF) :
    hj_MV l yX6_layYes wsX6_layYes rmX6_layYes g 13 ad hj_X0 [.ref (ad 0), .int x1] (hj_wm g ad τ sd) (hj_wm g ad τF sd) := by
  refine hj_ofV (cc := cX6_layYes) (maxL := 2) (ret := none) (by decide) rfl (Nat.le_of_ble_eq_true rfl) ?_
  intro p e s m args below meth c ls C hP hK hX hl
  exact wX6_layYes hI C hK hf hP va_S.rf hl

/-! X6_mayBe -/
abbrev rmX6_mayBe : Room := { frames := 3, cells := 0, slots := 0, locals := 75 }
def fX6_mayBe_13 (τ : hj_Ob) (sd : Int64) (x2 : Int32) (x3 : Int32) : Option ((Int32 × hj_Ob) ⊕ (Int32 × Int32 × hj_Ob)) :=
  if 10 ≤ x3 then (some (.inl (x2, τ))) else (if x2 = 0 then (some (.inl (x2, τ))) else (hj_o2 (fX6_passOn τ sd 1) fun r5 τ6 => hj_o1 (fX6_isSeen τ6 sd x3) fun r7 => hj_nm (x3 + 1) fun y8 => some (.inr (r7, y8, τ6))))
set_option maxHeartbeats 4000000 in
set_option maxRecDepth 100000 in
theorem wX6_mayBe_13b {p : Program} {l : Launch} {e : Env} {s : State} {m : MethodId} {args : Array Value} {below : List Frame} {meth : Method} {c : Code} {g : hj_G} {ad : Nat → Nat} (hI : hj_I 13 ad) (C : hj_C p s m args meth c cX6_mayBe RX6 wsX6_mayBe 4 (some .boolean)) (hK : hj_K g s) {τ : hj_Ob} {sd : Int64} {x2 : Int32} {x3 : Int32} {y : (Int32 × hj_Ob) ⊕ (Int32 × Int32 × hj_Ob)} {rF : Int32} {τF : hj_Ob}
    (hf : fX6_mayBe_13 τ sd x2 x3 = some y) (KX : ∀ (v2 : Int32) (τ' : hj_Ob), y = .inl (v2, τ') → ∀ (H : Heap) (locs : List Loc) (ls : Array Slot), hj_P g 13 ad (hj_wm g ad τ' sd) H → hj_S 13 ad s H locs → lv_has ls 4 [(2, .int v2)] → W p l e rmX6_mayBe s m args below meth c H locs 0 0 (MQ below (hj_QI g 13 ad (hj_wm g ad τF sd) rF s.heap.size) args s 0 0 (hj_A 13 ad s.heap.size)) (F0 m 41 ls [])) (KI : ∀ (v2 : Int32) (v3 : Int32) (τ' : hj_Ob), y = .inr (v2, v3, τ') → ∀ (H : Heap) (locs : List Loc) (ls : Array Slot), hj_P g 13 ad (hj_wm g ad τ' sd) H → hj_S 13 ad s H locs → lv_has ls 4 [(0, .ref (ad 0)), (2, .int v2), (3, .int v3)] → W p l e rmX6_mayBe s m args below meth c H locs 0 0 (MQ below (hj_QI g 13 ad (hj_wm g ad τF sd) rF s.heap.size) args s 0 0 (hj_A 13 ad s.heap.size)) (F0 m 13 ls [])) {H : Heap} {locs : List Loc} {ls : Array Slot} (hP : hj_P g 13 ad (hj_wm g ad τ sd) H) (hS : hj_S 13 ad s H locs) (hl : lv_has ls 4 [(0, .ref (ad 0)), (2, .int x2), (3, .int x3)]) :
    W p l e rmX6_mayBe s m args below meth c H locs 0 0 (MQ below (hj_QI g 13 ad (hj_wm g ad τF sd) rF s.heap.size) args s 0 0 (hj_A 13 ad s.heap.size)) (F0 m 13 ls []) := by
  obtain ⟨hx, hb, hr, hml, hown, hts, hlocks⟩ := id C
  unfold fX6_mayBe_13 at hf
  refine lv_iload_n hx hb dX6_mayBe_13 rfl (lv_at hl 2 rfl) ?_
  refine lv_bipush (v := 10) hx hb dX6_mayBe_14 (by decide) ?_
  refine lv_icmp_ge (tgt := 41) hx hb dX6_mayBe_16 (by decide) (fun c3 => ?_) (fun c3 => ?_)
  · rw [if_pos c3] at hf
    exact KX _ _ (Option.some.inj hf).symm _ _ _ hP hS (lv_sub hl [1] rfl)
  · rw [if_neg c3] at hf
    refine lv_iload_n hx hb dX6_mayBe_19 rfl (lv_at hl 1 rfl) ?_
    refine lv_if_eq (tgt := 41) hx hb dX6_mayBe_20 (by decide) (fun c4 => ?_) (fun c4 => ?_)
    · rw [if_pos c4] at hf
      exact KX _ _ (Option.some.inj hf).symm _ _ _ hP hS (lv_sub hl [1] rfl)
    · rw [if_neg c4] at hf
      refine lv_aload_n hx hb dX6_mayBe_23 rfl (lv_at hl 0 rfl) ?_
      refine lv_iconst (v := 1) hx hb dX6_mayBe_24 (by decide) ?_
      obtain ⟨r5, τ6, hc, hf⟩ := hj_o2_s hf
      refine hj_callVi (nL := 4) (As := [.int 1]) (rest := []) (i0 := 0) (C := RX6) (T := TX6) (N := 24) (ci := 6) ⟨hx, hb, hml, hown, hts⟩ (ctX6_passOn l g hI hc) (cwV 1 hts gX6_mayBe_X6_passOn rfl rfl rfl (by decide +kernel) ⟨Nat.le_of_ble_eq_true rfl, Nat.le_of_ble_eq_true rfl⟩) hj_Xb0 (fun _ _ _ => trivial) hK hP hS (by decide) rfl rfl rfl hl.1 rfl (Nat.le_of_ble_eq_true rfl) dX6_mayBe_25 (fun H locs hP hS => ?_)
      refine lv_pop hx hb dX6_mayBe_28 rfl ?_
      refine lv_aload_n hx hb dX6_mayBe_29 rfl (lv_at hl 0 rfl) ?_
      refine lv_iload_n hx hb dX6_mayBe_30 rfl (lv_at hl 2 rfl) ?_
      obtain ⟨r7, hc, hf⟩ := hj_o1_s hf
      refine hj_callVi (nL := 4) (As := [.int x3]) (rest := []) (i0 := 0) (C := RX6) (T := TX6) (N := 24) (ci := 6) ⟨hx, hb, hml, hown, hts⟩ (ctX6_isSeen l g hI hc) (cwV 1 hts gX6_mayBe_X6_isSeen rfl rfl rfl (by decide +kernel) ⟨Nat.le_of_ble_eq_true rfl, Nat.le_of_ble_eq_true rfl⟩) hj_Xb0 (fun _ _ _ => trivial) hK hP hS (by decide) rfl rfl rfl hl.1 rfl (Nat.le_of_ble_eq_true rfl) dX6_mayBe_31 (fun H locs hP hS => ?_)
      refine lv_istore_n (lv' := [(2, .int r7), (0, .ref (ad 0)), (3, .int x3)]) hx hb dX6_mayBe_34 rfl hl (by decide) rfl (fun ls hl => ?_)
      obtain ⟨y8, ey8⟩ : ∃ z : Int32, z = x3 + 1 := ⟨_, rfl⟩
      replace hf := hj_nm_y hf ey8
      refine lv_iinc (v := y8) (lv' := [(3, .int y8), (2, .int r7), (0, .ref (ad 0))]) hx hb dX6_mayBe_35 hl (k := 2) rfl (by rw [ey8]; rfl) (by decide) rfl (fun ls hl => ?_)
      refine lv_goto (tgt := 13) hx hb dX6_mayBe_38 (by decide) ?_
      exact KI _ _ _ (Option.some.inj hf).symm _ _ _ hP hS (lv_sub hl [2, 1, 0] rfl)
set_option maxHeartbeats 4000000 in
set_option maxRecDepth 100000 in
theorem wX6_mayBe_13 {p : Program} {l : Launch} {e : Env} {s : State} {m : MethodId} {args : Array Value} {below : List Frame} {meth : Method} {c : Code} {g : hj_G} {ad : Nat → Nat} (hI : hj_I 13 ad) (C : hj_C p s m args meth c cX6_mayBe RX6 wsX6_mayBe 4 (some .boolean)) (hK : hj_K g s) {sd : Int64} {rF : Int32} {τF : hj_Ob} {e2 : Int32} {τe : hj_Ob} :
    ∀ (fu : Nat) (x2 : Int32) (x3 : Int32) (τ : hj_Ob), hj_lp (fun q : (Int32 × Int32 × hj_Ob) => fX6_mayBe_13 q.2.2 sd q.1 q.2.1) fu (x2, x3, τ) = some (e2, τe) → (∀ (H : Heap) (locs : List Loc) (ls : Array Slot), hj_P g 13 ad (hj_wm g ad τe sd) H → hj_S 13 ad s H locs → lv_has ls 4 [(2, .int e2)] → W p l e rmX6_mayBe s m args below meth c H locs 0 0 (MQ below (hj_QI g 13 ad (hj_wm g ad τF sd) rF s.heap.size) args s 0 0 (hj_A 13 ad s.heap.size)) (F0 m 41 ls [])) → ∀ (H : Heap) (locs : List Loc) (ls : Array Slot), hj_P g 13 ad (hj_wm g ad τ sd) H → hj_S 13 ad s H locs → lv_has ls 4 [(0, .ref (ad 0)), (2, .int x2), (3, .int x3)] →
    W p l e rmX6_mayBe s m args below meth c H locs 0 0 (MQ below (hj_QI g 13 ad (hj_wm g ad τF sd) rF s.heap.size) args s 0 0 (hj_A 13 ad s.heap.size)) (F0 m 13 ls []) := by
  intro fu
  induction fu with
  | zero => intro x2 x3 τ hq; cases hq
  | succ fu ih =>
    intro x2 x3 τ hq KX H locs ls hP hS hl
    obtain ⟨y, hy, h1, h2⟩ := hj_lp_s hq
    exact wX6_mayBe_13b hI C hK  hy (fun v2 τ' hv H locs ls hP hS hl => by have hw := h1 _ hv; obtain ⟨rfl, rfl⟩ := Prod.mk.inj hw; exact KX H locs ls hP hS hl) (fun v2 v3 τ' hv H locs ls hP hS hl => ih v2 v3 τ' (h2 _ hv) KX H locs ls hP hS hl) hP hS hl
def fX6_mayBe (τ : hj_Ob) (sd : Int64) (x1 : Int32) : Option (Int32 × hj_Ob) :=
  hj_o1 (fX6_layYes τ sd x1) fun τ1 => hj_o1 (fX6_isSeen τ1 sd 0) fun r2 => hj_o2 (hj_lp (fun q : (Int32 × Int32 × hj_Ob) => fX6_mayBe_13 q.2.2 sd q.1 q.2.1) 100 (r2, 1, τ1)) fun e9 τ10 => (hj_bz e9 (some (e9, τ10)))
set_option maxHeartbeats 4000000 in
set_option maxRecDepth 100000 in
theorem wX6_mayBe {p : Program} {l : Launch} {e : Env} {s : State} {m : MethodId} {args : Array Value} {below : List Frame} {meth : Method} {c : Code} {g : hj_G} {ad : Nat → Nat} (hI : hj_I 13 ad) (C : hj_C p s m args meth c cX6_mayBe RX6 wsX6_mayBe 4 (some .boolean)) (hK : hj_K g s) {τ : hj_Ob} {sd : Int64} {x1 : Int32} {rF : Int32} {τF : hj_Ob}
    (hf : fX6_mayBe τ sd x1 = some (rF, τF)) {H : Heap} {locs : List Loc} {ls : Array Slot} (hP : hj_P g 13 ad (hj_wm g ad τ sd) H) (hS : hj_S 13 ad s H locs) (hl : lv_has ls 4 [(0, .ref (ad 0)), (1, .int x1)]) :
    W p l e rmX6_mayBe s m args below meth c H locs 0 0 (MQ below (hj_QI g 13 ad (hj_wm g ad τF sd) rF s.heap.size) args s 0 0 (hj_A 13 ad s.heap.size)) (F0 m 0 ls []) := by
  obtain ⟨hx, hb, hr, hml, hown, hts, hlocks⟩ := id C
  unfold fX6_mayBe at hf
  refine lv_aload_n hx hb dX6_mayBe_0 rfl (lv_at hl 0 rfl) ?_
  refine lv_iload_n hx hb dX6_mayBe_1 rfl (lv_at hl 1 rfl) ?_
  obtain ⟨τ1, hc, hf⟩ := hj_o1_s hf
  refine hj_callVv (nL := 4) (As := [.int x1]) (rest := []) (i0 := 0) (C := RX6) (T := TX6) (N := 24) (ci := 6) ⟨hx, hb, hml, hown, hts⟩ (ctX6_layYes l g hI hc) (cwV 1 hts gX6_mayBe_X6_layYes rfl rfl rfl (by decide +kernel) ⟨Nat.le_of_ble_eq_true rfl, Nat.le_of_ble_eq_true rfl⟩) hj_Xb0 (fun _ _ _ => trivial) hK hP hS (by decide) rfl rfl rfl hl.1 rfl (Nat.le_of_ble_eq_true rfl) dX6_mayBe_2 (fun H locs hP hS => ?_)
  refine lv_aload_n hx hb dX6_mayBe_5 rfl (lv_at hl 0 rfl) ?_
  refine lv_iconst (v := 0) hx hb dX6_mayBe_6 (by decide) ?_
  obtain ⟨r2, hc, hf⟩ := hj_o1_s hf
  refine hj_callVi (nL := 4) (As := [.int 0]) (rest := []) (i0 := 0) (C := RX6) (T := TX6) (N := 24) (ci := 6) ⟨hx, hb, hml, hown, hts⟩ (ctX6_isSeen l g hI hc) (cwV 1 hts gX6_mayBe_X6_isSeen rfl rfl rfl (by decide +kernel) ⟨Nat.le_of_ble_eq_true rfl, Nat.le_of_ble_eq_true rfl⟩) hj_Xb0 (fun _ _ _ => trivial) hK hP hS (by decide) rfl rfl rfl hl.1 rfl (Nat.le_of_ble_eq_true rfl) dX6_mayBe_7 (fun H locs hP hS => ?_)
  refine lv_istore_n (lv' := [(2, .int r2), (0, .ref (ad 0)), (1, .int x1)]) hx hb dX6_mayBe_10 rfl hl (by decide) rfl (fun ls hl => ?_)
  refine lv_iconst (v := 1) hx hb dX6_mayBe_11 (by decide) ?_
  refine lv_istore_n (lv' := [(3, .int 1), (2, .int r2), (0, .ref (ad 0)), (1, .int x1)]) hx hb dX6_mayBe_12 rfl hl (by decide) rfl (fun ls hl => ?_)
  obtain ⟨e9, τ10, hlx, hf⟩ := hj_o2_s hf
  refine wX6_mayBe_13 hI C hK  100 r2 1 τ1 hlx (fun H locs ls hP hS hl => ?_) H locs ls hP hS (lv_sub hl [2, 1, 0] rfl)
  refine lv_iload_n hx hb dX6_mayBe_41 rfl (lv_at hl 0 rfl) ?_
  obtain ⟨hz, hf⟩ := hj_bz_s hf
  have hq := Option.some.inj hf
  obtain ⟨rfl, rfl⟩ := Prod.mk.inj hq
  exact hj_retz hz  C hP hK hS dX6_mayBe_42
set_option maxHeartbeats 4000000 in
set_option maxRecDepth 100000 in
theorem ctX6_mayBe (l : Launch) (g : hj_G) {ad : Nat → Nat} (hI : hj_I 13 ad) {τ : hj_Ob} {sd : Int64} {x1 : Int32} {rF : Int32} {τF : hj_Ob} (hf : fX6_mayBe τ sd x1 = some (rF, τF)) :
    hj_MI l yX6_mayBe wsX6_mayBe rmX6_mayBe g 13 ad hj_X0 [.ref (ad 0), .int x1] (hj_wm g ad τ sd) rF (hj_wm g ad τF sd) := by
  refine hj_ofI (cc := cX6_mayBe) (maxL := 4) (ret := (some .boolean)) (by decide) rfl (Nat.le_of_ble_eq_true rfl) ?_
  intro p e s m args below meth c ls C hP hK hX hl
  exact wX6_mayBe hI C hK hf hP va_S.rf hl

/-! X6_first -/
abbrev rmX6_first : Room := { frames := 4, cells := 0, slots := 0, locals := 98 }
theorem mX6_first_1 : Cond.constantLong RX6 170 (2) ∈ wsX6_first := List.mem_of_getElem? (i := 1) rfl
theorem iX6_first_X6 : ∀ w ∈ wsX60, w ∈ wsX6_first := fun _ h => List.mem_cons_of_mem _ (List.mem_append_right _ h)
theorem mX6_first_2 : Cond.fieldLink RX6 16 "HungryJuryModel" "now" "[I" ∈ wsX6_first := List.mem_of_getElem? (i := 2) rfl
def fX6_first_30 (τ : hj_Ob) (sd : Int64) (x1 : Int32) (x2 : Int32) (x3 : Int32) (x4 : Int32) (x5 : Int32) : Option ((Int32 × Int32 × Int32 × hj_Ob) ⊕ (Int32 × Int32 × Int32 × Int32 × hj_Ob)) :=
  if 64 ≤ x5 then (some (.inl (x2, x3, x4, τ))) else (hj_ck (1 : Int32) 30 (if (x5 &&& ((τ.2 4 (1 : Int32).toNatClampNeg) ^^^ (-1))) = 0 then (hj_o2 (fX6_mayBe τ sd x5) fun r9 τ10 => if r9 = 0 then (hj_nm (x5 + 1) fun y12 => some (.inr (x2, x3, x4, y12, τ10))) else (hj_nm (x2 + 1) fun y13 => hj_nm (x3 &&& x5) fun y14 => hj_nm (x4 ||| x5) fun y15 => hj_nm (x5 + 1) fun y16 => some (.inr (y13, y14, y15, y16, τ10)))) else (hj_nm (x5 + 1) fun y8 => some (.inr (x2, x3, x4, y8, τ)))))
set_option maxHeartbeats 4000000 in
set_option maxRecDepth 100000 in
theorem wX6_first_30b {p : Program} {l : Launch} {e : Env} {s : State} {m : MethodId} {args : Array Value} {below : List Frame} {meth : Method} {c : Code} {g : hj_G} {ad : Nat → Nat} (hI : hj_I 13 ad) (C : hj_C p s m args meth c cX6_first RX6 wsX6_first 6 (some .int)) (hK : hj_K g s) {τ : hj_Ob} {sd : Int64} {x1 : Int32} {x2 : Int32} {x3 : Int32} {x4 : Int32} {x5 : Int32} {y : (Int32 × Int32 × Int32 × hj_Ob) ⊕ (Int32 × Int32 × Int32 × Int32 × hj_Ob)} {rF : Int32} {τF : hj_Ob}
    (hf : fX6_first_30 τ sd x1 x2 x3 x4 x5 = some y) (KX : ∀ (v2 : Int32) (v3 : Int32) (v4 : Int32) (τ' : hj_Ob), y = .inl (v2, v3, v4, τ') → ∀ (H : Heap) (locs : List Loc) (ls : Array Slot), hj_P g 13 ad (hj_wm g ad τ' sd) H → hj_S 13 ad s H locs → lv_has ls 6 [(0, .ref (ad 0)), (1, .int x1), (2, .int v2), (3, .int v3), (4, .int v4)] → W p l e rmX6_first s m args below meth c H locs 0 0 (MQ below (hj_QI g 13 ad (hj_wm g ad τF sd) rF s.heap.size) args s 0 0 (hj_A 13 ad s.heap.size)) (F0 m 81 ls [])) (KI : ∀ (v2 : Int32) (v3 : Int32) (v4 : Int32) (v5 : Int32) (τ' : hj_Ob), y = .inr (v2, v3, v4, v5, τ') → ∀ (H : Heap) (locs : List Loc) (ls : Array Slot), hj_P g 13 ad (hj_wm g ad τ' sd) H → hj_S 13 ad s H locs → lv_has ls 6 [(0, .ref (ad 0)), (1, .int x1), (2, .int v2), (3, .int v3), (4, .int v4), (5, .int v5)] → W p l e rmX6_first s m args below meth c H locs 0 0 (MQ below (hj_QI g 13 ad (hj_wm g ad τF sd) rF s.heap.size) args s 0 0 (hj_A 13 ad s.heap.size)) (F0 m 30 ls [])) {H : Heap} {locs : List Loc} {ls : Array Slot} (hP : hj_P g 13 ad (hj_wm g ad τ sd) H) (hS : hj_S 13 ad s H locs) (hl : lv_has ls 6 [(0, .ref (ad 0)), (1, .int x1), (2, .int x2), (3, .int x3), (4, .int x4), (5, .int x5)]) :
    W p l e rmX6_first s m args below meth c H locs 0 0 (MQ below (hj_QI g 13 ad (hj_wm g ad τF sd) rF s.heap.size) args s 0 0 (hj_A 13 ad s.heap.size)) (F0 m 30 ls []) := by
  obtain ⟨hx, hb, hr, hml, hown, hts, hlocks⟩ := id C
  unfold fX6_first_30 at hf
  refine lv_iload hx hb dX6_first_30 (lv_at hl 5 rfl) ?_
  refine lv_bipush (v := 64) hx hb dX6_first_32 (by decide) ?_
  refine lv_icmp_ge (tgt := 81) hx hb dX6_first_34 (by decide) (fun c5 => ?_) (fun c5 => ?_)
  · rw [if_pos c5] at hf
    exact KX _ _ _ _ (Option.some.inj hf).symm _ _ _ hP hS (lv_sub hl [0, 1, 2, 3, 4] rfl)
  · rw [if_neg c5] at hf
    refine lv_iload hx hb dX6_first_37 (lv_at hl 5 rfl) ?_
    refine lv_aload_n hx hb dX6_first_39 rfl (lv_at hl 0 rfl) ?_
    refine hj_get (ci := 6) (v := .ref (ad 3)) (C := RX6) (T := TX6) (N := 24) hx hb hts iX6_first_X6 hown hK hP (by decide) rfl rfl 4 (by decide) mX6_first_2 rfl dX6_first_40 ?_
    refine lv_iconst (v := 1) hx hb dX6_first_43 (by decide) ?_
    obtain ⟨hk6, hf⟩ := hj_ck_s hf
    refine hj_ial (f := τ.2 4) hx hb hK hP (by decide) rfl hk6 dX6_first_44 ?_
    refine lv_iconst (v := (-1)) hx hb dX6_first_45 (by decide) ?_
    refine lv_ixor hx hb dX6_first_46 ?_
    refine lv_iand hx hb dX6_first_47 ?_
    refine lv_if_ne (tgt := 75) hx hb dX6_first_48 (by decide) (fun c7 => ?_) (fun c7 => ?_)
    · rw [if_neg c7] at hf
      obtain ⟨y8, ey8⟩ : ∃ z : Int32, z = x5 + 1 := ⟨_, rfl⟩
      replace hf := hj_nm_y hf ey8
      refine lv_iinc (v := y8) (lv' := [(5, .int y8), (0, .ref (ad 0)), (1, .int x1), (2, .int x2), (3, .int x3), (4, .int x4)]) hx hb dX6_first_75 hl (k := 5) rfl (by rw [ey8]; rfl) (by decide) rfl (fun ls hl => ?_)
      refine lv_goto (tgt := 30) hx hb dX6_first_78 (by decide) ?_
      exact KI _ _ _ _ _ (Option.some.inj hf).symm _ _ _ hP hS (lv_sub hl [1, 2, 3, 4, 5, 0] rfl)
    · rw [if_pos c7] at hf
      refine lv_aload_n hx hb dX6_first_51 rfl (lv_at hl 0 rfl) ?_
      refine lv_iload hx hb dX6_first_52 (lv_at hl 5 rfl) ?_
      obtain ⟨r9, τ10, hc, hf⟩ := hj_o2_s hf
      refine hj_callVi (nL := 6) (As := [.int x5]) (rest := []) (i0 := 0) (C := RX6) (T := TX6) (N := 24) (ci := 6) ⟨hx, hb, hml, hown, hts⟩ (ctX6_mayBe l g hI hc) (cwV 1 hts gX6_first_X6_mayBe rfl rfl rfl (by decide +kernel) ⟨Nat.le_of_ble_eq_true rfl, Nat.le_of_ble_eq_true rfl⟩) hj_Xb0 (fun _ _ _ => trivial) hK hP hS (by decide) rfl rfl rfl hl.1 rfl (Nat.le_of_ble_eq_true rfl) dX6_first_54 (fun H locs hP hS => ?_)
      refine lv_if_eq (tgt := 75) hx hb dX6_first_57 (by decide) (fun c11 => ?_) (fun c11 => ?_)
      · rw [if_pos c11] at hf
        obtain ⟨y12, ey12⟩ : ∃ z : Int32, z = x5 + 1 := ⟨_, rfl⟩
        replace hf := hj_nm_y hf ey12
        refine lv_iinc (v := y12) (lv' := [(5, .int y12), (0, .ref (ad 0)), (1, .int x1), (2, .int x2), (3, .int x3), (4, .int x4)]) hx hb dX6_first_75 hl (k := 5) rfl (by rw [ey12]; rfl) (by decide) rfl (fun ls hl => ?_)
        refine lv_goto (tgt := 30) hx hb dX6_first_78 (by decide) ?_
        exact KI _ _ _ _ _ (Option.some.inj hf).symm _ _ _ hP hS (lv_sub hl [1, 2, 3, 4, 5, 0] rfl)
      · rw [if_neg c11] at hf
        obtain ⟨y13, ey13⟩ : ∃ z : Int32, z = x2 + 1 := ⟨_, rfl⟩
        replace hf := hj_nm_y hf ey13
        refine lv_iinc (v := y13) (lv' := [(2, .int y13), (0, .ref (ad 0)), (1, .int x1), (3, .int x3), (4, .int x4), (5, .int x5)]) hx hb dX6_first_60 hl (k := 2) rfl (by rw [ey13]; rfl) (by decide) rfl (fun ls hl => ?_)
        refine lv_iload_n hx hb dX6_first_63 rfl (lv_at hl 3 rfl) ?_
        refine lv_iload hx hb dX6_first_64 (lv_at hl 5 rfl) ?_
        refine lv_iand hx hb dX6_first_66 ?_
        refine lv_topi (fun y14 ey14 => ?_)
        replace hf := hj_nm_y hf ey14
        refine lv_istore_n (lv' := [(3, .int y14), (2, .int y13), (0, .ref (ad 0)), (1, .int x1), (4, .int x4), (5, .int x5)]) hx hb dX6_first_67 rfl hl (by decide) rfl (fun ls hl => ?_)
        refine lv_iload hx hb dX6_first_68 (lv_at hl 4 rfl) ?_
        refine lv_iload hx hb dX6_first_70 (lv_at hl 5 rfl) ?_
        refine lv_ior hx hb dX6_first_72 ?_
        refine lv_topi (fun y15 ey15 => ?_)
        replace hf := hj_nm_y hf ey15
        refine lv_istore (lv' := [(4, .int y15), (3, .int y14), (2, .int y13), (0, .ref (ad 0)), (1, .int x1), (5, .int x5)]) hx hb dX6_first_73 hl (by decide) rfl (fun ls hl => ?_)
        obtain ⟨y16, ey16⟩ : ∃ z : Int32, z = x5 + 1 := ⟨_, rfl⟩
        replace hf := hj_nm_y hf ey16
        refine lv_iinc (v := y16) (lv' := [(5, .int y16), (4, .int y15), (3, .int y14), (2, .int y13), (0, .ref (ad 0)), (1, .int x1)]) hx hb dX6_first_75 hl (k := 5) rfl (by rw [ey16]; rfl) (by decide) rfl (fun ls hl => ?_)
        refine lv_goto (tgt := 30) hx hb dX6_first_78 (by decide) ?_
        exact KI _ _ _ _ _ (Option.some.inj hf).symm _ _ _ hP hS (lv_sub hl [4, 5, 3, 2, 1, 0] rfl)
set_option maxHeartbeats 4000000 in
set_option maxRecDepth 100000 in
theorem wX6_first_30 {p : Program} {l : Launch} {e : Env} {s : State} {m : MethodId} {args : Array Value} {below : List Frame} {meth : Method} {c : Code} {g : hj_G} {ad : Nat → Nat} (hI : hj_I 13 ad) (C : hj_C p s m args meth c cX6_first RX6 wsX6_first 6 (some .int)) (hK : hj_K g s) {sd : Int64} {x1 : Int32} {rF : Int32} {τF : hj_Ob} {e2 : Int32} {e3 : Int32} {e4 : Int32} {τe : hj_Ob} :
    ∀ (fu : Nat) (x2 : Int32) (x3 : Int32) (x4 : Int32) (x5 : Int32) (τ : hj_Ob), hj_lp (fun q : (Int32 × Int32 × Int32 × Int32 × hj_Ob) => fX6_first_30 q.2.2.2.2 sd x1 q.1 q.2.1 q.2.2.1 q.2.2.2.1) fu (x2, x3, x4, x5, τ) = some (e2, e3, e4, τe) → (∀ (H : Heap) (locs : List Loc) (ls : Array Slot), hj_P g 13 ad (hj_wm g ad τe sd) H → hj_S 13 ad s H locs → lv_has ls 6 [(0, .ref (ad 0)), (1, .int x1), (2, .int e2), (3, .int e3), (4, .int e4)] → W p l e rmX6_first s m args below meth c H locs 0 0 (MQ below (hj_QI g 13 ad (hj_wm g ad τF sd) rF s.heap.size) args s 0 0 (hj_A 13 ad s.heap.size)) (F0 m 81 ls [])) → ∀ (H : Heap) (locs : List Loc) (ls : Array Slot), hj_P g 13 ad (hj_wm g ad τ sd) H → hj_S 13 ad s H locs → lv_has ls 6 [(0, .ref (ad 0)), (1, .int x1), (2, .int x2), (3, .int x3), (4, .int x4), (5, .int x5)] →
    W p l e rmX6_first s m args below meth c H locs 0 0 (MQ below (hj_QI g 13 ad (hj_wm g ad τF sd) rF s.heap.size) args s 0 0 (hj_A 13 ad s.heap.size)) (F0 m 30 ls []) := by
  intro fu
  induction fu with
  | zero => intro x2 x3 x4 x5 τ hq; cases hq
  | succ fu ih =>
    intro x2 x3 x4 x5 τ hq KX H locs ls hP hS hl
    obtain ⟨y, hy, h1, h2⟩ := hj_lp_s hq
    exact wX6_first_30b hI C hK  hy (fun v2 v3 v4 τ' hv H locs ls hP hS hl => by have hw := h1 _ hv; obtain ⟨rfl, hw0⟩ := Prod.mk.inj hw; obtain ⟨rfl, hw1⟩ := Prod.mk.inj hw0; obtain ⟨rfl, rfl⟩ := Prod.mk.inj hw1; exact KX H locs ls hP hS hl) (fun v2 v3 v4 v5 τ' hv H locs ls hP hS hl => ih v2 v3 v4 v5 τ' (h2 _ hv) KX H locs ls hP hS hl) hP hS hl
def fX6_first (τ : hj_Ob) (sd : Int64) (x1 : Int32) : Option (Int32 × hj_Ob) :=
  hj_o1 (fX6_in x1.toInt64 0 2) fun r1 => if r1 = 0 then (some ((-2), τ)) else (hj_ck (1 : Int32) 30 (hj_nm (τ.2 4 (1 : Int32).toNatClampNeg) fun y4 => hj_o4 (hj_lp (fun q : (Int32 × Int32 × Int32 × Int32 × hj_Ob) => fX6_first_30 q.2.2.2.2 sd x1 q.1 q.2.1 q.2.2.1 q.2.2.2.1) 100 (0, y4, 0, 0, τ)) fun e17 e18 e19 τ20 => (if x1 = 0 then (some (e17, τ20)) else (if e17 = 0 then (some ((-9), τ20)) else (if x1 = 1 then (some (e18, τ20)) else (hj_ck (1 : Int32) 30 (some ((τ20.2 4 (1 : Int32).toNatClampNeg) &&& (e19 ^^^ (-1)), τ20))))))))
set_option maxHeartbeats 4000000 in
set_option maxRecDepth 100000 in
theorem wX6_first {p : Program} {l : Launch} {e : Env} {s : State} {m : MethodId} {args : Array Value} {below : List Frame} {meth : Method} {c : Code} {g : hj_G} {ad : Nat → Nat} (hI : hj_I 13 ad) (C : hj_C p s m args meth c cX6_first RX6 wsX6_first 6 (some .int)) (hK : hj_K g s) {τ : hj_Ob} {sd : Int64} {x1 : Int32} {rF : Int32} {τF : hj_Ob}
    (hf : fX6_first τ sd x1 = some (rF, τF)) {H : Heap} {locs : List Loc} {ls : Array Slot} (hP : hj_P g 13 ad (hj_wm g ad τ sd) H) (hS : hj_S 13 ad s H locs) (hl : lv_has ls 6 [(0, .ref (ad 0)), (1, .int x1)]) :
    W p l e rmX6_first s m args below meth c H locs 0 0 (MQ below (hj_QI g 13 ad (hj_wm g ad τF sd) rF s.heap.size) args s 0 0 (hj_A 13 ad s.heap.size)) (F0 m 0 ls []) := by
  obtain ⟨hx, hb, hr, hml, hown, hts, hlocks⟩ := id C
  unfold fX6_first at hf
  refine lv_iload_n hx hb dX6_first_0 rfl (lv_at hl 1 rfl) ?_
  refine lv_i2l (v := x1.toInt64) hx hb dX6_first_1 rfl ?_
  refine lv_lconst (v := 0) hx hb dX6_first_2 (by decide) ?_
  refine lv_ldc2 hx hb hown (hts _ mX6_first_1) dX6_first_3 ?_
  obtain ⟨r1, hc, hf⟩ := hj_o1_s hf
  refine hj_callSi (nL := 6) (As := [.long x1.toInt64, .long 0, .long 2]) (rest := []) ⟨hx, hb, hml, hown, hts⟩ (ctX6_in l g (n := 13) (ad := ad) (w := (hj_wm g ad τ sd)) hc) (va_cwS 3 hts gX6_first_X6_in rfl rfl rfl (by decide +kernel) ⟨Nat.le_of_ble_eq_true rfl, Nat.le_of_ble_eq_true rfl⟩) hj_Xb0 (fun _ _ _ => trivial) hK hP hS rfl hl.1 rfl (Nat.le_of_ble_eq_true rfl) dX6_first_6 (fun H locs hP hS => ?_)
  refine lv_if_ne (tgt := 15) hx hb dX6_first_9 (by decide) (fun c2 => ?_) (fun c2 => ?_)
  · rw [if_neg c2] at hf
    refine lv_iconst (v := 0) hx hb dX6_first_15 (by decide) ?_
    refine lv_istore_n (lv' := [(2, .int 0), (0, .ref (ad 0)), (1, .int x1)]) hx hb dX6_first_16 rfl hl (by decide) rfl (fun ls hl => ?_)
    refine lv_aload_n hx hb dX6_first_17 rfl (lv_at hl 1 rfl) ?_
    refine hj_get (ci := 6) (v := .ref (ad 3)) (C := RX6) (T := TX6) (N := 24) hx hb hts iX6_first_X6 hown hK hP (by decide) rfl rfl 4 (by decide) mX6_first_2 rfl dX6_first_18 ?_
    refine lv_iconst (v := 1) hx hb dX6_first_21 (by decide) ?_
    obtain ⟨hk3, hf⟩ := hj_ck_s hf
    refine hj_ial (f := τ.2 4) hx hb hK hP (by decide) rfl hk3 dX6_first_22 ?_
    refine lv_topi (fun y4 ey4 => ?_)
    replace hf := hj_nm_y hf ey4
    refine lv_istore_n (lv' := [(3, .int y4), (2, .int 0), (0, .ref (ad 0)), (1, .int x1)]) hx hb dX6_first_23 rfl hl (by decide) rfl (fun ls hl => ?_)
    refine lv_iconst (v := 0) hx hb dX6_first_24 (by decide) ?_
    refine lv_istore (lv' := [(4, .int 0), (3, .int y4), (2, .int 0), (0, .ref (ad 0)), (1, .int x1)]) hx hb dX6_first_25 hl (by decide) rfl (fun ls hl => ?_)
    refine lv_iconst (v := 0) hx hb dX6_first_27 (by decide) ?_
    refine lv_istore (lv' := [(5, .int 0), (4, .int 0), (3, .int y4), (2, .int 0), (0, .ref (ad 0)), (1, .int x1)]) hx hb dX6_first_28 hl (by decide) rfl (fun ls hl => ?_)
    obtain ⟨e17, e18, e19, τ20, hlx, hf⟩ := hj_o4_s hf
    refine wX6_first_30 hI C hK  100 0 y4 0 0 τ hlx (fun H locs ls hP hS hl => ?_) H locs ls hP hS (lv_sub hl [4, 5, 3, 2, 1, 0] rfl)
    refine lv_iload_n hx hb dX6_first_81 rfl (lv_at hl 1 rfl) ?_
    refine lv_if_ne (tgt := 89) hx hb dX6_first_82 (by decide) (fun c21 => ?_) (fun c21 => ?_)
    · rw [if_neg c21] at hf
      refine lv_iload_n hx hb dX6_first_89 rfl (lv_at hl 2 rfl) ?_
      refine lv_if_ne (tgt := 98) hx hb dX6_first_90 (by decide) (fun c22 => ?_) (fun c22 => ?_)
      · rw [if_neg c22] at hf
        refine lv_iload_n hx hb dX6_first_98 rfl (lv_at hl 1 rfl) ?_
        refine lv_iconst (v := 1) hx hb dX6_first_99 (by decide) ?_
        refine lv_icmp_ne (tgt := 107) hx hb dX6_first_100 (by decide) (fun c23 => ?_) (fun c23 => ?_)
        · rw [if_neg c23] at hf
          refine lv_aload_n hx hb dX6_first_107 rfl (lv_at hl 0 rfl) ?_
          refine hj_get (ci := 6) (v := .ref (ad 3)) (C := RX6) (T := TX6) (N := 24) hx hb hts iX6_first_X6 hown hK hP (by decide) rfl rfl 4 (by decide) mX6_first_2 rfl dX6_first_108 ?_
          refine lv_iconst (v := 1) hx hb dX6_first_111 (by decide) ?_
          obtain ⟨hk24, hf⟩ := hj_ck_s hf
          refine hj_ial (f := τ20.2 4) hx hb hK hP (by decide) rfl hk24 dX6_first_112 ?_
          refine lv_iload hx hb dX6_first_113 (lv_at hl 4 rfl) ?_
          refine lv_iconst (v := (-1)) hx hb dX6_first_115 (by decide) ?_
          refine lv_ixor hx hb dX6_first_116 ?_
          refine lv_iand hx hb dX6_first_117 ?_
          have hq := Option.some.inj hf
          obtain ⟨rfl, rfl⟩ := Prod.mk.inj hq
          exact hj_reti C hP hK hS dX6_first_118
        · rw [if_pos c23] at hf
          refine lv_iload_n hx hb dX6_first_103 rfl (lv_at hl 3 rfl) ?_
          refine lv_goto (tgt := 118) hx hb dX6_first_104 (by decide) ?_
          have hq := Option.some.inj hf
          obtain ⟨rfl, rfl⟩ := Prod.mk.inj hq
          exact hj_reti C hP hK hS dX6_first_118
      · rw [if_pos c22] at hf
        refine lv_bipush (v := (-9)) hx hb dX6_first_93 (by decide) ?_
        refine lv_goto (tgt := 118) hx hb dX6_first_95 (by decide) ?_
        have hq := Option.some.inj hf
        obtain ⟨rfl, rfl⟩ := Prod.mk.inj hq
        exact hj_reti C hP hK hS dX6_first_118
    · rw [if_pos c21] at hf
      refine lv_iload_n hx hb dX6_first_85 rfl (lv_at hl 2 rfl) ?_
      refine lv_goto (tgt := 118) hx hb dX6_first_86 (by decide) ?_
      have hq := Option.some.inj hf
      obtain ⟨rfl, rfl⟩ := Prod.mk.inj hq
      exact hj_reti C hP hK hS dX6_first_118
  · rw [if_pos c2] at hf
    refine lv_bipush (v := (-2)) hx hb dX6_first_12 (by decide) ?_
    have hq := Option.some.inj hf
    obtain ⟨rfl, rfl⟩ := Prod.mk.inj hq
    exact hj_reti C hP hK hS dX6_first_14
set_option maxHeartbeats 4000000 in
set_option maxRecDepth 100000 in
theorem ctX6_first (l : Launch) (g : hj_G) {ad : Nat → Nat} (hI : hj_I 13 ad) {τ : hj_Ob} {sd : Int64} {x1 : Int32} {rF : Int32} {τF : hj_Ob} (hf : fX6_first τ sd x1 = some (rF, τF)) :
    hj_MI l yX6_first wsX6_first rmX6_first g 13 ad hj_X0 [.ref (ad 0), .int x1] (hj_wm g ad τ sd) rF (hj_wm g ad τF sd) := by
  refine hj_ofI (cc := cX6_first) (maxL := 6) (ret := (some .int)) (by decide) rfl (Nat.le_of_ble_eq_true rfl) ?_
  intro p e s m args below meth c ls C hP hK hX hl
  exact wX6_first hI C hK hf hP va_S.rf hl

/-! X6_factorial -/
abbrev rmX6_factorial : Room := { frames := 0, cells := 0, slots := 0, locals := 0 }
def fX6_factorial_4 (x0 : Int32) (x1 : Int32) (x2 : Int32) : Option (Int32 ⊕ (Int32 × Int32)) :=
  if x0 < x2 then (some (.inl x1)) else (hj_nm (x1 * x2) fun y2 => hj_nm (x2 + 1) fun y3 => some (.inr (y2, y3)))
set_option maxHeartbeats 4000000 in
set_option maxRecDepth 100000 in
theorem wX6_factorial_4b {p : Program} {l : Launch} {e : Env} {s : State} {m : MethodId} {args : Array Value} {below : List Frame} {meth : Method} {c : Code} {g : hj_G} {ad : Nat → Nat} {n : Nat} {w : Nat → va_E} (C : hj_C p s m args meth c cX6_factorial RX6 wsX6_factorial 3 (some .int)) (hK : hj_K g s) {x0 : Int32} {x1 : Int32} {x2 : Int32} {y : Int32 ⊕ (Int32 × Int32)} {rF : Int32}
    (hf : fX6_factorial_4 x0 x1 x2 = some y) (KX : ∀ (v1 : Int32), y = .inl v1 → ∀ (H : Heap) (locs : List Loc) (ls : Array Slot), hj_P g n ad w H → hj_S n ad s H locs → lv_has ls 3 [(1, .int v1)] → W p l e rmX6_factorial s m args below meth c H locs 0 0 (MQ below (hj_QI g n ad w rF s.heap.size) args s 0 0 (hj_A n ad s.heap.size)) (F0 m 19 ls [])) (KI : ∀ (v1 : Int32) (v2 : Int32), y = .inr (v1, v2) → ∀ (H : Heap) (locs : List Loc) (ls : Array Slot), hj_P g n ad w H → hj_S n ad s H locs → lv_has ls 3 [(0, .int x0), (1, .int v1), (2, .int v2)] → W p l e rmX6_factorial s m args below meth c H locs 0 0 (MQ below (hj_QI g n ad w rF s.heap.size) args s 0 0 (hj_A n ad s.heap.size)) (F0 m 4 ls [])) {H : Heap} {locs : List Loc} {ls : Array Slot} (hP : hj_P g n ad w H) (hS : hj_S n ad s H locs) (hl : lv_has ls 3 [(0, .int x0), (1, .int x1), (2, .int x2)]) :
    W p l e rmX6_factorial s m args below meth c H locs 0 0 (MQ below (hj_QI g n ad w rF s.heap.size) args s 0 0 (hj_A n ad s.heap.size)) (F0 m 4 ls []) := by
  obtain ⟨hx, hb, hr, hml, hown, hts, hlocks⟩ := id C
  unfold fX6_factorial_4 at hf
  refine lv_iload_n hx hb dX6_factorial_4 rfl (lv_at hl 2 rfl) ?_
  refine lv_iload_n hx hb dX6_factorial_5 rfl (lv_at hl 0 rfl) ?_
  refine lv_icmp_gt (tgt := 19) hx hb dX6_factorial_6 (by decide) (fun c1 => ?_) (fun c1 => ?_)
  · rw [if_pos c1] at hf
    exact KX _ (Option.some.inj hf).symm _ _ _ hP hS (lv_sub hl [1] rfl)
  · rw [if_neg c1] at hf
    refine lv_iload_n hx hb dX6_factorial_9 rfl (lv_at hl 1 rfl) ?_
    refine lv_iload_n hx hb dX6_factorial_10 rfl (lv_at hl 2 rfl) ?_
    refine lv_imul hx hb dX6_factorial_11 ?_
    refine lv_topi (fun y2 ey2 => ?_)
    replace hf := hj_nm_y hf ey2
    refine lv_istore_n (lv' := [(1, .int y2), (0, .int x0), (2, .int x2)]) hx hb dX6_factorial_12 rfl hl (by decide) rfl (fun ls hl => ?_)
    obtain ⟨y3, ey3⟩ : ∃ z : Int32, z = x2 + 1 := ⟨_, rfl⟩
    replace hf := hj_nm_y hf ey3
    refine lv_iinc (v := y3) (lv' := [(2, .int y3), (1, .int y2), (0, .int x0)]) hx hb dX6_factorial_13 hl (k := 2) rfl (by rw [ey3]; rfl) (by decide) rfl (fun ls hl => ?_)
    refine lv_goto (tgt := 4) hx hb dX6_factorial_16 (by decide) ?_
    exact KI _ _ (Option.some.inj hf).symm _ _ _ hP hS (lv_sub hl [2, 1, 0] rfl)
set_option maxHeartbeats 4000000 in
set_option maxRecDepth 100000 in
theorem wX6_factorial_4 {p : Program} {l : Launch} {e : Env} {s : State} {m : MethodId} {args : Array Value} {below : List Frame} {meth : Method} {c : Code} {g : hj_G} {ad : Nat → Nat} {n : Nat} {w : Nat → va_E} (C : hj_C p s m args meth c cX6_factorial RX6 wsX6_factorial 3 (some .int)) (hK : hj_K g s) {x0 : Int32} {rF : Int32} {e1 : Int32} :
    ∀ (fu : Nat) (x1 : Int32) (x2 : Int32), hj_lp (fun q : (Int32 × Int32) => fX6_factorial_4 x0 q.1 q.2) fu (x1, x2) = some e1 → (∀ (H : Heap) (locs : List Loc) (ls : Array Slot), hj_P g n ad w H → hj_S n ad s H locs → lv_has ls 3 [(1, .int e1)] → W p l e rmX6_factorial s m args below meth c H locs 0 0 (MQ below (hj_QI g n ad w rF s.heap.size) args s 0 0 (hj_A n ad s.heap.size)) (F0 m 19 ls [])) → ∀ (H : Heap) (locs : List Loc) (ls : Array Slot), hj_P g n ad w H → hj_S n ad s H locs → lv_has ls 3 [(0, .int x0), (1, .int x1), (2, .int x2)] →
    W p l e rmX6_factorial s m args below meth c H locs 0 0 (MQ below (hj_QI g n ad w rF s.heap.size) args s 0 0 (hj_A n ad s.heap.size)) (F0 m 4 ls []) := by
  intro fu
  induction fu with
  | zero => intro x1 x2 hq; cases hq
  | succ fu ih =>
    intro x1 x2 hq KX H locs ls hP hS hl
    obtain ⟨y, hy, h1, h2⟩ := hj_lp_s hq
    exact wX6_factorial_4b C hK  hy (fun v1 hv H locs ls hP hS hl => by obtain rfl := h1 _ hv; exact KX H locs ls hP hS hl) (fun v1 v2 hv H locs ls hP hS hl => ih v1 v2 (h2 _ hv) KX H locs ls hP hS hl) hP hS hl
def fX6_factorial (x0 : Int32) : Option Int32 :=
  hj_o1 (hj_lp (fun q : (Int32 × Int32) => fX6_factorial_4 x0 q.1 q.2) 100 (1, 2)) fun e4 => (some e4)
set_option maxHeartbeats 4000000 in
set_option maxRecDepth 100000 in
theorem wX6_factorial {p : Program} {l : Launch} {e : Env} {s : State} {m : MethodId} {args : Array Value} {below : List Frame} {meth : Method} {c : Code} {g : hj_G} {ad : Nat → Nat} {n : Nat} {w : Nat → va_E} (C : hj_C p s m args meth c cX6_factorial RX6 wsX6_factorial 3 (some .int)) (hK : hj_K g s) {x0 : Int32} {rF : Int32}
    (hf : fX6_factorial x0 = some rF) {H : Heap} {locs : List Loc} {ls : Array Slot} (hP : hj_P g n ad w H) (hS : hj_S n ad s H locs) (hl : lv_has ls 3 [(0, .int x0)]) :
    W p l e rmX6_factorial s m args below meth c H locs 0 0 (MQ below (hj_QI g n ad w rF s.heap.size) args s 0 0 (hj_A n ad s.heap.size)) (F0 m 0 ls []) := by
  obtain ⟨hx, hb, hr, hml, hown, hts, hlocks⟩ := id C
  unfold fX6_factorial at hf
  refine lv_iconst (v := 1) hx hb dX6_factorial_0 (by decide) ?_
  refine lv_istore_n (lv' := [(1, .int 1), (0, .int x0)]) hx hb dX6_factorial_1 rfl hl (by decide) rfl (fun ls hl => ?_)
  refine lv_iconst (v := 2) hx hb dX6_factorial_2 (by decide) ?_
  refine lv_istore_n (lv' := [(2, .int 2), (1, .int 1), (0, .int x0)]) hx hb dX6_factorial_3 rfl hl (by decide) rfl (fun ls hl => ?_)
  obtain ⟨e4, hlx, hf⟩ := hj_o1_s hf
  refine wX6_factorial_4 C hK  100 1 2 hlx (fun H locs ls hP hS hl => ?_) H locs ls hP hS (lv_sub hl [2, 1, 0] rfl)
  refine lv_iload_n hx hb dX6_factorial_19 rfl (lv_at hl 0 rfl) ?_
  have hq := Option.some.inj hf
  obtain rfl := hq
  exact hj_reti C hP hK hS dX6_factorial_20
set_option maxHeartbeats 4000000 in
set_option maxRecDepth 100000 in
theorem ctX6_factorial (l : Launch) (g : hj_G) {ad : Nat → Nat} {n : Nat} {w : Nat → va_E} {x0 : Int32} {rF : Int32} (hf : fX6_factorial x0 = some rF) :
    hj_MI l yX6_factorial wsX6_factorial rmX6_factorial g n ad hj_X0 [.int x0] w rF w := by
  refine hj_ofI (cc := cX6_factorial) (maxL := 3) (ret := (some .int)) (by decide) rfl (Nat.le_of_ble_eq_true rfl) ?_
  intro p e s m args below meth c ls C hP hK hX hl
  exact wX6_factorial C hK hf hP va_S.rf hl

/-! X6_common -/
abbrev rmX6_common : Room := { frames := 0, cells := 0, slots := 0, locals := 0 }
def fX6_common_13 (x2 : Int32) (x3 : Int32) : Option (Int32 ⊕ (Int32 × Int32)) :=
  if x3 = 0 then (some (.inl x2)) else (hj_nz x3 (hj_nm (x2 - x2 / x3 * x3) fun y4 => some (.inr (x3, y4))))
set_option maxHeartbeats 4000000 in
set_option maxRecDepth 100000 in
theorem wX6_common_13b {p : Program} {l : Launch} {e : Env} {s : State} {m : MethodId} {args : Array Value} {below : List Frame} {meth : Method} {c : Code} {g : hj_G} {ad : Nat → Nat} {n : Nat} {w : Nat → va_E} (C : hj_C p s m args meth c cX6_common RX6 wsX6_common 5 (some .int)) (hK : hj_K g s) {x2 : Int32} {x3 : Int32} {y : Int32 ⊕ (Int32 × Int32)} {rF : Int32}
    (hf : fX6_common_13 x2 x3 = some y) (KX : ∀ (v2 : Int32), y = .inl v2 → ∀ (H : Heap) (locs : List Loc) (ls : Array Slot), hj_P g n ad w H → hj_S n ad s H locs → lv_has ls 5 [(2, .int v2)] → W p l e rmX6_common s m args below meth c H locs 0 0 (MQ below (hj_QI g n ad w rF s.heap.size) args s 0 0 (hj_A n ad s.heap.size)) (F0 m 30 ls [])) (KI : ∀ (v2 : Int32) (v3 : Int32), y = .inr (v2, v3) → ∀ (H : Heap) (locs : List Loc) (ls : Array Slot), hj_P g n ad w H → hj_S n ad s H locs → lv_has ls 5 [(2, .int v2), (3, .int v3)] → W p l e rmX6_common s m args below meth c H locs 0 0 (MQ below (hj_QI g n ad w rF s.heap.size) args s 0 0 (hj_A n ad s.heap.size)) (F0 m 13 ls [])) {H : Heap} {locs : List Loc} {ls : Array Slot} (hP : hj_P g n ad w H) (hS : hj_S n ad s H locs) (hl : lv_has ls 5 [(2, .int x2), (3, .int x3)]) :
    W p l e rmX6_common s m args below meth c H locs 0 0 (MQ below (hj_QI g n ad w rF s.heap.size) args s 0 0 (hj_A n ad s.heap.size)) (F0 m 13 ls []) := by
  obtain ⟨hx, hb, hr, hml, hown, hts, hlocks⟩ := id C
  unfold fX6_common_13 at hf
  refine lv_iload_n hx hb dX6_common_13 rfl (lv_at hl 1 rfl) ?_
  refine lv_if_eq (tgt := 30) hx hb dX6_common_14 (by decide) (fun c2 => ?_) (fun c2 => ?_)
  · rw [if_pos c2] at hf
    exact KX _ (Option.some.inj hf).symm _ _ _ hP hS (lv_sub hl [0] rfl)
  · rw [if_neg c2] at hf
    refine lv_iload_n hx hb dX6_common_17 rfl (lv_at hl 0 rfl) ?_
    refine lv_iload_n hx hb dX6_common_18 rfl (lv_at hl 1 rfl) ?_
    obtain ⟨hz3, hf⟩ := hj_nz_s hf
    refine lv_irem hx hb dX6_common_19 hz3 ?_
    refine lv_topi (fun y4 ey4 => ?_)
    replace hf := hj_nm_y hf ey4
    refine lv_istore (lv' := [(4, .int y4), (2, .int x2), (3, .int x3)]) hx hb dX6_common_20 hl (by decide) rfl (fun ls hl => ?_)
    refine lv_iload_n hx hb dX6_common_22 rfl (lv_at hl 2 rfl) ?_
    refine lv_istore_n (lv' := [(2, .int x3), (4, .int y4), (3, .int x3)]) hx hb dX6_common_23 rfl hl (by decide) rfl (fun ls hl => ?_)
    refine lv_iload hx hb dX6_common_24 (lv_at hl 1 rfl) ?_
    refine lv_istore_n (lv' := [(3, .int y4), (2, .int x3), (4, .int y4)]) hx hb dX6_common_26 rfl hl (by decide) rfl (fun ls hl => ?_)
    refine lv_goto (tgt := 13) hx hb dX6_common_27 (by decide) ?_
    exact KI _ _ (Option.some.inj hf).symm _ _ _ hP hS (lv_sub hl [1, 0] rfl)
set_option maxHeartbeats 4000000 in
set_option maxRecDepth 100000 in
theorem wX6_common_13 {p : Program} {l : Launch} {e : Env} {s : State} {m : MethodId} {args : Array Value} {below : List Frame} {meth : Method} {c : Code} {g : hj_G} {ad : Nat → Nat} {n : Nat} {w : Nat → va_E} (C : hj_C p s m args meth c cX6_common RX6 wsX6_common 5 (some .int)) (hK : hj_K g s) {rF : Int32} {e2 : Int32} :
    ∀ (fu : Nat) (x2 : Int32) (x3 : Int32), hj_lp (fun q : (Int32 × Int32) => fX6_common_13 q.1 q.2) fu (x2, x3) = some e2 → (∀ (H : Heap) (locs : List Loc) (ls : Array Slot), hj_P g n ad w H → hj_S n ad s H locs → lv_has ls 5 [(2, .int e2)] → W p l e rmX6_common s m args below meth c H locs 0 0 (MQ below (hj_QI g n ad w rF s.heap.size) args s 0 0 (hj_A n ad s.heap.size)) (F0 m 30 ls [])) → ∀ (H : Heap) (locs : List Loc) (ls : Array Slot), hj_P g n ad w H → hj_S n ad s H locs → lv_has ls 5 [(2, .int x2), (3, .int x3)] →
    W p l e rmX6_common s m args below meth c H locs 0 0 (MQ below (hj_QI g n ad w rF s.heap.size) args s 0 0 (hj_A n ad s.heap.size)) (F0 m 13 ls []) := by
  intro fu
  induction fu with
  | zero => intro x2 x3 hq; cases hq
  | succ fu ih =>
    intro x2 x3 hq KX H locs ls hP hS hl
    obtain ⟨y, hy, h1, h2⟩ := hj_lp_s hq
    exact wX6_common_13b C hK  hy (fun v2 hv H locs ls hP hS hl => by obtain rfl := h1 _ hv; exact KX H locs ls hP hS hl) (fun v2 v3 hv H locs ls hP hS hl => ih v2 v3 (h2 _ hv) KX H locs ls hP hS hl) hP hS hl
def fX6_common (x0 : Int32) (x1 : Int32) : Option Int32 :=
  if 0 ≤ x0 then (hj_o1 (hj_lp (fun q : (Int32 × Int32) => fX6_common_13 q.1 q.2) 100 (x0, x1)) fun e5 => (some e5)) else (hj_nm (-x0) fun y6 => hj_o1 (hj_lp (fun q : (Int32 × Int32) => fX6_common_13 q.1 q.2) 100 (y6, x1)) fun e7 => (some e7))
set_option maxHeartbeats 4000000 in
set_option maxRecDepth 100000 in
theorem wX6_common {p : Program} {l : Launch} {e : Env} {s : State} {m : MethodId} {args : Array Value} {below : List Frame} {meth : Method} {c : Code} {g : hj_G} {ad : Nat → Nat} {n : Nat} {w : Nat → va_E} (C : hj_C p s m args meth c cX6_common RX6 wsX6_common 5 (some .int)) (hK : hj_K g s) {x0 : Int32} {x1 : Int32} {rF : Int32}
    (hf : fX6_common x0 x1 = some rF) {H : Heap} {locs : List Loc} {ls : Array Slot} (hP : hj_P g n ad w H) (hS : hj_S n ad s H locs) (hl : lv_has ls 5 [(0, .int x0), (1, .int x1)]) :
    W p l e rmX6_common s m args below meth c H locs 0 0 (MQ below (hj_QI g n ad w rF s.heap.size) args s 0 0 (hj_A n ad s.heap.size)) (F0 m 0 ls []) := by
  obtain ⟨hx, hb, hr, hml, hown, hts, hlocks⟩ := id C
  unfold fX6_common at hf
  refine lv_iload_n hx hb dX6_common_0 rfl (lv_at hl 0 rfl) ?_
  refine lv_if_ge (tgt := 9) hx hb dX6_common_1 (by decide) (fun c1 => ?_) (fun c1 => ?_)
  · rw [if_pos c1] at hf
    refine lv_iload_n hx hb dX6_common_9 rfl (lv_at hl 0 rfl) ?_
    refine lv_istore_n (lv' := [(2, .int x0), (0, .int x0), (1, .int x1)]) hx hb dX6_common_10 rfl hl (by decide) rfl (fun ls hl => ?_)
    refine lv_iload_n hx hb dX6_common_11 rfl (lv_at hl 2 rfl) ?_
    refine lv_istore_n (lv' := [(3, .int x1), (2, .int x0), (0, .int x0), (1, .int x1)]) hx hb dX6_common_12 rfl hl (by decide) rfl (fun ls hl => ?_)
    obtain ⟨e5, hlx, hf⟩ := hj_o1_s hf
    refine wX6_common_13 C hK  100 x0 x1 hlx (fun H locs ls hP hS hl => ?_) H locs ls hP hS (lv_sub hl [1, 0] rfl)
    refine lv_iload_n hx hb dX6_common_30 rfl (lv_at hl 0 rfl) ?_
    have hq := Option.some.inj hf
    obtain rfl := hq
    exact hj_reti C hP hK hS dX6_common_31
  · rw [if_neg c1] at hf
    refine lv_iload_n hx hb dX6_common_4 rfl (lv_at hl 0 rfl) ?_
    refine lv_ineg hx hb dX6_common_5 ?_
    refine lv_goto (tgt := 10) hx hb dX6_common_6 (by decide) ?_
    refine lv_topi (fun y6 ey6 => ?_)
    replace hf := hj_nm_y hf ey6
    refine lv_istore_n (lv' := [(2, .int y6), (0, .int x0), (1, .int x1)]) hx hb dX6_common_10 rfl hl (by decide) rfl (fun ls hl => ?_)
    refine lv_iload_n hx hb dX6_common_11 rfl (lv_at hl 2 rfl) ?_
    refine lv_istore_n (lv' := [(3, .int x1), (2, .int y6), (0, .int x0), (1, .int x1)]) hx hb dX6_common_12 rfl hl (by decide) rfl (fun ls hl => ?_)
    obtain ⟨e7, hlx, hf⟩ := hj_o1_s hf
    refine wX6_common_13 C hK  100 y6 x1 hlx (fun H locs ls hP hS hl => ?_) H locs ls hP hS (lv_sub hl [1, 0] rfl)
    refine lv_iload_n hx hb dX6_common_30 rfl (lv_at hl 0 rfl) ?_
    have hq := Option.some.inj hf
    obtain rfl := hq
    exact hj_reti C hP hK hS dX6_common_31
set_option maxHeartbeats 4000000 in
set_option maxRecDepth 100000 in
theorem ctX6_common (l : Launch) (g : hj_G) {ad : Nat → Nat} {n : Nat} {w : Nat → va_E} {x0 : Int32} {x1 : Int32} {rF : Int32} (hf : fX6_common x0 x1 = some rF) :
    hj_MI l yX6_common wsX6_common rmX6_common g n ad hj_X0 [.int x0, .int x1] w rF w := by
  refine hj_ofI (cc := cX6_common) (maxL := 5) (ret := (some .int)) (by decide) rfl (Nat.le_of_ble_eq_true rfl) ?_
  intro p e s m args below meth c ls C hP hK hX hl
  exact wX6_common C hK hf hP va_S.rf hl
