/-! X6_endOf -/
abbrev rmX6_endOf : Room := { frames := 4, cells := 0, slots := 0, locals := 96 }
def fX6_endOf (τ : hj_Ob) (sd : Int64) (x1 : Int32) : Option (Int32 × hj_Ob) :=
  hj_o1 (fX6_layYes τ sd x1) fun τ1 => hj_o2 (fX6_runTrial τ1 sd) fun r2 τ3 => some (r2, τ3)
set_option maxHeartbeats 4000000 in
set_option maxRecDepth 100000 in
theorem wX6_endOf {p : Program} {l : Launch} {e : Env} {s : State} {m : MethodId} {args : Array Value} {below : List Frame} {meth : Method} {c : Code} {g : hj_G} {ad : Nat → Nat} (hI : hj_I 13 ad) (C : hj_C p s m args meth c cX6_endOf RX6 wsX6_endOf 2 (some .int)) (hK : hj_K g s) {τ : hj_Ob} {sd : Int64} {x1 : Int32} {rF : Int32} {τF : hj_Ob}
    (hf : fX6_endOf τ sd x1 = some (rF, τF)) {H : Heap} {locs : List Loc} {ls : Array Slot} (hP : hj_P g 13 ad (hj_wm g ad τ sd) H) (hS : hj_S 13 ad s H locs) (hl : lv_has ls 2 [(0, .ref (ad 0)), (1, .int x1)]) :
    W p l e rmX6_endOf s m args below meth c H locs 0 0 (MQ below (hj_QI g 13 ad (hj_wm g ad τF sd) rF s.heap.size) args s 0 0 (hj_A 13 ad s.heap.size)) (F0 m 0 ls []) := by
  obtain ⟨hx, hb, hr, hml, hown, hts, hlocks⟩ := id C
  unfold fX6_endOf at hf
  refine lv_aload_n hx hb dX6_endOf_0 rfl (lv_at hl 0 rfl) ?_
  refine lv_iload_n hx hb dX6_endOf_1 rfl (lv_at hl 1 rfl) ?_
  obtain ⟨τ1, hc, hf⟩ := hj_o1_s hf
  refine hj_callVv (nL := 2) (As := [.int x1]) (rest := []) (i0 := 0) (C := RX6) (T := TX6) (N := 24) (ci := 6) ⟨hx, hb, hml, hown, hts⟩ (ctX6_layYes l g hI hc) (cwV 1 hts gX6_endOf_X6_layYes rfl rfl rfl (by decide +kernel) ⟨Nat.le_of_ble_eq_true rfl, Nat.le_of_ble_eq_true rfl⟩) hj_Xb0 (fun _ _ _ => trivial) hK hP hS (by decide) rfl rfl rfl hl.1 rfl (Nat.le_of_ble_eq_true rfl) dX6_endOf_2 (fun H locs hP hS => ?_)
  refine lv_aload_n hx hb dX6_endOf_5 rfl (lv_at hl 0 rfl) ?_
  obtain ⟨r2, τ3, hc, hf⟩ := hj_o2_s hf
  refine hj_callVi (nL := 2) (As := []) (rest := []) (i0 := 0) (C := RX6) (T := TX6) (N := 24) (ci := 6) ⟨hx, hb, hml, hown, hts⟩ (ctX6_runTrial l g hI hc) (cwV 0 hts gX6_endOf_X6_runTrial rfl rfl rfl (by decide +kernel) ⟨Nat.le_of_ble_eq_true rfl, Nat.le_of_ble_eq_true rfl⟩) hj_Xb0 (fun _ _ _ => trivial) hK hP hS (by decide) rfl rfl rfl hl.1 rfl (Nat.le_of_ble_eq_true rfl) dX6_endOf_6 (fun H locs hP hS => ?_)
  have hq := Option.some.inj hf
  obtain ⟨rfl, rfl⟩ := Prod.mk.inj hq
  exact hj_reti C hP hK hS dX6_endOf_9
set_option maxHeartbeats 4000000 in
set_option maxRecDepth 100000 in
theorem ctX6_endOf (l : Launch) (g : hj_G) {ad : Nat → Nat} (hI : hj_I 13 ad) {τ : hj_Ob} {sd : Int64} {x1 : Int32} {rF : Int32} {τF : hj_Ob} (hf : fX6_endOf τ sd x1 = some (rF, τF)) :
    hj_MI l yX6_endOf wsX6_endOf rmX6_endOf g 13 ad hj_X0 [.ref (ad 0), .int x1] (hj_wm g ad τ sd) rF (hj_wm g ad τF sd) := by
  refine hj_ofI (cc := cX6_endOf) (maxL := 2) (ret := (some .int)) (by decide) rfl (Nat.le_of_ble_eq_true rfl) ?_
  intro p e s m args below meth c ls C hP hK hX hl
  exact wX6_endOf hI C hK hf hP va_S.rf hl

/-! X6_share -/
abbrev rmX6_share : Room := { frames := 5, cells := 0, slots := 0, locals := 117 }
theorem iX6_share_X6 : ∀ w ∈ wsX60, w ∈ wsX6_share := fun _ h => List.mem_cons_of_mem _ (List.mem_append_right _ h)
theorem mX6_share_1 : Cond.fieldLink RX6 16 "HungryJuryModel" "now" "[I" ∈ wsX6_share := List.mem_of_getElem? (i := 1) rfl
def fX6_share_115 (τ : hj_Ob) (sd : Int64) (x1 : Int32) (x2 : Int32) (x3 : Int32) (x5 : Int32) (z0 : Int32) (z1 : Int32) (z2 : Int32) : Option ((Int32 × hj_Ob) ⊕ (Int32 × Int32 × hj_Ob)) :=
  hj_o2 (fX6_endOf τ sd x5) fun r22 τ23 => if r22 = 1 then (hj_nm (z2 + (z1 * (z0 - 1))) fun y27 => hj_nm (x5 + 1) fun y28 => some (.inr (y27, y28, τ23))) else (hj_nm (z2 + (z1 * (z0 - 0))) fun y25 => hj_nm (x5 + 1) fun y26 => some (.inr (y25, y26, τ23)))
set_option maxHeartbeats 4000000 in
set_option maxRecDepth 100000 in
theorem wX6_share_115 {p : Program} {l : Launch} {e : Env} {s : State} {m : MethodId} {args : Array Value} {below : List Frame} {meth : Method} {c : Code} {g : hj_G} {ad : Nat → Nat} (hI : hj_I 13 ad) (C : hj_C p s m args meth c cX6_share RX6 wsX6_share 7 (some .int)) (hK : hj_K g s) {τ : hj_Ob} {sd : Int64} {x1 : Int32} {x2 : Int32} {x3 : Int32} {x5 : Int32} {z0 : Int32} {z1 : Int32} {z2 : Int32} {y : (Int32 × hj_Ob) ⊕ (Int32 × Int32 × hj_Ob)} {rF : Int32} {τF : hj_Ob}
    (hf : fX6_share_115 τ sd x1 x2 x3 x5 z0 z1 z2 = some y) (KX : ∀ (v4 : Int32) (τ' : hj_Ob), y = .inl (v4, τ') → ∀ (H : Heap) (locs : List Loc) (ls : Array Slot), hj_P g 13 ad (hj_wm g ad τ' sd) H → hj_S 13 ad s H locs → lv_has ls 7 [(2, .int x2), (3, .int x3), (4, .int v4)] → W p l e rmX6_share s m args below meth c H locs 0 0 (MQ below (hj_QI g 13 ad (hj_wm g ad τF sd) rF s.heap.size) args s 0 0 (hj_A 13 ad s.heap.size)) (F0 m 141 ls [])) (KI : ∀ (v4 : Int32) (v5 : Int32) (τ' : hj_Ob), y = .inr (v4, v5, τ') → ∀ (H : Heap) (locs : List Loc) (ls : Array Slot), hj_P g 13 ad (hj_wm g ad τ' sd) H → hj_S 13 ad s H locs → lv_has ls 7 [(0, .ref (ad 0)), (1, .int x1), (2, .int x2), (3, .int x3), (4, .int v4), (5, .int v5)] → W p l e rmX6_share s m args below meth c H locs 0 0 (MQ below (hj_QI g 13 ad (hj_wm g ad τF sd) rF s.heap.size) args s 0 0 (hj_A 13 ad s.heap.size)) (F0 m 42 ls [])) {H : Heap} {locs : List Loc} {ls : Array Slot} (hP : hj_P g 13 ad (hj_wm g ad τ sd) H) (hS : hj_S 13 ad s H locs) (hl : lv_has ls 7 [(0, .ref (ad 0)), (1, .int x1), (2, .int x2), (3, .int x3), (5, .int x5)]) :
    W p l e rmX6_share s m args below meth c H locs 0 0 (MQ below (hj_QI g 13 ad (hj_wm g ad τF sd) rF s.heap.size) args s 0 0 (hj_A 13 ad s.heap.size)) (F0 m 115 ls [.int z0, .int z1, .int z2]) := by
  obtain ⟨hx, hb, hr, hml, hown, hts, hlocks⟩ := id C
  unfold fX6_share_115 at hf
  refine lv_aload_n hx hb dX6_share_115 rfl (lv_at hl 0 rfl) ?_
  refine lv_iload hx hb dX6_share_116 (lv_at hl 4 rfl) ?_
  obtain ⟨r22, τ23, hc, hf⟩ := hj_o2_s hf
  refine hj_callVi (nL := 7) (As := [.int x5]) (rest := [.int z0, .int z1, .int z2]) (i0 := 0) (C := RX6) (T := TX6) (N := 24) (ci := 6) ⟨hx, hb, hml, hown, hts⟩ (ctX6_endOf l g hI hc) (cwV 1 hts gX6_share_X6_endOf rfl rfl rfl (by decide +kernel) ⟨Nat.le_of_ble_eq_true rfl, Nat.le_of_ble_eq_true rfl⟩) hj_Xb0 (fun _ _ _ => trivial) hK hP hS (by decide) rfl rfl rfl hl.1 rfl (Nat.le_of_ble_eq_true rfl) dX6_share_118 (fun H locs hP hS => ?_)
  refine lv_iconst (v := 1) hx hb dX6_share_121 (by decide) ?_
  refine lv_icmp_ne (tgt := 129) hx hb dX6_share_122 (by decide) (fun c24 => ?_) (fun c24 => ?_)
  · rw [if_neg c24] at hf
    refine lv_iconst (v := 0) hx hb dX6_share_129 (by decide) ?_
    refine lv_isub hx hb dX6_share_130 ?_
    refine lv_imul hx hb dX6_share_131 ?_
    refine lv_iadd hx hb dX6_share_132 ?_
    refine lv_topi (fun y25 ey25 => ?_)
    replace hf := hj_nm_y hf ey25
    refine lv_istore (lv' := [(4, .int y25), (0, .ref (ad 0)), (1, .int x1), (2, .int x2), (3, .int x3), (5, .int x5)]) hx hb dX6_share_133 hl (by decide) rfl (fun ls hl => ?_)
    obtain ⟨y26, ey26⟩ : ∃ z : Int32, z = x5 + 1 := ⟨_, rfl⟩
    replace hf := hj_nm_y hf ey26
    refine lv_iinc (v := y26) (lv' := [(5, .int y26), (4, .int y25), (0, .ref (ad 0)), (1, .int x1), (2, .int x2), (3, .int x3)]) hx hb dX6_share_135 hl (k := 5) rfl (by rw [ey26]; rfl) (by decide) rfl (fun ls hl => ?_)
    refine lv_goto (tgt := 42) hx hb dX6_share_138 (by decide) ?_
    exact KI _ _ _ (Option.some.inj hf).symm _ _ _ hP hS (lv_sub hl [2, 3, 4, 5, 1, 0] rfl)
  · rw [if_pos c24] at hf
    refine lv_iconst (v := 1) hx hb dX6_share_125 (by decide) ?_
    refine lv_goto (tgt := 130) hx hb dX6_share_126 (by decide) ?_
    refine lv_isub hx hb dX6_share_130 ?_
    refine lv_imul hx hb dX6_share_131 ?_
    refine lv_iadd hx hb dX6_share_132 ?_
    refine lv_topi (fun y27 ey27 => ?_)
    replace hf := hj_nm_y hf ey27
    refine lv_istore (lv' := [(4, .int y27), (0, .ref (ad 0)), (1, .int x1), (2, .int x2), (3, .int x3), (5, .int x5)]) hx hb dX6_share_133 hl (by decide) rfl (fun ls hl => ?_)
    obtain ⟨y28, ey28⟩ : ∃ z : Int32, z = x5 + 1 := ⟨_, rfl⟩
    replace hf := hj_nm_y hf ey28
    refine lv_iinc (v := y28) (lv' := [(5, .int y28), (4, .int y27), (0, .ref (ad 0)), (1, .int x1), (2, .int x2), (3, .int x3)]) hx hb dX6_share_135 hl (k := 5) rfl (by rw [ey28]; rfl) (by decide) rfl (fun ls hl => ?_)
    refine lv_goto (tgt := 42) hx hb dX6_share_138 (by decide) ?_
    exact KI _ _ _ (Option.some.inj hf).symm _ _ _ hP hS (lv_sub hl [2, 3, 4, 5, 1, 0] rfl)
def fX6_share_42 (τ : hj_Ob) (sd : Int64) (x1 : Int32) (x2 : Int32) (x3 : Int32) (x4 : Int32) (x5 : Int32) : Option ((Int32 × hj_Ob) ⊕ (Int32 × Int32 × hj_Ob)) :=
  if x3 < x5 then (some (.inl (x4, τ))) else (if (x5 &&& (x3 ^^^ (-1))) = 0 then (hj_o1 (fX6_has x5 x1) fun r10 => if r10 = 0 then (hj_o1 (fX6_ones x5) fun r13 => hj_o1 (fX6_factorial r13) fun r14 => hj_o1 (fX6_ones x3) fun r15 => hj_o1 (fX6_ones x5) fun r16 => hj_o1 (fX6_factorial ((r15 - 1) - r16)) fun r17 => hj_nm (r14 * r17) fun y18 => hj_o2 (fX6_endOf τ sd (x5 ||| ((1 : Int32) <<< (x1 &&& 31)))) fun r19 τ20 => if r19 = 1 then (fX6_share_115 τ20 sd x1 x2 x3 x5 1 y18 x4) else (fX6_share_115 τ20 sd x1 x2 x3 x5 0 y18 x4)) else (hj_nm (x5 + 1) fun y12 => some (.inr (x4, y12, τ)))) else (hj_nm (x5 + 1) fun y9 => some (.inr (x4, y9, τ))))
set_option maxHeartbeats 4000000 in
set_option maxRecDepth 100000 in
theorem wX6_share_42b {p : Program} {l : Launch} {e : Env} {s : State} {m : MethodId} {args : Array Value} {below : List Frame} {meth : Method} {c : Code} {g : hj_G} {ad : Nat → Nat} (hI : hj_I 13 ad) (C : hj_C p s m args meth c cX6_share RX6 wsX6_share 7 (some .int)) (hK : hj_K g s) {τ : hj_Ob} {sd : Int64} {x1 : Int32} {x2 : Int32} {x3 : Int32} {x4 : Int32} {x5 : Int32} {y : (Int32 × hj_Ob) ⊕ (Int32 × Int32 × hj_Ob)} {rF : Int32} {τF : hj_Ob}
    (hf : fX6_share_42 τ sd x1 x2 x3 x4 x5 = some y) (KX : ∀ (v4 : Int32) (τ' : hj_Ob), y = .inl (v4, τ') → ∀ (H : Heap) (locs : List Loc) (ls : Array Slot), hj_P g 13 ad (hj_wm g ad τ' sd) H → hj_S 13 ad s H locs → lv_has ls 7 [(2, .int x2), (3, .int x3), (4, .int v4)] → W p l e rmX6_share s m args below meth c H locs 0 0 (MQ below (hj_QI g 13 ad (hj_wm g ad τF sd) rF s.heap.size) args s 0 0 (hj_A 13 ad s.heap.size)) (F0 m 141 ls [])) (KI : ∀ (v4 : Int32) (v5 : Int32) (τ' : hj_Ob), y = .inr (v4, v5, τ') → ∀ (H : Heap) (locs : List Loc) (ls : Array Slot), hj_P g 13 ad (hj_wm g ad τ' sd) H → hj_S 13 ad s H locs → lv_has ls 7 [(0, .ref (ad 0)), (1, .int x1), (2, .int x2), (3, .int x3), (4, .int v4), (5, .int v5)] → W p l e rmX6_share s m args below meth c H locs 0 0 (MQ below (hj_QI g 13 ad (hj_wm g ad τF sd) rF s.heap.size) args s 0 0 (hj_A 13 ad s.heap.size)) (F0 m 42 ls [])) {H : Heap} {locs : List Loc} {ls : Array Slot} (hP : hj_P g 13 ad (hj_wm g ad τ sd) H) (hS : hj_S 13 ad s H locs) (hl : lv_has ls 7 [(0, .ref (ad 0)), (1, .int x1), (2, .int x2), (3, .int x3), (4, .int x4), (5, .int x5)]) :
    W p l e rmX6_share s m args below meth c H locs 0 0 (MQ below (hj_QI g 13 ad (hj_wm g ad τF sd) rF s.heap.size) args s 0 0 (hj_A 13 ad s.heap.size)) (F0 m 42 ls []) := by
  obtain ⟨hx, hb, hr, hml, hown, hts, hlocks⟩ := id C
  unfold fX6_share_42 at hf
  refine lv_iload hx hb dX6_share_42 (lv_at hl 5 rfl) ?_
  refine lv_iload_n hx hb dX6_share_44 rfl (lv_at hl 3 rfl) ?_
  refine lv_icmp_gt (tgt := 141) hx hb dX6_share_45 (by decide) (fun c7 => ?_) (fun c7 => ?_)
  · rw [if_pos c7] at hf
    exact KX _ _ (Option.some.inj hf).symm _ _ _ hP hS (lv_sub hl [2, 3, 4] rfl)
  · rw [if_neg c7] at hf
    refine lv_iload hx hb dX6_share_48 (lv_at hl 5 rfl) ?_
    refine lv_iload_n hx hb dX6_share_50 rfl (lv_at hl 3 rfl) ?_
    refine lv_iconst (v := (-1)) hx hb dX6_share_51 (by decide) ?_
    refine lv_ixor hx hb dX6_share_52 ?_
    refine lv_iand hx hb dX6_share_53 ?_
    refine lv_if_ne (tgt := 135) hx hb dX6_share_54 (by decide) (fun c8 => ?_) (fun c8 => ?_)
    · rw [if_neg c8] at hf
      obtain ⟨y9, ey9⟩ : ∃ z : Int32, z = x5 + 1 := ⟨_, rfl⟩
      replace hf := hj_nm_y hf ey9
      refine lv_iinc (v := y9) (lv' := [(5, .int y9), (0, .ref (ad 0)), (1, .int x1), (2, .int x2), (3, .int x3), (4, .int x4)]) hx hb dX6_share_135 hl (k := 5) rfl (by rw [ey9]; rfl) (by decide) rfl (fun ls hl => ?_)
      refine lv_goto (tgt := 42) hx hb dX6_share_138 (by decide) ?_
      exact KI _ _ _ (Option.some.inj hf).symm _ _ _ hP hS (lv_sub hl [1, 2, 3, 4, 5, 0] rfl)
    · rw [if_pos c8] at hf
      refine lv_iload hx hb dX6_share_57 (lv_at hl 5 rfl) ?_
      refine lv_iload_n hx hb dX6_share_59 rfl (lv_at hl 1 rfl) ?_
      obtain ⟨r10, hc, hf⟩ := hj_o1_s hf
      refine hj_callSi (nL := 7) (As := [.int x5, .int x1]) (rest := []) ⟨hx, hb, hml, hown, hts⟩ (ctX6_has l g (n := 13) (ad := ad) (w := (hj_wm g ad τ sd)) hc) (va_cwS 2 hts gX6_share_X6_has rfl rfl rfl (by decide +kernel) ⟨Nat.le_of_ble_eq_true rfl, Nat.le_of_ble_eq_true rfl⟩) hj_Xb0 (fun _ _ _ => trivial) hK hP hS rfl hl.1 rfl (Nat.le_of_ble_eq_true rfl) dX6_share_60 (fun H locs hP hS => ?_)
      refine lv_if_ne (tgt := 135) hx hb dX6_share_63 (by decide) (fun c11 => ?_) (fun c11 => ?_)
      · rw [if_neg c11] at hf
        obtain ⟨y12, ey12⟩ : ∃ z : Int32, z = x5 + 1 := ⟨_, rfl⟩
        replace hf := hj_nm_y hf ey12
        refine lv_iinc (v := y12) (lv' := [(5, .int y12), (0, .ref (ad 0)), (1, .int x1), (2, .int x2), (3, .int x3), (4, .int x4)]) hx hb dX6_share_135 hl (k := 5) rfl (by rw [ey12]; rfl) (by decide) rfl (fun ls hl => ?_)
        refine lv_goto (tgt := 42) hx hb dX6_share_138 (by decide) ?_
        exact KI _ _ _ (Option.some.inj hf).symm _ _ _ hP hS (lv_sub hl [1, 2, 3, 4, 5, 0] rfl)
      · rw [if_pos c11] at hf
        refine lv_iload hx hb dX6_share_66 (lv_at hl 5 rfl) ?_
        obtain ⟨r13, hc, hf⟩ := hj_o1_s hf
        refine hj_callSi (nL := 7) (As := [.int x5]) (rest := []) ⟨hx, hb, hml, hown, hts⟩ (ctX6_ones l g (n := 13) (ad := ad) (w := (hj_wm g ad τ sd)) hc) (va_cwS 1 hts gX6_share_X6_ones rfl rfl rfl (by decide +kernel) ⟨Nat.le_of_ble_eq_true rfl, Nat.le_of_ble_eq_true rfl⟩) hj_Xb0 (fun _ _ _ => trivial) hK hP hS rfl hl.1 rfl (Nat.le_of_ble_eq_true rfl) dX6_share_68 (fun H locs hP hS => ?_)
        obtain ⟨r14, hc, hf⟩ := hj_o1_s hf
        refine hj_callSi (nL := 7) (As := [.int r13]) (rest := []) ⟨hx, hb, hml, hown, hts⟩ (ctX6_factorial l g (n := 13) (ad := ad) (w := (hj_wm g ad τ sd)) hc) (va_cwS 1 hts gX6_share_X6_factorial rfl rfl rfl (by decide +kernel) ⟨Nat.le_of_ble_eq_true rfl, Nat.le_of_ble_eq_true rfl⟩) hj_Xb0 (fun _ _ _ => trivial) hK hP hS rfl hl.1 rfl (Nat.le_of_ble_eq_true rfl) dX6_share_71 (fun H locs hP hS => ?_)
        refine lv_iload_n hx hb dX6_share_74 rfl (lv_at hl 3 rfl) ?_
        obtain ⟨r15, hc, hf⟩ := hj_o1_s hf
        refine hj_callSi (nL := 7) (As := [.int x3]) (rest := [.int r14]) ⟨hx, hb, hml, hown, hts⟩ (ctX6_ones l g (n := 13) (ad := ad) (w := (hj_wm g ad τ sd)) hc) (va_cwS 1 hts gX6_share_X6_ones rfl rfl rfl (by decide +kernel) ⟨Nat.le_of_ble_eq_true rfl, Nat.le_of_ble_eq_true rfl⟩) hj_Xb0 (fun _ _ _ => trivial) hK hP hS rfl hl.1 rfl (Nat.le_of_ble_eq_true rfl) dX6_share_75 (fun H locs hP hS => ?_)
        refine lv_iconst (v := 1) hx hb dX6_share_78 (by decide) ?_
        refine lv_isub hx hb dX6_share_79 ?_
        refine lv_iload hx hb dX6_share_80 (lv_at hl 5 rfl) ?_
        obtain ⟨r16, hc, hf⟩ := hj_o1_s hf
        refine hj_callSi (nL := 7) (As := [.int x5]) (rest := [.int (r15 - 1), .int r14]) ⟨hx, hb, hml, hown, hts⟩ (ctX6_ones l g (n := 13) (ad := ad) (w := (hj_wm g ad τ sd)) hc) (va_cwS 1 hts gX6_share_X6_ones rfl rfl rfl (by decide +kernel) ⟨Nat.le_of_ble_eq_true rfl, Nat.le_of_ble_eq_true rfl⟩) hj_Xb0 (fun _ _ _ => trivial) hK hP hS rfl hl.1 rfl (Nat.le_of_ble_eq_true rfl) dX6_share_82 (fun H locs hP hS => ?_)
        refine lv_isub hx hb dX6_share_85 ?_
        obtain ⟨r17, hc, hf⟩ := hj_o1_s hf
        refine hj_callSi (nL := 7) (As := [.int ((r15 - 1) - r16)]) (rest := [.int r14]) ⟨hx, hb, hml, hown, hts⟩ (ctX6_factorial l g (n := 13) (ad := ad) (w := (hj_wm g ad τ sd)) hc) (va_cwS 1 hts gX6_share_X6_factorial rfl rfl rfl (by decide +kernel) ⟨Nat.le_of_ble_eq_true rfl, Nat.le_of_ble_eq_true rfl⟩) hj_Xb0 (fun _ _ _ => trivial) hK hP hS rfl hl.1 rfl (Nat.le_of_ble_eq_true rfl) dX6_share_86 (fun H locs hP hS => ?_)
        refine lv_imul hx hb dX6_share_89 ?_
        refine lv_topi (fun y18 ey18 => ?_)
        replace hf := hj_nm_y hf ey18
        refine lv_istore (lv' := [(6, .int y18), (0, .ref (ad 0)), (1, .int x1), (2, .int x2), (3, .int x3), (4, .int x4), (5, .int x5)]) hx hb dX6_share_90 hl (by decide) rfl (fun ls hl => ?_)
        refine lv_iload hx hb dX6_share_92 (lv_at hl 5 rfl) ?_
        refine lv_iload hx hb dX6_share_94 (lv_at hl 0 rfl) ?_
        refine lv_aload_n hx hb dX6_share_96 rfl (lv_at hl 1 rfl) ?_
        refine lv_iload hx hb dX6_share_97 (lv_at hl 6 rfl) ?_
        refine lv_iconst (v := 1) hx hb dX6_share_99 (by decide) ?_
        refine lv_iload_n hx hb dX6_share_100 rfl (lv_at hl 2 rfl) ?_
        refine lv_ishl hx hb dX6_share_101 ?_
        refine lv_ior hx hb dX6_share_102 ?_
        obtain ⟨r19, τ20, hc, hf⟩ := hj_o2_s hf
        refine hj_callVi (nL := 7) (As := [.int (x5 ||| ((1 : Int32) <<< (x1 &&& 31)))]) (rest := [.int y18, .int x4]) (i0 := 0) (C := RX6) (T := TX6) (N := 24) (ci := 6) ⟨hx, hb, hml, hown, hts⟩ (ctX6_endOf l g hI hc) (cwV 1 hts gX6_share_X6_endOf rfl rfl rfl (by decide +kernel) ⟨Nat.le_of_ble_eq_true rfl, Nat.le_of_ble_eq_true rfl⟩) hj_Xb0 (fun _ _ _ => trivial) hK hP hS (by decide) rfl rfl rfl hl.1 rfl (Nat.le_of_ble_eq_true rfl) dX6_share_103 (fun H locs hP hS => ?_)
        refine lv_iconst (v := 1) hx hb dX6_share_106 (by decide) ?_
        refine lv_icmp_ne (tgt := 114) hx hb dX6_share_107 (by decide) (fun c21 => ?_) (fun c21 => ?_)
        · rw [if_neg c21] at hf
          refine lv_iconst (v := 0) hx hb dX6_share_114 (by decide) ?_
          exact wX6_share_115 hI C hK  hf KX KI hP hS (lv_sub hl [1, 2, 3, 4, 6] rfl)
        · rw [if_pos c21] at hf
          refine lv_iconst (v := 1) hx hb dX6_share_110 (by decide) ?_
          refine lv_goto (tgt := 115) hx hb dX6_share_111 (by decide) ?_
          exact wX6_share_115 hI C hK  hf KX KI hP hS (lv_sub hl [1, 2, 3, 4, 6] rfl)
set_option maxHeartbeats 4000000 in
set_option maxRecDepth 100000 in
theorem wX6_share_42 {p : Program} {l : Launch} {e : Env} {s : State} {m : MethodId} {args : Array Value} {below : List Frame} {meth : Method} {c : Code} {g : hj_G} {ad : Nat → Nat} (hI : hj_I 13 ad) (C : hj_C p s m args meth c cX6_share RX6 wsX6_share 7 (some .int)) (hK : hj_K g s) {sd : Int64} {x1 : Int32} {x2 : Int32} {x3 : Int32} {rF : Int32} {τF : hj_Ob} {e4 : Int32} {τe : hj_Ob} :
    ∀ (fu : Nat) (x4 : Int32) (x5 : Int32) (τ : hj_Ob), hj_lp (fun q : (Int32 × Int32 × hj_Ob) => fX6_share_42 q.2.2 sd x1 x2 x3 q.1 q.2.1) fu (x4, x5, τ) = some (e4, τe) → (∀ (H : Heap) (locs : List Loc) (ls : Array Slot), hj_P g 13 ad (hj_wm g ad τe sd) H → hj_S 13 ad s H locs → lv_has ls 7 [(2, .int x2), (3, .int x3), (4, .int e4)] → W p l e rmX6_share s m args below meth c H locs 0 0 (MQ below (hj_QI g 13 ad (hj_wm g ad τF sd) rF s.heap.size) args s 0 0 (hj_A 13 ad s.heap.size)) (F0 m 141 ls [])) → ∀ (H : Heap) (locs : List Loc) (ls : Array Slot), hj_P g 13 ad (hj_wm g ad τ sd) H → hj_S 13 ad s H locs → lv_has ls 7 [(0, .ref (ad 0)), (1, .int x1), (2, .int x2), (3, .int x3), (4, .int x4), (5, .int x5)] →
    W p l e rmX6_share s m args below meth c H locs 0 0 (MQ below (hj_QI g 13 ad (hj_wm g ad τF sd) rF s.heap.size) args s 0 0 (hj_A 13 ad s.heap.size)) (F0 m 42 ls []) := by
  intro fu
  induction fu with
  | zero => intro x4 x5 τ hq; cases hq
  | succ fu ih =>
    intro x4 x5 τ hq KX H locs ls hP hS hl
    obtain ⟨y, hy, h1, h2⟩ := hj_lp_s hq
    exact wX6_share_42b hI C hK  hy (fun v4 τ' hv H locs ls hP hS hl => by have hw := h1 _ hv; obtain ⟨rfl, rfl⟩ := Prod.mk.inj hw; exact KX H locs ls hP hS hl) (fun v4 v5 τ' hv H locs ls hP hS hl => ih v4 v5 τ' (h2 _ hv) KX H locs ls hP hS hl) hP hS hl
def fX6_share (τ : hj_Ob) (sd : Int64) (x1 : Int32) (x2 : Int32) : Option (Int32 × hj_Ob) :=
  hj_o1 (fX6_isJuror τ sd x1) fun r1 => if r1 = 0 then (some ((-1), τ)) else (hj_o1 (fX6_isThere τ sd 0 x1) fun r3 => if r3 = 0 then (if x2 = 0 then (some (1, τ)) else (some (0, τ))) else (hj_ck (1 : Int32) 30 (hj_nm (τ.2 4 (1 : Int32).toNatClampNeg) fun y6 => hj_o2 (hj_lp (fun q : (Int32 × Int32 × hj_Ob) => fX6_share_42 q.2.2 sd x1 x2 y6 q.1 q.2.1) 100 (0, 0, τ)) fun e29 τ30 => (hj_o1 (fX6_ones y6) fun r31 => hj_o1 (fX6_factorial r31) fun r32 => hj_o1 (fX6_common e29 r32) fun r33 => if x2 = 0 then (hj_o1 (fX6_ones y6) fun r35 => hj_o1 (fX6_factorial r35) fun r36 => hj_nz r33 (some (r36 / r33, τ30))) else (hj_nz r33 (some (e29 / r33, τ30)))))))
set_option maxHeartbeats 4000000 in
set_option maxRecDepth 100000 in
theorem wX6_share {p : Program} {l : Launch} {e : Env} {s : State} {m : MethodId} {args : Array Value} {below : List Frame} {meth : Method} {c : Code} {g : hj_G} {ad : Nat → Nat} (hI : hj_I 13 ad) (C : hj_C p s m args meth c cX6_share RX6 wsX6_share 7 (some .int)) (hK : hj_K g s) {τ : hj_Ob} {sd : Int64} {x1 : Int32} {x2 : Int32} {rF : Int32} {τF : hj_Ob}
    (hf : fX6_share τ sd x1 x2 = some (rF, τF)) {H : Heap} {locs : List Loc} {ls : Array Slot} (hP : hj_P g 13 ad (hj_wm g ad τ sd) H) (hS : hj_S 13 ad s H locs) (hl : lv_has ls 7 [(0, .ref (ad 0)), (1, .int x1), (2, .int x2)]) :
    W p l e rmX6_share s m args below meth c H locs 0 0 (MQ below (hj_QI g 13 ad (hj_wm g ad τF sd) rF s.heap.size) args s 0 0 (hj_A 13 ad s.heap.size)) (F0 m 0 ls []) := by
  obtain ⟨hx, hb, hr, hml, hown, hts, hlocks⟩ := id C
  unfold fX6_share at hf
  refine lv_aload_n hx hb dX6_share_0 rfl (lv_at hl 0 rfl) ?_
  refine lv_iload_n hx hb dX6_share_1 rfl (lv_at hl 1 rfl) ?_
  obtain ⟨r1, hc, hf⟩ := hj_o1_s hf
  refine hj_callVi (nL := 7) (As := [.int x1]) (rest := []) (i0 := 0) (C := RX6) (T := TX6) (N := 24) (ci := 6) ⟨hx, hb, hml, hown, hts⟩ (ctX6_isJuror l g hI hc) (cwV 1 hts gX6_share_X6_isJuror rfl rfl rfl (by decide +kernel) ⟨Nat.le_of_ble_eq_true rfl, Nat.le_of_ble_eq_true rfl⟩) hj_Xb0 (fun _ _ _ => trivial) hK hP hS (by decide) rfl rfl rfl hl.1 rfl (Nat.le_of_ble_eq_true rfl) dX6_share_2 (fun H locs hP hS => ?_)
  refine lv_if_ne (tgt := 10) hx hb dX6_share_5 (by decide) (fun c2 => ?_) (fun c2 => ?_)
  · rw [if_neg c2] at hf
    refine lv_aload_n hx hb dX6_share_10 rfl (lv_at hl 0 rfl) ?_
    refine lv_iconst (v := 0) hx hb dX6_share_11 (by decide) ?_
    refine lv_iload_n hx hb dX6_share_12 rfl (lv_at hl 1 rfl) ?_
    obtain ⟨r3, hc, hf⟩ := hj_o1_s hf
    refine hj_callVi (nL := 7) (As := [.int 0, .int x1]) (rest := []) (i0 := 0) (C := RX6) (T := TX6) (N := 24) (ci := 6) ⟨hx, hb, hml, hown, hts⟩ (ctX6_isThere l g hI hc) (cwV 2 hts gX6_share_X6_isThere rfl rfl rfl (by decide +kernel) ⟨Nat.le_of_ble_eq_true rfl, Nat.le_of_ble_eq_true rfl⟩) hj_Xb0 (fun _ _ _ => trivial) hK hP hS (by decide) rfl rfl rfl hl.1 rfl (Nat.le_of_ble_eq_true rfl) dX6_share_13 (fun H locs hP hS => ?_)
    refine lv_if_ne (tgt := 29) hx hb dX6_share_16 (by decide) (fun c4 => ?_) (fun c4 => ?_)
    · rw [if_neg c4] at hf
      refine lv_aload_n hx hb dX6_share_29 rfl (lv_at hl 0 rfl) ?_
      refine hj_get (ci := 6) (v := .ref (ad 3)) (C := RX6) (T := TX6) (N := 24) hx hb hts iX6_share_X6 hown hK hP (by decide) rfl rfl 4 (by decide) mX6_share_1 rfl dX6_share_30 ?_
      refine lv_iconst (v := 1) hx hb dX6_share_33 (by decide) ?_
      obtain ⟨hk5, hf⟩ := hj_ck_s hf
      refine hj_ial (f := τ.2 4) hx hb hK hP (by decide) rfl hk5 dX6_share_34 ?_
      refine lv_topi (fun y6 ey6 => ?_)
      replace hf := hj_nm_y hf ey6
      refine lv_istore_n (lv' := [(3, .int y6), (0, .ref (ad 0)), (1, .int x1), (2, .int x2)]) hx hb dX6_share_35 rfl hl (by decide) rfl (fun ls hl => ?_)
      refine lv_iconst (v := 0) hx hb dX6_share_36 (by decide) ?_
      refine lv_istore (lv' := [(4, .int 0), (3, .int y6), (0, .ref (ad 0)), (1, .int x1), (2, .int x2)]) hx hb dX6_share_37 hl (by decide) rfl (fun ls hl => ?_)
      refine lv_iconst (v := 0) hx hb dX6_share_39 (by decide) ?_
      refine lv_istore (lv' := [(5, .int 0), (4, .int 0), (3, .int y6), (0, .ref (ad 0)), (1, .int x1), (2, .int x2)]) hx hb dX6_share_40 hl (by decide) rfl (fun ls hl => ?_)
      obtain ⟨e29, τ30, hlx, hf⟩ := hj_o2_s hf
      refine wX6_share_42 hI C hK  100 0 0 τ hlx (fun H locs ls hP hS hl => ?_) H locs ls hP hS (lv_sub hl [3, 4, 5, 2, 1, 0] rfl)
      refine lv_iload hx hb dX6_share_141 (lv_at hl 2 rfl) ?_
      refine lv_iload_n hx hb dX6_share_143 rfl (lv_at hl 1 rfl) ?_
      obtain ⟨r31, hc, hf⟩ := hj_o1_s hf
      refine hj_callSi (nL := 7) (As := [.int y6]) (rest := [.int e29]) ⟨hx, hb, hml, hown, hts⟩ (ctX6_ones l g (n := 13) (ad := ad) (w := (hj_wm g ad τ30 sd)) hc) (va_cwS 1 hts gX6_share_X6_ones rfl rfl rfl (by decide +kernel) ⟨Nat.le_of_ble_eq_true rfl, Nat.le_of_ble_eq_true rfl⟩) hj_Xb0 (fun _ _ _ => trivial) hK hP hS rfl hl.1 rfl (Nat.le_of_ble_eq_true rfl) dX6_share_144 (fun H locs hP hS => ?_)
      obtain ⟨r32, hc, hf⟩ := hj_o1_s hf
      refine hj_callSi (nL := 7) (As := [.int r31]) (rest := [.int e29]) ⟨hx, hb, hml, hown, hts⟩ (ctX6_factorial l g (n := 13) (ad := ad) (w := (hj_wm g ad τ30 sd)) hc) (va_cwS 1 hts gX6_share_X6_factorial rfl rfl rfl (by decide +kernel) ⟨Nat.le_of_ble_eq_true rfl, Nat.le_of_ble_eq_true rfl⟩) hj_Xb0 (fun _ _ _ => trivial) hK hP hS rfl hl.1 rfl (Nat.le_of_ble_eq_true rfl) dX6_share_147 (fun H locs hP hS => ?_)
      obtain ⟨r33, hc, hf⟩ := hj_o1_s hf
      refine hj_callSi (nL := 7) (As := [.int e29, .int r32]) (rest := []) ⟨hx, hb, hml, hown, hts⟩ (ctX6_common l g (n := 13) (ad := ad) (w := (hj_wm g ad τ30 sd)) hc) (va_cwS 2 hts gX6_share_X6_common rfl rfl rfl (by decide +kernel) ⟨Nat.le_of_ble_eq_true rfl, Nat.le_of_ble_eq_true rfl⟩) hj_Xb0 (fun _ _ _ => trivial) hK hP hS rfl hl.1 rfl (Nat.le_of_ble_eq_true rfl) dX6_share_150 (fun H locs hP hS => ?_)
      refine lv_istore (lv' := [(5, .int r33), (2, .int x2), (3, .int y6), (4, .int e29)]) hx hb dX6_share_153 hl (by decide) rfl (fun ls hl => ?_)
      refine lv_iload_n hx hb dX6_share_155 rfl (lv_at hl 1 rfl) ?_
      refine lv_if_eq (tgt := 167) hx hb dX6_share_156 (by decide) (fun c34 => ?_) (fun c34 => ?_)
      · rw [if_pos c34] at hf
        refine lv_iload_n hx hb dX6_share_167 rfl (lv_at hl 2 rfl) ?_
        obtain ⟨r35, hc, hf⟩ := hj_o1_s hf
        refine hj_callSi (nL := 7) (As := [.int y6]) (rest := []) ⟨hx, hb, hml, hown, hts⟩ (ctX6_ones l g (n := 13) (ad := ad) (w := (hj_wm g ad τ30 sd)) hc) (va_cwS 1 hts gX6_share_X6_ones rfl rfl rfl (by decide +kernel) ⟨Nat.le_of_ble_eq_true rfl, Nat.le_of_ble_eq_true rfl⟩) hj_Xb0 (fun _ _ _ => trivial) hK hP hS rfl hl.1 rfl (Nat.le_of_ble_eq_true rfl) dX6_share_168 (fun H locs hP hS => ?_)
        obtain ⟨r36, hc, hf⟩ := hj_o1_s hf
        refine hj_callSi (nL := 7) (As := [.int r35]) (rest := []) ⟨hx, hb, hml, hown, hts⟩ (ctX6_factorial l g (n := 13) (ad := ad) (w := (hj_wm g ad τ30 sd)) hc) (va_cwS 1 hts gX6_share_X6_factorial rfl rfl rfl (by decide +kernel) ⟨Nat.le_of_ble_eq_true rfl, Nat.le_of_ble_eq_true rfl⟩) hj_Xb0 (fun _ _ _ => trivial) hK hP hS rfl hl.1 rfl (Nat.le_of_ble_eq_true rfl) dX6_share_171 (fun H locs hP hS => ?_)
        refine lv_iload hx hb dX6_share_174 (lv_at hl 0 rfl) ?_
        obtain ⟨hz37, hf⟩ := hj_nz_s hf
        refine lv_idiv hx hb dX6_share_176 hz37 ?_
        have hq := Option.some.inj hf
        obtain ⟨rfl, rfl⟩ := Prod.mk.inj hq
        exact hj_reti C hP hK hS dX6_share_177
      · rw [if_neg c34] at hf
        refine lv_iload hx hb dX6_share_159 (lv_at hl 3 rfl) ?_
        refine lv_iload hx hb dX6_share_161 (lv_at hl 0 rfl) ?_
        obtain ⟨hz38, hf⟩ := hj_nz_s hf
        refine lv_idiv hx hb dX6_share_163 hz38 ?_
        refine lv_goto (tgt := 177) hx hb dX6_share_164 (by decide) ?_
        have hq := Option.some.inj hf
        obtain ⟨rfl, rfl⟩ := Prod.mk.inj hq
        exact hj_reti C hP hK hS dX6_share_177
    · rw [if_pos c4] at hf
      refine lv_iload_n hx hb dX6_share_19 rfl (lv_at hl 2 rfl) ?_
      refine lv_if_eq (tgt := 27) hx hb dX6_share_20 (by decide) (fun c39 => ?_) (fun c39 => ?_)
      · rw [if_pos c39] at hf
        refine lv_iconst (v := 1) hx hb dX6_share_27 (by decide) ?_
        have hq := Option.some.inj hf
        obtain ⟨rfl, rfl⟩ := Prod.mk.inj hq
        exact hj_reti C hP hK hS dX6_share_28
      · rw [if_neg c39] at hf
        refine lv_iconst (v := 0) hx hb dX6_share_23 (by decide) ?_
        refine lv_goto (tgt := 28) hx hb dX6_share_24 (by decide) ?_
        have hq := Option.some.inj hf
        obtain ⟨rfl, rfl⟩ := Prod.mk.inj hq
        exact hj_reti C hP hK hS dX6_share_28
  · rw [if_pos c2] at hf
    refine lv_iconst (v := (-1)) hx hb dX6_share_8 (by decide) ?_
    have hq := Option.some.inj hf
    obtain ⟨rfl, rfl⟩ := Prod.mk.inj hq
    exact hj_reti C hP hK hS dX6_share_9
set_option maxHeartbeats 4000000 in
set_option maxRecDepth 100000 in
theorem ctX6_share (l : Launch) (g : hj_G) {ad : Nat → Nat} (hI : hj_I 13 ad) {τ : hj_Ob} {sd : Int64} {x1 : Int32} {x2 : Int32} {rF : Int32} {τF : hj_Ob} (hf : fX6_share τ sd x1 x2 = some (rF, τF)) :
    hj_MI l yX6_share wsX6_share rmX6_share g 13 ad hj_X0 [.ref (ad 0), .int x1, .int x2] (hj_wm g ad τ sd) rF (hj_wm g ad τF sd) := by
  refine hj_ofI (cc := cX6_share) (maxL := 7) (ret := (some .int)) (by decide) rfl (Nat.le_of_ble_eq_true rfl) ?_
  intro p e s m args below meth c ls C hP hK hX hl
  exact wX6_share hI C hK hf hP va_S.rf hl

/-! X6_loses -/
abbrev rmX6_loses : Room := { frames := 0, cells := 0, slots := 0, locals := 0 }
theorem iX6_loses_X6 : ∀ w ∈ wsX60, w ∈ wsX6_loses := fun _ h => List.mem_cons_of_mem _ (List.mem_append_right _ h)
theorem mX6_loses_1 : Cond.fieldLink RX6 7 "HungryJuryModel" "kind" "[I" ∈ wsX6_loses := List.mem_of_getElem? (i := 1) rfl
def fX6_loses_39 (τ : hj_Ob) (sd : Int64) (x3 : Int32) (x4 : Int32) (x5 : Int32) (z0 : Int32) : Option Int32 :=
  if z0 = 0 then (some (x4 * x5)) else (some (3 + (x3 * x5)))
set_option maxHeartbeats 4000000 in
set_option maxRecDepth 100000 in
theorem wX6_loses_39 {p : Program} {l : Launch} {e : Env} {s : State} {m : MethodId} {args : Array Value} {below : List Frame} {meth : Method} {c : Code} {g : hj_G} {ad : Nat → Nat} (hI : hj_I 13 ad) (C : hj_C p s m args meth c cX6_loses RX6 wsX6_loses 7 (some .int)) (hK : hj_K g s) {τ : hj_Ob} {sd : Int64} {x3 : Int32} {x4 : Int32} {x5 : Int32} {z0 : Int32} {rF : Int32}
    (hf : fX6_loses_39 τ sd x3 x4 x5 z0 = some rF) {H : Heap} {locs : List Loc} {ls : Array Slot} (hP : hj_P g 13 ad (hj_wm g ad τ sd) H) (hS : hj_S 13 ad s H locs) (hl : lv_has ls 7 [(3, .int x3), (4, .int x4), (5, .int x5)]) :
    W p l e rmX6_loses s m args below meth c H locs 0 0 (MQ below (hj_QI g 13 ad (hj_wm g ad τ sd) rF s.heap.size) args s 0 0 (hj_A 13 ad s.heap.size)) (F0 m 39 ls [.int z0]) := by
  obtain ⟨hx, hb, hr, hml, hown, hts, hlocks⟩ := id C
  unfold fX6_loses_39 at hf
  refine lv_istore (lv' := [(6, .int z0), (3, .int x3), (4, .int x4), (5, .int x5)]) hx hb dX6_loses_39 hl (by decide) rfl (fun ls hl => ?_)
  refine lv_iload hx hb dX6_loses_41 (lv_at hl 0 rfl) ?_
  refine lv_if_eq (tgt := 55) hx hb dX6_loses_43 (by decide) (fun c4 => ?_) (fun c4 => ?_)
  · rw [if_pos c4] at hf
    refine lv_iload hx hb dX6_loses_55 (lv_at hl 2 rfl) ?_
    refine lv_iload hx hb dX6_loses_57 (lv_at hl 3 rfl) ?_
    refine lv_imul hx hb dX6_loses_59 ?_
    have hq := Option.some.inj hf
    obtain rfl := hq
    exact hj_reti C hP hK hS dX6_loses_60
  · rw [if_neg c4] at hf
    refine lv_iconst (v := 3) hx hb dX6_loses_46 (by decide) ?_
    refine lv_iload_n hx hb dX6_loses_47 rfl (lv_at hl 1 rfl) ?_
    refine lv_iload hx hb dX6_loses_48 (lv_at hl 3 rfl) ?_
    refine lv_imul hx hb dX6_loses_50 ?_
    refine lv_iadd hx hb dX6_loses_51 ?_
    refine lv_goto (tgt := 60) hx hb dX6_loses_52 (by decide) ?_
    have hq := Option.some.inj hf
    obtain rfl := hq
    exact hj_reti C hP hK hS dX6_loses_60
def fX6_loses_15 (τ : hj_Ob) (sd : Int64) (x1 : Int32) (x2 : Int32) (x3 : Int32) (x4 : Int32) (z0 : Int32) : Option Int32 :=
  if x3 < x4 then (fX6_loses_39 τ sd x3 x4 z0 1) else (if x3 = x4 then (if x2 ≤ x1 then (fX6_loses_39 τ sd x3 x4 z0 0) else (fX6_loses_39 τ sd x3 x4 z0 1)) else (fX6_loses_39 τ sd x3 x4 z0 0))
set_option maxHeartbeats 4000000 in
set_option maxRecDepth 100000 in
theorem wX6_loses_15 {p : Program} {l : Launch} {e : Env} {s : State} {m : MethodId} {args : Array Value} {below : List Frame} {meth : Method} {c : Code} {g : hj_G} {ad : Nat → Nat} (hI : hj_I 13 ad) (C : hj_C p s m args meth c cX6_loses RX6 wsX6_loses 7 (some .int)) (hK : hj_K g s) {τ : hj_Ob} {sd : Int64} {x1 : Int32} {x2 : Int32} {x3 : Int32} {x4 : Int32} {z0 : Int32} {rF : Int32}
    (hf : fX6_loses_15 τ sd x1 x2 x3 x4 z0 = some rF) {H : Heap} {locs : List Loc} {ls : Array Slot} (hP : hj_P g 13 ad (hj_wm g ad τ sd) H) (hS : hj_S 13 ad s H locs) (hl : lv_has ls 7 [(1, .int x1), (2, .int x2), (3, .int x3), (4, .int x4)]) :
    W p l e rmX6_loses s m args below meth c H locs 0 0 (MQ below (hj_QI g 13 ad (hj_wm g ad τ sd) rF s.heap.size) args s 0 0 (hj_A 13 ad s.heap.size)) (F0 m 15 ls [.int z0]) := by
  obtain ⟨hx, hb, hr, hml, hown, hts, hlocks⟩ := id C
  unfold fX6_loses_15 at hf
  refine lv_istore (lv' := [(5, .int z0), (1, .int x1), (2, .int x2), (3, .int x3), (4, .int x4)]) hx hb dX6_loses_15 hl (by decide) rfl (fun ls hl => ?_)
  refine lv_iload_n hx hb dX6_loses_17 rfl (lv_at hl 3 rfl) ?_
  refine lv_iload hx hb dX6_loses_18 (lv_at hl 4 rfl) ?_
  refine lv_icmp_lt (tgt := 34) hx hb dX6_loses_20 (by decide) (fun c3 => ?_) (fun c3 => ?_)
  · rw [if_pos c3] at hf
    refine lv_iconst (v := 1) hx hb dX6_loses_34 (by decide) ?_
    refine lv_goto (tgt := 39) hx hb dX6_loses_35 (by decide) ?_
    exact wX6_loses_39 hI C hK  hf hP hS (lv_sub hl [3, 4, 0] rfl)
  · rw [if_neg c3] at hf
    refine lv_iload_n hx hb dX6_loses_23 rfl (lv_at hl 3 rfl) ?_
    refine lv_iload hx hb dX6_loses_24 (lv_at hl 4 rfl) ?_
    refine lv_icmp_ne (tgt := 38) hx hb dX6_loses_26 (by decide) (fun c5 => ?_) (fun c5 => ?_)
    · rw [if_neg c5] at hf
      refine lv_iconst (v := 0) hx hb dX6_loses_38 (by decide) ?_
      exact wX6_loses_39 hI C hK  hf hP hS (lv_sub hl [3, 4, 0] rfl)
    · rw [if_pos c5] at hf
      refine lv_iload_n hx hb dX6_loses_29 rfl (lv_at hl 1 rfl) ?_
      refine lv_iload_n hx hb dX6_loses_30 rfl (lv_at hl 2 rfl) ?_
      refine lv_icmp_ge (tgt := 38) hx hb dX6_loses_31 (by decide) (fun c6 => ?_) (fun c6 => ?_)
      · rw [if_pos c6] at hf
        refine lv_iconst (v := 0) hx hb dX6_loses_38 (by decide) ?_
        exact wX6_loses_39 hI C hK  hf hP hS (lv_sub hl [3, 4, 0] rfl)
      · rw [if_neg c6] at hf
        refine lv_iconst (v := 1) hx hb dX6_loses_34 (by decide) ?_
        refine lv_goto (tgt := 39) hx hb dX6_loses_35 (by decide) ?_
        exact wX6_loses_39 hI C hK  hf hP hS (lv_sub hl [3, 4, 0] rfl)
def fX6_loses (τ : hj_Ob) (sd : Int64) (x1 : Int32) (x2 : Int32) (x3 : Int32) (x4 : Int32) : Option Int32 :=
  hj_ck x1 6 (if (τ.2 2 x1.toNatClampNeg) = 1 then (fX6_loses_15 τ sd x1 x2 x3 x4 2) else (fX6_loses_15 τ sd x1 x2 x3 x4 1))
set_option maxHeartbeats 4000000 in
set_option maxRecDepth 100000 in
theorem wX6_loses {p : Program} {l : Launch} {e : Env} {s : State} {m : MethodId} {args : Array Value} {below : List Frame} {meth : Method} {c : Code} {g : hj_G} {ad : Nat → Nat} (hI : hj_I 13 ad) (C : hj_C p s m args meth c cX6_loses RX6 wsX6_loses 7 (some .int)) (hK : hj_K g s) {τ : hj_Ob} {sd : Int64} {x1 : Int32} {x2 : Int32} {x3 : Int32} {x4 : Int32} {rF : Int32}
    (hf : fX6_loses τ sd x1 x2 x3 x4 = some rF) {H : Heap} {locs : List Loc} {ls : Array Slot} (hP : hj_P g 13 ad (hj_wm g ad τ sd) H) (hS : hj_S 13 ad s H locs) (hl : lv_has ls 7 [(0, .ref (ad 0)), (1, .int x1), (2, .int x2), (3, .int x3), (4, .int x4)]) :
    W p l e rmX6_loses s m args below meth c H locs 0 0 (MQ below (hj_QI g 13 ad (hj_wm g ad τ sd) rF s.heap.size) args s 0 0 (hj_A 13 ad s.heap.size)) (F0 m 0 ls []) := by
  obtain ⟨hx, hb, hr, hml, hown, hts, hlocks⟩ := id C
  unfold fX6_loses at hf
  refine lv_aload_n hx hb dX6_loses_0 rfl (lv_at hl 0 rfl) ?_
  refine hj_get (ci := 6) (v := .ref (ad 1)) (C := RX6) (T := TX6) (N := 24) hx hb hts iX6_loses_X6 hown hK hP (by decide) rfl rfl 2 (by decide) mX6_loses_1 rfl dX6_loses_1 ?_
  refine lv_iload_n hx hb dX6_loses_4 rfl (lv_at hl 1 rfl) ?_
  obtain ⟨hk1, hf⟩ := hj_ck_s hf
  refine hj_ial (f := τ.2 2) hx hb hK hP (by decide) rfl hk1 dX6_loses_5 ?_
  refine lv_iconst (v := 1) hx hb dX6_loses_6 (by decide) ?_
  refine lv_icmp_ne (tgt := 14) hx hb dX6_loses_7 (by decide) (fun c2 => ?_) (fun c2 => ?_)
  · rw [if_neg c2] at hf
    refine lv_iconst (v := 1) hx hb dX6_loses_14 (by decide) ?_
    exact wX6_loses_15 hI C hK  hf hP hS (lv_sub hl [1, 2, 3, 4] rfl)
  · rw [if_pos c2] at hf
    refine lv_iconst (v := 2) hx hb dX6_loses_10 (by decide) ?_
    refine lv_goto (tgt := 15) hx hb dX6_loses_11 (by decide) ?_
    exact wX6_loses_15 hI C hK  hf hP hS (lv_sub hl [1, 2, 3, 4] rfl)
set_option maxHeartbeats 4000000 in
set_option maxRecDepth 100000 in
theorem ctX6_loses (l : Launch) (g : hj_G) {ad : Nat → Nat} (hI : hj_I 13 ad) {τ : hj_Ob} {sd : Int64} {x1 : Int32} {x2 : Int32} {x3 : Int32} {x4 : Int32} {rF : Int32} (hf : fX6_loses τ sd x1 x2 x3 x4 = some rF) :
    hj_MI l yX6_loses wsX6_loses rmX6_loses g 13 ad hj_X0 [.ref (ad 0), .int x1, .int x2, .int x3, .int x4] (hj_wm g ad τ sd) rF (hj_wm g ad τ sd) := by
  refine hj_ofI (cc := cX6_loses) (maxL := 7) (ret := (some .int)) (by decide) rfl (Nat.le_of_ble_eq_true rfl) ?_
  intro p e s m args below meth c ls C hP hK hX hl
  exact wX6_loses hI C hK hf hP va_S.rf hl

/-! X6_isRest -/
abbrev rmX6_isRest : Room := { frames := 1, cells := 0, slots := 0, locals := 26 }
def fX6_isRest_6 (τ : hj_Ob) (sd : Int64) (x1 : Int32) (x2 : Int32) (x3 : Int32) (x4 : Int32) (x5 : Int32) (x6 : Int32) : Option (Int32 ⊕ (Int32 × Int32)) :=
  if 5 ≤ x6 then (some (.inl x5)) else (if x5 = 0 then (hj_nm (x6 + 1) fun y3 => some (.inr (0, y3))) else (hj_o1 (fX6_loses τ sd x1 x2 x6 x4) fun r4 => hj_o1 (fX6_loses τ sd x1 x2 x3 x4) fun r5 => if r4 < r5 then (hj_nm (x6 + 1) fun y7 => some (.inr (0, y7))) else (hj_o1 (fX6_loses τ sd x2 x1 x6 x3) fun r8 => hj_o1 (fX6_loses τ sd x2 x1 x4 x3) fun r9 => if r8 < r9 then (hj_nm (x6 + 1) fun y11 => some (.inr (0, y11))) else (hj_nm (x6 + 1) fun y12 => some (.inr (1, y12))))))
set_option maxHeartbeats 4000000 in
set_option maxRecDepth 100000 in
theorem wX6_isRest_6b {p : Program} {l : Launch} {e : Env} {s : State} {m : MethodId} {args : Array Value} {below : List Frame} {meth : Method} {c : Code} {g : hj_G} {ad : Nat → Nat} (hI : hj_I 13 ad) (C : hj_C p s m args meth c cX6_isRest RX6 wsX6_isRest 7 (some .boolean)) (hK : hj_K g s) {τ : hj_Ob} {sd : Int64} {x1 : Int32} {x2 : Int32} {x3 : Int32} {x4 : Int32} {x5 : Int32} {x6 : Int32} {y : Int32 ⊕ (Int32 × Int32)} {rF : Int32}
    (hf : fX6_isRest_6 τ sd x1 x2 x3 x4 x5 x6 = some y) (KX : ∀ (v5 : Int32), y = .inl v5 → ∀ (H : Heap) (locs : List Loc) (ls : Array Slot), hj_P g 13 ad (hj_wm g ad τ sd) H → hj_S 13 ad s H locs → lv_has ls 7 [(5, .int v5)] → W p l e rmX6_isRest s m args below meth c H locs 0 0 (MQ below (hj_QI g 13 ad (hj_wm g ad τ sd) rF s.heap.size) args s 0 0 (hj_A 13 ad s.heap.size)) (F0 m 73 ls [])) (KI : ∀ (v5 : Int32) (v6 : Int32), y = .inr (v5, v6) → ∀ (H : Heap) (locs : List Loc) (ls : Array Slot), hj_P g 13 ad (hj_wm g ad τ sd) H → hj_S 13 ad s H locs → lv_has ls 7 [(0, .ref (ad 0)), (1, .int x1), (2, .int x2), (3, .int x3), (4, .int x4), (5, .int v5), (6, .int v6)] → W p l e rmX6_isRest s m args below meth c H locs 0 0 (MQ below (hj_QI g 13 ad (hj_wm g ad τ sd) rF s.heap.size) args s 0 0 (hj_A 13 ad s.heap.size)) (F0 m 6 ls [])) {H : Heap} {locs : List Loc} {ls : Array Slot} (hP : hj_P g 13 ad (hj_wm g ad τ sd) H) (hS : hj_S 13 ad s H locs) (hl : lv_has ls 7 [(0, .ref (ad 0)), (1, .int x1), (2, .int x2), (3, .int x3), (4, .int x4), (5, .int x5), (6, .int x6)]) :
    W p l e rmX6_isRest s m args below meth c H locs 0 0 (MQ below (hj_QI g 13 ad (hj_wm g ad τ sd) rF s.heap.size) args s 0 0 (hj_A 13 ad s.heap.size)) (F0 m 6 ls []) := by
  obtain ⟨hx, hb, hr, hml, hown, hts, hlocks⟩ := id C
  unfold fX6_isRest_6 at hf
  refine lv_iload hx hb dX6_isRest_6 (lv_at hl 6 rfl) ?_
  refine lv_iconst (v := 5) hx hb dX6_isRest_8 (by decide) ?_
  refine lv_icmp_ge (tgt := 73) hx hb dX6_isRest_9 (by decide) (fun c1 => ?_) (fun c1 => ?_)
  · rw [if_pos c1] at hf
    exact KX _ (Option.some.inj hf).symm _ _ _ hP hS (lv_sub hl [5] rfl)
  · rw [if_neg c1] at hf
    refine lv_iload hx hb dX6_isRest_12 (lv_at hl 5 rfl) ?_
    refine lv_if_eq (tgt := 64) hx hb dX6_isRest_14 (by decide) (fun c2 => ?_) (fun c2 => ?_)
    · rw [if_pos c2] at hf
      refine lv_iconst (v := 0) hx hb dX6_isRest_64 (by decide) ?_
      refine lv_istore (lv' := [(5, .int 0), (0, .ref (ad 0)), (1, .int x1), (2, .int x2), (3, .int x3), (4, .int x4), (6, .int x6)]) hx hb dX6_isRest_65 hl (by decide) rfl (fun ls hl => ?_)
      obtain ⟨y3, ey3⟩ : ∃ z : Int32, z = x6 + 1 := ⟨_, rfl⟩
      replace hf := hj_nm_y hf ey3
      refine lv_iinc (v := y3) (lv' := [(6, .int y3), (5, .int 0), (0, .ref (ad 0)), (1, .int x1), (2, .int x2), (3, .int x3), (4, .int x4)]) hx hb dX6_isRest_67 hl (k := 6) rfl (by rw [ey3]; rfl) (by decide) rfl (fun ls hl => ?_)
      refine lv_goto (tgt := 6) hx hb dX6_isRest_70 (by decide) ?_
      exact KI _ _ (Option.some.inj hf).symm _ _ _ hP hS (lv_sub hl [2, 3, 4, 5, 6, 1, 0] rfl)
    · rw [if_neg c2] at hf
      refine lv_aload_n hx hb dX6_isRest_17 rfl (lv_at hl 0 rfl) ?_
      refine lv_iload_n hx hb dX6_isRest_18 rfl (lv_at hl 1 rfl) ?_
      refine lv_iload_n hx hb dX6_isRest_19 rfl (lv_at hl 2 rfl) ?_
      refine lv_iload hx hb dX6_isRest_20 (lv_at hl 6 rfl) ?_
      refine lv_iload hx hb dX6_isRest_22 (lv_at hl 4 rfl) ?_
      obtain ⟨r4, hc, hf⟩ := hj_o1_s hf
      refine hj_callVi (nL := 7) (As := [.int x1, .int x2, .int x6, .int x4]) (rest := []) (i0 := 0) (C := RX6) (T := TX6) (N := 24) (ci := 6) ⟨hx, hb, hml, hown, hts⟩ (ctX6_loses l g hI hc) (cwV 4 hts gX6_isRest_X6_loses rfl rfl rfl (by decide +kernel) ⟨Nat.le_of_ble_eq_true rfl, Nat.le_of_ble_eq_true rfl⟩) hj_Xb0 (fun _ _ _ => trivial) hK hP hS (by decide) rfl rfl rfl hl.1 rfl (Nat.le_of_ble_eq_true rfl) dX6_isRest_24 (fun H locs hP hS => ?_)
      refine lv_aload_n hx hb dX6_isRest_27 rfl (lv_at hl 0 rfl) ?_
      refine lv_iload_n hx hb dX6_isRest_28 rfl (lv_at hl 1 rfl) ?_
      refine lv_iload_n hx hb dX6_isRest_29 rfl (lv_at hl 2 rfl) ?_
      refine lv_iload_n hx hb dX6_isRest_30 rfl (lv_at hl 3 rfl) ?_
      refine lv_iload hx hb dX6_isRest_31 (lv_at hl 4 rfl) ?_
      obtain ⟨r5, hc, hf⟩ := hj_o1_s hf
      refine hj_callVi (nL := 7) (As := [.int x1, .int x2, .int x3, .int x4]) (rest := [.int r4]) (i0 := 0) (C := RX6) (T := TX6) (N := 24) (ci := 6) ⟨hx, hb, hml, hown, hts⟩ (ctX6_loses l g hI hc) (cwV 4 hts gX6_isRest_X6_loses rfl rfl rfl (by decide +kernel) ⟨Nat.le_of_ble_eq_true rfl, Nat.le_of_ble_eq_true rfl⟩) hj_Xb0 (fun _ _ _ => trivial) hK hP hS (by decide) rfl rfl rfl hl.1 rfl (Nat.le_of_ble_eq_true rfl) dX6_isRest_33 (fun H locs hP hS => ?_)
      refine lv_icmp_lt (tgt := 64) hx hb dX6_isRest_36 (by decide) (fun c6 => ?_) (fun c6 => ?_)
      · rw [if_pos c6] at hf
        refine lv_iconst (v := 0) hx hb dX6_isRest_64 (by decide) ?_
        refine lv_istore (lv' := [(5, .int 0), (0, .ref (ad 0)), (1, .int x1), (2, .int x2), (3, .int x3), (4, .int x4), (6, .int x6)]) hx hb dX6_isRest_65 hl (by decide) rfl (fun ls hl => ?_)
        obtain ⟨y7, ey7⟩ : ∃ z : Int32, z = x6 + 1 := ⟨_, rfl⟩
        replace hf := hj_nm_y hf ey7
        refine lv_iinc (v := y7) (lv' := [(6, .int y7), (5, .int 0), (0, .ref (ad 0)), (1, .int x1), (2, .int x2), (3, .int x3), (4, .int x4)]) hx hb dX6_isRest_67 hl (k := 6) rfl (by rw [ey7]; rfl) (by decide) rfl (fun ls hl => ?_)
        refine lv_goto (tgt := 6) hx hb dX6_isRest_70 (by decide) ?_
        exact KI _ _ (Option.some.inj hf).symm _ _ _ hP hS (lv_sub hl [2, 3, 4, 5, 6, 1, 0] rfl)
      · rw [if_neg c6] at hf
        refine lv_aload_n hx hb dX6_isRest_39 rfl (lv_at hl 0 rfl) ?_
        refine lv_iload_n hx hb dX6_isRest_40 rfl (lv_at hl 2 rfl) ?_
        refine lv_iload_n hx hb dX6_isRest_41 rfl (lv_at hl 1 rfl) ?_
        refine lv_iload hx hb dX6_isRest_42 (lv_at hl 6 rfl) ?_
        refine lv_iload_n hx hb dX6_isRest_44 rfl (lv_at hl 3 rfl) ?_
        obtain ⟨r8, hc, hf⟩ := hj_o1_s hf
        refine hj_callVi (nL := 7) (As := [.int x2, .int x1, .int x6, .int x3]) (rest := []) (i0 := 0) (C := RX6) (T := TX6) (N := 24) (ci := 6) ⟨hx, hb, hml, hown, hts⟩ (ctX6_loses l g hI hc) (cwV 4 hts gX6_isRest_X6_loses rfl rfl rfl (by decide +kernel) ⟨Nat.le_of_ble_eq_true rfl, Nat.le_of_ble_eq_true rfl⟩) hj_Xb0 (fun _ _ _ => trivial) hK hP hS (by decide) rfl rfl rfl hl.1 rfl (Nat.le_of_ble_eq_true rfl) dX6_isRest_45 (fun H locs hP hS => ?_)
        refine lv_aload_n hx hb dX6_isRest_48 rfl (lv_at hl 0 rfl) ?_
        refine lv_iload_n hx hb dX6_isRest_49 rfl (lv_at hl 2 rfl) ?_
        refine lv_iload_n hx hb dX6_isRest_50 rfl (lv_at hl 1 rfl) ?_
        refine lv_iload hx hb dX6_isRest_51 (lv_at hl 4 rfl) ?_
        refine lv_iload_n hx hb dX6_isRest_53 rfl (lv_at hl 3 rfl) ?_
        obtain ⟨r9, hc, hf⟩ := hj_o1_s hf
        refine hj_callVi (nL := 7) (As := [.int x2, .int x1, .int x4, .int x3]) (rest := [.int r8]) (i0 := 0) (C := RX6) (T := TX6) (N := 24) (ci := 6) ⟨hx, hb, hml, hown, hts⟩ (ctX6_loses l g hI hc) (cwV 4 hts gX6_isRest_X6_loses rfl rfl rfl (by decide +kernel) ⟨Nat.le_of_ble_eq_true rfl, Nat.le_of_ble_eq_true rfl⟩) hj_Xb0 (fun _ _ _ => trivial) hK hP hS (by decide) rfl rfl rfl hl.1 rfl (Nat.le_of_ble_eq_true rfl) dX6_isRest_54 (fun H locs hP hS => ?_)
        refine lv_icmp_lt (tgt := 64) hx hb dX6_isRest_57 (by decide) (fun c10 => ?_) (fun c10 => ?_)
        · rw [if_pos c10] at hf
          refine lv_iconst (v := 0) hx hb dX6_isRest_64 (by decide) ?_
          refine lv_istore (lv' := [(5, .int 0), (0, .ref (ad 0)), (1, .int x1), (2, .int x2), (3, .int x3), (4, .int x4), (6, .int x6)]) hx hb dX6_isRest_65 hl (by decide) rfl (fun ls hl => ?_)
          obtain ⟨y11, ey11⟩ : ∃ z : Int32, z = x6 + 1 := ⟨_, rfl⟩
          replace hf := hj_nm_y hf ey11
          refine lv_iinc (v := y11) (lv' := [(6, .int y11), (5, .int 0), (0, .ref (ad 0)), (1, .int x1), (2, .int x2), (3, .int x3), (4, .int x4)]) hx hb dX6_isRest_67 hl (k := 6) rfl (by rw [ey11]; rfl) (by decide) rfl (fun ls hl => ?_)
          refine lv_goto (tgt := 6) hx hb dX6_isRest_70 (by decide) ?_
          exact KI _ _ (Option.some.inj hf).symm _ _ _ hP hS (lv_sub hl [2, 3, 4, 5, 6, 1, 0] rfl)
        · rw [if_neg c10] at hf
          refine lv_iconst (v := 1) hx hb dX6_isRest_60 (by decide) ?_
          refine lv_goto (tgt := 65) hx hb dX6_isRest_61 (by decide) ?_
          refine lv_istore (lv' := [(5, .int 1), (0, .ref (ad 0)), (1, .int x1), (2, .int x2), (3, .int x3), (4, .int x4), (6, .int x6)]) hx hb dX6_isRest_65 hl (by decide) rfl (fun ls hl => ?_)
          obtain ⟨y12, ey12⟩ : ∃ z : Int32, z = x6 + 1 := ⟨_, rfl⟩
          replace hf := hj_nm_y hf ey12
          refine lv_iinc (v := y12) (lv' := [(6, .int y12), (5, .int 1), (0, .ref (ad 0)), (1, .int x1), (2, .int x2), (3, .int x3), (4, .int x4)]) hx hb dX6_isRest_67 hl (k := 6) rfl (by rw [ey12]; rfl) (by decide) rfl (fun ls hl => ?_)
          refine lv_goto (tgt := 6) hx hb dX6_isRest_70 (by decide) ?_
          exact KI _ _ (Option.some.inj hf).symm _ _ _ hP hS (lv_sub hl [2, 3, 4, 5, 6, 1, 0] rfl)
set_option maxHeartbeats 4000000 in
set_option maxRecDepth 100000 in
theorem wX6_isRest_6 {p : Program} {l : Launch} {e : Env} {s : State} {m : MethodId} {args : Array Value} {below : List Frame} {meth : Method} {c : Code} {g : hj_G} {ad : Nat → Nat} (hI : hj_I 13 ad) (C : hj_C p s m args meth c cX6_isRest RX6 wsX6_isRest 7 (some .boolean)) (hK : hj_K g s) {τ : hj_Ob} {sd : Int64} {x1 : Int32} {x2 : Int32} {x3 : Int32} {x4 : Int32} {rF : Int32} {e5 : Int32} :
    ∀ (fu : Nat) (x5 : Int32) (x6 : Int32), hj_lp (fun q : (Int32 × Int32) => fX6_isRest_6 τ sd x1 x2 x3 x4 q.1 q.2) fu (x5, x6) = some e5 → (∀ (H : Heap) (locs : List Loc) (ls : Array Slot), hj_P g 13 ad (hj_wm g ad τ sd) H → hj_S 13 ad s H locs → lv_has ls 7 [(5, .int e5)] → W p l e rmX6_isRest s m args below meth c H locs 0 0 (MQ below (hj_QI g 13 ad (hj_wm g ad τ sd) rF s.heap.size) args s 0 0 (hj_A 13 ad s.heap.size)) (F0 m 73 ls [])) → ∀ (H : Heap) (locs : List Loc) (ls : Array Slot), hj_P g 13 ad (hj_wm g ad τ sd) H → hj_S 13 ad s H locs → lv_has ls 7 [(0, .ref (ad 0)), (1, .int x1), (2, .int x2), (3, .int x3), (4, .int x4), (5, .int x5), (6, .int x6)] →
    W p l e rmX6_isRest s m args below meth c H locs 0 0 (MQ below (hj_QI g 13 ad (hj_wm g ad τ sd) rF s.heap.size) args s 0 0 (hj_A 13 ad s.heap.size)) (F0 m 6 ls []) := by
  intro fu
  induction fu with
  | zero => intro x5 x6 hq; cases hq
  | succ fu ih =>
    intro x5 x6 hq KX H locs ls hP hS hl
    obtain ⟨y, hy, h1, h2⟩ := hj_lp_s hq
    exact wX6_isRest_6b hI C hK  hy (fun v5 hv H locs ls hP hS hl => by obtain rfl := h1 _ hv; exact KX H locs ls hP hS hl) (fun v5 v6 hv H locs ls hP hS hl => ih v5 v6 (h2 _ hv) KX H locs ls hP hS hl) hP hS hl
def fX6_isRest (τ : hj_Ob) (sd : Int64) (x1 : Int32) (x2 : Int32) (x3 : Int32) (x4 : Int32) : Option Int32 :=
  hj_o1 (hj_lp (fun q : (Int32 × Int32) => fX6_isRest_6 τ sd x1 x2 x3 x4 q.1 q.2) 100 (1, 0)) fun e13 => (hj_bz e13 (some e13))
set_option maxHeartbeats 4000000 in
set_option maxRecDepth 100000 in
theorem wX6_isRest {p : Program} {l : Launch} {e : Env} {s : State} {m : MethodId} {args : Array Value} {below : List Frame} {meth : Method} {c : Code} {g : hj_G} {ad : Nat → Nat} (hI : hj_I 13 ad) (C : hj_C p s m args meth c cX6_isRest RX6 wsX6_isRest 7 (some .boolean)) (hK : hj_K g s) {τ : hj_Ob} {sd : Int64} {x1 : Int32} {x2 : Int32} {x3 : Int32} {x4 : Int32} {rF : Int32}
    (hf : fX6_isRest τ sd x1 x2 x3 x4 = some rF) {H : Heap} {locs : List Loc} {ls : Array Slot} (hP : hj_P g 13 ad (hj_wm g ad τ sd) H) (hS : hj_S 13 ad s H locs) (hl : lv_has ls 7 [(0, .ref (ad 0)), (1, .int x1), (2, .int x2), (3, .int x3), (4, .int x4)]) :
    W p l e rmX6_isRest s m args below meth c H locs 0 0 (MQ below (hj_QI g 13 ad (hj_wm g ad τ sd) rF s.heap.size) args s 0 0 (hj_A 13 ad s.heap.size)) (F0 m 0 ls []) := by
  obtain ⟨hx, hb, hr, hml, hown, hts, hlocks⟩ := id C
  unfold fX6_isRest at hf
  refine lv_iconst (v := 1) hx hb dX6_isRest_0 (by decide) ?_
  refine lv_istore (lv' := [(5, .int 1), (0, .ref (ad 0)), (1, .int x1), (2, .int x2), (3, .int x3), (4, .int x4)]) hx hb dX6_isRest_1 hl (by decide) rfl (fun ls hl => ?_)
  refine lv_iconst (v := 0) hx hb dX6_isRest_3 (by decide) ?_
  refine lv_istore (lv' := [(6, .int 0), (5, .int 1), (0, .ref (ad 0)), (1, .int x1), (2, .int x2), (3, .int x3), (4, .int x4)]) hx hb dX6_isRest_4 hl (by decide) rfl (fun ls hl => ?_)
  obtain ⟨e13, hlx, hf⟩ := hj_o1_s hf
  refine wX6_isRest_6 hI C hK  100 1 0 hlx (fun H locs ls hP hS hl => ?_) H locs ls hP hS (lv_sub hl [2, 3, 4, 5, 6, 1, 0] rfl)
  refine lv_iload hx hb dX6_isRest_73 (lv_at hl 0 rfl) ?_
  obtain ⟨hz, hf⟩ := hj_bz_s hf
  have hq := Option.some.inj hf
  obtain rfl := hq
  exact hj_retz hz  C hP hK hS dX6_isRest_75
set_option maxHeartbeats 4000000 in
set_option maxRecDepth 100000 in
theorem ctX6_isRest (l : Launch) (g : hj_G) {ad : Nat → Nat} (hI : hj_I 13 ad) {τ : hj_Ob} {sd : Int64} {x1 : Int32} {x2 : Int32} {x3 : Int32} {x4 : Int32} {rF : Int32} (hf : fX6_isRest τ sd x1 x2 x3 x4 = some rF) :
    hj_MI l yX6_isRest wsX6_isRest rmX6_isRest g 13 ad hj_X0 [.ref (ad 0), .int x1, .int x2, .int x3, .int x4] (hj_wm g ad τ sd) rF (hj_wm g ad τ sd) := by
  refine hj_ofI (cc := cX6_isRest) (maxL := 7) (ret := (some .boolean)) (by decide) rfl (Nat.le_of_ble_eq_true rfl) ?_
  intro p e s m args below meth c ls C hP hK hX hl
  exact wX6_isRest hI C hK hf hP va_S.rf hl

/-! X6_rests -/
abbrev rmX6_rests : Room := { frames := 2, cells := 0, slots := 0, locals := 52 }
def fX6_rests_46 (τ : hj_Ob) (sd : Int64) (x1 : Int32) (x2 : Int32) (x3 : Int32) (x4 : Int32) (x5 : Int32) (x6 : Int32) : Option ((Int32 × Int32) ⊕ (Int32 × Int32 × Int32)) :=
  if 25 ≤ x6 then (some (.inl (x4, x5))) else (hj_o1 (fX6_isRest τ sd x1 x2 (x6 / 5) (x6 - x6 / 5 * 5)) fun r9 => if r9 = 0 then (hj_nm (x6 + 1) fun y11 => some (.inr (x4, x5, y11))) else (if x4 = 0 then (hj_nm ((10 * (x6 / 5)) + (x6 - x6 / 5 * 5)) fun y15 => hj_nm (x4 + 1) fun y16 => hj_nm (x6 + 1) fun y17 => some (.inr (y16, y15, y17))) else (hj_nm (x4 + 1) fun y13 => hj_nm (x6 + 1) fun y14 => some (.inr (y13, x5, y14)))))
set_option maxHeartbeats 4000000 in
set_option maxRecDepth 100000 in
theorem wX6_rests_46b {p : Program} {l : Launch} {e : Env} {s : State} {m : MethodId} {args : Array Value} {below : List Frame} {meth : Method} {c : Code} {g : hj_G} {ad : Nat → Nat} (hI : hj_I 13 ad) (C : hj_C p s m args meth c cX6_rests RX6 wsX6_rests 7 (some .int)) (hK : hj_K g s) {τ : hj_Ob} {sd : Int64} {x1 : Int32} {x2 : Int32} {x3 : Int32} {x4 : Int32} {x5 : Int32} {x6 : Int32} {y : (Int32 × Int32) ⊕ (Int32 × Int32 × Int32)} {rF : Int32}
    (hf : fX6_rests_46 τ sd x1 x2 x3 x4 x5 x6 = some y) (KX : ∀ (v4 : Int32) (v5 : Int32), y = .inl (v4, v5) → ∀ (H : Heap) (locs : List Loc) (ls : Array Slot), hj_P g 13 ad (hj_wm g ad τ sd) H → hj_S 13 ad s H locs → lv_has ls 7 [(3, .int x3), (4, .int v4), (5, .int v5)] → W p l e rmX6_rests s m args below meth c H locs 0 0 (MQ below (hj_QI g 13 ad (hj_wm g ad τ sd) rF s.heap.size) args s 0 0 (hj_A 13 ad s.heap.size)) (F0 m 103 ls [])) (KI : ∀ (v4 : Int32) (v5 : Int32) (v6 : Int32), y = .inr (v4, v5, v6) → ∀ (H : Heap) (locs : List Loc) (ls : Array Slot), hj_P g 13 ad (hj_wm g ad τ sd) H → hj_S 13 ad s H locs → lv_has ls 7 [(0, .ref (ad 0)), (1, .int x1), (2, .int x2), (3, .int x3), (4, .int v4), (5, .int v5), (6, .int v6)] → W p l e rmX6_rests s m args below meth c H locs 0 0 (MQ below (hj_QI g 13 ad (hj_wm g ad τ sd) rF s.heap.size) args s 0 0 (hj_A 13 ad s.heap.size)) (F0 m 46 ls [])) {H : Heap} {locs : List Loc} {ls : Array Slot} (hP : hj_P g 13 ad (hj_wm g ad τ sd) H) (hS : hj_S 13 ad s H locs) (hl : lv_has ls 7 [(0, .ref (ad 0)), (1, .int x1), (2, .int x2), (3, .int x3), (4, .int x4), (5, .int x5), (6, .int x6)]) :
    W p l e rmX6_rests s m args below meth c H locs 0 0 (MQ below (hj_QI g 13 ad (hj_wm g ad τ sd) rF s.heap.size) args s 0 0 (hj_A 13 ad s.heap.size)) (F0 m 46 ls []) := by
  obtain ⟨hx, hb, hr, hml, hown, hts, hlocks⟩ := id C
  unfold fX6_rests_46 at hf
  refine lv_iload hx hb dX6_rests_46 (lv_at hl 6 rfl) ?_
  refine lv_bipush (v := 25) hx hb dX6_rests_48 (by decide) ?_
  refine lv_icmp_ge (tgt := 103) hx hb dX6_rests_50 (by decide) (fun c8 => ?_) (fun c8 => ?_)
  · rw [if_pos c8] at hf
    exact KX _ _ (Option.some.inj hf).symm _ _ _ hP hS (lv_sub hl [3, 4, 5] rfl)
  · rw [if_neg c8] at hf
    refine lv_aload_n hx hb dX6_rests_53 rfl (lv_at hl 0 rfl) ?_
    refine lv_iload_n hx hb dX6_rests_54 rfl (lv_at hl 1 rfl) ?_
    refine lv_iload_n hx hb dX6_rests_55 rfl (lv_at hl 2 rfl) ?_
    refine lv_iload hx hb dX6_rests_56 (lv_at hl 6 rfl) ?_
    refine lv_iconst (v := 5) hx hb dX6_rests_58 (by decide) ?_
    refine lv_idiv hx hb dX6_rests_59 (by decide) ?_
    refine lv_iload hx hb dX6_rests_60 (lv_at hl 6 rfl) ?_
    refine lv_iconst (v := 5) hx hb dX6_rests_62 (by decide) ?_
    refine lv_irem hx hb dX6_rests_63 (by decide) ?_
    obtain ⟨r9, hc, hf⟩ := hj_o1_s hf
    refine hj_callVi (nL := 7) (As := [.int x1, .int x2, .int (x6 / 5), .int (x6 - x6 / 5 * 5)]) (rest := []) (i0 := 0) (C := RX6) (T := TX6) (N := 24) (ci := 6) ⟨hx, hb, hml, hown, hts⟩ (ctX6_isRest l g hI hc) (cwV 4 hts gX6_rests_X6_isRest rfl rfl rfl (by decide +kernel) ⟨Nat.le_of_ble_eq_true rfl, Nat.le_of_ble_eq_true rfl⟩) hj_Xb0 (fun _ _ _ => trivial) hK hP hS (by decide) rfl rfl rfl hl.1 rfl (Nat.le_of_ble_eq_true rfl) dX6_rests_64 (fun H locs hP hS => ?_)
    refine lv_if_eq (tgt := 97) hx hb dX6_rests_67 (by decide) (fun c10 => ?_) (fun c10 => ?_)
    · rw [if_pos c10] at hf
      obtain ⟨y11, ey11⟩ : ∃ z : Int32, z = x6 + 1 := ⟨_, rfl⟩
      replace hf := hj_nm_y hf ey11
      refine lv_iinc (v := y11) (lv' := [(6, .int y11), (0, .ref (ad 0)), (1, .int x1), (2, .int x2), (3, .int x3), (4, .int x4), (5, .int x5)]) hx hb dX6_rests_97 hl (k := 6) rfl (by rw [ey11]; rfl) (by decide) rfl (fun ls hl => ?_)
      refine lv_goto (tgt := 46) hx hb dX6_rests_100 (by decide) ?_
      exact KI _ _ _ (Option.some.inj hf).symm _ _ _ hP hS (lv_sub hl [1, 2, 3, 4, 5, 6, 0] rfl)
    · rw [if_neg c10] at hf
      refine lv_iload hx hb dX6_rests_70 (lv_at hl 4 rfl) ?_
      refine lv_if_ne (tgt := 90) hx hb dX6_rests_72 (by decide) (fun c12 => ?_) (fun c12 => ?_)
      · rw [if_neg c12] at hf
        refine lv_iload hx hb dX6_rests_90 (lv_at hl 5 rfl) ?_
        refine lv_istore (lv' := [(5, .int x5), (0, .ref (ad 0)), (1, .int x1), (2, .int x2), (3, .int x3), (4, .int x4), (6, .int x6)]) hx hb dX6_rests_92 hl (by decide) rfl (fun ls hl => ?_)
        obtain ⟨y13, ey13⟩ : ∃ z : Int32, z = x4 + 1 := ⟨_, rfl⟩
        replace hf := hj_nm_y hf ey13
        refine lv_iinc (v := y13) (lv' := [(4, .int y13), (5, .int x5), (0, .ref (ad 0)), (1, .int x1), (2, .int x2), (3, .int x3), (6, .int x6)]) hx hb dX6_rests_94 hl (k := 5) rfl (by rw [ey13]; rfl) (by decide) rfl (fun ls hl => ?_)
        obtain ⟨y14, ey14⟩ : ∃ z : Int32, z = x6 + 1 := ⟨_, rfl⟩
        replace hf := hj_nm_y hf ey14
        refine lv_iinc (v := y14) (lv' := [(6, .int y14), (4, .int y13), (5, .int x5), (0, .ref (ad 0)), (1, .int x1), (2, .int x2), (3, .int x3)]) hx hb dX6_rests_97 hl (k := 6) rfl (by rw [ey14]; rfl) (by decide) rfl (fun ls hl => ?_)
        refine lv_goto (tgt := 46) hx hb dX6_rests_100 (by decide) ?_
        exact KI _ _ _ (Option.some.inj hf).symm _ _ _ hP hS (lv_sub hl [3, 4, 5, 6, 1, 2, 0] rfl)
      · rw [if_pos c12] at hf
        refine lv_bipush (v := 10) hx hb dX6_rests_75 (by decide) ?_
        refine lv_iload hx hb dX6_rests_77 (lv_at hl 6 rfl) ?_
        refine lv_iconst (v := 5) hx hb dX6_rests_79 (by decide) ?_
        refine lv_idiv hx hb dX6_rests_80 (by decide) ?_
        refine lv_imul hx hb dX6_rests_81 ?_
        refine lv_iload hx hb dX6_rests_82 (lv_at hl 6 rfl) ?_
        refine lv_iconst (v := 5) hx hb dX6_rests_84 (by decide) ?_
        refine lv_irem hx hb dX6_rests_85 (by decide) ?_
        refine lv_iadd hx hb dX6_rests_86 ?_
        refine lv_goto (tgt := 92) hx hb dX6_rests_87 (by decide) ?_
        refine lv_topi (fun y15 ey15 => ?_)
        replace hf := hj_nm_y hf ey15
        refine lv_istore (lv' := [(5, .int y15), (0, .ref (ad 0)), (1, .int x1), (2, .int x2), (3, .int x3), (4, .int x4), (6, .int x6)]) hx hb dX6_rests_92 hl (by decide) rfl (fun ls hl => ?_)
        obtain ⟨y16, ey16⟩ : ∃ z : Int32, z = x4 + 1 := ⟨_, rfl⟩
        replace hf := hj_nm_y hf ey16
        refine lv_iinc (v := y16) (lv' := [(4, .int y16), (5, .int y15), (0, .ref (ad 0)), (1, .int x1), (2, .int x2), (3, .int x3), (6, .int x6)]) hx hb dX6_rests_94 hl (k := 5) rfl (by rw [ey16]; rfl) (by decide) rfl (fun ls hl => ?_)
        obtain ⟨y17, ey17⟩ : ∃ z : Int32, z = x6 + 1 := ⟨_, rfl⟩
        replace hf := hj_nm_y hf ey17
        refine lv_iinc (v := y17) (lv' := [(6, .int y17), (4, .int y16), (5, .int y15), (0, .ref (ad 0)), (1, .int x1), (2, .int x2), (3, .int x3)]) hx hb dX6_rests_97 hl (k := 6) rfl (by rw [ey17]; rfl) (by decide) rfl (fun ls hl => ?_)
        refine lv_goto (tgt := 46) hx hb dX6_rests_100 (by decide) ?_
        exact KI _ _ _ (Option.some.inj hf).symm _ _ _ hP hS (lv_sub hl [3, 4, 5, 6, 1, 2, 0] rfl)
set_option maxHeartbeats 4000000 in
set_option maxRecDepth 100000 in
theorem wX6_rests_46 {p : Program} {l : Launch} {e : Env} {s : State} {m : MethodId} {args : Array Value} {below : List Frame} {meth : Method} {c : Code} {g : hj_G} {ad : Nat → Nat} (hI : hj_I 13 ad) (C : hj_C p s m args meth c cX6_rests RX6 wsX6_rests 7 (some .int)) (hK : hj_K g s) {τ : hj_Ob} {sd : Int64} {x1 : Int32} {x2 : Int32} {x3 : Int32} {rF : Int32} {e4 : Int32} {e5 : Int32} :
    ∀ (fu : Nat) (x4 : Int32) (x5 : Int32) (x6 : Int32), hj_lp (fun q : (Int32 × Int32 × Int32) => fX6_rests_46 τ sd x1 x2 x3 q.1 q.2.1 q.2.2) fu (x4, x5, x6) = some (e4, e5) → (∀ (H : Heap) (locs : List Loc) (ls : Array Slot), hj_P g 13 ad (hj_wm g ad τ sd) H → hj_S 13 ad s H locs → lv_has ls 7 [(3, .int x3), (4, .int e4), (5, .int e5)] → W p l e rmX6_rests s m args below meth c H locs 0 0 (MQ below (hj_QI g 13 ad (hj_wm g ad τ sd) rF s.heap.size) args s 0 0 (hj_A 13 ad s.heap.size)) (F0 m 103 ls [])) → ∀ (H : Heap) (locs : List Loc) (ls : Array Slot), hj_P g 13 ad (hj_wm g ad τ sd) H → hj_S 13 ad s H locs → lv_has ls 7 [(0, .ref (ad 0)), (1, .int x1), (2, .int x2), (3, .int x3), (4, .int x4), (5, .int x5), (6, .int x6)] →
    W p l e rmX6_rests s m args below meth c H locs 0 0 (MQ below (hj_QI g 13 ad (hj_wm g ad τ sd) rF s.heap.size) args s 0 0 (hj_A 13 ad s.heap.size)) (F0 m 46 ls []) := by
  intro fu
  induction fu with
  | zero => intro x4 x5 x6 hq; cases hq
  | succ fu ih =>
    intro x4 x5 x6 hq KX H locs ls hP hS hl
    obtain ⟨y, hy, h1, h2⟩ := hj_lp_s hq
    exact wX6_rests_46b hI C hK  hy (fun v4 v5 hv H locs ls hP hS hl => by have hw := h1 _ hv; obtain ⟨rfl, rfl⟩ := Prod.mk.inj hw; exact KX H locs ls hP hS hl) (fun v4 v5 v6 hv H locs ls hP hS hl => ih v4 v5 v6 (h2 _ hv) KX H locs ls hP hS hl) hP hS hl
def fX6_rests (τ : hj_Ob) (sd : Int64) (x1 : Int32) (x2 : Int32) (x3 : Int32) : Option Int32 :=
  hj_o1 (fX6_isJuror τ sd x1) fun r1 => if r1 = 0 then (some (-1)) else (hj_o1 (fX6_isJuror τ sd x2) fun r3 => if r3 = 0 then (some (-1)) else (if x1 = x2 then (some (-2)) else (hj_o1 (fX6_in x3.toInt64 0 1) fun r6 => if r6 = 0 then (some (-2)) else (hj_o2 (hj_lp (fun q : (Int32 × Int32 × Int32) => fX6_rests_46 τ sd x1 x2 x3 q.1 q.2.1 q.2.2) 100 (0, (-9), 0)) fun e18 e19 => (if x3 = 0 then (some e18) else (some e19))))))
set_option maxHeartbeats 4000000 in
set_option maxRecDepth 100000 in
theorem wX6_rests {p : Program} {l : Launch} {e : Env} {s : State} {m : MethodId} {args : Array Value} {below : List Frame} {meth : Method} {c : Code} {g : hj_G} {ad : Nat → Nat} (hI : hj_I 13 ad) (C : hj_C p s m args meth c cX6_rests RX6 wsX6_rests 7 (some .int)) (hK : hj_K g s) {τ : hj_Ob} {sd : Int64} {x1 : Int32} {x2 : Int32} {x3 : Int32} {rF : Int32}
    (hf : fX6_rests τ sd x1 x2 x3 = some rF) {H : Heap} {locs : List Loc} {ls : Array Slot} (hP : hj_P g 13 ad (hj_wm g ad τ sd) H) (hS : hj_S 13 ad s H locs) (hl : lv_has ls 7 [(0, .ref (ad 0)), (1, .int x1), (2, .int x2), (3, .int x3)]) :
    W p l e rmX6_rests s m args below meth c H locs 0 0 (MQ below (hj_QI g 13 ad (hj_wm g ad τ sd) rF s.heap.size) args s 0 0 (hj_A 13 ad s.heap.size)) (F0 m 0 ls []) := by
  obtain ⟨hx, hb, hr, hml, hown, hts, hlocks⟩ := id C
  unfold fX6_rests at hf
  refine lv_aload_n hx hb dX6_rests_0 rfl (lv_at hl 0 rfl) ?_
  refine lv_iload_n hx hb dX6_rests_1 rfl (lv_at hl 1 rfl) ?_
  obtain ⟨r1, hc, hf⟩ := hj_o1_s hf
  refine hj_callVi (nL := 7) (As := [.int x1]) (rest := []) (i0 := 0) (C := RX6) (T := TX6) (N := 24) (ci := 6) ⟨hx, hb, hml, hown, hts⟩ (ctX6_isJuror l g hI hc) (cwV 1 hts gX6_rests_X6_isJuror rfl rfl rfl (by decide +kernel) ⟨Nat.le_of_ble_eq_true rfl, Nat.le_of_ble_eq_true rfl⟩) hj_Xb0 (fun _ _ _ => trivial) hK hP hS (by decide) rfl rfl rfl hl.1 rfl (Nat.le_of_ble_eq_true rfl) dX6_rests_2 (fun H locs hP hS => ?_)
  refine lv_if_eq (tgt := 16) hx hb dX6_rests_5 (by decide) (fun c2 => ?_) (fun c2 => ?_)
  · rw [if_pos c2] at hf
    refine lv_iconst (v := (-1)) hx hb dX6_rests_16 (by decide) ?_
    have hq := Option.some.inj hf
    obtain rfl := hq
    exact hj_reti C hP hK hS dX6_rests_17
  · rw [if_neg c2] at hf
    refine lv_aload_n hx hb dX6_rests_8 rfl (lv_at hl 0 rfl) ?_
    refine lv_iload_n hx hb dX6_rests_9 rfl (lv_at hl 2 rfl) ?_
    obtain ⟨r3, hc, hf⟩ := hj_o1_s hf
    refine hj_callVi (nL := 7) (As := [.int x2]) (rest := []) (i0 := 0) (C := RX6) (T := TX6) (N := 24) (ci := 6) ⟨hx, hb, hml, hown, hts⟩ (ctX6_isJuror l g hI hc) (cwV 1 hts gX6_rests_X6_isJuror rfl rfl rfl (by decide +kernel) ⟨Nat.le_of_ble_eq_true rfl, Nat.le_of_ble_eq_true rfl⟩) hj_Xb0 (fun _ _ _ => trivial) hK hP hS (by decide) rfl rfl rfl hl.1 rfl (Nat.le_of_ble_eq_true rfl) dX6_rests_10 (fun H locs hP hS => ?_)
    refine lv_if_ne (tgt := 18) hx hb dX6_rests_13 (by decide) (fun c4 => ?_) (fun c4 => ?_)
    · rw [if_neg c4] at hf
      refine lv_iload_n hx hb dX6_rests_18 rfl (lv_at hl 1 rfl) ?_
      refine lv_iload_n hx hb dX6_rests_19 rfl (lv_at hl 2 rfl) ?_
      refine lv_icmp_eq (tgt := 33) hx hb dX6_rests_20 (by decide) (fun c5 => ?_) (fun c5 => ?_)
      · rw [if_pos c5] at hf
        refine lv_bipush (v := (-2)) hx hb dX6_rests_33 (by decide) ?_
        have hq := Option.some.inj hf
        obtain rfl := hq
        exact hj_reti C hP hK hS dX6_rests_35
      · rw [if_neg c5] at hf
        refine lv_iload_n hx hb dX6_rests_23 rfl (lv_at hl 3 rfl) ?_
        refine lv_i2l (v := x3.toInt64) hx hb dX6_rests_24 rfl ?_
        refine lv_lconst (v := 0) hx hb dX6_rests_25 (by decide) ?_
        refine lv_lconst (v := 1) hx hb dX6_rests_26 (by decide) ?_
        obtain ⟨r6, hc, hf⟩ := hj_o1_s hf
        refine hj_callSi (nL := 7) (As := [.long x3.toInt64, .long 0, .long 1]) (rest := []) ⟨hx, hb, hml, hown, hts⟩ (ctX6_in l g (n := 13) (ad := ad) (w := (hj_wm g ad τ sd)) hc) (va_cwS 3 hts gX6_rests_X6_in rfl rfl rfl (by decide +kernel) ⟨Nat.le_of_ble_eq_true rfl, Nat.le_of_ble_eq_true rfl⟩) hj_Xb0 (fun _ _ _ => trivial) hK hP hS rfl hl.1 rfl (Nat.le_of_ble_eq_true rfl) dX6_rests_27 (fun H locs hP hS => ?_)
        refine lv_if_ne (tgt := 36) hx hb dX6_rests_30 (by decide) (fun c7 => ?_) (fun c7 => ?_)
        · rw [if_neg c7] at hf
          refine lv_iconst (v := 0) hx hb dX6_rests_36 (by decide) ?_
          refine lv_istore (lv' := [(4, .int 0), (0, .ref (ad 0)), (1, .int x1), (2, .int x2), (3, .int x3)]) hx hb dX6_rests_37 hl (by decide) rfl (fun ls hl => ?_)
          refine lv_bipush (v := (-9)) hx hb dX6_rests_39 (by decide) ?_
          refine lv_istore (lv' := [(5, .int (-9)), (4, .int 0), (0, .ref (ad 0)), (1, .int x1), (2, .int x2), (3, .int x3)]) hx hb dX6_rests_41 hl (by decide) rfl (fun ls hl => ?_)
          refine lv_iconst (v := 0) hx hb dX6_rests_43 (by decide) ?_
          refine lv_istore (lv' := [(6, .int 0), (5, .int (-9)), (4, .int 0), (0, .ref (ad 0)), (1, .int x1), (2, .int x2), (3, .int x3)]) hx hb dX6_rests_44 hl (by decide) rfl (fun ls hl => ?_)
          obtain ⟨e18, e19, hlx, hf⟩ := hj_o2_s hf
          refine wX6_rests_46 hI C hK  100 0 (-9) 0 hlx (fun H locs ls hP hS hl => ?_) H locs ls hP hS (lv_sub hl [3, 4, 5, 6, 2, 1, 0] rfl)
          refine lv_iload_n hx hb dX6_rests_103 rfl (lv_at hl 0 rfl) ?_
          refine lv_if_ne (tgt := 112) hx hb dX6_rests_104 (by decide) (fun c20 => ?_) (fun c20 => ?_)
          · rw [if_neg c20] at hf
            refine lv_iload hx hb dX6_rests_112 (lv_at hl 2 rfl) ?_
            have hq := Option.some.inj hf
            obtain rfl := hq
            exact hj_reti C hP hK hS dX6_rests_114
          · rw [if_pos c20] at hf
            refine lv_iload hx hb dX6_rests_107 (lv_at hl 1 rfl) ?_
            refine lv_goto (tgt := 114) hx hb dX6_rests_109 (by decide) ?_
            have hq := Option.some.inj hf
            obtain rfl := hq
            exact hj_reti C hP hK hS dX6_rests_114
        · rw [if_pos c7] at hf
          refine lv_bipush (v := (-2)) hx hb dX6_rests_33 (by decide) ?_
          have hq := Option.some.inj hf
          obtain rfl := hq
          exact hj_reti C hP hK hS dX6_rests_35
    · rw [if_pos c4] at hf
      refine lv_iconst (v := (-1)) hx hb dX6_rests_16 (by decide) ?_
      have hq := Option.some.inj hf
      obtain rfl := hq
      exact hj_reti C hP hK hS dX6_rests_17
set_option maxHeartbeats 4000000 in
set_option maxRecDepth 100000 in
theorem ctX6_rests (l : Launch) (g : hj_G) {ad : Nat → Nat} (hI : hj_I 13 ad) {τ : hj_Ob} {sd : Int64} {x1 : Int32} {x2 : Int32} {x3 : Int32} {rF : Int32} (hf : fX6_rests τ sd x1 x2 x3 = some rF) :
    hj_MI l yX6_rests wsX6_rests rmX6_rests g 13 ad hj_X0 [.ref (ad 0), .int x1, .int x2, .int x3] (hj_wm g ad τ sd) rF (hj_wm g ad τ sd) := by
  refine hj_ofI (cc := cX6_rests) (maxL := 7) (ret := (some .int)) (by decide) rfl (Nat.le_of_ble_eq_true rfl) ?_
  intro p e s m args below meth c ls C hP hK hX hl
  exact wX6_rests hI C hK hf hP va_S.rf hl

/-! X6_power -/
abbrev rmX6_power : Room := { frames := 0, cells := 0, slots := 0, locals := 0 }
def fX6_power_4 (x0 : Int32) (x1 : Int32) (x2 : Int32) (x3 : Int32) : Option (Int32 ⊕ (Int32 × Int32)) :=
  if x1 ≤ x3 then (some (.inl x2)) else (hj_nm (x2 * x0) fun y2 => hj_nm (x3 + 1) fun y3 => some (.inr (y2, y3)))
set_option maxHeartbeats 4000000 in
set_option maxRecDepth 100000 in
theorem wX6_power_4b {p : Program} {l : Launch} {e : Env} {s : State} {m : MethodId} {args : Array Value} {below : List Frame} {meth : Method} {c : Code} {g : hj_G} {ad : Nat → Nat} {n : Nat} {w : Nat → va_E} (C : hj_C p s m args meth c cX6_power RX6 wsX6_power 4 (some .int)) (hK : hj_K g s) {x0 : Int32} {x1 : Int32} {x2 : Int32} {x3 : Int32} {y : Int32 ⊕ (Int32 × Int32)} {rF : Int32}
    (hf : fX6_power_4 x0 x1 x2 x3 = some y) (KX : ∀ (v2 : Int32), y = .inl v2 → ∀ (H : Heap) (locs : List Loc) (ls : Array Slot), hj_P g n ad w H → hj_S n ad s H locs → lv_has ls 4 [(2, .int v2)] → W p l e rmX6_power s m args below meth c H locs 0 0 (MQ below (hj_QI g n ad w rF s.heap.size) args s 0 0 (hj_A n ad s.heap.size)) (F0 m 19 ls [])) (KI : ∀ (v2 : Int32) (v3 : Int32), y = .inr (v2, v3) → ∀ (H : Heap) (locs : List Loc) (ls : Array Slot), hj_P g n ad w H → hj_S n ad s H locs → lv_has ls 4 [(0, .int x0), (1, .int x1), (2, .int v2), (3, .int v3)] → W p l e rmX6_power s m args below meth c H locs 0 0 (MQ below (hj_QI g n ad w rF s.heap.size) args s 0 0 (hj_A n ad s.heap.size)) (F0 m 4 ls [])) {H : Heap} {locs : List Loc} {ls : Array Slot} (hP : hj_P g n ad w H) (hS : hj_S n ad s H locs) (hl : lv_has ls 4 [(0, .int x0), (1, .int x1), (2, .int x2), (3, .int x3)]) :
    W p l e rmX6_power s m args below meth c H locs 0 0 (MQ below (hj_QI g n ad w rF s.heap.size) args s 0 0 (hj_A n ad s.heap.size)) (F0 m 4 ls []) := by
  obtain ⟨hx, hb, hr, hml, hown, hts, hlocks⟩ := id C
  unfold fX6_power_4 at hf
  refine lv_iload_n hx hb dX6_power_4 rfl (lv_at hl 3 rfl) ?_
  refine lv_iload_n hx hb dX6_power_5 rfl (lv_at hl 1 rfl) ?_
  refine lv_icmp_ge (tgt := 19) hx hb dX6_power_6 (by decide) (fun c1 => ?_) (fun c1 => ?_)
  · rw [if_pos c1] at hf
    exact KX _ (Option.some.inj hf).symm _ _ _ hP hS (lv_sub hl [2] rfl)
  · rw [if_neg c1] at hf
    refine lv_iload_n hx hb dX6_power_9 rfl (lv_at hl 2 rfl) ?_
    refine lv_iload_n hx hb dX6_power_10 rfl (lv_at hl 0 rfl) ?_
    refine lv_imul hx hb dX6_power_11 ?_
    refine lv_topi (fun y2 ey2 => ?_)
    replace hf := hj_nm_y hf ey2
    refine lv_istore_n (lv' := [(2, .int y2), (0, .int x0), (1, .int x1), (3, .int x3)]) hx hb dX6_power_12 rfl hl (by decide) rfl (fun ls hl => ?_)
    obtain ⟨y3, ey3⟩ : ∃ z : Int32, z = x3 + 1 := ⟨_, rfl⟩
    replace hf := hj_nm_y hf ey3
    refine lv_iinc (v := y3) (lv' := [(3, .int y3), (2, .int y2), (0, .int x0), (1, .int x1)]) hx hb dX6_power_13 hl (k := 3) rfl (by rw [ey3]; rfl) (by decide) rfl (fun ls hl => ?_)
    refine lv_goto (tgt := 4) hx hb dX6_power_16 (by decide) ?_
    exact KI _ _ (Option.some.inj hf).symm _ _ _ hP hS (lv_sub hl [2, 3, 1, 0] rfl)
set_option maxHeartbeats 4000000 in
set_option maxRecDepth 100000 in
theorem wX6_power_4 {p : Program} {l : Launch} {e : Env} {s : State} {m : MethodId} {args : Array Value} {below : List Frame} {meth : Method} {c : Code} {g : hj_G} {ad : Nat → Nat} {n : Nat} {w : Nat → va_E} (C : hj_C p s m args meth c cX6_power RX6 wsX6_power 4 (some .int)) (hK : hj_K g s) {x0 : Int32} {x1 : Int32} {rF : Int32} {e2 : Int32} :
    ∀ (fu : Nat) (x2 : Int32) (x3 : Int32), hj_lp (fun q : (Int32 × Int32) => fX6_power_4 x0 x1 q.1 q.2) fu (x2, x3) = some e2 → (∀ (H : Heap) (locs : List Loc) (ls : Array Slot), hj_P g n ad w H → hj_S n ad s H locs → lv_has ls 4 [(2, .int e2)] → W p l e rmX6_power s m args below meth c H locs 0 0 (MQ below (hj_QI g n ad w rF s.heap.size) args s 0 0 (hj_A n ad s.heap.size)) (F0 m 19 ls [])) → ∀ (H : Heap) (locs : List Loc) (ls : Array Slot), hj_P g n ad w H → hj_S n ad s H locs → lv_has ls 4 [(0, .int x0), (1, .int x1), (2, .int x2), (3, .int x3)] →
    W p l e rmX6_power s m args below meth c H locs 0 0 (MQ below (hj_QI g n ad w rF s.heap.size) args s 0 0 (hj_A n ad s.heap.size)) (F0 m 4 ls []) := by
  intro fu
  induction fu with
  | zero => intro x2 x3 hq; cases hq
  | succ fu ih =>
    intro x2 x3 hq KX H locs ls hP hS hl
    obtain ⟨y, hy, h1, h2⟩ := hj_lp_s hq
    exact wX6_power_4b C hK  hy (fun v2 hv H locs ls hP hS hl => by obtain rfl := h1 _ hv; exact KX H locs ls hP hS hl) (fun v2 v3 hv H locs ls hP hS hl => ih v2 v3 (h2 _ hv) KX H locs ls hP hS hl) hP hS hl
def fX6_power (x0 : Int32) (x1 : Int32) : Option Int32 :=
  hj_o1 (hj_lp (fun q : (Int32 × Int32) => fX6_power_4 x0 x1 q.1 q.2) 100 (1, 0)) fun e4 => (some e4)
set_option maxHeartbeats 4000000 in
set_option maxRecDepth 100000 in
theorem wX6_power {p : Program} {l : Launch} {e : Env} {s : State} {m : MethodId} {args : Array Value} {below : List Frame} {meth : Method} {c : Code} {g : hj_G} {ad : Nat → Nat} {n : Nat} {w : Nat → va_E} (C : hj_C p s m args meth c cX6_power RX6 wsX6_power 4 (some .int)) (hK : hj_K g s) {x0 : Int32} {x1 : Int32} {rF : Int32}
    (hf : fX6_power x0 x1 = some rF) {H : Heap} {locs : List Loc} {ls : Array Slot} (hP : hj_P g n ad w H) (hS : hj_S n ad s H locs) (hl : lv_has ls 4 [(0, .int x0), (1, .int x1)]) :
    W p l e rmX6_power s m args below meth c H locs 0 0 (MQ below (hj_QI g n ad w rF s.heap.size) args s 0 0 (hj_A n ad s.heap.size)) (F0 m 0 ls []) := by
  obtain ⟨hx, hb, hr, hml, hown, hts, hlocks⟩ := id C
  unfold fX6_power at hf
  refine lv_iconst (v := 1) hx hb dX6_power_0 (by decide) ?_
  refine lv_istore_n (lv' := [(2, .int 1), (0, .int x0), (1, .int x1)]) hx hb dX6_power_1 rfl hl (by decide) rfl (fun ls hl => ?_)
  refine lv_iconst (v := 0) hx hb dX6_power_2 (by decide) ?_
  refine lv_istore_n (lv' := [(3, .int 0), (2, .int 1), (0, .int x0), (1, .int x1)]) hx hb dX6_power_3 rfl hl (by decide) rfl (fun ls hl => ?_)
  obtain ⟨e4, hlx, hf⟩ := hj_o1_s hf
  refine wX6_power_4 C hK  100 1 0 hlx (fun H locs ls hP hS hl => ?_) H locs ls hP hS (lv_sub hl [2, 3, 1, 0] rfl)
  refine lv_iload_n hx hb dX6_power_19 rfl (lv_at hl 0 rfl) ?_
  have hq := Option.some.inj hf
  obtain rfl := hq
  exact hj_reti C hP hK hS dX6_power_20
set_option maxHeartbeats 4000000 in
set_option maxRecDepth 100000 in
theorem ctX6_power (l : Launch) (g : hj_G) {ad : Nat → Nat} {n : Nat} {w : Nat → va_E} {x0 : Int32} {x1 : Int32} {rF : Int32} (hf : fX6_power x0 x1 = some rF) :
    hj_MI l yX6_power wsX6_power rmX6_power g n ad hj_X0 [.int x0, .int x1] w rF w := by
  refine hj_ofI (cc := cX6_power) (maxL := 4) (ret := (some .int)) (by decide) rfl (Nat.le_of_ble_eq_true rfl) ?_
  intro p e s m args below meth c ls C hP hK hX hl
  exact wX6_power C hK hf hP va_S.rf hl

/-! X6_coins -/
abbrev rmX6_coins : Room := { frames := 5, cells := 0, slots := 0, locals := 117 }
theorem mX6_coins_1 : Cond.constantLong RX6 193 (10) ∈ wsX6_coins := List.mem_of_getElem? (i := 1) rfl
theorem iX6_coins_X6 : ∀ w ∈ wsX60, w ∈ wsX6_coins := fun _ h => List.mem_cons_of_mem _ (List.mem_append_right _ h)
theorem mX6_coins_2 : Cond.fieldLink RX6 16 "HungryJuryModel" "now" "[I" ∈ wsX6_coins := List.mem_of_getElem? (i := 2) rfl
def fX6_coins_48 (τ : hj_Ob) (sd : Int64) (x1 : Int32) (x2 : Int32) (x3 : Int32) (x4 : Int32) (x5 : Int32) (x6 : Int32) (x7 : Int32) : Option ((Int32 × Int32 × hj_Ob) ⊕ (Int32 × Int32 × Int32 × hj_Ob)) :=
  if x4 < x7 then (some (.inl (x5, x6, τ))) else (if (x7 &&& (x4 ^^^ (-1))) = 0 then (hj_o1 (fX6_ones x7) fun r10 => hj_o1 (fX6_power x2 r10) fun r11 => hj_o1 (fX6_ones x4) fun r12 => hj_o1 (fX6_ones x7) fun r13 => hj_o1 (fX6_power (10 - x2) (r12 - r13)) fun r14 => hj_nm (r11 * r14) fun y15 => hj_nm (x6 + y15) fun y16 => hj_ck (0 : Int32) 30 (hj_o2 (fX6_endOf τ sd (((τ.2 4 (0 : Int32).toNatClampNeg) &&& x4) ^^^ x7)) fun r18 τ19 => if r18 = x1 then (hj_nm (x5 + y15) fun y23 => hj_nm (x7 + 1) fun y24 => some (.inr (y23, y16, y24, τ19))) else (hj_nm (x5 + 0) fun y21 => hj_nm (x7 + 1) fun y22 => some (.inr (y21, y16, y22, τ19))))) else (hj_nm (x7 + 1) fun y9 => some (.inr (x5, x6, y9, τ))))
set_option maxHeartbeats 4000000 in
set_option maxRecDepth 100000 in
theorem wX6_coins_48b {p : Program} {l : Launch} {e : Env} {s : State} {m : MethodId} {args : Array Value} {below : List Frame} {meth : Method} {c : Code} {g : hj_G} {ad : Nat → Nat} (hI : hj_I 13 ad) (C : hj_C p s m args meth c cX6_coins RX6 wsX6_coins 9 (some .int)) (hK : hj_K g s) {τ : hj_Ob} {sd : Int64} {x1 : Int32} {x2 : Int32} {x3 : Int32} {x4 : Int32} {x5 : Int32} {x6 : Int32} {x7 : Int32} {y : (Int32 × Int32 × hj_Ob) ⊕ (Int32 × Int32 × Int32 × hj_Ob)} {rF : Int32} {τF : hj_Ob}
    (hf : fX6_coins_48 τ sd x1 x2 x3 x4 x5 x6 x7 = some y) (KX : ∀ (v5 : Int32) (v6 : Int32) (τ' : hj_Ob), y = .inl (v5, v6, τ') → ∀ (H : Heap) (locs : List Loc) (ls : Array Slot), hj_P g 13 ad (hj_wm g ad τ' sd) H → hj_S 13 ad s H locs → lv_has ls 9 [(3, .int x3), (5, .int v5), (6, .int v6)] → W p l e rmX6_coins s m args below meth c H locs 0 0 (MQ below (hj_QI g 13 ad (hj_wm g ad τF sd) rF s.heap.size) args s 0 0 (hj_A 13 ad s.heap.size)) (F0 m 139 ls [])) (KI : ∀ (v5 : Int32) (v6 : Int32) (v7 : Int32) (τ' : hj_Ob), y = .inr (v5, v6, v7, τ') → ∀ (H : Heap) (locs : List Loc) (ls : Array Slot), hj_P g 13 ad (hj_wm g ad τ' sd) H → hj_S 13 ad s H locs → lv_has ls 9 [(0, .ref (ad 0)), (1, .int x1), (2, .int x2), (3, .int x3), (4, .int x4), (5, .int v5), (6, .int v6), (7, .int v7)] → W p l e rmX6_coins s m args below meth c H locs 0 0 (MQ below (hj_QI g 13 ad (hj_wm g ad τF sd) rF s.heap.size) args s 0 0 (hj_A 13 ad s.heap.size)) (F0 m 48 ls [])) {H : Heap} {locs : List Loc} {ls : Array Slot} (hP : hj_P g 13 ad (hj_wm g ad τ sd) H) (hS : hj_S 13 ad s H locs) (hl : lv_has ls 9 [(0, .ref (ad 0)), (1, .int x1), (2, .int x2), (3, .int x3), (4, .int x4), (5, .int x5), (6, .int x6), (7, .int x7)]) :
    W p l e rmX6_coins s m args below meth c H locs 0 0 (MQ below (hj_QI g 13 ad (hj_wm g ad τF sd) rF s.heap.size) args s 0 0 (hj_A 13 ad s.heap.size)) (F0 m 48 ls []) := by
  obtain ⟨hx, hb, hr, hml, hown, hts, hlocks⟩ := id C
  unfold fX6_coins_48 at hf
  refine lv_iload hx hb dX6_coins_48 (lv_at hl 7 rfl) ?_
  refine lv_iload hx hb dX6_coins_50 (lv_at hl 4 rfl) ?_
  refine lv_icmp_gt (tgt := 139) hx hb dX6_coins_52 (by decide) (fun c7 => ?_) (fun c7 => ?_)
  · rw [if_pos c7] at hf
    exact KX _ _ _ (Option.some.inj hf).symm _ _ _ hP hS (lv_sub hl [3, 5, 6] rfl)
  · rw [if_neg c7] at hf
    refine lv_iload hx hb dX6_coins_55 (lv_at hl 7 rfl) ?_
    refine lv_iload hx hb dX6_coins_57 (lv_at hl 4 rfl) ?_
    refine lv_iconst (v := (-1)) hx hb dX6_coins_59 (by decide) ?_
    refine lv_ixor hx hb dX6_coins_60 ?_
    refine lv_iand hx hb dX6_coins_61 ?_
    refine lv_if_ne (tgt := 133) hx hb dX6_coins_62 (by decide) (fun c8 => ?_) (fun c8 => ?_)
    · rw [if_neg c8] at hf
      obtain ⟨y9, ey9⟩ : ∃ z : Int32, z = x7 + 1 := ⟨_, rfl⟩
      replace hf := hj_nm_y hf ey9
      refine lv_iinc (v := y9) (lv' := [(7, .int y9), (0, .ref (ad 0)), (1, .int x1), (2, .int x2), (3, .int x3), (4, .int x4), (5, .int x5), (6, .int x6)]) hx hb dX6_coins_133 hl (k := 7) rfl (by rw [ey9]; rfl) (by decide) rfl (fun ls hl => ?_)
      refine lv_goto (tgt := 48) hx hb dX6_coins_136 (by decide) ?_
      exact KI _ _ _ _ (Option.some.inj hf).symm _ _ _ hP hS (lv_sub hl [1, 2, 3, 4, 5, 6, 7, 0] rfl)
    · rw [if_pos c8] at hf
      refine lv_iload_n hx hb dX6_coins_65 rfl (lv_at hl 2 rfl) ?_
      refine lv_iload hx hb dX6_coins_66 (lv_at hl 7 rfl) ?_
      obtain ⟨r10, hc, hf⟩ := hj_o1_s hf
      refine hj_callSi (nL := 9) (As := [.int x7]) (rest := [.int x2]) ⟨hx, hb, hml, hown, hts⟩ (ctX6_ones l g (n := 13) (ad := ad) (w := (hj_wm g ad τ sd)) hc) (va_cwS 1 hts gX6_coins_X6_ones rfl rfl rfl (by decide +kernel) ⟨Nat.le_of_ble_eq_true rfl, Nat.le_of_ble_eq_true rfl⟩) hj_Xb0 (fun _ _ _ => trivial) hK hP hS rfl hl.1 rfl (Nat.le_of_ble_eq_true rfl) dX6_coins_68 (fun H locs hP hS => ?_)
      obtain ⟨r11, hc, hf⟩ := hj_o1_s hf
      refine hj_callSi (nL := 9) (As := [.int x2, .int r10]) (rest := []) ⟨hx, hb, hml, hown, hts⟩ (ctX6_power l g (n := 13) (ad := ad) (w := (hj_wm g ad τ sd)) hc) (va_cwS 2 hts gX6_coins_X6_power rfl rfl rfl (by decide +kernel) ⟨Nat.le_of_ble_eq_true rfl, Nat.le_of_ble_eq_true rfl⟩) hj_Xb0 (fun _ _ _ => trivial) hK hP hS rfl hl.1 rfl (Nat.le_of_ble_eq_true rfl) dX6_coins_71 (fun H locs hP hS => ?_)
      refine lv_bipush (v := 10) hx hb dX6_coins_74 (by decide) ?_
      refine lv_iload_n hx hb dX6_coins_76 rfl (lv_at hl 2 rfl) ?_
      refine lv_isub hx hb dX6_coins_77 ?_
      refine lv_iload hx hb dX6_coins_78 (lv_at hl 4 rfl) ?_
      obtain ⟨r12, hc, hf⟩ := hj_o1_s hf
      refine hj_callSi (nL := 9) (As := [.int x4]) (rest := [.int (10 - x2), .int r11]) ⟨hx, hb, hml, hown, hts⟩ (ctX6_ones l g (n := 13) (ad := ad) (w := (hj_wm g ad τ sd)) hc) (va_cwS 1 hts gX6_coins_X6_ones rfl rfl rfl (by decide +kernel) ⟨Nat.le_of_ble_eq_true rfl, Nat.le_of_ble_eq_true rfl⟩) hj_Xb0 (fun _ _ _ => trivial) hK hP hS rfl hl.1 rfl (Nat.le_of_ble_eq_true rfl) dX6_coins_80 (fun H locs hP hS => ?_)
      refine lv_iload hx hb dX6_coins_83 (lv_at hl 7 rfl) ?_
      obtain ⟨r13, hc, hf⟩ := hj_o1_s hf
      refine hj_callSi (nL := 9) (As := [.int x7]) (rest := [.int r12, .int (10 - x2), .int r11]) ⟨hx, hb, hml, hown, hts⟩ (ctX6_ones l g (n := 13) (ad := ad) (w := (hj_wm g ad τ sd)) hc) (va_cwS 1 hts gX6_coins_X6_ones rfl rfl rfl (by decide +kernel) ⟨Nat.le_of_ble_eq_true rfl, Nat.le_of_ble_eq_true rfl⟩) hj_Xb0 (fun _ _ _ => trivial) hK hP hS rfl hl.1 rfl (Nat.le_of_ble_eq_true rfl) dX6_coins_85 (fun H locs hP hS => ?_)
      refine lv_isub hx hb dX6_coins_88 ?_
      obtain ⟨r14, hc, hf⟩ := hj_o1_s hf
      refine hj_callSi (nL := 9) (As := [.int (10 - x2), .int (r12 - r13)]) (rest := [.int r11]) ⟨hx, hb, hml, hown, hts⟩ (ctX6_power l g (n := 13) (ad := ad) (w := (hj_wm g ad τ sd)) hc) (va_cwS 2 hts gX6_coins_X6_power rfl rfl rfl (by decide +kernel) ⟨Nat.le_of_ble_eq_true rfl, Nat.le_of_ble_eq_true rfl⟩) hj_Xb0 (fun _ _ _ => trivial) hK hP hS rfl hl.1 rfl (Nat.le_of_ble_eq_true rfl) dX6_coins_89 (fun H locs hP hS => ?_)
      refine lv_imul hx hb dX6_coins_92 ?_
      refine lv_topi (fun y15 ey15 => ?_)
      replace hf := hj_nm_y hf ey15
      refine lv_istore (lv' := [(8, .int y15), (0, .ref (ad 0)), (1, .int x1), (2, .int x2), (3, .int x3), (4, .int x4), (5, .int x5), (6, .int x6), (7, .int x7)]) hx hb dX6_coins_93 hl (by decide) rfl (fun ls hl => ?_)
      refine lv_iload hx hb dX6_coins_95 (lv_at hl 7 rfl) ?_
      refine lv_iload hx hb dX6_coins_97 (lv_at hl 0 rfl) ?_
      refine lv_iadd hx hb dX6_coins_99 ?_
      refine lv_topi (fun y16 ey16 => ?_)
      replace hf := hj_nm_y hf ey16
      refine lv_istore (lv' := [(6, .int y16), (8, .int y15), (0, .ref (ad 0)), (1, .int x1), (2, .int x2), (3, .int x3), (4, .int x4), (5, .int x5), (7, .int x7)]) hx hb dX6_coins_100 hl (by decide) rfl (fun ls hl => ?_)
      refine lv_iload hx hb dX6_coins_102 (lv_at hl 7 rfl) ?_
      refine lv_aload_n hx hb dX6_coins_104 rfl (lv_at hl 2 rfl) ?_
      refine lv_aload_n hx hb dX6_coins_105 rfl (lv_at hl 2 rfl) ?_
      refine hj_get (ci := 6) (v := .ref (ad 3)) (C := RX6) (T := TX6) (N := 24) hx hb hts iX6_coins_X6 hown hK hP (by decide) rfl rfl 4 (by decide) mX6_coins_2 rfl dX6_coins_106 ?_
      refine lv_iconst (v := 0) hx hb dX6_coins_109 (by decide) ?_
      obtain ⟨hk17, hf⟩ := hj_ck_s hf
      refine hj_ial (f := τ.2 4) hx hb hK hP (by decide) rfl hk17 dX6_coins_110 ?_
      refine lv_iload hx hb dX6_coins_111 (lv_at hl 6 rfl) ?_
      refine lv_iand hx hb dX6_coins_113 ?_
      refine lv_iload hx hb dX6_coins_114 (lv_at hl 8 rfl) ?_
      refine lv_ixor hx hb dX6_coins_116 ?_
      obtain ⟨r18, τ19, hc, hf⟩ := hj_o2_s hf
      refine hj_callVi (nL := 9) (As := [.int (((τ.2 4 (0 : Int32).toNatClampNeg) &&& x4) ^^^ x7)]) (rest := [.int x5]) (i0 := 0) (C := RX6) (T := TX6) (N := 24) (ci := 6) ⟨hx, hb, hml, hown, hts⟩ (ctX6_endOf l g hI hc) (cwV 1 hts gX6_coins_X6_endOf rfl rfl rfl (by decide +kernel) ⟨Nat.le_of_ble_eq_true rfl, Nat.le_of_ble_eq_true rfl⟩) hj_Xb0 (fun _ _ _ => trivial) hK hP hS (by decide) rfl rfl rfl hl.1 rfl (Nat.le_of_ble_eq_true rfl) dX6_coins_117 (fun H locs hP hS => ?_)
      refine lv_iload_n hx hb dX6_coins_120 rfl (lv_at hl 3 rfl) ?_
      refine lv_icmp_ne (tgt := 129) hx hb dX6_coins_121 (by decide) (fun c20 => ?_) (fun c20 => ?_)
      · rw [if_neg c20] at hf
        refine lv_iconst (v := 0) hx hb dX6_coins_129 (by decide) ?_
        refine lv_iadd hx hb dX6_coins_130 ?_
        refine lv_topi (fun y21 ey21 => ?_)
        replace hf := hj_nm_y hf ey21
        refine lv_istore (lv' := [(5, .int y21), (6, .int y16), (8, .int y15), (0, .ref (ad 0)), (1, .int x1), (2, .int x2), (3, .int x3), (4, .int x4), (7, .int x7)]) hx hb dX6_coins_131 hl (by decide) rfl (fun ls hl => ?_)
        obtain ⟨y22, ey22⟩ : ∃ z : Int32, z = x7 + 1 := ⟨_, rfl⟩
        replace hf := hj_nm_y hf ey22
        refine lv_iinc (v := y22) (lv' := [(7, .int y22), (5, .int y21), (6, .int y16), (8, .int y15), (0, .ref (ad 0)), (1, .int x1), (2, .int x2), (3, .int x3), (4, .int x4)]) hx hb dX6_coins_133 hl (k := 8) rfl (by rw [ey22]; rfl) (by decide) rfl (fun ls hl => ?_)
        refine lv_goto (tgt := 48) hx hb dX6_coins_136 (by decide) ?_
        exact KI _ _ _ _ (Option.some.inj hf).symm _ _ _ hP hS (lv_sub hl [4, 5, 6, 7, 8, 1, 2, 0] rfl)
      · rw [if_pos c20] at hf
        refine lv_iload hx hb dX6_coins_124 (lv_at hl 1 rfl) ?_
        refine lv_goto (tgt := 130) hx hb dX6_coins_126 (by decide) ?_
        refine lv_iadd hx hb dX6_coins_130 ?_
        refine lv_topi (fun y23 ey23 => ?_)
        replace hf := hj_nm_y hf ey23
        refine lv_istore (lv' := [(5, .int y23), (6, .int y16), (8, .int y15), (0, .ref (ad 0)), (1, .int x1), (2, .int x2), (3, .int x3), (4, .int x4), (7, .int x7)]) hx hb dX6_coins_131 hl (by decide) rfl (fun ls hl => ?_)
        obtain ⟨y24, ey24⟩ : ∃ z : Int32, z = x7 + 1 := ⟨_, rfl⟩
        replace hf := hj_nm_y hf ey24
        refine lv_iinc (v := y24) (lv' := [(7, .int y24), (5, .int y23), (6, .int y16), (8, .int y15), (0, .ref (ad 0)), (1, .int x1), (2, .int x2), (3, .int x3), (4, .int x4)]) hx hb dX6_coins_133 hl (k := 8) rfl (by rw [ey24]; rfl) (by decide) rfl (fun ls hl => ?_)
        refine lv_goto (tgt := 48) hx hb dX6_coins_136 (by decide) ?_
        exact KI _ _ _ _ (Option.some.inj hf).symm _ _ _ hP hS (lv_sub hl [4, 5, 6, 7, 8, 1, 2, 0] rfl)
set_option maxHeartbeats 4000000 in
set_option maxRecDepth 100000 in
theorem wX6_coins_48 {p : Program} {l : Launch} {e : Env} {s : State} {m : MethodId} {args : Array Value} {below : List Frame} {meth : Method} {c : Code} {g : hj_G} {ad : Nat → Nat} (hI : hj_I 13 ad) (C : hj_C p s m args meth c cX6_coins RX6 wsX6_coins 9 (some .int)) (hK : hj_K g s) {sd : Int64} {x1 : Int32} {x2 : Int32} {x3 : Int32} {x4 : Int32} {rF : Int32} {τF : hj_Ob} {e5 : Int32} {e6 : Int32} {τe : hj_Ob} :
    ∀ (fu : Nat) (x5 : Int32) (x6 : Int32) (x7 : Int32) (τ : hj_Ob), hj_lp (fun q : (Int32 × Int32 × Int32 × hj_Ob) => fX6_coins_48 q.2.2.2 sd x1 x2 x3 x4 q.1 q.2.1 q.2.2.1) fu (x5, x6, x7, τ) = some (e5, e6, τe) → (∀ (H : Heap) (locs : List Loc) (ls : Array Slot), hj_P g 13 ad (hj_wm g ad τe sd) H → hj_S 13 ad s H locs → lv_has ls 9 [(3, .int x3), (5, .int e5), (6, .int e6)] → W p l e rmX6_coins s m args below meth c H locs 0 0 (MQ below (hj_QI g 13 ad (hj_wm g ad τF sd) rF s.heap.size) args s 0 0 (hj_A 13 ad s.heap.size)) (F0 m 139 ls [])) → ∀ (H : Heap) (locs : List Loc) (ls : Array Slot), hj_P g 13 ad (hj_wm g ad τ sd) H → hj_S 13 ad s H locs → lv_has ls 9 [(0, .ref (ad 0)), (1, .int x1), (2, .int x2), (3, .int x3), (4, .int x4), (5, .int x5), (6, .int x6), (7, .int x7)] →
    W p l e rmX6_coins s m args below meth c H locs 0 0 (MQ below (hj_QI g 13 ad (hj_wm g ad τF sd) rF s.heap.size) args s 0 0 (hj_A 13 ad s.heap.size)) (F0 m 48 ls []) := by
  intro fu
  induction fu with
  | zero => intro x5 x6 x7 τ hq; cases hq
  | succ fu ih =>
    intro x5 x6 x7 τ hq KX H locs ls hP hS hl
    obtain ⟨y, hy, h1, h2⟩ := hj_lp_s hq
    exact wX6_coins_48b hI C hK  hy (fun v5 v6 τ' hv H locs ls hP hS hl => by have hw := h1 _ hv; obtain ⟨rfl, hw0⟩ := Prod.mk.inj hw; obtain ⟨rfl, rfl⟩ := Prod.mk.inj hw0; exact KX H locs ls hP hS hl) (fun v5 v6 v7 τ' hv H locs ls hP hS hl => ih v5 v6 v7 τ' (h2 _ hv) KX H locs ls hP hS hl) hP hS hl
def fX6_coins_16 (τ : hj_Ob) (sd : Int64) (x1 : Int32) (x2 : Int32) (x3 : Int32) : Option (Int32 × hj_Ob) :=
  hj_o1 (fX6_in x2.toInt64 0 10) fun r3 => if r3 = 0 then (some ((-2), τ)) else (hj_ck (1 : Int32) 30 (hj_nm (τ.2 4 (1 : Int32).toNatClampNeg) fun y6 => hj_o3 (hj_lp (fun q : (Int32 × Int32 × Int32 × hj_Ob) => fX6_coins_48 q.2.2.2 sd x1 x2 x3 y6 q.1 q.2.1 q.2.2.1) 100 (0, 0, 0, τ)) fun e25 e26 τ27 => (hj_o1 (fX6_common e25 e26) fun r28 => if x3 = 0 then (hj_nz r28 (some (e26 / r28, τ27))) else (hj_nz r28 (some (e25 / r28, τ27))))))
set_option maxHeartbeats 4000000 in
set_option maxRecDepth 100000 in
theorem wX6_coins_16 {p : Program} {l : Launch} {e : Env} {s : State} {m : MethodId} {args : Array Value} {below : List Frame} {meth : Method} {c : Code} {g : hj_G} {ad : Nat → Nat} (hI : hj_I 13 ad) (C : hj_C p s m args meth c cX6_coins RX6 wsX6_coins 9 (some .int)) (hK : hj_K g s) {τ : hj_Ob} {sd : Int64} {x1 : Int32} {x2 : Int32} {x3 : Int32} {rF : Int32} {τF : hj_Ob}
    (hf : fX6_coins_16 τ sd x1 x2 x3 = some (rF, τF)) {H : Heap} {locs : List Loc} {ls : Array Slot} (hP : hj_P g 13 ad (hj_wm g ad τ sd) H) (hS : hj_S 13 ad s H locs) (hl : lv_has ls 9 [(0, .ref (ad 0)), (1, .int x1), (2, .int x2), (3, .int x3)]) :
    W p l e rmX6_coins s m args below meth c H locs 0 0 (MQ below (hj_QI g 13 ad (hj_wm g ad τF sd) rF s.heap.size) args s 0 0 (hj_A 13 ad s.heap.size)) (F0 m 16 ls []) := by
  obtain ⟨hx, hb, hr, hml, hown, hts, hlocks⟩ := id C
  unfold fX6_coins_16 at hf
  refine lv_iload_n hx hb dX6_coins_16 rfl (lv_at hl 2 rfl) ?_
  refine lv_i2l (v := x2.toInt64) hx hb dX6_coins_17 rfl ?_
  refine lv_lconst (v := 0) hx hb dX6_coins_18 (by decide) ?_
  refine lv_ldc2 hx hb hown (hts _ mX6_coins_1) dX6_coins_19 ?_
  obtain ⟨r3, hc, hf⟩ := hj_o1_s hf
  refine hj_callSi (nL := 9) (As := [.long x2.toInt64, .long 0, .long 10]) (rest := []) ⟨hx, hb, hml, hown, hts⟩ (ctX6_in l g (n := 13) (ad := ad) (w := (hj_wm g ad τ sd)) hc) (va_cwS 3 hts gX6_coins_X6_in rfl rfl rfl (by decide +kernel) ⟨Nat.le_of_ble_eq_true rfl, Nat.le_of_ble_eq_true rfl⟩) hj_Xb0 (fun _ _ _ => trivial) hK hP hS rfl hl.1 rfl (Nat.le_of_ble_eq_true rfl) dX6_coins_22 (fun H locs hP hS => ?_)
  refine lv_if_ne (tgt := 31) hx hb dX6_coins_25 (by decide) (fun c4 => ?_) (fun c4 => ?_)
  · rw [if_neg c4] at hf
    refine lv_aload_n hx hb dX6_coins_31 rfl (lv_at hl 0 rfl) ?_
    refine hj_get (ci := 6) (v := .ref (ad 3)) (C := RX6) (T := TX6) (N := 24) hx hb hts iX6_coins_X6 hown hK hP (by decide) rfl rfl 4 (by decide) mX6_coins_2 rfl dX6_coins_32 ?_
    refine lv_iconst (v := 1) hx hb dX6_coins_35 (by decide) ?_
    obtain ⟨hk5, hf⟩ := hj_ck_s hf
    refine hj_ial (f := τ.2 4) hx hb hK hP (by decide) rfl hk5 dX6_coins_36 ?_
    refine lv_topi (fun y6 ey6 => ?_)
    replace hf := hj_nm_y hf ey6
    refine lv_istore (lv' := [(4, .int y6), (0, .ref (ad 0)), (1, .int x1), (2, .int x2), (3, .int x3)]) hx hb dX6_coins_37 hl (by decide) rfl (fun ls hl => ?_)
    refine lv_iconst (v := 0) hx hb dX6_coins_39 (by decide) ?_
    refine lv_istore (lv' := [(5, .int 0), (4, .int y6), (0, .ref (ad 0)), (1, .int x1), (2, .int x2), (3, .int x3)]) hx hb dX6_coins_40 hl (by decide) rfl (fun ls hl => ?_)
    refine lv_iconst (v := 0) hx hb dX6_coins_42 (by decide) ?_
    refine lv_istore (lv' := [(6, .int 0), (5, .int 0), (4, .int y6), (0, .ref (ad 0)), (1, .int x1), (2, .int x2), (3, .int x3)]) hx hb dX6_coins_43 hl (by decide) rfl (fun ls hl => ?_)
    refine lv_iconst (v := 0) hx hb dX6_coins_45 (by decide) ?_
    refine lv_istore (lv' := [(7, .int 0), (6, .int 0), (5, .int 0), (4, .int y6), (0, .ref (ad 0)), (1, .int x1), (2, .int x2), (3, .int x3)]) hx hb dX6_coins_46 hl (by decide) rfl (fun ls hl => ?_)
    obtain ⟨e25, e26, τ27, hlx, hf⟩ := hj_o3_s hf
    refine wX6_coins_48 hI C hK  100 0 0 0 τ hlx (fun H locs ls hP hS hl => ?_) H locs ls hP hS (lv_sub hl [4, 5, 6, 7, 3, 2, 1, 0] rfl)
    refine lv_iload hx hb dX6_coins_139 (lv_at hl 1 rfl) ?_
    refine lv_iload hx hb dX6_coins_141 (lv_at hl 2 rfl) ?_
    obtain ⟨r28, hc, hf⟩ := hj_o1_s hf
    refine hj_callSi (nL := 9) (As := [.int e25, .int e26]) (rest := []) ⟨hx, hb, hml, hown, hts⟩ (ctX6_common l g (n := 13) (ad := ad) (w := (hj_wm g ad τ27 sd)) hc) (va_cwS 2 hts gX6_coins_X6_common rfl rfl rfl (by decide +kernel) ⟨Nat.le_of_ble_eq_true rfl, Nat.le_of_ble_eq_true rfl⟩) hj_Xb0 (fun _ _ _ => trivial) hK hP hS rfl hl.1 rfl (Nat.le_of_ble_eq_true rfl) dX6_coins_143 (fun H locs hP hS => ?_)
    refine lv_istore (lv' := [(7, .int r28), (3, .int x3), (5, .int e25), (6, .int e26)]) hx hb dX6_coins_146 hl (by decide) rfl (fun ls hl => ?_)
    refine lv_iload_n hx hb dX6_coins_148 rfl (lv_at hl 1 rfl) ?_
    refine lv_if_eq (tgt := 160) hx hb dX6_coins_149 (by decide) (fun c29 => ?_) (fun c29 => ?_)
    · rw [if_pos c29] at hf
      refine lv_iload hx hb dX6_coins_160 (lv_at hl 3 rfl) ?_
      refine lv_iload hx hb dX6_coins_162 (lv_at hl 0 rfl) ?_
      obtain ⟨hz30, hf⟩ := hj_nz_s hf
      refine lv_idiv hx hb dX6_coins_164 hz30 ?_
      have hq := Option.some.inj hf
      obtain ⟨rfl, rfl⟩ := Prod.mk.inj hq
      exact hj_reti C hP hK hS dX6_coins_165
    · rw [if_neg c29] at hf
      refine lv_iload hx hb dX6_coins_152 (lv_at hl 2 rfl) ?_
      refine lv_iload hx hb dX6_coins_154 (lv_at hl 0 rfl) ?_
      obtain ⟨hz31, hf⟩ := hj_nz_s hf
      refine lv_idiv hx hb dX6_coins_156 hz31 ?_
      refine lv_goto (tgt := 165) hx hb dX6_coins_157 (by decide) ?_
      have hq := Option.some.inj hf
      obtain ⟨rfl, rfl⟩ := Prod.mk.inj hq
      exact hj_reti C hP hK hS dX6_coins_165
  · rw [if_pos c4] at hf
    refine lv_bipush (v := (-2)) hx hb dX6_coins_28 (by decide) ?_
    have hq := Option.some.inj hf
    obtain ⟨rfl, rfl⟩ := Prod.mk.inj hq
    exact hj_reti C hP hK hS dX6_coins_30
def fX6_coins (τ : hj_Ob) (sd : Int64) (x1 : Int32) (x2 : Int32) (x3 : Int32) : Option (Int32 × hj_Ob) :=
  hj_o1 (fX6_in x1.toInt64 0 1) fun r1 => if r1 = 0 then (if x1 = 9 then (fX6_coins_16 τ sd x1 x2 x3) else (some ((-2), τ))) else (fX6_coins_16 τ sd x1 x2 x3)
set_option maxHeartbeats 4000000 in
set_option maxRecDepth 100000 in
theorem wX6_coins {p : Program} {l : Launch} {e : Env} {s : State} {m : MethodId} {args : Array Value} {below : List Frame} {meth : Method} {c : Code} {g : hj_G} {ad : Nat → Nat} (hI : hj_I 13 ad) (C : hj_C p s m args meth c cX6_coins RX6 wsX6_coins 9 (some .int)) (hK : hj_K g s) {τ : hj_Ob} {sd : Int64} {x1 : Int32} {x2 : Int32} {x3 : Int32} {rF : Int32} {τF : hj_Ob}
    (hf : fX6_coins τ sd x1 x2 x3 = some (rF, τF)) {H : Heap} {locs : List Loc} {ls : Array Slot} (hP : hj_P g 13 ad (hj_wm g ad τ sd) H) (hS : hj_S 13 ad s H locs) (hl : lv_has ls 9 [(0, .ref (ad 0)), (1, .int x1), (2, .int x2), (3, .int x3)]) :
    W p l e rmX6_coins s m args below meth c H locs 0 0 (MQ below (hj_QI g 13 ad (hj_wm g ad τF sd) rF s.heap.size) args s 0 0 (hj_A 13 ad s.heap.size)) (F0 m 0 ls []) := by
  obtain ⟨hx, hb, hr, hml, hown, hts, hlocks⟩ := id C
  unfold fX6_coins at hf
  refine lv_iload_n hx hb dX6_coins_0 rfl (lv_at hl 1 rfl) ?_
  refine lv_i2l (v := x1.toInt64) hx hb dX6_coins_1 rfl ?_
  refine lv_lconst (v := 0) hx hb dX6_coins_2 (by decide) ?_
  refine lv_lconst (v := 1) hx hb dX6_coins_3 (by decide) ?_
  obtain ⟨r1, hc, hf⟩ := hj_o1_s hf
  refine hj_callSi (nL := 9) (As := [.long x1.toInt64, .long 0, .long 1]) (rest := []) ⟨hx, hb, hml, hown, hts⟩ (ctX6_in l g (n := 13) (ad := ad) (w := (hj_wm g ad τ sd)) hc) (va_cwS 3 hts gX6_coins_X6_in rfl rfl rfl (by decide +kernel) ⟨Nat.le_of_ble_eq_true rfl, Nat.le_of_ble_eq_true rfl⟩) hj_Xb0 (fun _ _ _ => trivial) hK hP hS rfl hl.1 rfl (Nat.le_of_ble_eq_true rfl) dX6_coins_4 (fun H locs hP hS => ?_)
  refine lv_if_ne (tgt := 16) hx hb dX6_coins_7 (by decide) (fun c2 => ?_) (fun c2 => ?_)
  · rw [if_neg c2] at hf
    exact wX6_coins_16 hI C hK  hf hP hS (lv_sub hl [0, 1, 2, 3] rfl)
  · rw [if_pos c2] at hf
    refine lv_iload_n hx hb dX6_coins_10 rfl (lv_at hl 1 rfl) ?_
    refine lv_bipush (v := 9) hx hb dX6_coins_11 (by decide) ?_
    refine lv_icmp_ne (tgt := 28) hx hb dX6_coins_13 (by decide) (fun c32 => ?_) (fun c32 => ?_)
    · rw [if_neg c32] at hf
      refine lv_bipush (v := (-2)) hx hb dX6_coins_28 (by decide) ?_
      have hq := Option.some.inj hf
      obtain ⟨rfl, rfl⟩ := Prod.mk.inj hq
      exact hj_reti C hP hK hS dX6_coins_30
    · rw [if_pos c32] at hf
      exact wX6_coins_16 hI C hK  hf hP hS (lv_sub hl [0, 1, 2, 3] rfl)
set_option maxHeartbeats 4000000 in
set_option maxRecDepth 100000 in
theorem ctX6_coins (l : Launch) (g : hj_G) {ad : Nat → Nat} (hI : hj_I 13 ad) {τ : hj_Ob} {sd : Int64} {x1 : Int32} {x2 : Int32} {x3 : Int32} {rF : Int32} {τF : hj_Ob} (hf : fX6_coins τ sd x1 x2 x3 = some (rF, τF)) :
    hj_MI l yX6_coins wsX6_coins rmX6_coins g 13 ad hj_X0 [.ref (ad 0), .int x1, .int x2, .int x3] (hj_wm g ad τ sd) rF (hj_wm g ad τF sd) := by
  refine hj_ofI (cc := cX6_coins) (maxL := 9) (ret := (some .int)) (by decide) rfl (Nat.le_of_ble_eq_true rfl) ?_
  intro p e s m args below meth c ls C hP hK hX hl
  exact wX6_coins hI C hK hf hP va_S.rf hl

/-! X6_seed -/
abbrev rmX6_seed : Room := { frames := 0, cells := 0, slots := 0, locals := 0 }
theorem iX6_seed_X6 : ∀ w ∈ wsX60, w ∈ wsX6_seed := fun _ h => List.mem_cons_of_mem _ (List.mem_append_right _ h)
theorem mX6_seed_1 : Cond.fieldLink RX6 198 "HungryJuryModel" "seed" "J" ∈ wsX6_seed := List.mem_of_getElem? (i := 1) rfl
def fX6_seed (τ : hj_Ob) (sd : Int64) (x1 : Int64) : Option (Int64 × Int64) :=
  some (sd, x1)
set_option maxHeartbeats 4000000 in
set_option maxRecDepth 100000 in
theorem wX6_seed {p : Program} {l : Launch} {e : Env} {s : State} {m : MethodId} {args : Array Value} {below : List Frame} {meth : Method} {c : Code} {g : hj_G} {ad : Nat → Nat} (hI : hj_I 13 ad) (C : hj_C p s m args meth c cX6_seed RX6 wsX6_seed 5 (some .long)) (hK : hj_K g s) {τ : hj_Ob} {sd : Int64} {x1 : Int64} {rF : Int64} {sdF : Int64}
    (hf : fX6_seed τ sd x1 = some (rF, sdF)) {H : Heap} {locs : List Loc} {ls : Array Slot} (hP : hj_P g 13 ad (hj_wm g ad τ sd) H) (hS : hj_S 13 ad s H locs) (hl : lv_has ls 5 [(0, .ref (ad 0)), (1, .long x1)]) :
    W p l e rmX6_seed s m args below meth c H locs 0 0 (MQ below (hj_QL g 13 ad (hj_wm g ad τ sdF) rF s.heap.size) args s 0 0 (hj_A 13 ad s.heap.size)) (F0 m 0 ls []) := by
  obtain ⟨hx, hb, hr, hml, hown, hts, hlocks⟩ := id C
  unfold fX6_seed at hf
  refine lv_aload_n hx hb dX6_seed_0 rfl (lv_at hl 0 rfl) ?_
  refine hj_get (ci := 6) (v := .long sd) (C := RX6) (T := TX6) (N := 24) hx hb hts iX6_seed_X6 hown hK hP (by decide) rfl rfl 21 (by decide) mX6_seed_1 rfl dX6_seed_1 ?_
  refine lv_lstore_n (lv' := [(3, .long sd), (0, .ref (ad 0)), (1, .long x1)]) hx hb dX6_seed_4 rfl hl (by decide) rfl (fun ls hl => ?_)
  refine lv_aload_n hx hb dX6_seed_5 rfl (lv_at hl 1 rfl) ?_
  refine lv_lload_n hx hb dX6_seed_6 rfl (lv_at hl 2 rfl) ?_
  refine hj_put (ci := 6) (v := .long x1) (C := RX6) (T := TX6) (N := 24) hx hb hts iX6_seed_X6 tyX6 tyX6_ok nmX6 hown hK hI hP hS (by decide) rfl rfl 21 (by decide) mX6_seed_1 rfl rfl rfl (Nat.le_of_ble_eq_true rfl) dX6_seed_7 wm_d (fun H locs hP hS => ?_)
  refine lv_lload_n hx hb dX6_seed_10 rfl (lv_at hl 0 rfl) ?_
  have hq := Option.some.inj hf
  obtain ⟨rfl, rfl⟩ := Prod.mk.inj hq
  exact hj_retl C hP hK hS dX6_seed_11
set_option maxHeartbeats 4000000 in
set_option maxRecDepth 100000 in
theorem ctX6_seed (l : Launch) (g : hj_G) {ad : Nat → Nat} (hI : hj_I 13 ad) {τ : hj_Ob} {sd : Int64} {x1 : Int64} {rF : Int64} {sdF : Int64} (hf : fX6_seed τ sd x1 = some (rF, sdF)) :
    hj_ML l yX6_seed wsX6_seed rmX6_seed g 13 ad hj_X0 [.ref (ad 0), .long x1] (hj_wm g ad τ sd) rF (hj_wm g ad τ sdF) := by
  refine hj_ofL (cc := cX6_seed) (maxL := 5) (ret := (some .long)) (by decide) rfl (Nat.le_of_ble_eq_true rfl) ?_
  intro p e s m args below meth c ls C hP hK hX hl
  exact wX6_seed hI C hK hf hP va_S.rf hl
