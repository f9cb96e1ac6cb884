/-! X6_gives -/
abbrev rmX6_gives : Room := { frames := 3, cells := 0, slots := 0, locals := 75 }
theorem iX6_gives_X6 : ∀ w ∈ wsX60, w ∈ wsX6_gives := fun _ h => List.mem_cons_of_mem _ (List.mem_append_right _ h)
theorem mX6_gives_1 : Cond.fieldLink RX6 16 "HungryJuryModel" "now" "[I" ∈ wsX6_gives := List.mem_of_getElem? (i := 1) rfl
def fX6_gives_28 (τ : hj_Ob) (sd : Int64) (x1 : Int32) (x2 : Int32) : Option (((Int32 × hj_Ob) ⊕ hj_Ob) ⊕ (Int32 × hj_Ob)) :=
  if 20 < x2 then (some (.inl (.inr τ))) else (hj_o2 (fX6_passOn τ sd 1) fun r7 τ8 => hj_ck (15 : Int32) 30 (hj_o1 (fX6_has (τ8.2 4 (15 : Int32).toNatClampNeg) x1) fun r10 => hj_ck (0 : Int32) 30 (hj_o1 (fX6_has (τ8.2 4 (0 : Int32).toNatClampNeg) x1) fun r12 => if r10 = r12 then (hj_nm (x2 + 1) fun y14 => some (.inr (y14, τ8))) else (some (.inl (.inl (x2, τ8)))))))
set_option maxHeartbeats 4000000 in
set_option maxRecDepth 100000 in
theorem wX6_gives_28b {p : Program} {l : Launch} {e : Env} {s : State} {m : MethodId} {args : Array Value} {below : List Frame} {meth : Method} {c : Code} {g : hj_G} {ad : Nat → Nat} (hI : hj_I 13 ad) (C : hj_C p s m args meth c cX6_gives RX6 wsX6_gives 3 (some .int)) (hK : hj_K g s) {τ : hj_Ob} {sd : Int64} {x1 : Int32} {x2 : Int32} {y : ((Int32 × hj_Ob) ⊕ hj_Ob) ⊕ (Int32 × hj_Ob)} {rF : Int32} {τF : hj_Ob}
    (hf : fX6_gives_28 τ sd x1 x2 = some y) (KR : ∀ r, y = .inl (.inl r) → r = (rF, τF)) (KX : ∀ (τ' : hj_Ob), y = .inl (.inr τ') → ∀ (H : Heap) (locs : List Loc) (ls : Array Slot), hj_P g 13 ad (hj_wm g ad τ' sd) H → hj_S 13 ad s H locs → lv_has ls 3 [] → W p l e rmX6_gives s m args below meth c H locs 0 0 (MQ below (hj_QI g 13 ad (hj_wm g ad τF sd) rF s.heap.size) args s 0 0 (hj_A 13 ad s.heap.size)) (F0 m 72 ls [])) (KI : ∀ (v2 : Int32) (τ' : hj_Ob), y = .inr (v2, τ') → ∀ (H : Heap) (locs : List Loc) (ls : Array Slot), hj_P g 13 ad (hj_wm g ad τ' sd) H → hj_S 13 ad s H locs → lv_has ls 3 [(0, .ref (ad 0)), (1, .int x1), (2, .int v2)] → W p l e rmX6_gives s m args below meth c H locs 0 0 (MQ below (hj_QI g 13 ad (hj_wm g ad τF sd) rF s.heap.size) args s 0 0 (hj_A 13 ad s.heap.size)) (F0 m 28 ls [])) {H : Heap} {locs : List Loc} {ls : Array Slot} (hP : hj_P g 13 ad (hj_wm g ad τ sd) H) (hS : hj_S 13 ad s H locs) (hl : lv_has ls 3 [(0, .ref (ad 0)), (1, .int x1), (2, .int x2)]) :
    W p l e rmX6_gives s m args below meth c H locs 0 0 (MQ below (hj_QI g 13 ad (hj_wm g ad τF sd) rF s.heap.size) args s 0 0 (hj_A 13 ad s.heap.size)) (F0 m 28 ls []) := by
  obtain ⟨hx, hb, hr, hml, hown, hts, hlocks⟩ := id C
  unfold fX6_gives_28 at hf
  refine lv_iload_n hx hb dX6_gives_28 rfl (lv_at hl 2 rfl) ?_
  refine lv_bipush (v := 20) hx hb dX6_gives_29 (by decide) ?_
  refine lv_icmp_gt (tgt := 72) hx hb dX6_gives_31 (by decide) (fun c6 => ?_) (fun c6 => ?_)
  · rw [if_pos c6] at hf
    exact KX _ (Option.some.inj hf).symm _ _ _ hP hS (lv_sub hl [] rfl)
  · rw [if_neg c6] at hf
    refine lv_aload_n hx hb dX6_gives_34 rfl (lv_at hl 0 rfl) ?_
    refine lv_iconst (v := 1) hx hb dX6_gives_35 (by decide) ?_
    obtain ⟨r7, τ8, hc, hf⟩ := hj_o2_s hf
    refine hj_callVi (nL := 3) (As := [.int 1]) (rest := []) (i0 := 0) (C := RX6) (T := TX6) (N := 24) (ci := 6) ⟨hx, hb, hml, hown, hts⟩ (ctX6_passOn l g hI hc) (cwV 1 hts gX6_gives_X6_passOn rfl rfl rfl (by decide +kernel) ⟨Nat.le_of_ble_eq_true rfl, Nat.le_of_ble_eq_true rfl⟩) hj_Xb0 (fun _ _ _ => trivial) hK hP hS (by decide) rfl rfl rfl hl.1 rfl (Nat.le_of_ble_eq_true rfl) dX6_gives_36 (fun H locs hP hS => ?_)
    refine lv_pop hx hb dX6_gives_39 rfl ?_
    refine lv_aload_n hx hb dX6_gives_40 rfl (lv_at hl 0 rfl) ?_
    refine hj_get (ci := 6) (v := .ref (ad 3)) (C := RX6) (T := TX6) (N := 24) hx hb hts iX6_gives_X6 hown hK hP (by decide) rfl rfl 4 (by decide) mX6_gives_1 rfl dX6_gives_41 ?_
    refine lv_bipush (v := 15) hx hb dX6_gives_44 (by decide) ?_
    obtain ⟨hk9, hf⟩ := hj_ck_s hf
    refine hj_ial (f := τ8.2 4) hx hb hK hP (by decide) rfl hk9 dX6_gives_46 ?_
    refine lv_iload_n hx hb dX6_gives_47 rfl (lv_at hl 1 rfl) ?_
    obtain ⟨r10, hc, hf⟩ := hj_o1_s hf
    refine hj_callSi (nL := 3) (As := [.int (τ8.2 4 (15 : Int32).toNatClampNeg), .int x1]) (rest := []) ⟨hx, hb, hml, hown, hts⟩ (ctX6_has l g (n := 13) (ad := ad) (w := (hj_wm g ad τ8 sd)) hc) (va_cwS 2 hts gX6_gives_X6_has rfl rfl rfl (by decide +kernel) ⟨Nat.le_of_ble_eq_true rfl, Nat.le_of_ble_eq_true rfl⟩) hj_Xb0 (fun _ _ _ => trivial) hK hP hS rfl hl.1 rfl (Nat.le_of_ble_eq_true rfl) dX6_gives_48 (fun H locs hP hS => ?_)
    refine lv_aload_n hx hb dX6_gives_51 rfl (lv_at hl 0 rfl) ?_
    refine hj_get (ci := 6) (v := .ref (ad 3)) (C := RX6) (T := TX6) (N := 24) hx hb hts iX6_gives_X6 hown hK hP (by decide) rfl rfl 4 (by decide) mX6_gives_1 rfl dX6_gives_52 ?_
    refine lv_iconst (v := 0) hx hb dX6_gives_55 (by decide) ?_
    obtain ⟨hk11, hf⟩ := hj_ck_s hf
    refine hj_ial (f := τ8.2 4) hx hb hK hP (by decide) rfl hk11 dX6_gives_56 ?_
    refine lv_iload_n hx hb dX6_gives_57 rfl (lv_at hl 1 rfl) ?_
    obtain ⟨r12, hc, hf⟩ := hj_o1_s hf
    refine hj_callSi (nL := 3) (As := [.int (τ8.2 4 (0 : Int32).toNatClampNeg), .int x1]) (rest := [.int r10]) ⟨hx, hb, hml, hown, hts⟩ (ctX6_has l g (n := 13) (ad := ad) (w := (hj_wm g ad τ8 sd)) hc) (va_cwS 2 hts gX6_gives_X6_has rfl rfl rfl (by decide +kernel) ⟨Nat.le_of_ble_eq_true rfl, Nat.le_of_ble_eq_true rfl⟩) hj_Xb0 (fun _ _ _ => trivial) hK hP hS rfl hl.1 rfl (Nat.le_of_ble_eq_true rfl) dX6_gives_58 (fun H locs hP hS => ?_)
    refine lv_icmp_eq (tgt := 66) hx hb dX6_gives_61 (by decide) (fun c13 => ?_) (fun c13 => ?_)
    · rw [if_pos c13] at hf
      obtain ⟨y14, ey14⟩ : ∃ z : Int32, z = x2 + 1 := ⟨_, rfl⟩
      replace hf := hj_nm_y hf ey14
      refine lv_iinc (v := y14) (lv' := [(2, .int y14), (0, .ref (ad 0)), (1, .int x1)]) hx hb dX6_gives_66 hl (k := 2) rfl (by rw [ey14]; rfl) (by decide) rfl (fun ls hl => ?_)
      refine lv_goto (tgt := 28) hx hb dX6_gives_69 (by decide) ?_
      exact KI _ _ (Option.some.inj hf).symm _ _ _ hP hS (lv_sub hl [1, 2, 0] rfl)
    · rw [if_neg c13] at hf
      refine lv_iload_n hx hb dX6_gives_64 rfl (lv_at hl 2 rfl) ?_
      have hq := KR _ (Option.some.inj hf).symm
      obtain ⟨rfl, rfl⟩ := Prod.mk.inj hq
      exact hj_reti C hP hK hS dX6_gives_65
set_option maxHeartbeats 4000000 in
set_option maxRecDepth 100000 in
theorem wX6_gives_28 {p : Program} {l : Launch} {e : Env} {s : State} {m : MethodId} {args : Array Value} {below : List Frame} {meth : Method} {c : Code} {g : hj_G} {ad : Nat → Nat} (hI : hj_I 13 ad) (C : hj_C p s m args meth c cX6_gives RX6 wsX6_gives 3 (some .int)) (hK : hj_K g s) {sd : Int64} {x1 : Int32} {rF : Int32} {τF : hj_Ob} {ex : ((Int32 × hj_Ob) ⊕ hj_Ob)} :
    ∀ (fu : Nat) (x2 : Int32) (τ : hj_Ob), hj_lp (fun q : (Int32 × hj_Ob) => fX6_gives_28 q.2 sd x1 q.1) fu (x2, τ) = some ex → (∀ r, ex = .inl r → r = (rF, τF)) → (∀ (τ' : hj_Ob), ex = .inr τ' → ∀ (H : Heap) (locs : List Loc) (ls : Array Slot), hj_P g 13 ad (hj_wm g ad τ' sd) H → hj_S 13 ad s H locs → lv_has ls 3 [] → W p l e rmX6_gives s m args below meth c H locs 0 0 (MQ below (hj_QI g 13 ad (hj_wm g ad τF sd) rF s.heap.size) args s 0 0 (hj_A 13 ad s.heap.size)) (F0 m 72 ls [])) → ∀ (H : Heap) (locs : List Loc) (ls : Array Slot), hj_P g 13 ad (hj_wm g ad τ sd) H → hj_S 13 ad s H locs → lv_has ls 3 [(0, .ref (ad 0)), (1, .int x1), (2, .int x2)] →
    W p l e rmX6_gives s m args below meth c H locs 0 0 (MQ below (hj_QI g 13 ad (hj_wm g ad τF sd) rF s.heap.size) args s 0 0 (hj_A 13 ad s.heap.size)) (F0 m 28 ls []) := by
  intro fu
  induction fu with
  | zero => intro x2 τ hq; cases hq
  | succ fu ih =>
    intro x2 τ hq KR KX H locs ls hP hS hl
    obtain ⟨y, hy, h1, h2⟩ := hj_lp_s hq
    exact wX6_gives_28b hI C hK  hy (fun r hr => KR r (h1 _ hr).symm) (fun τ' hv => KX τ' (h1 _ hv).symm) (fun v2 τ' hv H locs ls hP hS hl => ih v2 τ' (h2 _ hv) KR KX H locs ls hP hS hl) hP hS hl
def fX6_gives (τ : hj_Ob) (sd : Int64) (x1 : Int32) : Option (Int32 × hj_Ob) :=
  hj_o1 (fX6_isJuror τ sd x1) fun r1 => if r1 = 0 then (some ((-1), τ)) else (hj_o1 (fX6_isThere τ sd 0 x1) fun r3 => if r3 = 0 then (some ((-3), τ)) else (hj_o1 (fX6_layTrial τ sd) fun τ5 => hj_oe (fun r => r) (hj_lp (fun q : (Int32 × hj_Ob) => fX6_gives_28 q.2 sd x1 q.1) 100 (1, τ5)) (fun ex16 => hj_nm ex16 fun τ15 => some ((-9), τ15))))
set_option maxHeartbeats 4000000 in
set_option maxRecDepth 100000 in
theorem wX6_gives {p : Program} {l : Launch} {e : Env} {s : State} {m : MethodId} {args : Array Value} {below : List Frame} {meth : Method} {c : Code} {g : hj_G} {ad : Nat → Nat} (hI : hj_I 13 ad) (C : hj_C p s m args meth c cX6_gives RX6 wsX6_gives 3 (some .int)) (hK : hj_K g s) {τ : hj_Ob} {sd : Int64} {x1 : Int32} {rF : Int32} {τF : hj_Ob}
    (hf : fX6_gives τ sd x1 = some (rF, τF)) {H : Heap} {locs : List Loc} {ls : Array Slot} (hP : hj_P g 13 ad (hj_wm g ad τ sd) H) (hS : hj_S 13 ad s H locs) (hl : lv_has ls 3 [(0, .ref (ad 0)), (1, .int x1)]) :
    W p l e rmX6_gives s m args below meth c H locs 0 0 (MQ below (hj_QI g 13 ad (hj_wm g ad τF sd) rF s.heap.size) args s 0 0 (hj_A 13 ad s.heap.size)) (F0 m 0 ls []) := by
  obtain ⟨hx, hb, hr, hml, hown, hts, hlocks⟩ := id C
  unfold fX6_gives at hf
  refine lv_aload_n hx hb dX6_gives_0 rfl (lv_at hl 0 rfl) ?_
  refine lv_iload_n hx hb dX6_gives_1 rfl (lv_at hl 1 rfl) ?_
  obtain ⟨r1, hc, hf⟩ := hj_o1_s hf
  refine hj_callVi (nL := 3) (As := [.int x1]) (rest := []) (i0 := 0) (C := RX6) (T := TX6) (N := 24) (ci := 6) ⟨hx, hb, hml, hown, hts⟩ (ctX6_isJuror l g hI hc) (cwV 1 hts gX6_gives_X6_isJuror rfl rfl rfl (by decide +kernel) ⟨Nat.le_of_ble_eq_true rfl, Nat.le_of_ble_eq_true rfl⟩) hj_Xb0 (fun _ _ _ => trivial) hK hP hS (by decide) rfl rfl rfl hl.1 rfl (Nat.le_of_ble_eq_true rfl) dX6_gives_2 (fun H locs hP hS => ?_)
  refine lv_if_ne (tgt := 10) hx hb dX6_gives_5 (by decide) (fun c2 => ?_) (fun c2 => ?_)
  · rw [if_neg c2] at hf
    refine lv_aload_n hx hb dX6_gives_10 rfl (lv_at hl 0 rfl) ?_
    refine lv_iconst (v := 0) hx hb dX6_gives_11 (by decide) ?_
    refine lv_iload_n hx hb dX6_gives_12 rfl (lv_at hl 1 rfl) ?_
    obtain ⟨r3, hc, hf⟩ := hj_o1_s hf
    refine hj_callVi (nL := 3) (As := [.int 0, .int x1]) (rest := []) (i0 := 0) (C := RX6) (T := TX6) (N := 24) (ci := 6) ⟨hx, hb, hml, hown, hts⟩ (ctX6_isThere l g hI hc) (cwV 2 hts gX6_gives_X6_isThere rfl rfl rfl (by decide +kernel) ⟨Nat.le_of_ble_eq_true rfl, Nat.le_of_ble_eq_true rfl⟩) hj_Xb0 (fun _ _ _ => trivial) hK hP hS (by decide) rfl rfl rfl hl.1 rfl (Nat.le_of_ble_eq_true rfl) dX6_gives_13 (fun H locs hP hS => ?_)
    refine lv_if_ne (tgt := 22) hx hb dX6_gives_16 (by decide) (fun c4 => ?_) (fun c4 => ?_)
    · rw [if_neg c4] at hf
      refine lv_aload_n hx hb dX6_gives_22 rfl (lv_at hl 0 rfl) ?_
      obtain ⟨τ5, hc, hf⟩ := hj_o1_s hf
      refine hj_callVv (nL := 3) (As := []) (rest := []) (i0 := 0) (C := RX6) (T := TX6) (N := 24) (ci := 6) ⟨hx, hb, hml, hown, hts⟩ (ctX6_layTrial l g hI hc) (cwV 0 hts gX6_gives_X6_layTrial rfl rfl rfl (by decide +kernel) ⟨Nat.le_of_ble_eq_true rfl, Nat.le_of_ble_eq_true rfl⟩) hj_Xb0 (fun _ _ _ => trivial) hK hP hS (by decide) rfl rfl rfl hl.1 rfl (Nat.le_of_ble_eq_true rfl) dX6_gives_23 (fun H locs hP hS => ?_)
      refine lv_iconst (v := 1) hx hb dX6_gives_26 (by decide) ?_
      refine lv_istore_n (lv' := [(2, .int 1), (0, .ref (ad 0)), (1, .int x1)]) hx hb dX6_gives_27 rfl hl (by decide) rfl (fun ls hl => ?_)
      obtain ⟨exx, hlx, hlr, hfx⟩ := hj_oe_s hf
      refine wX6_gives_28 hI C hK  100 1 τ5 hlx hlr (fun τ15 hxe H locs ls hP hS hl => ?_) H locs ls hP hS (lv_sub hl [1, 2, 0] rfl)
      replace hf := hfx _ hxe
      replace hf := hj_nm_y (y := τ15) hf rfl
      refine lv_bipush (v := (-9)) hx hb dX6_gives_72 (by decide) ?_
      have hq := Option.some.inj hf
      obtain ⟨rfl, rfl⟩ := Prod.mk.inj hq
      exact hj_reti C hP hK hS dX6_gives_74
    · rw [if_pos c4] at hf
      refine lv_bipush (v := (-3)) hx hb dX6_gives_19 (by decide) ?_
      have hq := Option.some.inj hf
      obtain ⟨rfl, rfl⟩ := Prod.mk.inj hq
      exact hj_reti C hP hK hS dX6_gives_21
  · rw [if_pos c2] at hf
    refine lv_iconst (v := (-1)) hx hb dX6_gives_8 (by decide) ?_
    have hq := Option.some.inj hf
    obtain ⟨rfl, rfl⟩ := Prod.mk.inj hq
    exact hj_reti C hP hK hS dX6_gives_9
set_option maxHeartbeats 4000000 in
set_option maxRecDepth 100000 in
theorem ctX6_gives (l : Launch) (g : hj_G) {ad : Nat → Nat} (hI : hj_I 13 ad) {τ : hj_Ob} {sd : Int64} {x1 : Int32} {rF : Int32} {τF : hj_Ob} (hf : fX6_gives τ sd x1 = some (rF, τF)) :
    hj_MI l yX6_gives wsX6_gives rmX6_gives g 13 ad hj_X0 [.ref (ad 0), .int x1] (hj_wm g ad τ sd) rF (hj_wm g ad τF sd) := by
  refine hj_ofI (cc := cX6_gives) (maxL := 3) (ret := (some .int)) (by decide) rfl (Nat.le_of_ble_eq_true rfl) ?_
  intro p e s m args below meth c ls C hP hK hX hl
  exact wX6_gives hI C hK hf hP va_S.rf hl

/-! X6_toFeed -/
abbrev rmX6_toFeed : Room := { frames := 4, cells := 0, slots := 0, locals := 96 }
theorem iX6_toFeed_X6 : ∀ w ∈ wsX60, w ∈ wsX6_toFeed := fun _ h => List.mem_cons_of_mem _ (List.mem_append_right _ h)
theorem mX6_toFeed_1 : Cond.fieldLink RX6 16 "HungryJuryModel" "now" "[I" ∈ wsX6_toFeed := List.mem_of_getElem? (i := 1) rfl
theorem mX6_toFeed_2 : Cond.fieldLink RX6 96 "HungryJuryModel" "jurors" "I" ∈ wsX6_toFeed := List.mem_of_getElem? (i := 2) rfl
def fX6_toFeed_73 (τ : hj_Ob) (sd : Int64) (x1 : Int32) (x2 : Int32) (x3 : Int32) (x5 : Int32) : Option (hj_Ob ⊕ (Int32 × hj_Ob)) :=
  if (τ.1 0) ≤ x5 then (some (.inl τ)) else (hj_o1 (fX6_has x3 x5) fun r12 => if r12 = 0 then (hj_ck (9 + x5) 30 (hj_ck (24 + x5) 30 (hj_nm (hj_a τ 4 (24 + x5) (τ.2 4 (9 + x5).toNatClampNeg)) fun τ16 => hj_nm (x5 + 1) fun y17 => some (.inr (y17, τ16))))) else (hj_ck (24 + x5) 30 (hj_nm (hj_a τ 4 (24 + x5) 0) fun τ19 => hj_nm (x5 + 1) fun y20 => some (.inr (y20, τ19)))))
set_option maxHeartbeats 4000000 in
set_option maxRecDepth 100000 in
theorem wX6_toFeed_73b {p : Program} {l : Launch} {e : Env} {s : State} {m : MethodId} {args : Array Value} {below : List Frame} {meth : Method} {c : Code} {g : hj_G} {ad : Nat → Nat} (hI : hj_I 13 ad) (C : hj_C p s m args meth c cX6_toFeed RX6 wsX6_toFeed 6 (some .int)) (hK : hj_K g s) {τ : hj_Ob} {sd : Int64} {x1 : Int32} {x2 : Int32} {x3 : Int32} {x5 : Int32} {y : hj_Ob ⊕ (Int32 × hj_Ob)} {rF : Int32} {τF : hj_Ob}
    (hf : fX6_toFeed_73 τ sd x1 x2 x3 x5 = some y) (KX : ∀ (τ' : hj_Ob), y = .inl τ' → ∀ (H : Heap) (locs : List Loc) (ls : Array Slot), hj_P g 13 ad (hj_wm g ad τ' sd) H → hj_S 13 ad s H locs → lv_has ls 6 [(0, .ref (ad 0)), (1, .int x1), (2, .int x2), (3, .int x3)] → W p l e rmX6_toFeed s m args below meth c H locs 0 0 (MQ below (hj_QI g 13 ad (hj_wm g ad τF sd) rF s.heap.size) args s 0 0 (hj_A 13 ad s.heap.size)) (F0 m 121 ls [])) (KI : ∀ (v5 : Int32) (τ' : hj_Ob), y = .inr (v5, τ') → ∀ (H : Heap) (locs : List Loc) (ls : Array Slot), hj_P g 13 ad (hj_wm g ad τ' sd) H → hj_S 13 ad s H locs → lv_has ls 6 [(0, .ref (ad 0)), (1, .int x1), (2, .int x2), (3, .int x3), (5, .int v5)] → W p l e rmX6_toFeed s m args below meth c H locs 0 0 (MQ below (hj_QI g 13 ad (hj_wm g ad τF sd) rF s.heap.size) args s 0 0 (hj_A 13 ad s.heap.size)) (F0 m 73 ls [])) {H : Heap} {locs : List Loc} {ls : Array Slot} (hP : hj_P g 13 ad (hj_wm g ad τ sd) H) (hS : hj_S 13 ad s H locs) (hl : lv_has ls 6 [(0, .ref (ad 0)), (1, .int x1), (2, .int x2), (3, .int x3), (5, .int x5)]) :
    W p l e rmX6_toFeed s m args below meth c H locs 0 0 (MQ below (hj_QI g 13 ad (hj_wm g ad τF sd) rF s.heap.size) args s 0 0 (hj_A 13 ad s.heap.size)) (F0 m 73 ls []) := by
  obtain ⟨hx, hb, hr, hml, hown, hts, hlocks⟩ := id C
  unfold fX6_toFeed_73 at hf
  refine lv_iload hx hb dX6_toFeed_73 (lv_at hl 4 rfl) ?_
  refine lv_aload_n hx hb dX6_toFeed_75 rfl (lv_at hl 0 rfl) ?_
  refine hj_get (ci := 6) (v := .int (τ.1 0)) (C := RX6) (T := TX6) (N := 24) hx hb hts iX6_toFeed_X6 hown hK hP (by decide) rfl rfl 0 (by decide) mX6_toFeed_2 rfl dX6_toFeed_76 ?_
  refine lv_icmp_ge (tgt := 121) hx hb dX6_toFeed_79 (by decide) (fun c11 => ?_) (fun c11 => ?_)
  · rw [if_pos c11] at hf
    exact KX _ (Option.some.inj hf).symm _ _ _ hP hS (lv_sub hl [0, 1, 2, 3] rfl)
  · rw [if_neg c11] at hf
    refine lv_aload_n hx hb dX6_toFeed_82 rfl (lv_at hl 0 rfl) ?_
    refine hj_get (ci := 6) (v := .ref (ad 3)) (C := RX6) (T := TX6) (N := 24) hx hb hts iX6_toFeed_X6 hown hK hP (by decide) rfl rfl 4 (by decide) mX6_toFeed_1 rfl dX6_toFeed_83 ?_
    refine lv_bipush (v := 24) hx hb dX6_toFeed_86 (by decide) ?_
    refine lv_iload hx hb dX6_toFeed_88 (lv_at hl 4 rfl) ?_
    refine lv_iadd hx hb dX6_toFeed_90 ?_
    refine lv_iload_n hx hb dX6_toFeed_91 rfl (lv_at hl 3 rfl) ?_
    refine lv_iload hx hb dX6_toFeed_92 (lv_at hl 4 rfl) ?_
    obtain ⟨r12, hc, hf⟩ := hj_o1_s hf
    refine hj_callSi (nL := 6) (As := [.int x3, .int x5]) (rest := [.int (24 + x5), .ref (ad 3)]) ⟨hx, hb, hml, hown, hts⟩ (ctX6_has l g (n := 13) (ad := ad) (w := (hj_wm g ad τ sd)) hc) (va_cwS 2 hts gX6_toFeed_X6_has rfl rfl rfl (by decide +kernel) ⟨Nat.le_of_ble_eq_true rfl, Nat.le_of_ble_eq_true rfl⟩) hj_Xb0 (fun _ _ _ => trivial) hK hP hS rfl hl.1 rfl (Nat.le_of_ble_eq_true rfl) dX6_toFeed_94 (fun H locs hP hS => ?_)
    refine lv_if_eq (tgt := 104) hx hb dX6_toFeed_97 (by decide) (fun c13 => ?_) (fun c13 => ?_)
    · rw [if_pos c13] at hf
      refine lv_aload_n hx hb dX6_toFeed_104 rfl (lv_at hl 0 rfl) ?_
      refine hj_get (ci := 6) (v := .ref (ad 3)) (C := RX6) (T := TX6) (N := 24) hx hb hts iX6_toFeed_X6 hown hK hP (by decide) rfl rfl 4 (by decide) mX6_toFeed_1 rfl dX6_toFeed_105 ?_
      refine lv_bipush (v := 9) hx hb dX6_toFeed_108 (by decide) ?_
      refine lv_iload hx hb dX6_toFeed_110 (lv_at hl 4 rfl) ?_
      refine lv_iadd hx hb dX6_toFeed_112 ?_
      obtain ⟨hk14, hf⟩ := hj_ck_s hf
      refine hj_ial (f := τ.2 4) hx hb hK hP (by decide) rfl hk14 dX6_toFeed_113 ?_
      obtain ⟨hk15, hf⟩ := hj_ck_s hf
      refine hj_ias (f := τ.2 4) (v := (τ.2 4 (9 + x5).toNatClampNeg)) hx hb hK hI hP hS (by decide) rfl hk15 dX6_toFeed_114 (wm_a2 (τ := τ) (x := (24 + x5)) (v := (τ.2 4 (9 + x5).toNatClampNeg)) 3 4 rfl (by decide) (by decide) (by decide)) (fun H locs hP hS => ?_)
      obtain ⟨τ16, eτ16⟩ : ∃ z : hj_Ob, z = hj_a τ 4 (24 + x5) (τ.2 4 (9 + x5).toNatClampNeg) := ⟨_, rfl⟩
      replace hf := hj_nm_y hf eτ16
      rw [← eτ16] at hP
      obtain ⟨y17, ey17⟩ : ∃ z : Int32, z = x5 + 1 := ⟨_, rfl⟩
      replace hf := hj_nm_y hf ey17
      refine lv_iinc (v := y17) (lv' := [(5, .int y17), (0, .ref (ad 0)), (1, .int x1), (2, .int x2), (3, .int x3)]) hx hb dX6_toFeed_115 hl (k := 4) rfl (by rw [ey17]; rfl) (by decide) rfl (fun ls hl => ?_)
      refine lv_goto (tgt := 73) hx hb dX6_toFeed_118 (by decide) ?_
      exact KI _ _ (Option.some.inj hf).symm _ _ _ hP hS (lv_sub hl [1, 2, 3, 4, 0] rfl)
    · rw [if_neg c13] at hf
      refine lv_iconst (v := 0) hx hb dX6_toFeed_100 (by decide) ?_
      refine lv_goto (tgt := 114) hx hb dX6_toFeed_101 (by decide) ?_
      obtain ⟨hk18, hf⟩ := hj_ck_s hf
      refine hj_ias (f := τ.2 4) (v := 0) hx hb hK hI hP hS (by decide) rfl hk18 dX6_toFeed_114 (wm_a2 (τ := τ) (x := (24 + x5)) (v := 0) 3 4 rfl (by decide) (by decide) (by decide)) (fun H locs hP hS => ?_)
      obtain ⟨τ19, eτ19⟩ : ∃ z : hj_Ob, z = hj_a τ 4 (24 + x5) 0 := ⟨_, rfl⟩
      replace hf := hj_nm_y hf eτ19
      rw [← eτ19] at hP
      obtain ⟨y20, ey20⟩ : ∃ z : Int32, z = x5 + 1 := ⟨_, rfl⟩
      replace hf := hj_nm_y hf ey20
      refine lv_iinc (v := y20) (lv' := [(5, .int y20), (0, .ref (ad 0)), (1, .int x1), (2, .int x2), (3, .int x3)]) hx hb dX6_toFeed_115 hl (k := 4) rfl (by rw [ey20]; rfl) (by decide) rfl (fun ls hl => ?_)
      refine lv_goto (tgt := 73) hx hb dX6_toFeed_118 (by decide) ?_
      exact KI _ _ (Option.some.inj hf).symm _ _ _ hP hS (lv_sub hl [1, 2, 3, 4, 0] rfl)
set_option maxHeartbeats 4000000 in
set_option maxRecDepth 100000 in
theorem wX6_toFeed_73 {p : Program} {l : Launch} {e : Env} {s : State} {m : MethodId} {args : Array Value} {below : List Frame} {meth : Method} {c : Code} {g : hj_G} {ad : Nat → Nat} (hI : hj_I 13 ad) (C : hj_C p s m args meth c cX6_toFeed RX6 wsX6_toFeed 6 (some .int)) (hK : hj_K g s) {sd : Int64} {x1 : Int32} {x2 : Int32} {x3 : Int32} {rF : Int32} {τF : hj_Ob} {τe : hj_Ob} :
    ∀ (fu : Nat) (x5 : Int32) (τ : hj_Ob), hj_lp (fun q : (Int32 × hj_Ob) => fX6_toFeed_73 q.2 sd x1 x2 x3 q.1) fu (x5, τ) = some τe → (∀ (H : Heap) (locs : List Loc) (ls : Array Slot), hj_P g 13 ad (hj_wm g ad τe sd) H → hj_S 13 ad s H locs → lv_has ls 6 [(0, .ref (ad 0)), (1, .int x1), (2, .int x2), (3, .int x3)] → W p l e rmX6_toFeed s m args below meth c H locs 0 0 (MQ below (hj_QI g 13 ad (hj_wm g ad τF sd) rF s.heap.size) args s 0 0 (hj_A 13 ad s.heap.size)) (F0 m 121 ls [])) → ∀ (H : Heap) (locs : List Loc) (ls : Array Slot), hj_P g 13 ad (hj_wm g ad τ sd) H → hj_S 13 ad s H locs → lv_has ls 6 [(0, .ref (ad 0)), (1, .int x1), (2, .int x2), (3, .int x3), (5, .int x5)] →
    W p l e rmX6_toFeed s m args below meth c H locs 0 0 (MQ below (hj_QI g 13 ad (hj_wm g ad τF sd) rF s.heap.size) args s 0 0 (hj_A 13 ad s.heap.size)) (F0 m 73 ls []) := by
  intro fu
  induction fu with
  | zero => intro x5 τ hq; cases hq
  | succ fu ih =>
    intro x5 τ hq KX H locs ls hP hS hl
    obtain ⟨y, hy, h1, h2⟩ := hj_lp_s hq
    exact wX6_toFeed_73b hI C hK  hy (fun τ' hv H locs ls hP hS hl => by obtain rfl := h1 _ hv; exact KX H locs ls hP hS hl) (fun v5 τ' hv H locs ls hP hS hl => ih v5 τ' (h2 _ hv) KX H locs ls hP hS hl) hP hS hl
def fX6_toFeed_46 (τ : hj_Ob) (sd : Int64) (x1 : Int32) (x2 : Int32) (x3 : Int32) (z0 : Int32) : Option ((Int32 × hj_Ob) ⊕ (Int32 × Int32 × hj_Ob)) :=
  if z0 = 0 then (hj_nm (x3 + 1) fun y6 => some (.inr (x2, y6, τ))) else (hj_ck (1 : Int32) 30 (if (x3 &&& ((τ.2 4 (1 : Int32).toNatClampNeg) ^^^ (-1))) = 0 then (hj_o1 (fX6_layTrial τ sd) fun τ10 => hj_o1 (hj_lp (fun q : (Int32 × hj_Ob) => fX6_toFeed_73 q.2 sd x1 x2 x3 q.1) 100 (0, τ10)) fun τ21 => (hj_o2 (fX6_runTrial τ21 sd) fun r22 τ23 => if r22 = x1 then (hj_nm (x3 + 1) fun y26 => some (.inr (x3, y26, τ23))) else (hj_nm (x3 + 1) fun y25 => some (.inr (x2, y25, τ23))))) else (hj_nm (x3 + 1) fun y9 => some (.inr (x2, y9, τ)))))
set_option maxHeartbeats 4000000 in
set_option maxRecDepth 100000 in
theorem wX6_toFeed_46 {p : Program} {l : Launch} {e : Env} {s : State} {m : MethodId} {args : Array Value} {below : List Frame} {meth : Method} {c : Code} {g : hj_G} {ad : Nat → Nat} (hI : hj_I 13 ad) (C : hj_C p s m args meth c cX6_toFeed RX6 wsX6_toFeed 6 (some .int)) (hK : hj_K g s) {τ : hj_Ob} {sd : Int64} {x1 : Int32} {x2 : Int32} {x3 : Int32} {z0 : Int32} {y : (Int32 × hj_Ob) ⊕ (Int32 × Int32 × hj_Ob)} {rF : Int32} {τF : hj_Ob}
    (hf : fX6_toFeed_46 τ sd x1 x2 x3 z0 = some y) (KX : ∀ (v2 : Int32) (τ' : hj_Ob), y = .inl (v2, τ') → ∀ (H : Heap) (locs : List Loc) (ls : Array Slot), hj_P g 13 ad (hj_wm g ad τ' sd) H → hj_S 13 ad s H locs → lv_has ls 6 [(2, .int v2)] → W p l e rmX6_toFeed s m args below meth c H locs 0 0 (MQ below (hj_QI g 13 ad (hj_wm g ad τF sd) rF s.heap.size) args s 0 0 (hj_A 13 ad s.heap.size)) (F0 m 141 ls [])) (KI : ∀ (v2 : Int32) (v3 : Int32) (τ' : hj_Ob), y = .inr (v2, v3, τ') → ∀ (H : Heap) (locs : List Loc) (ls : Array Slot), hj_P g 13 ad (hj_wm g ad τ' sd) H → hj_S 13 ad s H locs → lv_has ls 6 [(0, .ref (ad 0)), (1, .int x1), (2, .int v2), (3, .int v3)] → W p l e rmX6_toFeed s m args below meth c H locs 0 0 (MQ below (hj_QI g 13 ad (hj_wm g ad τF sd) rF s.heap.size) args s 0 0 (hj_A 13 ad s.heap.size)) (F0 m 18 ls [])) {H : Heap} {locs : List Loc} {ls : Array Slot} (hP : hj_P g 13 ad (hj_wm g ad τ sd) H) (hS : hj_S 13 ad s H locs) (hl : lv_has ls 6 [(0, .ref (ad 0)), (1, .int x1), (2, .int x2), (3, .int x3)]) :
    W p l e rmX6_toFeed s m args below meth c H locs 0 0 (MQ below (hj_QI g 13 ad (hj_wm g ad τF sd) rF s.heap.size) args s 0 0 (hj_A 13 ad s.heap.size)) (F0 m 46 ls [.int z0]) := by
  obtain ⟨hx, hb, hr, hml, hown, hts, hlocks⟩ := id C
  unfold fX6_toFeed_46 at hf
  refine lv_istore (lv' := [(4, .int z0), (0, .ref (ad 0)), (1, .int x1), (2, .int x2), (3, .int x3)]) hx hb dX6_toFeed_46 hl (by decide) rfl (fun ls hl => ?_)
  refine lv_iload hx hb dX6_toFeed_48 (lv_at hl 0 rfl) ?_
  refine lv_if_eq (tgt := 135) hx hb dX6_toFeed_50 (by decide) (fun c5 => ?_) (fun c5 => ?_)
  · rw [if_pos c5] at hf
    obtain ⟨y6, ey6⟩ : ∃ z : Int32, z = x3 + 1 := ⟨_, rfl⟩
    replace hf := hj_nm_y hf ey6
    refine lv_iinc (v := y6) (lv' := [(3, .int y6), (4, .int z0), (0, .ref (ad 0)), (1, .int x1), (2, .int x2)]) hx hb dX6_toFeed_135 hl (k := 4) rfl (by rw [ey6]; rfl) (by decide) rfl (fun ls hl => ?_)
    refine lv_goto (tgt := 18) hx hb dX6_toFeed_138 (by decide) ?_
    exact KI _ _ _ (Option.some.inj hf).symm _ _ _ hP hS (lv_sub hl [2, 3, 4, 0] rfl)
  · rw [if_neg c5] at hf
    refine lv_iload_n hx hb dX6_toFeed_53 rfl (lv_at hl 4 rfl) ?_
    refine lv_aload_n hx hb dX6_toFeed_54 rfl (lv_at hl 1 rfl) ?_
    refine hj_get (ci := 6) (v := .ref (ad 3)) (C := RX6) (T := TX6) (N := 24) hx hb hts iX6_toFeed_X6 hown hK hP (by decide) rfl rfl 4 (by decide) mX6_toFeed_1 rfl dX6_toFeed_55 ?_
    refine lv_iconst (v := 1) hx hb dX6_toFeed_58 (by decide) ?_
    obtain ⟨hk7, hf⟩ := hj_ck_s hf
    refine hj_ial (f := τ.2 4) hx hb hK hP (by decide) rfl hk7 dX6_toFeed_59 ?_
    refine lv_iconst (v := (-1)) hx hb dX6_toFeed_60 (by decide) ?_
    refine lv_ixor hx hb dX6_toFeed_61 ?_
    refine lv_iand hx hb dX6_toFeed_62 ?_
    refine lv_if_ne (tgt := 135) hx hb dX6_toFeed_63 (by decide) (fun c8 => ?_) (fun c8 => ?_)
    · rw [if_neg c8] at hf
      obtain ⟨y9, ey9⟩ : ∃ z : Int32, z = x3 + 1 := ⟨_, rfl⟩
      replace hf := hj_nm_y hf ey9
      refine lv_iinc (v := y9) (lv' := [(3, .int y9), (4, .int z0), (0, .ref (ad 0)), (1, .int x1), (2, .int x2)]) hx hb dX6_toFeed_135 hl (k := 4) rfl (by rw [ey9]; rfl) (by decide) rfl (fun ls hl => ?_)
      refine lv_goto (tgt := 18) hx hb dX6_toFeed_138 (by decide) ?_
      exact KI _ _ _ (Option.some.inj hf).symm _ _ _ hP hS (lv_sub hl [2, 3, 4, 0] rfl)
    · rw [if_pos c8] at hf
      refine lv_aload_n hx hb dX6_toFeed_66 rfl (lv_at hl 1 rfl) ?_
      obtain ⟨τ10, hc, hf⟩ := hj_o1_s hf
      refine hj_callVv (nL := 6) (As := []) (rest := []) (i0 := 0) (C := RX6) (T := TX6) (N := 24) (ci := 6) ⟨hx, hb, hml, hown, hts⟩ (ctX6_layTrial l g hI hc) (cwV 0 hts gX6_toFeed_X6_layTrial rfl rfl rfl (by decide +kernel) ⟨Nat.le_of_ble_eq_true rfl, Nat.le_of_ble_eq_true rfl⟩) hj_Xb0 (fun _ _ _ => trivial) hK hP hS (by decide) rfl rfl rfl hl.1 rfl (Nat.le_of_ble_eq_true rfl) dX6_toFeed_67 (fun H locs hP hS => ?_)
      refine lv_iconst (v := 0) hx hb dX6_toFeed_70 (by decide) ?_
      refine lv_istore (lv' := [(5, .int 0), (4, .int z0), (0, .ref (ad 0)), (1, .int x1), (2, .int x2), (3, .int x3)]) hx hb dX6_toFeed_71 hl (by decide) rfl (fun ls hl => ?_)
      obtain ⟨τ21, hlx, hf⟩ := hj_o1_s hf
      refine wX6_toFeed_73 hI C hK  100 0 τ10 hlx (fun H locs ls hP hS hl => ?_) H locs ls hP hS (lv_sub hl [2, 3, 4, 5, 0] rfl)
      refine lv_aload_n hx hb dX6_toFeed_121 rfl (lv_at hl 0 rfl) ?_
      obtain ⟨r22, τ23, hc, hf⟩ := hj_o2_s hf
      refine hj_callVi (nL := 6) (As := []) (rest := []) (i0 := 0) (C := RX6) (T := TX6) (N := 24) (ci := 6) ⟨hx, hb, hml, hown, hts⟩ (ctX6_runTrial l g hI hc) (cwV 0 hts gX6_toFeed_X6_runTrial rfl rfl rfl (by decide +kernel) ⟨Nat.le_of_ble_eq_true rfl, Nat.le_of_ble_eq_true rfl⟩) hj_Xb0 (fun _ _ _ => trivial) hK hP hS (by decide) rfl rfl rfl hl.1 rfl (Nat.le_of_ble_eq_true rfl) dX6_toFeed_122 (fun H locs hP hS => ?_)
      refine lv_iload_n hx hb dX6_toFeed_125 rfl (lv_at hl 1 rfl) ?_
      refine lv_icmp_ne (tgt := 133) hx hb dX6_toFeed_126 (by decide) (fun c24 => ?_) (fun c24 => ?_)
      · rw [if_neg c24] at hf
        refine lv_iload_n hx hb dX6_toFeed_133 rfl (lv_at hl 2 rfl) ?_
        refine lv_istore_n (lv' := [(2, .int x2), (0, .ref (ad 0)), (1, .int x1), (3, .int x3)]) hx hb dX6_toFeed_134 rfl hl (by decide) rfl (fun ls hl => ?_)
        obtain ⟨y25, ey25⟩ : ∃ z : Int32, z = x3 + 1 := ⟨_, rfl⟩
        replace hf := hj_nm_y hf ey25
        refine lv_iinc (v := y25) (lv' := [(3, .int y25), (2, .int x2), (0, .ref (ad 0)), (1, .int x1)]) hx hb dX6_toFeed_135 hl (k := 3) rfl (by rw [ey25]; rfl) (by decide) rfl (fun ls hl => ?_)
        refine lv_goto (tgt := 18) hx hb dX6_toFeed_138 (by decide) ?_
        exact KI _ _ _ (Option.some.inj hf).symm _ _ _ hP hS (lv_sub hl [2, 3, 1, 0] rfl)
      · rw [if_pos c24] at hf
        refine lv_iload_n hx hb dX6_toFeed_129 rfl (lv_at hl 3 rfl) ?_
        refine lv_goto (tgt := 134) hx hb dX6_toFeed_130 (by decide) ?_
        refine lv_istore_n (lv' := [(2, .int x3), (0, .ref (ad 0)), (1, .int x1), (3, .int x3)]) hx hb dX6_toFeed_134 rfl hl (by decide) rfl (fun ls hl => ?_)
        obtain ⟨y26, ey26⟩ : ∃ z : Int32, z = x3 + 1 := ⟨_, rfl⟩
        replace hf := hj_nm_y hf ey26
        refine lv_iinc (v := y26) (lv' := [(3, .int y26), (2, .int x3), (0, .ref (ad 0)), (1, .int x1)]) hx hb dX6_toFeed_135 hl (k := 3) rfl (by rw [ey26]; rfl) (by decide) rfl (fun ls hl => ?_)
        refine lv_goto (tgt := 18) hx hb dX6_toFeed_138 (by decide) ?_
        exact KI _ _ _ (Option.some.inj hf).symm _ _ _ hP hS (lv_sub hl [2, 3, 1, 0] rfl)
def fX6_toFeed_18 (τ : hj_Ob) (sd : Int64) (x1 : Int32) (x2 : Int32) (x3 : Int32) : Option ((Int32 × hj_Ob) ⊕ (Int32 × Int32 × hj_Ob)) :=
  if 64 ≤ x3 then (some (.inl (x2, τ))) else (if x2 = (-9) then (fX6_toFeed_46 τ sd x1 x2 x3 1) else (hj_o1 (fX6_ones x3) fun r27 => hj_o1 (fX6_ones x2) fun r28 => if r28 ≤ r27 then (fX6_toFeed_46 τ sd x1 x2 x3 0) else (fX6_toFeed_46 τ sd x1 x2 x3 1)))
set_option maxHeartbeats 4000000 in
set_option maxRecDepth 100000 in
theorem wX6_toFeed_18b {p : Program} {l : Launch} {e : Env} {s : State} {m : MethodId} {args : Array Value} {below : List Frame} {meth : Method} {c : Code} {g : hj_G} {ad : Nat → Nat} (hI : hj_I 13 ad) (C : hj_C p s m args meth c cX6_toFeed RX6 wsX6_toFeed 6 (some .int)) (hK : hj_K g s) {τ : hj_Ob} {sd : Int64} {x1 : Int32} {x2 : Int32} {x3 : Int32} {y : (Int32 × hj_Ob) ⊕ (Int32 × Int32 × hj_Ob)} {rF : Int32} {τF : hj_Ob}
    (hf : fX6_toFeed_18 τ sd x1 x2 x3 = some y) (KX : ∀ (v2 : Int32) (τ' : hj_Ob), y = .inl (v2, τ') → ∀ (H : Heap) (locs : List Loc) (ls : Array Slot), hj_P g 13 ad (hj_wm g ad τ' sd) H → hj_S 13 ad s H locs → lv_has ls 6 [(2, .int v2)] → W p l e rmX6_toFeed s m args below meth c H locs 0 0 (MQ below (hj_QI g 13 ad (hj_wm g ad τF sd) rF s.heap.size) args s 0 0 (hj_A 13 ad s.heap.size)) (F0 m 141 ls [])) (KI : ∀ (v2 : Int32) (v3 : Int32) (τ' : hj_Ob), y = .inr (v2, v3, τ') → ∀ (H : Heap) (locs : List Loc) (ls : Array Slot), hj_P g 13 ad (hj_wm g ad τ' sd) H → hj_S 13 ad s H locs → lv_has ls 6 [(0, .ref (ad 0)), (1, .int x1), (2, .int v2), (3, .int v3)] → W p l e rmX6_toFeed s m args below meth c H locs 0 0 (MQ below (hj_QI g 13 ad (hj_wm g ad τF sd) rF s.heap.size) args s 0 0 (hj_A 13 ad s.heap.size)) (F0 m 18 ls [])) {H : Heap} {locs : List Loc} {ls : Array Slot} (hP : hj_P g 13 ad (hj_wm g ad τ sd) H) (hS : hj_S 13 ad s H locs) (hl : lv_has ls 6 [(0, .ref (ad 0)), (1, .int x1), (2, .int x2), (3, .int x3)]) :
    W p l e rmX6_toFeed s m args below meth c H locs 0 0 (MQ below (hj_QI g 13 ad (hj_wm g ad τF sd) rF s.heap.size) args s 0 0 (hj_A 13 ad s.heap.size)) (F0 m 18 ls []) := by
  obtain ⟨hx, hb, hr, hml, hown, hts, hlocks⟩ := id C
  unfold fX6_toFeed_18 at hf
  refine lv_iload_n hx hb dX6_toFeed_18 rfl (lv_at hl 3 rfl) ?_
  refine lv_bipush (v := 64) hx hb dX6_toFeed_19 (by decide) ?_
  refine lv_icmp_ge (tgt := 141) hx hb dX6_toFeed_21 (by decide) (fun c3 => ?_) (fun c3 => ?_)
  · rw [if_pos c3] at hf
    exact KX _ _ (Option.some.inj hf).symm _ _ _ hP hS (lv_sub hl [2] rfl)
  · rw [if_neg c3] at hf
    refine lv_iload_n hx hb dX6_toFeed_24 rfl (lv_at hl 2 rfl) ?_
    refine lv_bipush (v := (-9)) hx hb dX6_toFeed_25 (by decide) ?_
    refine lv_icmp_eq (tgt := 41) hx hb dX6_toFeed_27 (by decide) (fun c4 => ?_) (fun c4 => ?_)
    · rw [if_pos c4] at hf
      refine lv_iconst (v := 1) hx hb dX6_toFeed_41 (by decide) ?_
      refine lv_goto (tgt := 46) hx hb dX6_toFeed_42 (by decide) ?_
      exact wX6_toFeed_46 hI C hK  hf KX KI hP hS (lv_sub hl [0, 1, 2, 3] rfl)
    · rw [if_neg c4] at hf
      refine lv_iload_n hx hb dX6_toFeed_30 rfl (lv_at hl 3 rfl) ?_
      obtain ⟨r27, hc, hf⟩ := hj_o1_s hf
      refine hj_callSi (nL := 6) (As := [.int x3]) (rest := []) ⟨hx, hb, hml, hown, hts⟩ (ctX6_ones l g (n := 13) (ad := ad) (w := (hj_wm g ad τ sd)) hc) (va_cwS 1 hts gX6_toFeed_X6_ones rfl rfl rfl (by decide +kernel) ⟨Nat.le_of_ble_eq_true rfl, Nat.le_of_ble_eq_true rfl⟩) hj_Xb0 (fun _ _ _ => trivial) hK hP hS rfl hl.1 rfl (Nat.le_of_ble_eq_true rfl) dX6_toFeed_31 (fun H locs hP hS => ?_)
      refine lv_iload_n hx hb dX6_toFeed_34 rfl (lv_at hl 2 rfl) ?_
      obtain ⟨r28, hc, hf⟩ := hj_o1_s hf
      refine hj_callSi (nL := 6) (As := [.int x2]) (rest := [.int r27]) ⟨hx, hb, hml, hown, hts⟩ (ctX6_ones l g (n := 13) (ad := ad) (w := (hj_wm g ad τ sd)) hc) (va_cwS 1 hts gX6_toFeed_X6_ones rfl rfl rfl (by decide +kernel) ⟨Nat.le_of_ble_eq_true rfl, Nat.le_of_ble_eq_true rfl⟩) hj_Xb0 (fun _ _ _ => trivial) hK hP hS rfl hl.1 rfl (Nat.le_of_ble_eq_true rfl) dX6_toFeed_35 (fun H locs hP hS => ?_)
      refine lv_icmp_ge (tgt := 45) hx hb dX6_toFeed_38 (by decide) (fun c29 => ?_) (fun c29 => ?_)
      · rw [if_pos c29] at hf
        refine lv_iconst (v := 0) hx hb dX6_toFeed_45 (by decide) ?_
        exact wX6_toFeed_46 hI C hK  hf KX KI hP hS (lv_sub hl [0, 1, 2, 3] rfl)
      · rw [if_neg c29] at hf
        refine lv_iconst (v := 1) hx hb dX6_toFeed_41 (by decide) ?_
        refine lv_goto (tgt := 46) hx hb dX6_toFeed_42 (by decide) ?_
        exact wX6_toFeed_46 hI C hK  hf KX KI hP hS (lv_sub hl [0, 1, 2, 3] rfl)
set_option maxHeartbeats 4000000 in
set_option maxRecDepth 100000 in
theorem wX6_toFeed_18 {p : Program} {l : Launch} {e : Env} {s : State} {m : MethodId} {args : Array Value} {below : List Frame} {meth : Method} {c : Code} {g : hj_G} {ad : Nat → Nat} (hI : hj_I 13 ad) (C : hj_C p s m args meth c cX6_toFeed RX6 wsX6_toFeed 6 (some .int)) (hK : hj_K g s) {sd : Int64} {x1 : Int32} {rF : Int32} {τF : hj_Ob} {e2 : Int32} {τe : hj_Ob} :
    ∀ (fu : Nat) (x2 : Int32) (x3 : Int32) (τ : hj_Ob), hj_lp (fun q : (Int32 × Int32 × hj_Ob) => fX6_toFeed_18 q.2.2 sd x1 q.1 q.2.1) fu (x2, x3, τ) = some (e2, τe) → (∀ (H : Heap) (locs : List Loc) (ls : Array Slot), hj_P g 13 ad (hj_wm g ad τe sd) H → hj_S 13 ad s H locs → lv_has ls 6 [(2, .int e2)] → W p l e rmX6_toFeed s m args below meth c H locs 0 0 (MQ below (hj_QI g 13 ad (hj_wm g ad τF sd) rF s.heap.size) args s 0 0 (hj_A 13 ad s.heap.size)) (F0 m 141 ls [])) → ∀ (H : Heap) (locs : List Loc) (ls : Array Slot), hj_P g 13 ad (hj_wm g ad τ sd) H → hj_S 13 ad s H locs → lv_has ls 6 [(0, .ref (ad 0)), (1, .int x1), (2, .int x2), (3, .int x3)] →
    W p l e rmX6_toFeed s m args below meth c H locs 0 0 (MQ below (hj_QI g 13 ad (hj_wm g ad τF sd) rF s.heap.size) args s 0 0 (hj_A 13 ad s.heap.size)) (F0 m 18 ls []) := by
  intro fu
  induction fu with
  | zero => intro x2 x3 τ hq; cases hq
  | succ fu ih =>
    intro x2 x3 τ hq KX H locs ls hP hS hl
    obtain ⟨y, hy, h1, h2⟩ := hj_lp_s hq
    exact wX6_toFeed_18b hI C hK  hy (fun v2 τ' hv H locs ls hP hS hl => by have hw := h1 _ hv; obtain ⟨rfl, rfl⟩ := Prod.mk.inj hw; exact KX H locs ls hP hS hl) (fun v2 v3 τ' hv H locs ls hP hS hl => ih v2 v3 τ' (h2 _ hv) KX H locs ls hP hS hl) hP hS hl
def fX6_toFeed (τ : hj_Ob) (sd : Int64) (x1 : Int32) : Option (Int32 × hj_Ob) :=
  hj_o1 (fX6_in x1.toInt64 0 1) fun r1 => if r1 = 0 then (some ((-2), τ)) else (hj_o2 (hj_lp (fun q : (Int32 × Int32 × hj_Ob) => fX6_toFeed_18 q.2.2 sd x1 q.1 q.2.1) 100 ((-9), 0, τ)) fun e30 τ31 => (some (e30, τ31)))
set_option maxHeartbeats 4000000 in
set_option maxRecDepth 100000 in
theorem wX6_toFeed {p : Program} {l : Launch} {e : Env} {s : State} {m : MethodId} {args : Array Value} {below : List Frame} {meth : Method} {c : Code} {g : hj_G} {ad : Nat → Nat} (hI : hj_I 13 ad) (C : hj_C p s m args meth c cX6_toFeed RX6 wsX6_toFeed 6 (some .int)) (hK : hj_K g s) {τ : hj_Ob} {sd : Int64} {x1 : Int32} {rF : Int32} {τF : hj_Ob}
    (hf : fX6_toFeed τ sd x1 = some (rF, τF)) {H : Heap} {locs : List Loc} {ls : Array Slot} (hP : hj_P g 13 ad (hj_wm g ad τ sd) H) (hS : hj_S 13 ad s H locs) (hl : lv_has ls 6 [(0, .ref (ad 0)), (1, .int x1)]) :
    W p l e rmX6_toFeed s m args below meth c H locs 0 0 (MQ below (hj_QI g 13 ad (hj_wm g ad τF sd) rF s.heap.size) args s 0 0 (hj_A 13 ad s.heap.size)) (F0 m 0 ls []) := by
  obtain ⟨hx, hb, hr, hml, hown, hts, hlocks⟩ := id C
  unfold fX6_toFeed at hf
  refine lv_iload_n hx hb dX6_toFeed_0 rfl (lv_at hl 1 rfl) ?_
  refine lv_i2l (v := x1.toInt64) hx hb dX6_toFeed_1 rfl ?_
  refine lv_lconst (v := 0) hx hb dX6_toFeed_2 (by decide) ?_
  refine lv_lconst (v := 1) hx hb dX6_toFeed_3 (by decide) ?_
  obtain ⟨r1, hc, hf⟩ := hj_o1_s hf
  refine hj_callSi (nL := 6) (As := [.long x1.toInt64, .long 0, .long 1]) (rest := []) ⟨hx, hb, hml, hown, hts⟩ (ctX6_in l g (n := 13) (ad := ad) (w := (hj_wm g ad τ sd)) hc) (va_cwS 3 hts gX6_toFeed_X6_in rfl rfl rfl (by decide +kernel) ⟨Nat.le_of_ble_eq_true rfl, Nat.le_of_ble_eq_true rfl⟩) hj_Xb0 (fun _ _ _ => trivial) hK hP hS rfl hl.1 rfl (Nat.le_of_ble_eq_true rfl) dX6_toFeed_4 (fun H locs hP hS => ?_)
  refine lv_if_ne (tgt := 13) hx hb dX6_toFeed_7 (by decide) (fun c2 => ?_) (fun c2 => ?_)
  · rw [if_neg c2] at hf
    refine lv_bipush (v := (-9)) hx hb dX6_toFeed_13 (by decide) ?_
    refine lv_istore_n (lv' := [(2, .int (-9)), (0, .ref (ad 0)), (1, .int x1)]) hx hb dX6_toFeed_15 rfl hl (by decide) rfl (fun ls hl => ?_)
    refine lv_iconst (v := 0) hx hb dX6_toFeed_16 (by decide) ?_
    refine lv_istore_n (lv' := [(3, .int 0), (2, .int (-9)), (0, .ref (ad 0)), (1, .int x1)]) hx hb dX6_toFeed_17 rfl hl (by decide) rfl (fun ls hl => ?_)
    obtain ⟨e30, τ31, hlx, hf⟩ := hj_o2_s hf
    refine wX6_toFeed_18 hI C hK  100 (-9) 0 τ hlx (fun H locs ls hP hS hl => ?_) H locs ls hP hS (lv_sub hl [2, 3, 1, 0] rfl)
    refine lv_iload_n hx hb dX6_toFeed_141 rfl (lv_at hl 0 rfl) ?_
    have hq := Option.some.inj hf
    obtain ⟨rfl, rfl⟩ := Prod.mk.inj hq
    exact hj_reti C hP hK hS dX6_toFeed_142
  · rw [if_pos c2] at hf
    refine lv_bipush (v := (-2)) hx hb dX6_toFeed_10 (by decide) ?_
    have hq := Option.some.inj hf
    obtain ⟨rfl, rfl⟩ := Prod.mk.inj hq
    exact hj_reti C hP hK hS dX6_toFeed_12
set_option maxHeartbeats 4000000 in
set_option maxRecDepth 100000 in
theorem ctX6_toFeed (l : Launch) (g : hj_G) {ad : Nat → Nat} (hI : hj_I 13 ad) {τ : hj_Ob} {sd : Int64} {x1 : Int32} {rF : Int32} {τF : hj_Ob} (hf : fX6_toFeed τ sd x1 = some (rF, τF)) :
    hj_MI l yX6_toFeed wsX6_toFeed rmX6_toFeed g 13 ad hj_X0 [.ref (ad 0), .int x1] (hj_wm g ad τ sd) rF (hj_wm g ad τF sd) := by
  refine hj_ofI (cc := cX6_toFeed) (maxL := 6) (ret := (some .int)) (by decide) rfl (Nat.le_of_ble_eq_true rfl) ?_
  intro p e s m args below meth c ls C hP hK hX hl
  exact wX6_toFeed hI C hK hf hP va_S.rf hl

/-! X6_strike -/
abbrev rmX6_strike : Room := { frames := 4, cells := 0, slots := 0, locals := 96 }
theorem iX6_strike_X6 : ∀ w ∈ wsX60, w ∈ wsX6_strike := fun _ h => List.mem_cons_of_mem _ (List.mem_append_right _ h)
theorem mX6_strike_1 : Cond.fieldLink RX6 16 "HungryJuryModel" "now" "[I" ∈ wsX6_strike := List.mem_of_getElem? (i := 1) rfl
theorem mX6_strike_2 : Cond.fieldLink RX6 96 "HungryJuryModel" "jurors" "I" ∈ wsX6_strike := List.mem_of_getElem? (i := 2) rfl
def fX6_strike_83 (τ : hj_Ob) (sd : Int64) (x1 : Int32) (x2 : Int32) (x3 : Int32) (x5 : Int32) : Option (hj_Ob ⊕ (Int32 × hj_Ob)) :=
  if (τ.1 0) ≤ x5 then (some (.inl τ)) else (hj_o1 (fX6_has x3 x5) fun r15 => if r15 = 0 then (hj_nm (x5 + 1) fun y17 => some (.inr (y17, τ))) else (hj_o1 (fX6_dieOn τ sd 1 x5) fun τ18 => hj_nm (x5 + 1) fun y19 => some (.inr (y19, τ18))))
set_option maxHeartbeats 4000000 in
set_option maxRecDepth 100000 in
theorem wX6_strike_83b {p : Program} {l : Launch} {e : Env} {s : State} {m : MethodId} {args : Array Value} {below : List Frame} {meth : Method} {c : Code} {g : hj_G} {ad : Nat → Nat} (hI : hj_I 13 ad) (C : hj_C p s m args meth c cX6_strike RX6 wsX6_strike 6 (some .int)) (hK : hj_K g s) {τ : hj_Ob} {sd : Int64} {x1 : Int32} {x2 : Int32} {x3 : Int32} {x5 : Int32} {y : hj_Ob ⊕ (Int32 × hj_Ob)} {rF : Int32} {τF : hj_Ob}
    (hf : fX6_strike_83 τ sd x1 x2 x3 x5 = some y) (KX : ∀ (τ' : hj_Ob), y = .inl τ' → ∀ (H : Heap) (locs : List Loc) (ls : Array Slot), hj_P g 13 ad (hj_wm g ad τ' sd) H → hj_S 13 ad s H locs → lv_has ls 6 [(0, .ref (ad 0)), (1, .int x1), (2, .int x2), (3, .int x3)] → W p l e rmX6_strike s m args below meth c H locs 0 0 (MQ below (hj_QI g 13 ad (hj_wm g ad τF sd) rF s.heap.size) args s 0 0 (hj_A 13 ad s.heap.size)) (F0 m 114 ls [])) (KI : ∀ (v5 : Int32) (τ' : hj_Ob), y = .inr (v5, τ') → ∀ (H : Heap) (locs : List Loc) (ls : Array Slot), hj_P g 13 ad (hj_wm g ad τ' sd) H → hj_S 13 ad s H locs → lv_has ls 6 [(0, .ref (ad 0)), (1, .int x1), (2, .int x2), (3, .int x3), (5, .int v5)] → W p l e rmX6_strike s m args below meth c H locs 0 0 (MQ below (hj_QI g 13 ad (hj_wm g ad τF sd) rF s.heap.size) args s 0 0 (hj_A 13 ad s.heap.size)) (F0 m 83 ls [])) {H : Heap} {locs : List Loc} {ls : Array Slot} (hP : hj_P g 13 ad (hj_wm g ad τ sd) H) (hS : hj_S 13 ad s H locs) (hl : lv_has ls 6 [(0, .ref (ad 0)), (1, .int x1), (2, .int x2), (3, .int x3), (5, .int x5)]) :
    W p l e rmX6_strike s m args below meth c H locs 0 0 (MQ below (hj_QI g 13 ad (hj_wm g ad τF sd) rF s.heap.size) args s 0 0 (hj_A 13 ad s.heap.size)) (F0 m 83 ls []) := by
  obtain ⟨hx, hb, hr, hml, hown, hts, hlocks⟩ := id C
  unfold fX6_strike_83 at hf
  refine lv_iload hx hb dX6_strike_83 (lv_at hl 4 rfl) ?_
  refine lv_aload_n hx hb dX6_strike_85 rfl (lv_at hl 0 rfl) ?_
  refine hj_get (ci := 6) (v := .int (τ.1 0)) (C := RX6) (T := TX6) (N := 24) hx hb hts iX6_strike_X6 hown hK hP (by decide) rfl rfl 0 (by decide) mX6_strike_2 rfl dX6_strike_86 ?_
  refine lv_icmp_ge (tgt := 114) hx hb dX6_strike_89 (by decide) (fun c14 => ?_) (fun c14 => ?_)
  · rw [if_pos c14] at hf
    exact KX _ (Option.some.inj hf).symm _ _ _ hP hS (lv_sub hl [0, 1, 2, 3] rfl)
  · rw [if_neg c14] at hf
    refine lv_iload_n hx hb dX6_strike_92 rfl (lv_at hl 3 rfl) ?_
    refine lv_iload hx hb dX6_strike_93 (lv_at hl 4 rfl) ?_
    obtain ⟨r15, hc, hf⟩ := hj_o1_s hf
    refine hj_callSi (nL := 6) (As := [.int x3, .int x5]) (rest := []) ⟨hx, hb, hml, hown, hts⟩ (ctX6_has l g (n := 13) (ad := ad) (w := (hj_wm g ad τ sd)) hc) (va_cwS 2 hts gX6_strike_X6_has rfl rfl rfl (by decide +kernel) ⟨Nat.le_of_ble_eq_true rfl, Nat.le_of_ble_eq_true rfl⟩) hj_Xb0 (fun _ _ _ => trivial) hK hP hS rfl hl.1 rfl (Nat.le_of_ble_eq_true rfl) dX6_strike_95 (fun H locs hP hS => ?_)
    refine lv_if_eq (tgt := 108) hx hb dX6_strike_98 (by decide) (fun c16 => ?_) (fun c16 => ?_)
    · rw [if_pos c16] at hf
      obtain ⟨y17, ey17⟩ : ∃ z : Int32, z = x5 + 1 := ⟨_, rfl⟩
      replace hf := hj_nm_y hf ey17
      refine lv_iinc (v := y17) (lv' := [(5, .int y17), (0, .ref (ad 0)), (1, .int x1), (2, .int x2), (3, .int x3)]) hx hb dX6_strike_108 hl (k := 4) rfl (by rw [ey17]; rfl) (by decide) rfl (fun ls hl => ?_)
      refine lv_goto (tgt := 83) hx hb dX6_strike_111 (by decide) ?_
      exact KI _ _ (Option.some.inj hf).symm _ _ _ hP hS (lv_sub hl [1, 2, 3, 4, 0] rfl)
    · rw [if_neg c16] at hf
      refine lv_aload_n hx hb dX6_strike_101 rfl (lv_at hl 0 rfl) ?_
      refine lv_iconst (v := 1) hx hb dX6_strike_102 (by decide) ?_
      refine lv_iload hx hb dX6_strike_103 (lv_at hl 4 rfl) ?_
      obtain ⟨τ18, hc, hf⟩ := hj_o1_s hf
      refine hj_callVv (nL := 6) (As := [.int 1, .int x5]) (rest := []) (i0 := 0) (C := RX6) (T := TX6) (N := 24) (ci := 6) ⟨hx, hb, hml, hown, hts⟩ (ctX6_dieOn l g hI hc) (cwV 2 hts gX6_strike_X6_dieOn rfl rfl rfl (by decide +kernel) ⟨Nat.le_of_ble_eq_true rfl, Nat.le_of_ble_eq_true rfl⟩) hj_Xb0 (fun _ _ _ => trivial) hK hP hS (by decide) rfl rfl rfl hl.1 rfl (Nat.le_of_ble_eq_true rfl) dX6_strike_105 (fun H locs hP hS => ?_)
      obtain ⟨y19, ey19⟩ : ∃ z : Int32, z = x5 + 1 := ⟨_, rfl⟩
      replace hf := hj_nm_y hf ey19
      refine lv_iinc (v := y19) (lv' := [(5, .int y19), (0, .ref (ad 0)), (1, .int x1), (2, .int x2), (3, .int x3)]) hx hb dX6_strike_108 hl (k := 4) rfl (by rw [ey19]; rfl) (by decide) rfl (fun ls hl => ?_)
      refine lv_goto (tgt := 83) hx hb dX6_strike_111 (by decide) ?_
      exact KI _ _ (Option.some.inj hf).symm _ _ _ hP hS (lv_sub hl [1, 2, 3, 4, 0] rfl)
set_option maxHeartbeats 4000000 in
set_option maxRecDepth 100000 in
theorem wX6_strike_83 {p : Program} {l : Launch} {e : Env} {s : State} {m : MethodId} {args : Array Value} {below : List Frame} {meth : Method} {c : Code} {g : hj_G} {ad : Nat → Nat} (hI : hj_I 13 ad) (C : hj_C p s m args meth c cX6_strike RX6 wsX6_strike 6 (some .int)) (hK : hj_K g s) {sd : Int64} {x1 : Int32} {x2 : Int32} {x3 : Int32} {rF : Int32} {τF : hj_Ob} {τe : hj_Ob} :
    ∀ (fu : Nat) (x5 : Int32) (τ : hj_Ob), hj_lp (fun q : (Int32 × hj_Ob) => fX6_strike_83 q.2 sd x1 x2 x3 q.1) fu (x5, τ) = some τe → (∀ (H : Heap) (locs : List Loc) (ls : Array Slot), hj_P g 13 ad (hj_wm g ad τe sd) H → hj_S 13 ad s H locs → lv_has ls 6 [(0, .ref (ad 0)), (1, .int x1), (2, .int x2), (3, .int x3)] → W p l e rmX6_strike s m args below meth c H locs 0 0 (MQ below (hj_QI g 13 ad (hj_wm g ad τF sd) rF s.heap.size) args s 0 0 (hj_A 13 ad s.heap.size)) (F0 m 114 ls [])) → ∀ (H : Heap) (locs : List Loc) (ls : Array Slot), hj_P g 13 ad (hj_wm g ad τ sd) H → hj_S 13 ad s H locs → lv_has ls 6 [(0, .ref (ad 0)), (1, .int x1), (2, .int x2), (3, .int x3), (5, .int x5)] →
    W p l e rmX6_strike s m args below meth c H locs 0 0 (MQ below (hj_QI g 13 ad (hj_wm g ad τF sd) rF s.heap.size) args s 0 0 (hj_A 13 ad s.heap.size)) (F0 m 83 ls []) := by
  intro fu
  induction fu with
  | zero => intro x5 τ hq; cases hq
  | succ fu ih =>
    intro x5 τ hq KX H locs ls hP hS hl
    obtain ⟨y, hy, h1, h2⟩ := hj_lp_s hq
    exact wX6_strike_83b hI C hK  hy (fun τ' hv H locs ls hP hS hl => by obtain rfl := h1 _ hv; exact KX H locs ls hP hS hl) (fun v5 τ' hv H locs ls hP hS hl => ih v5 τ' (h2 _ hv) KX H locs ls hP hS hl) hP hS hl
def fX6_strike_46 (τ : hj_Ob) (sd : Int64) (x1 : Int32) (x2 : Int32) (x3 : Int32) (z0 : Int32) : Option ((Int32 × hj_Ob) ⊕ (Int32 × Int32 × hj_Ob)) :=
  if z0 = 0 then (hj_nm (x3 + 1) fun y6 => some (.inr (x2, y6, τ))) else (hj_ck (1 : Int32) 30 (if (x3 &&& ((τ.2 4 (1 : Int32).toNatClampNeg) ^^^ (-1))) = 0 then (hj_ck (1 : Int32) 30 (if x3 = (τ.2 4 (1 : Int32).toNatClampNeg) then (hj_nm (x3 + 1) fun y12 => some (.inr (x2, y12, τ))) else (hj_o1 (fX6_layTrial τ sd) fun τ13 => hj_o1 (hj_lp (fun q : (Int32 × hj_Ob) => fX6_strike_83 q.2 sd x1 x2 x3 q.1) 100 (0, τ13)) fun τ20 => (hj_o2 (fX6_runTrial τ20 sd) fun r21 τ22 => if r21 = x1 then (hj_nm (x3 + 1) fun y25 => some (.inr (x3, y25, τ22))) else (hj_nm (x3 + 1) fun y24 => some (.inr (x2, y24, τ22))))))) else (hj_nm (x3 + 1) fun y9 => some (.inr (x2, y9, τ)))))
set_option maxHeartbeats 4000000 in
set_option maxRecDepth 100000 in
theorem wX6_strike_46 {p : Program} {l : Launch} {e : Env} {s : State} {m : MethodId} {args : Array Value} {below : List Frame} {meth : Method} {c : Code} {g : hj_G} {ad : Nat → Nat} (hI : hj_I 13 ad) (C : hj_C p s m args meth c cX6_strike RX6 wsX6_strike 6 (some .int)) (hK : hj_K g s) {τ : hj_Ob} {sd : Int64} {x1 : Int32} {x2 : Int32} {x3 : Int32} {z0 : Int32} {y : (Int32 × hj_Ob) ⊕ (Int32 × Int32 × hj_Ob)} {rF : Int32} {τF : hj_Ob}
    (hf : fX6_strike_46 τ sd x1 x2 x3 z0 = some y) (KX : ∀ (v2 : Int32) (τ' : hj_Ob), y = .inl (v2, τ') → ∀ (H : Heap) (locs : List Loc) (ls : Array Slot), hj_P g 13 ad (hj_wm g ad τ' sd) H → hj_S 13 ad s H locs → lv_has ls 6 [(2, .int v2)] → W p l e rmX6_strike s m args below meth c H locs 0 0 (MQ below (hj_QI g 13 ad (hj_wm g ad τF sd) rF s.heap.size) args s 0 0 (hj_A 13 ad s.heap.size)) (F0 m 134 ls [])) (KI : ∀ (v2 : Int32) (v3 : Int32) (τ' : hj_Ob), y = .inr (v2, v3, τ') → ∀ (H : Heap) (locs : List Loc) (ls : Array Slot), hj_P g 13 ad (hj_wm g ad τ' sd) H → hj_S 13 ad s H locs → lv_has ls 6 [(0, .ref (ad 0)), (1, .int x1), (2, .int v2), (3, .int v3)] → W p l e rmX6_strike s m args below meth c H locs 0 0 (MQ below (hj_QI g 13 ad (hj_wm g ad τF sd) rF s.heap.size) args s 0 0 (hj_A 13 ad s.heap.size)) (F0 m 18 ls [])) {H : Heap} {locs : List Loc} {ls : Array Slot} (hP : hj_P g 13 ad (hj_wm g ad τ sd) H) (hS : hj_S 13 ad s H locs) (hl : lv_has ls 6 [(0, .ref (ad 0)), (1, .int x1), (2, .int x2), (3, .int x3)]) :
    W p l e rmX6_strike s m args below meth c H locs 0 0 (MQ below (hj_QI g 13 ad (hj_wm g ad τF sd) rF s.heap.size) args s 0 0 (hj_A 13 ad s.heap.size)) (F0 m 46 ls [.int z0]) := by
  obtain ⟨hx, hb, hr, hml, hown, hts, hlocks⟩ := id C
  unfold fX6_strike_46 at hf
  refine lv_istore (lv' := [(4, .int z0), (0, .ref (ad 0)), (1, .int x1), (2, .int x2), (3, .int x3)]) hx hb dX6_strike_46 hl (by decide) rfl (fun ls hl => ?_)
  refine lv_iload hx hb dX6_strike_48 (lv_at hl 0 rfl) ?_
  refine lv_if_eq (tgt := 128) hx hb dX6_strike_50 (by decide) (fun c5 => ?_) (fun c5 => ?_)
  · rw [if_pos c5] at hf
    obtain ⟨y6, ey6⟩ : ∃ z : Int32, z = x3 + 1 := ⟨_, rfl⟩
    replace hf := hj_nm_y hf ey6
    refine lv_iinc (v := y6) (lv' := [(3, .int y6), (4, .int z0), (0, .ref (ad 0)), (1, .int x1), (2, .int x2)]) hx hb dX6_strike_128 hl (k := 4) rfl (by rw [ey6]; rfl) (by decide) rfl (fun ls hl => ?_)
    refine lv_goto (tgt := 18) hx hb dX6_strike_131 (by decide) ?_
    exact KI _ _ _ (Option.some.inj hf).symm _ _ _ hP hS (lv_sub hl [2, 3, 4, 0] rfl)
  · rw [if_neg c5] at hf
    refine lv_iload_n hx hb dX6_strike_53 rfl (lv_at hl 4 rfl) ?_
    refine lv_aload_n hx hb dX6_strike_54 rfl (lv_at hl 1 rfl) ?_
    refine hj_get (ci := 6) (v := .ref (ad 3)) (C := RX6) (T := TX6) (N := 24) hx hb hts iX6_strike_X6 hown hK hP (by decide) rfl rfl 4 (by decide) mX6_strike_1 rfl dX6_strike_55 ?_
    refine lv_iconst (v := 1) hx hb dX6_strike_58 (by decide) ?_
    obtain ⟨hk7, hf⟩ := hj_ck_s hf
    refine hj_ial (f := τ.2 4) hx hb hK hP (by decide) rfl hk7 dX6_strike_59 ?_
    refine lv_iconst (v := (-1)) hx hb dX6_strike_60 (by decide) ?_
    refine lv_ixor hx hb dX6_strike_61 ?_
    refine lv_iand hx hb dX6_strike_62 ?_
    refine lv_if_ne (tgt := 128) hx hb dX6_strike_63 (by decide) (fun c8 => ?_) (fun c8 => ?_)
    · rw [if_neg c8] at hf
      obtain ⟨y9, ey9⟩ : ∃ z : Int32, z = x3 + 1 := ⟨_, rfl⟩
      replace hf := hj_nm_y hf ey9
      refine lv_iinc (v := y9) (lv' := [(3, .int y9), (4, .int z0), (0, .ref (ad 0)), (1, .int x1), (2, .int x2)]) hx hb dX6_strike_128 hl (k := 4) rfl (by rw [ey9]; rfl) (by decide) rfl (fun ls hl => ?_)
      refine lv_goto (tgt := 18) hx hb dX6_strike_131 (by decide) ?_
      exact KI _ _ _ (Option.some.inj hf).symm _ _ _ hP hS (lv_sub hl [2, 3, 4, 0] rfl)
    · rw [if_pos c8] at hf
      refine lv_iload_n hx hb dX6_strike_66 rfl (lv_at hl 4 rfl) ?_
      refine lv_aload_n hx hb dX6_strike_67 rfl (lv_at hl 1 rfl) ?_
      refine hj_get (ci := 6) (v := .ref (ad 3)) (C := RX6) (T := TX6) (N := 24) hx hb hts iX6_strike_X6 hown hK hP (by decide) rfl rfl 4 (by decide) mX6_strike_1 rfl dX6_strike_68 ?_
      refine lv_iconst (v := 1) hx hb dX6_strike_71 (by decide) ?_
      obtain ⟨hk10, hf⟩ := hj_ck_s hf
      refine hj_ial (f := τ.2 4) hx hb hK hP (by decide) rfl hk10 dX6_strike_72 ?_
      refine lv_icmp_eq (tgt := 128) hx hb dX6_strike_73 (by decide) (fun c11 => ?_) (fun c11 => ?_)
      · rw [if_pos c11] at hf
        obtain ⟨y12, ey12⟩ : ∃ z : Int32, z = x3 + 1 := ⟨_, rfl⟩
        replace hf := hj_nm_y hf ey12
        refine lv_iinc (v := y12) (lv' := [(3, .int y12), (4, .int z0), (0, .ref (ad 0)), (1, .int x1), (2, .int x2)]) hx hb dX6_strike_128 hl (k := 4) rfl (by rw [ey12]; rfl) (by decide) rfl (fun ls hl => ?_)
        refine lv_goto (tgt := 18) hx hb dX6_strike_131 (by decide) ?_
        exact KI _ _ _ (Option.some.inj hf).symm _ _ _ hP hS (lv_sub hl [2, 3, 4, 0] rfl)
      · rw [if_neg c11] at hf
        refine lv_aload_n hx hb dX6_strike_76 rfl (lv_at hl 1 rfl) ?_
        obtain ⟨τ13, hc, hf⟩ := hj_o1_s hf
        refine hj_callVv (nL := 6) (As := []) (rest := []) (i0 := 0) (C := RX6) (T := TX6) (N := 24) (ci := 6) ⟨hx, hb, hml, hown, hts⟩ (ctX6_layTrial l g hI hc) (cwV 0 hts gX6_strike_X6_layTrial rfl rfl rfl (by decide +kernel) ⟨Nat.le_of_ble_eq_true rfl, Nat.le_of_ble_eq_true rfl⟩) hj_Xb0 (fun _ _ _ => trivial) hK hP hS (by decide) rfl rfl rfl hl.1 rfl (Nat.le_of_ble_eq_true rfl) dX6_strike_77 (fun H locs hP hS => ?_)
        refine lv_iconst (v := 0) hx hb dX6_strike_80 (by decide) ?_
        refine lv_istore (lv' := [(5, .int 0), (4, .int z0), (0, .ref (ad 0)), (1, .int x1), (2, .int x2), (3, .int x3)]) hx hb dX6_strike_81 hl (by decide) rfl (fun ls hl => ?_)
        obtain ⟨τ20, hlx, hf⟩ := hj_o1_s hf
        refine wX6_strike_83 hI C hK  100 0 τ13 hlx (fun H locs ls hP hS hl => ?_) H locs ls hP hS (lv_sub hl [2, 3, 4, 5, 0] rfl)
        refine lv_aload_n hx hb dX6_strike_114 rfl (lv_at hl 0 rfl) ?_
        obtain ⟨r21, τ22, hc, hf⟩ := hj_o2_s hf
        refine hj_callVi (nL := 6) (As := []) (rest := []) (i0 := 0) (C := RX6) (T := TX6) (N := 24) (ci := 6) ⟨hx, hb, hml, hown, hts⟩ (ctX6_runTrial l g hI hc) (cwV 0 hts gX6_strike_X6_runTrial rfl rfl rfl (by decide +kernel) ⟨Nat.le_of_ble_eq_true rfl, Nat.le_of_ble_eq_true rfl⟩) hj_Xb0 (fun _ _ _ => trivial) hK hP hS (by decide) rfl rfl rfl hl.1 rfl (Nat.le_of_ble_eq_true rfl) dX6_strike_115 (fun H locs hP hS => ?_)
        refine lv_iload_n hx hb dX6_strike_118 rfl (lv_at hl 1 rfl) ?_
        refine lv_icmp_ne (tgt := 126) hx hb dX6_strike_119 (by decide) (fun c23 => ?_) (fun c23 => ?_)
        · rw [if_neg c23] at hf
          refine lv_iload_n hx hb dX6_strike_126 rfl (lv_at hl 2 rfl) ?_
          refine lv_istore_n (lv' := [(2, .int x2), (0, .ref (ad 0)), (1, .int x1), (3, .int x3)]) hx hb dX6_strike_127 rfl hl (by decide) rfl (fun ls hl => ?_)
          obtain ⟨y24, ey24⟩ : ∃ z : Int32, z = x3 + 1 := ⟨_, rfl⟩
          replace hf := hj_nm_y hf ey24
          refine lv_iinc (v := y24) (lv' := [(3, .int y24), (2, .int x2), (0, .ref (ad 0)), (1, .int x1)]) hx hb dX6_strike_128 hl (k := 3) rfl (by rw [ey24]; rfl) (by decide) rfl (fun ls hl => ?_)
          refine lv_goto (tgt := 18) hx hb dX6_strike_131 (by decide) ?_
          exact KI _ _ _ (Option.some.inj hf).symm _ _ _ hP hS (lv_sub hl [2, 3, 1, 0] rfl)
        · rw [if_pos c23] at hf
          refine lv_iload_n hx hb dX6_strike_122 rfl (lv_at hl 3 rfl) ?_
          refine lv_goto (tgt := 127) hx hb dX6_strike_123 (by decide) ?_
          refine lv_istore_n (lv' := [(2, .int x3), (0, .ref (ad 0)), (1, .int x1), (3, .int x3)]) hx hb dX6_strike_127 rfl hl (by decide) rfl (fun ls hl => ?_)
          obtain ⟨y25, ey25⟩ : ∃ z : Int32, z = x3 + 1 := ⟨_, rfl⟩
          replace hf := hj_nm_y hf ey25
          refine lv_iinc (v := y25) (lv' := [(3, .int y25), (2, .int x3), (0, .ref (ad 0)), (1, .int x1)]) hx hb dX6_strike_128 hl (k := 3) rfl (by rw [ey25]; rfl) (by decide) rfl (fun ls hl => ?_)
          refine lv_goto (tgt := 18) hx hb dX6_strike_131 (by decide) ?_
          exact KI _ _ _ (Option.some.inj hf).symm _ _ _ hP hS (lv_sub hl [2, 3, 1, 0] rfl)
def fX6_strike_18 (τ : hj_Ob) (sd : Int64) (x1 : Int32) (x2 : Int32) (x3 : Int32) : Option ((Int32 × hj_Ob) ⊕ (Int32 × Int32 × hj_Ob)) :=
  if 64 ≤ x3 then (some (.inl (x2, τ))) else (if x2 = (-9) then (fX6_strike_46 τ sd x1 x2 x3 1) else (hj_o1 (fX6_ones x3) fun r26 => hj_o1 (fX6_ones x2) fun r27 => if r27 ≤ r26 then (fX6_strike_46 τ sd x1 x2 x3 0) else (fX6_strike_46 τ sd x1 x2 x3 1)))
set_option maxHeartbeats 4000000 in
set_option maxRecDepth 100000 in
theorem wX6_strike_18b {p : Program} {l : Launch} {e : Env} {s : State} {m : MethodId} {args : Array Value} {below : List Frame} {meth : Method} {c : Code} {g : hj_G} {ad : Nat → Nat} (hI : hj_I 13 ad) (C : hj_C p s m args meth c cX6_strike RX6 wsX6_strike 6 (some .int)) (hK : hj_K g s) {τ : hj_Ob} {sd : Int64} {x1 : Int32} {x2 : Int32} {x3 : Int32} {y : (Int32 × hj_Ob) ⊕ (Int32 × Int32 × hj_Ob)} {rF : Int32} {τF : hj_Ob}
    (hf : fX6_strike_18 τ sd x1 x2 x3 = some y) (KX : ∀ (v2 : Int32) (τ' : hj_Ob), y = .inl (v2, τ') → ∀ (H : Heap) (locs : List Loc) (ls : Array Slot), hj_P g 13 ad (hj_wm g ad τ' sd) H → hj_S 13 ad s H locs → lv_has ls 6 [(2, .int v2)] → W p l e rmX6_strike s m args below meth c H locs 0 0 (MQ below (hj_QI g 13 ad (hj_wm g ad τF sd) rF s.heap.size) args s 0 0 (hj_A 13 ad s.heap.size)) (F0 m 134 ls [])) (KI : ∀ (v2 : Int32) (v3 : Int32) (τ' : hj_Ob), y = .inr (v2, v3, τ') → ∀ (H : Heap) (locs : List Loc) (ls : Array Slot), hj_P g 13 ad (hj_wm g ad τ' sd) H → hj_S 13 ad s H locs → lv_has ls 6 [(0, .ref (ad 0)), (1, .int x1), (2, .int v2), (3, .int v3)] → W p l e rmX6_strike s m args below meth c H locs 0 0 (MQ below (hj_QI g 13 ad (hj_wm g ad τF sd) rF s.heap.size) args s 0 0 (hj_A 13 ad s.heap.size)) (F0 m 18 ls [])) {H : Heap} {locs : List Loc} {ls : Array Slot} (hP : hj_P g 13 ad (hj_wm g ad τ sd) H) (hS : hj_S 13 ad s H locs) (hl : lv_has ls 6 [(0, .ref (ad 0)), (1, .int x1), (2, .int x2), (3, .int x3)]) :
    W p l e rmX6_strike s m args below meth c H locs 0 0 (MQ below (hj_QI g 13 ad (hj_wm g ad τF sd) rF s.heap.size) args s 0 0 (hj_A 13 ad s.heap.size)) (F0 m 18 ls []) := by
  obtain ⟨hx, hb, hr, hml, hown, hts, hlocks⟩ := id C
  unfold fX6_strike_18 at hf
  refine lv_iload_n hx hb dX6_strike_18 rfl (lv_at hl 3 rfl) ?_
  refine lv_bipush (v := 64) hx hb dX6_strike_19 (by decide) ?_
  refine lv_icmp_ge (tgt := 134) hx hb dX6_strike_21 (by decide) (fun c3 => ?_) (fun c3 => ?_)
  · rw [if_pos c3] at hf
    exact KX _ _ (Option.some.inj hf).symm _ _ _ hP hS (lv_sub hl [2] rfl)
  · rw [if_neg c3] at hf
    refine lv_iload_n hx hb dX6_strike_24 rfl (lv_at hl 2 rfl) ?_
    refine lv_bipush (v := (-9)) hx hb dX6_strike_25 (by decide) ?_
    refine lv_icmp_eq (tgt := 41) hx hb dX6_strike_27 (by decide) (fun c4 => ?_) (fun c4 => ?_)
    · rw [if_pos c4] at hf
      refine lv_iconst (v := 1) hx hb dX6_strike_41 (by decide) ?_
      refine lv_goto (tgt := 46) hx hb dX6_strike_42 (by decide) ?_
      exact wX6_strike_46 hI C hK  hf KX KI hP hS (lv_sub hl [0, 1, 2, 3] rfl)
    · rw [if_neg c4] at hf
      refine lv_iload_n hx hb dX6_strike_30 rfl (lv_at hl 3 rfl) ?_
      obtain ⟨r26, hc, hf⟩ := hj_o1_s hf
      refine hj_callSi (nL := 6) (As := [.int x3]) (rest := []) ⟨hx, hb, hml, hown, hts⟩ (ctX6_ones l g (n := 13) (ad := ad) (w := (hj_wm g ad τ sd)) hc) (va_cwS 1 hts gX6_strike_X6_ones rfl rfl rfl (by decide +kernel) ⟨Nat.le_of_ble_eq_true rfl, Nat.le_of_ble_eq_true rfl⟩) hj_Xb0 (fun _ _ _ => trivial) hK hP hS rfl hl.1 rfl (Nat.le_of_ble_eq_true rfl) dX6_strike_31 (fun H locs hP hS => ?_)
      refine lv_iload_n hx hb dX6_strike_34 rfl (lv_at hl 2 rfl) ?_
      obtain ⟨r27, hc, hf⟩ := hj_o1_s hf
      refine hj_callSi (nL := 6) (As := [.int x2]) (rest := [.int r26]) ⟨hx, hb, hml, hown, hts⟩ (ctX6_ones l g (n := 13) (ad := ad) (w := (hj_wm g ad τ sd)) hc) (va_cwS 1 hts gX6_strike_X6_ones rfl rfl rfl (by decide +kernel) ⟨Nat.le_of_ble_eq_true rfl, Nat.le_of_ble_eq_true rfl⟩) hj_Xb0 (fun _ _ _ => trivial) hK hP hS rfl hl.1 rfl (Nat.le_of_ble_eq_true rfl) dX6_strike_35 (fun H locs hP hS => ?_)
      refine lv_icmp_ge (tgt := 45) hx hb dX6_strike_38 (by decide) (fun c28 => ?_) (fun c28 => ?_)
      · rw [if_pos c28] at hf
        refine lv_iconst (v := 0) hx hb dX6_strike_45 (by decide) ?_
        exact wX6_strike_46 hI C hK  hf KX KI hP hS (lv_sub hl [0, 1, 2, 3] rfl)
      · rw [if_neg c28] at hf
        refine lv_iconst (v := 1) hx hb dX6_strike_41 (by decide) ?_
        refine lv_goto (tgt := 46) hx hb dX6_strike_42 (by decide) ?_
        exact wX6_strike_46 hI C hK  hf KX KI hP hS (lv_sub hl [0, 1, 2, 3] rfl)
set_option maxHeartbeats 4000000 in
set_option maxRecDepth 100000 in
theorem wX6_strike_18 {p : Program} {l : Launch} {e : Env} {s : State} {m : MethodId} {args : Array Value} {below : List Frame} {meth : Method} {c : Code} {g : hj_G} {ad : Nat → Nat} (hI : hj_I 13 ad) (C : hj_C p s m args meth c cX6_strike RX6 wsX6_strike 6 (some .int)) (hK : hj_K g s) {sd : Int64} {x1 : Int32} {rF : Int32} {τF : hj_Ob} {e2 : Int32} {τe : hj_Ob} :
    ∀ (fu : Nat) (x2 : Int32) (x3 : Int32) (τ : hj_Ob), hj_lp (fun q : (Int32 × Int32 × hj_Ob) => fX6_strike_18 q.2.2 sd x1 q.1 q.2.1) fu (x2, x3, τ) = some (e2, τe) → (∀ (H : Heap) (locs : List Loc) (ls : Array Slot), hj_P g 13 ad (hj_wm g ad τe sd) H → hj_S 13 ad s H locs → lv_has ls 6 [(2, .int e2)] → W p l e rmX6_strike s m args below meth c H locs 0 0 (MQ below (hj_QI g 13 ad (hj_wm g ad τF sd) rF s.heap.size) args s 0 0 (hj_A 13 ad s.heap.size)) (F0 m 134 ls [])) → ∀ (H : Heap) (locs : List Loc) (ls : Array Slot), hj_P g 13 ad (hj_wm g ad τ sd) H → hj_S 13 ad s H locs → lv_has ls 6 [(0, .ref (ad 0)), (1, .int x1), (2, .int x2), (3, .int x3)] →
    W p l e rmX6_strike s m args below meth c H locs 0 0 (MQ below (hj_QI g 13 ad (hj_wm g ad τF sd) rF s.heap.size) args s 0 0 (hj_A 13 ad s.heap.size)) (F0 m 18 ls []) := by
  intro fu
  induction fu with
  | zero => intro x2 x3 τ hq; cases hq
  | succ fu ih =>
    intro x2 x3 τ hq KX H locs ls hP hS hl
    obtain ⟨y, hy, h1, h2⟩ := hj_lp_s hq
    exact wX6_strike_18b hI C hK  hy (fun v2 τ' hv H locs ls hP hS hl => by have hw := h1 _ hv; obtain ⟨rfl, rfl⟩ := Prod.mk.inj hw; exact KX H locs ls hP hS hl) (fun v2 v3 τ' hv H locs ls hP hS hl => ih v2 v3 τ' (h2 _ hv) KX H locs ls hP hS hl) hP hS hl
def fX6_strike (τ : hj_Ob) (sd : Int64) (x1 : Int32) : Option (Int32 × hj_Ob) :=
  hj_o1 (fX6_in x1.toInt64 0 1) fun r1 => if r1 = 0 then (some ((-2), τ)) else (hj_o2 (hj_lp (fun q : (Int32 × Int32 × hj_Ob) => fX6_strike_18 q.2.2 sd x1 q.1 q.2.1) 100 ((-9), 0, τ)) fun e29 τ30 => (some (e29, τ30)))
set_option maxHeartbeats 4000000 in
set_option maxRecDepth 100000 in
theorem wX6_strike {p : Program} {l : Launch} {e : Env} {s : State} {m : MethodId} {args : Array Value} {below : List Frame} {meth : Method} {c : Code} {g : hj_G} {ad : Nat → Nat} (hI : hj_I 13 ad) (C : hj_C p s m args meth c cX6_strike RX6 wsX6_strike 6 (some .int)) (hK : hj_K g s) {τ : hj_Ob} {sd : Int64} {x1 : Int32} {rF : Int32} {τF : hj_Ob}
    (hf : fX6_strike τ sd x1 = some (rF, τF)) {H : Heap} {locs : List Loc} {ls : Array Slot} (hP : hj_P g 13 ad (hj_wm g ad τ sd) H) (hS : hj_S 13 ad s H locs) (hl : lv_has ls 6 [(0, .ref (ad 0)), (1, .int x1)]) :
    W p l e rmX6_strike s m args below meth c H locs 0 0 (MQ below (hj_QI g 13 ad (hj_wm g ad τF sd) rF s.heap.size) args s 0 0 (hj_A 13 ad s.heap.size)) (F0 m 0 ls []) := by
  obtain ⟨hx, hb, hr, hml, hown, hts, hlocks⟩ := id C
  unfold fX6_strike at hf
  refine lv_iload_n hx hb dX6_strike_0 rfl (lv_at hl 1 rfl) ?_
  refine lv_i2l (v := x1.toInt64) hx hb dX6_strike_1 rfl ?_
  refine lv_lconst (v := 0) hx hb dX6_strike_2 (by decide) ?_
  refine lv_lconst (v := 1) hx hb dX6_strike_3 (by decide) ?_
  obtain ⟨r1, hc, hf⟩ := hj_o1_s hf
  refine hj_callSi (nL := 6) (As := [.long x1.toInt64, .long 0, .long 1]) (rest := []) ⟨hx, hb, hml, hown, hts⟩ (ctX6_in l g (n := 13) (ad := ad) (w := (hj_wm g ad τ sd)) hc) (va_cwS 3 hts gX6_strike_X6_in rfl rfl rfl (by decide +kernel) ⟨Nat.le_of_ble_eq_true rfl, Nat.le_of_ble_eq_true rfl⟩) hj_Xb0 (fun _ _ _ => trivial) hK hP hS rfl hl.1 rfl (Nat.le_of_ble_eq_true rfl) dX6_strike_4 (fun H locs hP hS => ?_)
  refine lv_if_ne (tgt := 13) hx hb dX6_strike_7 (by decide) (fun c2 => ?_) (fun c2 => ?_)
  · rw [if_neg c2] at hf
    refine lv_bipush (v := (-9)) hx hb dX6_strike_13 (by decide) ?_
    refine lv_istore_n (lv' := [(2, .int (-9)), (0, .ref (ad 0)), (1, .int x1)]) hx hb dX6_strike_15 rfl hl (by decide) rfl (fun ls hl => ?_)
    refine lv_iconst (v := 0) hx hb dX6_strike_16 (by decide) ?_
    refine lv_istore_n (lv' := [(3, .int 0), (2, .int (-9)), (0, .ref (ad 0)), (1, .int x1)]) hx hb dX6_strike_17 rfl hl (by decide) rfl (fun ls hl => ?_)
    obtain ⟨e29, τ30, hlx, hf⟩ := hj_o2_s hf
    refine wX6_strike_18 hI C hK  100 (-9) 0 τ hlx (fun H locs ls hP hS hl => ?_) H locs ls hP hS (lv_sub hl [2, 3, 1, 0] rfl)
    refine lv_iload_n hx hb dX6_strike_134 rfl (lv_at hl 0 rfl) ?_
    have hq := Option.some.inj hf
    obtain ⟨rfl, rfl⟩ := Prod.mk.inj hq
    exact hj_reti C hP hK hS dX6_strike_135
  · rw [if_pos c2] at hf
    refine lv_bipush (v := (-2)) hx hb dX6_strike_10 (by decide) ?_
    have hq := Option.some.inj hf
    obtain ⟨rfl, rfl⟩ := Prod.mk.inj hq
    exact hj_reti C hP hK hS dX6_strike_12
set_option maxHeartbeats 4000000 in
set_option maxRecDepth 100000 in
theorem ctX6_strike (l : Launch) (g : hj_G) {ad : Nat → Nat} (hI : hj_I 13 ad) {τ : hj_Ob} {sd : Int64} {x1 : Int32} {rF : Int32} {τF : hj_Ob} (hf : fX6_strike τ sd x1 = some (rF, τF)) :
    hj_MI l yX6_strike wsX6_strike rmX6_strike g 13 ad hj_X0 [.ref (ad 0), .int x1] (hj_wm g ad τ sd) rF (hj_wm g ad τF sd) := by
  refine hj_ofI (cc := cX6_strike) (maxL := 6) (ret := (some .int)) (by decide) rfl (Nat.le_of_ble_eq_true rfl) ?_
  intro p e s m args below meth c ls C hP hK hX hl
  exact wX6_strike hI C hK hf hP va_S.rf hl

/-! X6_tenTo -/
abbrev rmX6_tenTo : Room := { frames := 0, cells := 0, slots := 0, locals := 0 }
def fX6_tenTo_4 (x0 : Int32) (x1 : Int32) (x2 : Int32) : Option (Int32 ⊕ (Int32 × Int32)) :=
  if x0 ≤ x2 then (some (.inl x1)) else (hj_nm (x1 * 10) fun y2 => hj_nm (x2 + 1) fun y3 => some (.inr (y2, y3)))
set_option maxHeartbeats 4000000 in
set_option maxRecDepth 100000 in
theorem wX6_tenTo_4b {p : Program} {l : Launch} {e : Env} {s : State} {m : MethodId} {args : Array Value} {below : List Frame} {meth : Method} {c : Code} {g : hj_G} {ad : Nat → Nat} {n : Nat} {w : Nat → va_E} (C : hj_C p s m args meth c cX6_tenTo RX6 wsX6_tenTo 3 (some .int)) (hK : hj_K g s) {x0 : Int32} {x1 : Int32} {x2 : Int32} {y : Int32 ⊕ (Int32 × Int32)} {rF : Int32}
    (hf : fX6_tenTo_4 x0 x1 x2 = some y) (KX : ∀ (v1 : Int32), y = .inl v1 → ∀ (H : Heap) (locs : List Loc) (ls : Array Slot), hj_P g n ad w H → hj_S n ad s H locs → lv_has ls 3 [(1, .int v1)] → W p l e rmX6_tenTo s m args below meth c H locs 0 0 (MQ below (hj_QI g n ad w rF s.heap.size) args s 0 0 (hj_A n ad s.heap.size)) (F0 m 20 ls [])) (KI : ∀ (v1 : Int32) (v2 : Int32), y = .inr (v1, v2) → ∀ (H : Heap) (locs : List Loc) (ls : Array Slot), hj_P g n ad w H → hj_S n ad s H locs → lv_has ls 3 [(0, .int x0), (1, .int v1), (2, .int v2)] → W p l e rmX6_tenTo s m args below meth c H locs 0 0 (MQ below (hj_QI g n ad w rF s.heap.size) args s 0 0 (hj_A n ad s.heap.size)) (F0 m 4 ls [])) {H : Heap} {locs : List Loc} {ls : Array Slot} (hP : hj_P g n ad w H) (hS : hj_S n ad s H locs) (hl : lv_has ls 3 [(0, .int x0), (1, .int x1), (2, .int x2)]) :
    W p l e rmX6_tenTo s m args below meth c H locs 0 0 (MQ below (hj_QI g n ad w rF s.heap.size) args s 0 0 (hj_A n ad s.heap.size)) (F0 m 4 ls []) := by
  obtain ⟨hx, hb, hr, hml, hown, hts, hlocks⟩ := id C
  unfold fX6_tenTo_4 at hf
  refine lv_iload_n hx hb dX6_tenTo_4 rfl (lv_at hl 2 rfl) ?_
  refine lv_iload_n hx hb dX6_tenTo_5 rfl (lv_at hl 0 rfl) ?_
  refine lv_icmp_ge (tgt := 20) hx hb dX6_tenTo_6 (by decide) (fun c1 => ?_) (fun c1 => ?_)
  · rw [if_pos c1] at hf
    exact KX _ (Option.some.inj hf).symm _ _ _ hP hS (lv_sub hl [1] rfl)
  · rw [if_neg c1] at hf
    refine lv_iload_n hx hb dX6_tenTo_9 rfl (lv_at hl 1 rfl) ?_
    refine lv_bipush (v := 10) hx hb dX6_tenTo_10 (by decide) ?_
    refine lv_imul hx hb dX6_tenTo_12 ?_
    refine lv_topi (fun y2 ey2 => ?_)
    replace hf := hj_nm_y hf ey2
    refine lv_istore_n (lv' := [(1, .int y2), (0, .int x0), (2, .int x2)]) hx hb dX6_tenTo_13 rfl hl (by decide) rfl (fun ls hl => ?_)
    obtain ⟨y3, ey3⟩ : ∃ z : Int32, z = x2 + 1 := ⟨_, rfl⟩
    replace hf := hj_nm_y hf ey3
    refine lv_iinc (v := y3) (lv' := [(2, .int y3), (1, .int y2), (0, .int x0)]) hx hb dX6_tenTo_14 hl (k := 2) rfl (by rw [ey3]; rfl) (by decide) rfl (fun ls hl => ?_)
    refine lv_goto (tgt := 4) hx hb dX6_tenTo_17 (by decide) ?_
    exact KI _ _ (Option.some.inj hf).symm _ _ _ hP hS (lv_sub hl [2, 1, 0] rfl)
set_option maxHeartbeats 4000000 in
set_option maxRecDepth 100000 in
theorem wX6_tenTo_4 {p : Program} {l : Launch} {e : Env} {s : State} {m : MethodId} {args : Array Value} {below : List Frame} {meth : Method} {c : Code} {g : hj_G} {ad : Nat → Nat} {n : Nat} {w : Nat → va_E} (C : hj_C p s m args meth c cX6_tenTo RX6 wsX6_tenTo 3 (some .int)) (hK : hj_K g s) {x0 : Int32} {rF : Int32} {e1 : Int32} :
    ∀ (fu : Nat) (x1 : Int32) (x2 : Int32), hj_lp (fun q : (Int32 × Int32) => fX6_tenTo_4 x0 q.1 q.2) fu (x1, x2) = some e1 → (∀ (H : Heap) (locs : List Loc) (ls : Array Slot), hj_P g n ad w H → hj_S n ad s H locs → lv_has ls 3 [(1, .int e1)] → W p l e rmX6_tenTo s m args below meth c H locs 0 0 (MQ below (hj_QI g n ad w rF s.heap.size) args s 0 0 (hj_A n ad s.heap.size)) (F0 m 20 ls [])) → ∀ (H : Heap) (locs : List Loc) (ls : Array Slot), hj_P g n ad w H → hj_S n ad s H locs → lv_has ls 3 [(0, .int x0), (1, .int x1), (2, .int x2)] →
    W p l e rmX6_tenTo s m args below meth c H locs 0 0 (MQ below (hj_QI g n ad w rF s.heap.size) args s 0 0 (hj_A n ad s.heap.size)) (F0 m 4 ls []) := by
  intro fu
  induction fu with
  | zero => intro x1 x2 hq; cases hq
  | succ fu ih =>
    intro x1 x2 hq KX H locs ls hP hS hl
    obtain ⟨y, hy, h1, h2⟩ := hj_lp_s hq
    exact wX6_tenTo_4b C hK  hy (fun v1 hv H locs ls hP hS hl => by obtain rfl := h1 _ hv; exact KX H locs ls hP hS hl) (fun v1 v2 hv H locs ls hP hS hl => ih v1 v2 (h2 _ hv) KX H locs ls hP hS hl) hP hS hl
def fX6_tenTo (x0 : Int32) : Option Int32 :=
  hj_o1 (hj_lp (fun q : (Int32 × Int32) => fX6_tenTo_4 x0 q.1 q.2) 100 (1, 0)) fun e4 => (some e4)
set_option maxHeartbeats 4000000 in
set_option maxRecDepth 100000 in
theorem wX6_tenTo {p : Program} {l : Launch} {e : Env} {s : State} {m : MethodId} {args : Array Value} {below : List Frame} {meth : Method} {c : Code} {g : hj_G} {ad : Nat → Nat} {n : Nat} {w : Nat → va_E} (C : hj_C p s m args meth c cX6_tenTo RX6 wsX6_tenTo 3 (some .int)) (hK : hj_K g s) {x0 : Int32} {rF : Int32}
    (hf : fX6_tenTo x0 = some rF) {H : Heap} {locs : List Loc} {ls : Array Slot} (hP : hj_P g n ad w H) (hS : hj_S n ad s H locs) (hl : lv_has ls 3 [(0, .int x0)]) :
    W p l e rmX6_tenTo s m args below meth c H locs 0 0 (MQ below (hj_QI g n ad w rF s.heap.size) args s 0 0 (hj_A n ad s.heap.size)) (F0 m 0 ls []) := by
  obtain ⟨hx, hb, hr, hml, hown, hts, hlocks⟩ := id C
  unfold fX6_tenTo at hf
  refine lv_iconst (v := 1) hx hb dX6_tenTo_0 (by decide) ?_
  refine lv_istore_n (lv' := [(1, .int 1), (0, .int x0)]) hx hb dX6_tenTo_1 rfl hl (by decide) rfl (fun ls hl => ?_)
  refine lv_iconst (v := 0) hx hb dX6_tenTo_2 (by decide) ?_
  refine lv_istore_n (lv' := [(2, .int 0), (1, .int 1), (0, .int x0)]) hx hb dX6_tenTo_3 rfl hl (by decide) rfl (fun ls hl => ?_)
  obtain ⟨e4, hlx, hf⟩ := hj_o1_s hf
  refine wX6_tenTo_4 C hK  100 1 0 hlx (fun H locs ls hP hS hl => ?_) H locs ls hP hS (lv_sub hl [2, 1, 0] rfl)
  refine lv_iload_n hx hb dX6_tenTo_20 rfl (lv_at hl 0 rfl) ?_
  have hq := Option.some.inj hf
  obtain rfl := hq
  exact hj_reti C hP hK hS dX6_tenTo_21
set_option maxHeartbeats 4000000 in
set_option maxRecDepth 100000 in
theorem ctX6_tenTo (l : Launch) (g : hj_G) {ad : Nat → Nat} {n : Nat} {w : Nat → va_E} {x0 : Int32} {rF : Int32} (hf : fX6_tenTo x0 = some rF) :
    hj_MI l yX6_tenTo wsX6_tenTo rmX6_tenTo g n ad hj_X0 [.int x0] w rF w := by
  refine hj_ofI (cc := cX6_tenTo) (maxL := 3) (ret := (some .int)) (by decide) rfl (Nat.le_of_ble_eq_true rfl) ?_
  intro p e s m args below meth c ls C hP hK hX hl
  exact wX6_tenTo C hK hf hP va_S.rf hl

/-! X6_isMove -/
abbrev rmX6_isMove : Room := { frames := 4, cells := 0, slots := 0, locals := 96 }
theorem iX6_isMove_X6 : ∀ w ∈ wsX60, w ∈ wsX6_isMove := fun _ h => List.mem_cons_of_mem _ (List.mem_append_right _ h)
theorem mX6_isMove_1 : Cond.fieldLink RX6 16 "HungryJuryModel" "now" "[I" ∈ wsX6_isMove := List.mem_of_getElem? (i := 1) rfl
def fX6_isMove_10 (τ : hj_Ob) (sd : Int64) (x1 : Int32) (x2 : Int32) (x3 : Int32) (x4 : Int32) (x5 : Int32) : Option (((Int32 × hj_Ob) ⊕ hj_Ob) ⊕ (Int32 × Int32 × hj_Ob)) :=
  if x1 ≤ x5 then (some (.inl (.inr τ))) else (hj_o1 (fX6_tenTo ((x1 - 1) - x5)) fun r3 => hj_nz r3 (hj_nm (((x2 / r3) - (x2 / r3) / 10 * 10) - 1) fun y5 => hj_o1 (fX6_isJuror τ sd y5) fun r6 => if r6 = 0 then (some (.inl (.inl (0, τ)))) else (if y5 < x4 then (some (.inl (.inl (0, τ)))) else (hj_o1 (fX6_canArgue τ sd 1 y5) fun r9 => if r9 = 0 then (some (.inl (.inl (0, τ)))) else (hj_ck (18 + y5) 30 (hj_ck (18 + y5) 30 (hj_nm (hj_a τ 4 (18 + y5) ((τ.2 4 (18 + y5).toNatClampNeg) - 1)) fun τ13 => hj_nm (x5 + 1) fun y14 => some (.inr (y5, y14, τ13)))))))))
set_option maxHeartbeats 4000000 in
set_option maxRecDepth 100000 in
theorem wX6_isMove_10b {p : Program} {l : Launch} {e : Env} {s : State} {m : MethodId} {args : Array Value} {below : List Frame} {meth : Method} {c : Code} {g : hj_G} {ad : Nat → Nat} (hI : hj_I 13 ad) (C : hj_C p s m args meth c cX6_isMove RX6 wsX6_isMove 7 (some .boolean)) (hK : hj_K g s) {τ : hj_Ob} {sd : Int64} {x1 : Int32} {x2 : Int32} {x3 : Int32} {x4 : Int32} {x5 : Int32} {y : ((Int32 × hj_Ob) ⊕ hj_Ob) ⊕ (Int32 × Int32 × hj_Ob)} {rF : Int32} {τF : hj_Ob}
    (hf : fX6_isMove_10 τ sd x1 x2 x3 x4 x5 = some y) (KR : ∀ r, y = .inl (.inl r) → r = (rF, τF)) (KX : ∀ (τ' : hj_Ob), y = .inl (.inr τ') → ∀ (H : Heap) (locs : List Loc) (ls : Array Slot), hj_P g 13 ad (hj_wm g ad τ' sd) H → hj_S 13 ad s H locs → lv_has ls 7 [(0, .ref (ad 0)), (3, .int x3)] → W p l e rmX6_isMove s m args below meth c H locs 0 0 (MQ below (hj_QI g 13 ad (hj_wm g ad τF sd) rF s.heap.size) args s 0 0 (hj_A 13 ad s.heap.size)) (F0 m 86 ls [])) (KI : ∀ (v4 : Int32) (v5 : Int32) (τ' : hj_Ob), y = .inr (v4, v5, τ') → ∀ (H : Heap) (locs : List Loc) (ls : Array Slot), hj_P g 13 ad (hj_wm g ad τ' sd) H → hj_S 13 ad s H locs → lv_has ls 7 [(0, .ref (ad 0)), (1, .int x1), (2, .int x2), (3, .int x3), (4, .int v4), (5, .int v5)] → W p l e rmX6_isMove s m args below meth c H locs 0 0 (MQ below (hj_QI g 13 ad (hj_wm g ad τF sd) rF s.heap.size) args s 0 0 (hj_A 13 ad s.heap.size)) (F0 m 10 ls [])) {H : Heap} {locs : List Loc} {ls : Array Slot} (hP : hj_P g 13 ad (hj_wm g ad τ sd) H) (hS : hj_S 13 ad s H locs) (hl : lv_has ls 7 [(0, .ref (ad 0)), (1, .int x1), (2, .int x2), (3, .int x3), (4, .int x4), (5, .int x5)]) :
    W p l e rmX6_isMove s m args below meth c H locs 0 0 (MQ below (hj_QI g 13 ad (hj_wm g ad τF sd) rF s.heap.size) args s 0 0 (hj_A 13 ad s.heap.size)) (F0 m 10 ls []) := by
  obtain ⟨hx, hb, hr, hml, hown, hts, hlocks⟩ := id C
  unfold fX6_isMove_10 at hf
  refine lv_iload hx hb dX6_isMove_10 (lv_at hl 5 rfl) ?_
  refine lv_iload_n hx hb dX6_isMove_12 rfl (lv_at hl 1 rfl) ?_
  refine lv_icmp_ge (tgt := 86) hx hb dX6_isMove_13 (by decide) (fun c2 => ?_) (fun c2 => ?_)
  · rw [if_pos c2] at hf
    exact KX _ (Option.some.inj hf).symm _ _ _ hP hS (lv_sub hl [0, 3] rfl)
  · rw [if_neg c2] at hf
    refine lv_iload_n hx hb dX6_isMove_16 rfl (lv_at hl 2 rfl) ?_
    refine lv_iload_n hx hb dX6_isMove_17 rfl (lv_at hl 1 rfl) ?_
    refine lv_iconst (v := 1) hx hb dX6_isMove_18 (by decide) ?_
    refine lv_isub hx hb dX6_isMove_19 ?_
    refine lv_iload hx hb dX6_isMove_20 (lv_at hl 5 rfl) ?_
    refine lv_isub hx hb dX6_isMove_22 ?_
    obtain ⟨r3, hc, hf⟩ := hj_o1_s hf
    refine hj_callSi (nL := 7) (As := [.int ((x1 - 1) - x5)]) (rest := [.int x2]) ⟨hx, hb, hml, hown, hts⟩ (ctX6_tenTo l g (n := 13) (ad := ad) (w := (hj_wm g ad τ sd)) hc) (va_cwS 1 hts gX6_isMove_X6_tenTo rfl rfl rfl (by decide +kernel) ⟨Nat.le_of_ble_eq_true rfl, Nat.le_of_ble_eq_true rfl⟩) hj_Xb0 (fun _ _ _ => trivial) hK hP hS rfl hl.1 rfl (Nat.le_of_ble_eq_true rfl) dX6_isMove_23 (fun H locs hP hS => ?_)
    obtain ⟨hz4, hf⟩ := hj_nz_s hf
    refine lv_idiv hx hb dX6_isMove_26 hz4 ?_
    refine lv_bipush (v := 10) hx hb dX6_isMove_27 (by decide) ?_
    refine lv_irem hx hb dX6_isMove_29 (by decide) ?_
    refine lv_iconst (v := 1) hx hb dX6_isMove_30 (by decide) ?_
    refine lv_isub hx hb dX6_isMove_31 ?_
    refine lv_topi (fun y5 ey5 => ?_)
    replace hf := hj_nm_y hf ey5
    refine lv_istore (lv' := [(6, .int y5), (0, .ref (ad 0)), (1, .int x1), (2, .int x2), (3, .int x3), (4, .int x4), (5, .int x5)]) hx hb dX6_isMove_32 hl (by decide) rfl (fun ls hl => ?_)
    refine lv_aload_n hx hb dX6_isMove_34 rfl (lv_at hl 1 rfl) ?_
    refine lv_iload hx hb dX6_isMove_35 (lv_at hl 0 rfl) ?_
    obtain ⟨r6, hc, hf⟩ := hj_o1_s hf
    refine hj_callVi (nL := 7) (As := [.int y5]) (rest := []) (i0 := 0) (C := RX6) (T := TX6) (N := 24) (ci := 6) ⟨hx, hb, hml, hown, hts⟩ (ctX6_isJuror l g hI hc) (cwV 1 hts gX6_isMove_X6_isJuror rfl rfl rfl (by decide +kernel) ⟨Nat.le_of_ble_eq_true rfl, Nat.le_of_ble_eq_true rfl⟩) hj_Xb0 (fun _ _ _ => trivial) hK hP hS (by decide) rfl rfl rfl hl.1 rfl (Nat.le_of_ble_eq_true rfl) dX6_isMove_37 (fun H locs hP hS => ?_)
    refine lv_if_eq (tgt := 60) hx hb dX6_isMove_40 (by decide) (fun c7 => ?_) (fun c7 => ?_)
    · rw [if_pos c7] at hf
      refine lv_iconst (v := 0) hx hb dX6_isMove_60 (by decide) ?_
      have hq := KR _ (Option.some.inj hf).symm
      obtain ⟨rfl, rfl⟩ := Prod.mk.inj hq
      exact hj_retz (Or.inl rfl)  C hP hK hS dX6_isMove_61
    · rw [if_neg c7] at hf
      refine lv_iload hx hb dX6_isMove_43 (lv_at hl 0 rfl) ?_
      refine lv_iload hx hb dX6_isMove_45 (lv_at hl 5 rfl) ?_
      refine lv_icmp_lt (tgt := 60) hx hb dX6_isMove_47 (by decide) (fun c8 => ?_) (fun c8 => ?_)
      · rw [if_pos c8] at hf
        refine lv_iconst (v := 0) hx hb dX6_isMove_60 (by decide) ?_
        have hq := KR _ (Option.some.inj hf).symm
        obtain ⟨rfl, rfl⟩ := Prod.mk.inj hq
        exact hj_retz (Or.inl rfl)  C hP hK hS dX6_isMove_61
      · rw [if_neg c8] at hf
        refine lv_aload_n hx hb dX6_isMove_50 rfl (lv_at hl 1 rfl) ?_
        refine lv_iconst (v := 1) hx hb dX6_isMove_51 (by decide) ?_
        refine lv_iload hx hb dX6_isMove_52 (lv_at hl 0 rfl) ?_
        obtain ⟨r9, hc, hf⟩ := hj_o1_s hf
        refine hj_callVi (nL := 7) (As := [.int 1, .int y5]) (rest := []) (i0 := 0) (C := RX6) (T := TX6) (N := 24) (ci := 6) ⟨hx, hb, hml, hown, hts⟩ (ctX6_canArgue l g hI hc) (cwV 2 hts gX6_isMove_X6_canArgue rfl rfl rfl (by decide +kernel) ⟨Nat.le_of_ble_eq_true rfl, Nat.le_of_ble_eq_true rfl⟩) hj_Xb0 (fun _ _ _ => trivial) hK hP hS (by decide) rfl rfl rfl hl.1 rfl (Nat.le_of_ble_eq_true rfl) dX6_isMove_54 (fun H locs hP hS => ?_)
        refine lv_if_ne (tgt := 62) hx hb dX6_isMove_57 (by decide) (fun c10 => ?_) (fun c10 => ?_)
        · rw [if_neg c10] at hf
          refine lv_aload_n hx hb dX6_isMove_62 rfl (lv_at hl 1 rfl) ?_
          refine hj_get (ci := 6) (v := .ref (ad 3)) (C := RX6) (T := TX6) (N := 24) hx hb hts iX6_isMove_X6 hown hK hP (by decide) rfl rfl 4 (by decide) mX6_isMove_1 rfl dX6_isMove_63 ?_
          refine lv_bipush (v := 18) hx hb dX6_isMove_66 (by decide) ?_
          refine lv_iload hx hb dX6_isMove_68 (lv_at hl 0 rfl) ?_
          refine lv_iadd hx hb dX6_isMove_70 ?_
          refine lv_dup2_11 hx hb dX6_isMove_71 rfl rfl ?_
          obtain ⟨hk11, hf⟩ := hj_ck_s hf
          refine hj_ial (f := τ.2 4) hx hb hK hP (by decide) rfl hk11 dX6_isMove_72 ?_
          refine lv_iconst (v := 1) hx hb dX6_isMove_73 (by decide) ?_
          refine lv_isub hx hb dX6_isMove_74 ?_
          obtain ⟨hk12, hf⟩ := hj_ck_s hf
          refine hj_ias (f := τ.2 4) (v := ((τ.2 4 (18 + y5).toNatClampNeg) - 1)) hx hb hK hI hP hS (by decide) rfl hk12 dX6_isMove_75 (wm_a2 (τ := τ) (x := (18 + y5)) (v := ((τ.2 4 (18 + y5).toNatClampNeg) - 1)) 3 4 rfl (by decide) (by decide) (by decide)) (fun H locs hP hS => ?_)
          obtain ⟨τ13, eτ13⟩ : ∃ z : hj_Ob, z = hj_a τ 4 (18 + y5) ((τ.2 4 (18 + y5).toNatClampNeg) - 1) := ⟨_, rfl⟩
          replace hf := hj_nm_y hf eτ13
          rw [← eτ13] at hP
          refine lv_iload hx hb dX6_isMove_76 (lv_at hl 0 rfl) ?_
          refine lv_istore (lv' := [(4, .int y5), (6, .int y5), (0, .ref (ad 0)), (1, .int x1), (2, .int x2), (3, .int x3), (5, .int x5)]) hx hb dX6_isMove_78 hl (by decide) rfl (fun ls hl => ?_)
          obtain ⟨y14, ey14⟩ : ∃ z : Int32, z = x5 + 1 := ⟨_, rfl⟩
          replace hf := hj_nm_y hf ey14
          refine lv_iinc (v := y14) (lv' := [(5, .int y14), (4, .int y5), (6, .int y5), (0, .ref (ad 0)), (1, .int x1), (2, .int x2), (3, .int x3)]) hx hb dX6_isMove_80 hl (k := 6) rfl (by rw [ey14]; rfl) (by decide) rfl (fun ls hl => ?_)
          refine lv_goto (tgt := 10) hx hb dX6_isMove_83 (by decide) ?_
          exact KI _ _ _ (Option.some.inj hf).symm _ _ _ hP hS (lv_sub hl [3, 4, 5, 6, 1, 0] rfl)
        · rw [if_pos c10] at hf
          refine lv_iconst (v := 0) hx hb dX6_isMove_60 (by decide) ?_
          have hq := KR _ (Option.some.inj hf).symm
          obtain ⟨rfl, rfl⟩ := Prod.mk.inj hq
          exact hj_retz (Or.inl rfl)  C hP hK hS dX6_isMove_61
set_option maxHeartbeats 4000000 in
set_option maxRecDepth 100000 in
theorem wX6_isMove_10 {p : Program} {l : Launch} {e : Env} {s : State} {m : MethodId} {args : Array Value} {below : List Frame} {meth : Method} {c : Code} {g : hj_G} {ad : Nat → Nat} (hI : hj_I 13 ad) (C : hj_C p s m args meth c cX6_isMove RX6 wsX6_isMove 7 (some .boolean)) (hK : hj_K g s) {sd : Int64} {x1 : Int32} {x2 : Int32} {x3 : Int32} {rF : Int32} {τF : hj_Ob} {ex : ((Int32 × hj_Ob) ⊕ hj_Ob)} :
    ∀ (fu : Nat) (x4 : Int32) (x5 : Int32) (τ : hj_Ob), hj_lp (fun q : (Int32 × Int32 × hj_Ob) => fX6_isMove_10 q.2.2 sd x1 x2 x3 q.1 q.2.1) fu (x4, x5, τ) = some ex → (∀ r, ex = .inl r → r = (rF, τF)) → (∀ (τ' : hj_Ob), ex = .inr τ' → ∀ (H : Heap) (locs : List Loc) (ls : Array Slot), hj_P g 13 ad (hj_wm g ad τ' sd) H → hj_S 13 ad s H locs → lv_has ls 7 [(0, .ref (ad 0)), (3, .int x3)] → W p l e rmX6_isMove s m args below meth c H locs 0 0 (MQ below (hj_QI g 13 ad (hj_wm g ad τF sd) rF s.heap.size) args s 0 0 (hj_A 13 ad s.heap.size)) (F0 m 86 ls [])) → ∀ (H : Heap) (locs : List Loc) (ls : Array Slot), hj_P g 13 ad (hj_wm g ad τ sd) H → hj_S 13 ad s H locs → lv_has ls 7 [(0, .ref (ad 0)), (1, .int x1), (2, .int x2), (3, .int x3), (4, .int x4), (5, .int x5)] →
    W p l e rmX6_isMove s m args below meth c H locs 0 0 (MQ below (hj_QI g 13 ad (hj_wm g ad τF sd) rF s.heap.size) args s 0 0 (hj_A 13 ad s.heap.size)) (F0 m 10 ls []) := by
  intro fu
  induction fu with
  | zero => intro x4 x5 τ hq; cases hq
  | succ fu ih =>
    intro x4 x5 τ hq KR KX H locs ls hP hS hl
    obtain ⟨y, hy, h1, h2⟩ := hj_lp_s hq
    exact wX6_isMove_10b hI C hK  hy (fun r hr => KR r (h1 _ hr).symm) (fun τ' hv => KX τ' (h1 _ hv).symm) (fun v4 v5 τ' hv H locs ls hP hS hl => ih v4 v5 τ' (h2 _ hv) KR KX H locs ls hP hS hl) hP hS hl
def fX6_isMove (τ : hj_Ob) (sd : Int64) (x1 : Int32) (x2 : Int32) (x3 : Int32) : Option (Int32 × hj_Ob) :=
  hj_o1 (fX6_layTrial τ sd) fun τ1 => hj_oe (fun r => r) (hj_lp (fun q : (Int32 × Int32 × hj_Ob) => fX6_isMove_10 q.2.2 sd x1 x2 x3 q.1 q.2.1) 100 (0, 0, τ1)) (fun ex16 => hj_nm ex16 fun τ15 => hj_o2 (fX6_runTrial τ15 sd) fun r17 τ18 => if r17 = x3 then (some (1, τ18)) else (some (0, τ18)))
set_option maxHeartbeats 4000000 in
set_option maxRecDepth 100000 in
theorem wX6_isMove {p : Program} {l : Launch} {e : Env} {s : State} {m : MethodId} {args : Array Value} {below : List Frame} {meth : Method} {c : Code} {g : hj_G} {ad : Nat → Nat} (hI : hj_I 13 ad) (C : hj_C p s m args meth c cX6_isMove RX6 wsX6_isMove 7 (some .boolean)) (hK : hj_K g s) {τ : hj_Ob} {sd : Int64} {x1 : Int32} {x2 : Int32} {x3 : Int32} {rF : Int32} {τF : hj_Ob}
    (hf : fX6_isMove τ sd x1 x2 x3 = some (rF, τF)) {H : Heap} {locs : List Loc} {ls : Array Slot} (hP : hj_P g 13 ad (hj_wm g ad τ sd) H) (hS : hj_S 13 ad s H locs) (hl : lv_has ls 7 [(0, .ref (ad 0)), (1, .int x1), (2, .int x2), (3, .int x3)]) :
    W p l e rmX6_isMove s m args below meth c H locs 0 0 (MQ below (hj_QI g 13 ad (hj_wm g ad τF sd) rF s.heap.size) args s 0 0 (hj_A 13 ad s.heap.size)) (F0 m 0 ls []) := by
  obtain ⟨hx, hb, hr, hml, hown, hts, hlocks⟩ := id C
  unfold fX6_isMove at hf
  refine lv_aload_n hx hb dX6_isMove_0 rfl (lv_at hl 0 rfl) ?_
  obtain ⟨τ1, hc, hf⟩ := hj_o1_s hf
  refine hj_callVv (nL := 7) (As := []) (rest := []) (i0 := 0) (C := RX6) (T := TX6) (N := 24) (ci := 6) ⟨hx, hb, hml, hown, hts⟩ (ctX6_layTrial l g hI hc) (cwV 0 hts gX6_isMove_X6_layTrial rfl rfl rfl (by decide +kernel) ⟨Nat.le_of_ble_eq_true rfl, Nat.le_of_ble_eq_true rfl⟩) hj_Xb0 (fun _ _ _ => trivial) hK hP hS (by decide) rfl rfl rfl hl.1 rfl (Nat.le_of_ble_eq_true rfl) dX6_isMove_1 (fun H locs hP hS => ?_)
  refine lv_iconst (v := 0) hx hb dX6_isMove_4 (by decide) ?_
  refine lv_istore (lv' := [(4, .int 0), (0, .ref (ad 0)), (1, .int x1), (2, .int x2), (3, .int x3)]) hx hb dX6_isMove_5 hl (by decide) rfl (fun ls hl => ?_)
  refine lv_iconst (v := 0) hx hb dX6_isMove_7 (by decide) ?_
  refine lv_istore (lv' := [(5, .int 0), (4, .int 0), (0, .ref (ad 0)), (1, .int x1), (2, .int x2), (3, .int x3)]) hx hb dX6_isMove_8 hl (by decide) rfl (fun ls hl => ?_)
  obtain ⟨exx, hlx, hlr, hfx⟩ := hj_oe_s hf
  refine wX6_isMove_10 hI C hK  100 0 0 τ1 hlx hlr (fun τ15 hxe H locs ls hP hS hl => ?_) H locs ls hP hS (lv_sub hl [2, 3, 4, 5, 1, 0] rfl)
  replace hf := hfx _ hxe
  replace hf := hj_nm_y (y := τ15) hf rfl
  refine lv_aload_n hx hb dX6_isMove_86 rfl (lv_at hl 0 rfl) ?_
  obtain ⟨r17, τ18, hc, hf⟩ := hj_o2_s hf
  refine hj_callVi (nL := 7) (As := []) (rest := []) (i0 := 0) (C := RX6) (T := TX6) (N := 24) (ci := 6) ⟨hx, hb, hml, hown, hts⟩ (ctX6_runTrial l g hI hc) (cwV 0 hts gX6_isMove_X6_runTrial rfl rfl rfl (by decide +kernel) ⟨Nat.le_of_ble_eq_true rfl, Nat.le_of_ble_eq_true rfl⟩) hj_Xb0 (fun _ _ _ => trivial) hK hP hS (by decide) rfl rfl rfl hl.1 rfl (Nat.le_of_ble_eq_true rfl) dX6_isMove_87 (fun H locs hP hS => ?_)
  refine lv_iload_n hx hb dX6_isMove_90 rfl (lv_at hl 1 rfl) ?_
  refine lv_icmp_ne (tgt := 98) hx hb dX6_isMove_91 (by decide) (fun c19 => ?_) (fun c19 => ?_)
  · rw [if_neg c19] at hf
    refine lv_iconst (v := 0) hx hb dX6_isMove_98 (by decide) ?_
    have hq := Option.some.inj hf
    obtain ⟨rfl, rfl⟩ := Prod.mk.inj hq
    exact hj_retz (Or.inl rfl)  C hP hK hS dX6_isMove_99
  · rw [if_pos c19] at hf
    refine lv_iconst (v := 1) hx hb dX6_isMove_94 (by decide) ?_
    refine lv_goto (tgt := 99) hx hb dX6_isMove_95 (by decide) ?_
    have hq := Option.some.inj hf
    obtain ⟨rfl, rfl⟩ := Prod.mk.inj hq
    exact hj_retz (Or.inr rfl)  C hP hK hS dX6_isMove_99
set_option maxHeartbeats 4000000 in
set_option maxRecDepth 100000 in
theorem ctX6_isMove (l : Launch) (g : hj_G) {ad : Nat → Nat} (hI : hj_I 13 ad) {τ : hj_Ob} {sd : Int64} {x1 : Int32} {x2 : Int32} {x3 : Int32} {rF : Int32} {τF : hj_Ob} (hf : fX6_isMove τ sd x1 x2 x3 = some (rF, τF)) :
    hj_MI l yX6_isMove wsX6_isMove rmX6_isMove g 13 ad hj_X0 [.ref (ad 0), .int x1, .int x2, .int x3] (hj_wm g ad τ sd) rF (hj_wm g ad τF sd) := by
  refine hj_ofI (cc := cX6_isMove) (maxL := 7) (ret := (some .boolean)) (by decide) rfl (Nat.le_of_ble_eq_true rfl) ?_
  intro p e s m args below meth c ls C hP hK hX hl
  exact wX6_isMove hI C hK hf hP va_S.rf hl

/-! X6_toMove -/
abbrev rmX6_toMove : Room := { frames := 5, cells := 0, slots := 0, locals := 122 }
def fX6_toMove_23 (τ : hj_Ob) (sd : Int64) (x1 : Int32) (x2 : Int32) (x3 : Int32) (x4 : Int32) : Option (((Int32 × hj_Ob) ⊕ hj_Ob) ⊕ (Int32 × hj_Ob)) :=
  hj_o1 (fX6_tenTo x3) fun r4 => if r4 ≤ x4 then (some (.inl (.inr τ))) else (hj_o2 (fX6_isMove τ sd x3 x4 x1) fun r6 τ7 => if r6 = 0 then (hj_nm (x4 + 1) fun y9 => some (.inr (y9, τ7))) else (if x2 = 0 then (some (.inl (.inl (x3, τ7)))) else (some (.inl (.inl (x4, τ7))))))
set_option maxHeartbeats 4000000 in
set_option maxRecDepth 100000 in
theorem wX6_toMove_23b {p : Program} {l : Launch} {e : Env} {s : State} {m : MethodId} {args : Array Value} {below : List Frame} {meth : Method} {c : Code} {g : hj_G} {ad : Nat → Nat} (hI : hj_I 13 ad) (C : hj_C p s m args meth c cX6_toMove RX6 wsX6_toMove 5 (some .int)) (hK : hj_K g s) {τ : hj_Ob} {sd : Int64} {x1 : Int32} {x2 : Int32} {x3 : Int32} {x4 : Int32} {y : ((Int32 × hj_Ob) ⊕ hj_Ob) ⊕ (Int32 × hj_Ob)} {rF : Int32} {τF : hj_Ob}
    (hf : fX6_toMove_23 τ sd x1 x2 x3 x4 = some y) (KR : ∀ r, y = .inl (.inl r) → r = (rF, τF)) (KX : ∀ (τ' : hj_Ob), y = .inl (.inr τ') → ∀ (H : Heap) (locs : List Loc) (ls : Array Slot), hj_P g 13 ad (hj_wm g ad τ' sd) H → hj_S 13 ad s H locs → lv_has ls 5 [(0, .ref (ad 0)), (1, .int x1), (2, .int x2), (3, .int x3)] → W p l e rmX6_toMove s m args below meth c H locs 0 0 (MQ below (hj_QI g 13 ad (hj_wm g ad τF sd) rF s.heap.size) args s 0 0 (hj_A 13 ad s.heap.size)) (F0 m 60 ls [])) (KI : ∀ (v4 : Int32) (τ' : hj_Ob), y = .inr (v4, τ') → ∀ (H : Heap) (locs : List Loc) (ls : Array Slot), hj_P g 13 ad (hj_wm g ad τ' sd) H → hj_S 13 ad s H locs → lv_has ls 5 [(0, .ref (ad 0)), (1, .int x1), (2, .int x2), (3, .int x3), (4, .int v4)] → W p l e rmX6_toMove s m args below meth c H locs 0 0 (MQ below (hj_QI g 13 ad (hj_wm g ad τF sd) rF s.heap.size) args s 0 0 (hj_A 13 ad s.heap.size)) (F0 m 23 ls [])) {H : Heap} {locs : List Loc} {ls : Array Slot} (hP : hj_P g 13 ad (hj_wm g ad τ sd) H) (hS : hj_S 13 ad s H locs) (hl : lv_has ls 5 [(0, .ref (ad 0)), (1, .int x1), (2, .int x2), (3, .int x3), (4, .int x4)]) :
    W p l e rmX6_toMove s m args below meth c H locs 0 0 (MQ below (hj_QI g 13 ad (hj_wm g ad τF sd) rF s.heap.size) args s 0 0 (hj_A 13 ad s.heap.size)) (F0 m 23 ls []) := by
  obtain ⟨hx, hb, hr, hml, hown, hts, hlocks⟩ := id C
  unfold fX6_toMove_23 at hf
  refine lv_iload hx hb dX6_toMove_23 (lv_at hl 4 rfl) ?_
  refine lv_iload_n hx hb dX6_toMove_25 rfl (lv_at hl 3 rfl) ?_
  obtain ⟨r4, hc, hf⟩ := hj_o1_s hf
  refine hj_callSi (nL := 5) (As := [.int x3]) (rest := [.int x4]) ⟨hx, hb, hml, hown, hts⟩ (ctX6_tenTo l g (n := 13) (ad := ad) (w := (hj_wm g ad τ sd)) hc) (va_cwS 1 hts gX6_toMove_X6_tenTo rfl rfl rfl (by decide +kernel) ⟨Nat.le_of_ble_eq_true rfl, Nat.le_of_ble_eq_true rfl⟩) hj_Xb0 (fun _ _ _ => trivial) hK hP hS rfl hl.1 rfl (Nat.le_of_ble_eq_true rfl) dX6_toMove_26 (fun H locs hP hS => ?_)
  refine lv_icmp_ge (tgt := 60) hx hb dX6_toMove_29 (by decide) (fun c5 => ?_) (fun c5 => ?_)
  · rw [if_pos c5] at hf
    exact KX _ (Option.some.inj hf).symm _ _ _ hP hS (lv_sub hl [0, 1, 2, 3] rfl)
  · rw [if_neg c5] at hf
    refine lv_aload_n hx hb dX6_toMove_32 rfl (lv_at hl 0 rfl) ?_
    refine lv_iload_n hx hb dX6_toMove_33 rfl (lv_at hl 3 rfl) ?_
    refine lv_iload hx hb dX6_toMove_34 (lv_at hl 4 rfl) ?_
    refine lv_iload_n hx hb dX6_toMove_36 rfl (lv_at hl 1 rfl) ?_
    obtain ⟨r6, τ7, hc, hf⟩ := hj_o2_s hf
    refine hj_callVi (nL := 5) (As := [.int x3, .int x4, .int x1]) (rest := []) (i0 := 0) (C := RX6) (T := TX6) (N := 24) (ci := 6) ⟨hx, hb, hml, hown, hts⟩ (ctX6_isMove l g hI hc) (cwV 3 hts gX6_toMove_X6_isMove rfl rfl rfl (by decide +kernel) ⟨Nat.le_of_ble_eq_true rfl, Nat.le_of_ble_eq_true rfl⟩) hj_Xb0 (fun _ _ _ => trivial) hK hP hS (by decide) rfl rfl rfl hl.1 rfl (Nat.le_of_ble_eq_true rfl) dX6_toMove_37 (fun H locs hP hS => ?_)
    refine lv_if_eq (tgt := 54) hx hb dX6_toMove_40 (by decide) (fun c8 => ?_) (fun c8 => ?_)
    · rw [if_pos c8] at hf
      obtain ⟨y9, ey9⟩ : ∃ z : Int32, z = x4 + 1 := ⟨_, rfl⟩
      replace hf := hj_nm_y hf ey9
      refine lv_iinc (v := y9) (lv' := [(4, .int y9), (0, .ref (ad 0)), (1, .int x1), (2, .int x2), (3, .int x3)]) hx hb dX6_toMove_54 hl (k := 4) rfl (by rw [ey9]; rfl) (by decide) rfl (fun ls hl => ?_)
      refine lv_goto (tgt := 23) hx hb dX6_toMove_57 (by decide) ?_
      exact KI _ _ (Option.some.inj hf).symm _ _ _ hP hS (lv_sub hl [1, 2, 3, 4, 0] rfl)
    · rw [if_neg c8] at hf
      refine lv_iload_n hx hb dX6_toMove_43 rfl (lv_at hl 2 rfl) ?_
      refine lv_if_eq (tgt := 52) hx hb dX6_toMove_44 (by decide) (fun c10 => ?_) (fun c10 => ?_)
      · rw [if_pos c10] at hf
        refine lv_iload_n hx hb dX6_toMove_52 rfl (lv_at hl 3 rfl) ?_
        have hq := KR _ (Option.some.inj hf).symm
        obtain ⟨rfl, rfl⟩ := Prod.mk.inj hq
        exact hj_reti C hP hK hS dX6_toMove_53
      · rw [if_neg c10] at hf
        refine lv_iload hx hb dX6_toMove_47 (lv_at hl 4 rfl) ?_
        refine lv_goto (tgt := 53) hx hb dX6_toMove_49 (by decide) ?_
        have hq := KR _ (Option.some.inj hf).symm
        obtain ⟨rfl, rfl⟩ := Prod.mk.inj hq
        exact hj_reti C hP hK hS dX6_toMove_53
set_option maxHeartbeats 4000000 in
set_option maxRecDepth 100000 in
theorem wX6_toMove_23 {p : Program} {l : Launch} {e : Env} {s : State} {m : MethodId} {args : Array Value} {below : List Frame} {meth : Method} {c : Code} {g : hj_G} {ad : Nat → Nat} (hI : hj_I 13 ad) (C : hj_C p s m args meth c cX6_toMove RX6 wsX6_toMove 5 (some .int)) (hK : hj_K g s) {sd : Int64} {x1 : Int32} {x2 : Int32} {x3 : Int32} {rF : Int32} {τF : hj_Ob} {ex : ((Int32 × hj_Ob) ⊕ hj_Ob)} :
    ∀ (fu : Nat) (x4 : Int32) (τ : hj_Ob), hj_lp (fun q : (Int32 × hj_Ob) => fX6_toMove_23 q.2 sd x1 x2 x3 q.1) fu (x4, τ) = some ex → (∀ r, ex = .inl r → r = (rF, τF)) → (∀ (τ' : hj_Ob), ex = .inr τ' → ∀ (H : Heap) (locs : List Loc) (ls : Array Slot), hj_P g 13 ad (hj_wm g ad τ' sd) H → hj_S 13 ad s H locs → lv_has ls 5 [(0, .ref (ad 0)), (1, .int x1), (2, .int x2), (3, .int x3)] → W p l e rmX6_toMove s m args below meth c H locs 0 0 (MQ below (hj_QI g 13 ad (hj_wm g ad τF sd) rF s.heap.size) args s 0 0 (hj_A 13 ad s.heap.size)) (F0 m 60 ls [])) → ∀ (H : Heap) (locs : List Loc) (ls : Array Slot), hj_P g 13 ad (hj_wm g ad τ sd) H → hj_S 13 ad s H locs → lv_has ls 5 [(0, .ref (ad 0)), (1, .int x1), (2, .int x2), (3, .int x3), (4, .int x4)] →
    W p l e rmX6_toMove s m args below meth c H locs 0 0 (MQ below (hj_QI g 13 ad (hj_wm g ad τF sd) rF s.heap.size) args s 0 0 (hj_A 13 ad s.heap.size)) (F0 m 23 ls []) := by
  intro fu
  induction fu with
  | zero => intro x4 τ hq; cases hq
  | succ fu ih =>
    intro x4 τ hq KR KX H locs ls hP hS hl
    obtain ⟨y, hy, h1, h2⟩ := hj_lp_s hq
    exact wX6_toMove_23b hI C hK  hy (fun r hr => KR r (h1 _ hr).symm) (fun τ' hv => KX τ' (h1 _ hv).symm) (fun v4 τ' hv H locs ls hP hS hl => ih v4 τ' (h2 _ hv) KR KX H locs ls hP hS hl) hP hS hl
def fX6_toMove_15 (τ : hj_Ob) (sd : Int64) (x1 : Int32) (x2 : Int32) (x3 : Int32) : Option (((Int32 × hj_Ob) ⊕ hj_Ob) ⊕ (Int32 × hj_Ob)) :=
  if 4 ≤ x3 then (some (.inl (.inr τ))) else (hj_oe (fun r => .inl (.inl r)) (hj_lp (fun q : (Int32 × hj_Ob) => fX6_toMove_23 q.2 sd x1 x2 x3 q.1) 1010 (0, τ)) (fun ex12 => hj_nm ex12 fun τ11 => hj_nm (x3 + 1) fun y13 => some (.inr (y13, τ11))))
set_option maxHeartbeats 4000000 in
set_option maxRecDepth 100000 in
theorem wX6_toMove_15b {p : Program} {l : Launch} {e : Env} {s : State} {m : MethodId} {args : Array Value} {below : List Frame} {meth : Method} {c : Code} {g : hj_G} {ad : Nat → Nat} (hI : hj_I 13 ad) (C : hj_C p s m args meth c cX6_toMove RX6 wsX6_toMove 5 (some .int)) (hK : hj_K g s) {τ : hj_Ob} {sd : Int64} {x1 : Int32} {x2 : Int32} {x3 : Int32} {y : ((Int32 × hj_Ob) ⊕ hj_Ob) ⊕ (Int32 × hj_Ob)} {rF : Int32} {τF : hj_Ob}
    (hf : fX6_toMove_15 τ sd x1 x2 x3 = some y) (KR : ∀ r, y = .inl (.inl r) → r = (rF, τF)) (KX : ∀ (τ' : hj_Ob), y = .inl (.inr τ') → ∀ (H : Heap) (locs : List Loc) (ls : Array Slot), hj_P g 13 ad (hj_wm g ad τ' sd) H → hj_S 13 ad s H locs → lv_has ls 5 [] → W p l e rmX6_toMove s m args below meth c H locs 0 0 (MQ below (hj_QI g 13 ad (hj_wm g ad τF sd) rF s.heap.size) args s 0 0 (hj_A 13 ad s.heap.size)) (F0 m 66 ls [])) (KI : ∀ (v3 : Int32) (τ' : hj_Ob), y = .inr (v3, τ') → ∀ (H : Heap) (locs : List Loc) (ls : Array Slot), hj_P g 13 ad (hj_wm g ad τ' sd) H → hj_S 13 ad s H locs → lv_has ls 5 [(0, .ref (ad 0)), (1, .int x1), (2, .int x2), (3, .int v3)] → W p l e rmX6_toMove s m args below meth c H locs 0 0 (MQ below (hj_QI g 13 ad (hj_wm g ad τF sd) rF s.heap.size) args s 0 0 (hj_A 13 ad s.heap.size)) (F0 m 15 ls [])) {H : Heap} {locs : List Loc} {ls : Array Slot} (hP : hj_P g 13 ad (hj_wm g ad τ sd) H) (hS : hj_S 13 ad s H locs) (hl : lv_has ls 5 [(0, .ref (ad 0)), (1, .int x1), (2, .int x2), (3, .int x3)]) :
    W p l e rmX6_toMove s m args below meth c H locs 0 0 (MQ below (hj_QI g 13 ad (hj_wm g ad τF sd) rF s.heap.size) args s 0 0 (hj_A 13 ad s.heap.size)) (F0 m 15 ls []) := by
  obtain ⟨hx, hb, hr, hml, hown, hts, hlocks⟩ := id C
  unfold fX6_toMove_15 at hf
  refine lv_iload_n hx hb dX6_toMove_15 rfl (lv_at hl 3 rfl) ?_
  refine lv_iconst (v := 4) hx hb dX6_toMove_16 (by decide) ?_
  refine lv_icmp_ge (tgt := 66) hx hb dX6_toMove_17 (by decide) (fun c3 => ?_) (fun c3 => ?_)
  · rw [if_pos c3] at hf
    exact KX _ (Option.some.inj hf).symm _ _ _ hP hS (lv_sub hl [] rfl)
  · rw [if_neg c3] at hf
    refine lv_iconst (v := 0) hx hb dX6_toMove_20 (by decide) ?_
    refine lv_istore (lv' := [(4, .int 0), (0, .ref (ad 0)), (1, .int x1), (2, .int x2), (3, .int x3)]) hx hb dX6_toMove_21 hl (by decide) rfl (fun ls hl => ?_)
    obtain ⟨exx, hlx, hlr, hfx⟩ := hj_oe_s hf
    refine wX6_toMove_23 hI C hK  1010 0 τ hlx (fun r h => KR r (hlr r h).symm) (fun τ11 hxe H locs ls hP hS hl => ?_) H locs ls hP hS (lv_sub hl [1, 2, 3, 4, 0] rfl)
    replace hf := hfx _ hxe
    replace hf := hj_nm_y (y := τ11) hf rfl
    obtain ⟨y13, ey13⟩ : ∃ z : Int32, z = x3 + 1 := ⟨_, rfl⟩
    replace hf := hj_nm_y hf ey13
    refine lv_iinc (v := y13) (lv' := [(3, .int y13), (0, .ref (ad 0)), (1, .int x1), (2, .int x2)]) hx hb dX6_toMove_60 hl (k := 3) rfl (by rw [ey13]; rfl) (by decide) rfl (fun ls hl => ?_)
    refine lv_goto (tgt := 15) hx hb dX6_toMove_63 (by decide) ?_
    exact KI _ _ (Option.some.inj hf).symm _ _ _ hP hS (lv_sub hl [1, 2, 3, 0] rfl)
set_option maxHeartbeats 4000000 in
set_option maxRecDepth 100000 in
theorem wX6_toMove_15 {p : Program} {l : Launch} {e : Env} {s : State} {m : MethodId} {args : Array Value} {below : List Frame} {meth : Method} {c : Code} {g : hj_G} {ad : Nat → Nat} (hI : hj_I 13 ad) (C : hj_C p s m args meth c cX6_toMove RX6 wsX6_toMove 5 (some .int)) (hK : hj_K g s) {sd : Int64} {x1 : Int32} {x2 : Int32} {rF : Int32} {τF : hj_Ob} {ex : ((Int32 × hj_Ob) ⊕ hj_Ob)} :
    ∀ (fu : Nat) (x3 : Int32) (τ : hj_Ob), hj_lp (fun q : (Int32 × hj_Ob) => fX6_toMove_15 q.2 sd x1 x2 q.1) fu (x3, τ) = some ex → (∀ r, ex = .inl r → r = (rF, τF)) → (∀ (τ' : hj_Ob), ex = .inr τ' → ∀ (H : Heap) (locs : List Loc) (ls : Array Slot), hj_P g 13 ad (hj_wm g ad τ' sd) H → hj_S 13 ad s H locs → lv_has ls 5 [] → W p l e rmX6_toMove s m args below meth c H locs 0 0 (MQ below (hj_QI g 13 ad (hj_wm g ad τF sd) rF s.heap.size) args s 0 0 (hj_A 13 ad s.heap.size)) (F0 m 66 ls [])) → ∀ (H : Heap) (locs : List Loc) (ls : Array Slot), hj_P g 13 ad (hj_wm g ad τ sd) H → hj_S 13 ad s H locs → lv_has ls 5 [(0, .ref (ad 0)), (1, .int x1), (2, .int x2), (3, .int x3)] →
    W p l e rmX6_toMove s m args below meth c H locs 0 0 (MQ below (hj_QI g 13 ad (hj_wm g ad τF sd) rF s.heap.size) args s 0 0 (hj_A 13 ad s.heap.size)) (F0 m 15 ls []) := by
  intro fu
  induction fu with
  | zero => intro x3 τ hq; cases hq
  | succ fu ih =>
    intro x3 τ hq KR KX H locs ls hP hS hl
    obtain ⟨y, hy, h1, h2⟩ := hj_lp_s hq
    exact wX6_toMove_15b hI C hK  hy (fun r hr => KR r (h1 _ hr).symm) (fun τ' hv => KX τ' (h1 _ hv).symm) (fun v3 τ' hv H locs ls hP hS hl => ih v3 τ' (h2 _ hv) KR KX H locs ls hP hS hl) hP hS hl
def fX6_toMove (τ : hj_Ob) (sd : Int64) (x1 : Int32) (x2 : Int32) : Option (Int32 × hj_Ob) :=
  hj_o1 (fX6_in x1.toInt64 0 1) fun r1 => if r1 = 0 then (some ((-2), τ)) else (hj_oe (fun r => r) (hj_lp (fun q : (Int32 × hj_Ob) => fX6_toMove_15 q.2 sd x1 x2 q.1) 10 (0, τ)) (fun ex15 => hj_nm ex15 fun τ14 => some ((-9), τ14)))
set_option maxHeartbeats 4000000 in
set_option maxRecDepth 100000 in
theorem wX6_toMove {p : Program} {l : Launch} {e : Env} {s : State} {m : MethodId} {args : Array Value} {below : List Frame} {meth : Method} {c : Code} {g : hj_G} {ad : Nat → Nat} (hI : hj_I 13 ad) (C : hj_C p s m args meth c cX6_toMove RX6 wsX6_toMove 5 (some .int)) (hK : hj_K g s) {τ : hj_Ob} {sd : Int64} {x1 : Int32} {x2 : Int32} {rF : Int32} {τF : hj_Ob}
    (hf : fX6_toMove τ sd x1 x2 = some (rF, τF)) {H : Heap} {locs : List Loc} {ls : Array Slot} (hP : hj_P g 13 ad (hj_wm g ad τ sd) H) (hS : hj_S 13 ad s H locs) (hl : lv_has ls 5 [(0, .ref (ad 0)), (1, .int x1), (2, .int x2)]) :
    W p l e rmX6_toMove s m args below meth c H locs 0 0 (MQ below (hj_QI g 13 ad (hj_wm g ad τF sd) rF s.heap.size) args s 0 0 (hj_A 13 ad s.heap.size)) (F0 m 0 ls []) := by
  obtain ⟨hx, hb, hr, hml, hown, hts, hlocks⟩ := id C
  unfold fX6_toMove at hf
  refine lv_iload_n hx hb dX6_toMove_0 rfl (lv_at hl 1 rfl) ?_
  refine lv_i2l (v := x1.toInt64) hx hb dX6_toMove_1 rfl ?_
  refine lv_lconst (v := 0) hx hb dX6_toMove_2 (by decide) ?_
  refine lv_lconst (v := 1) hx hb dX6_toMove_3 (by decide) ?_
  obtain ⟨r1, hc, hf⟩ := hj_o1_s hf
  refine hj_callSi (nL := 5) (As := [.long x1.toInt64, .long 0, .long 1]) (rest := []) ⟨hx, hb, hml, hown, hts⟩ (ctX6_in l g (n := 13) (ad := ad) (w := (hj_wm g ad τ sd)) hc) (va_cwS 3 hts gX6_toMove_X6_in rfl rfl rfl (by decide +kernel) ⟨Nat.le_of_ble_eq_true rfl, Nat.le_of_ble_eq_true rfl⟩) hj_Xb0 (fun _ _ _ => trivial) hK hP hS rfl hl.1 rfl (Nat.le_of_ble_eq_true rfl) dX6_toMove_4 (fun H locs hP hS => ?_)
  refine lv_if_ne (tgt := 13) hx hb dX6_toMove_7 (by decide) (fun c2 => ?_) (fun c2 => ?_)
  · rw [if_neg c2] at hf
    refine lv_iconst (v := 0) hx hb dX6_toMove_13 (by decide) ?_
    refine lv_istore_n (lv' := [(3, .int 0), (0, .ref (ad 0)), (1, .int x1), (2, .int x2)]) hx hb dX6_toMove_14 rfl hl (by decide) rfl (fun ls hl => ?_)
    obtain ⟨exx, hlx, hlr, hfx⟩ := hj_oe_s hf
    refine wX6_toMove_15 hI C hK  10 0 τ hlx hlr (fun τ14 hxe H locs ls hP hS hl => ?_) H locs ls hP hS (lv_sub hl [1, 2, 3, 0] rfl)
    replace hf := hfx _ hxe
    replace hf := hj_nm_y (y := τ14) hf rfl
    refine lv_bipush (v := (-9)) hx hb dX6_toMove_66 (by decide) ?_
    have hq := Option.some.inj hf
    obtain ⟨rfl, rfl⟩ := Prod.mk.inj hq
    exact hj_reti C hP hK hS dX6_toMove_68
  · rw [if_pos c2] at hf
    refine lv_bipush (v := (-2)) hx hb dX6_toMove_10 (by decide) ?_
    have hq := Option.some.inj hf
    obtain ⟨rfl, rfl⟩ := Prod.mk.inj hq
    exact hj_reti C hP hK hS dX6_toMove_12
set_option maxHeartbeats 4000000 in
set_option maxRecDepth 100000 in
theorem ctX6_toMove (l : Launch) (g : hj_G) {ad : Nat → Nat} (hI : hj_I 13 ad) {τ : hj_Ob} {sd : Int64} {x1 : Int32} {x2 : Int32} {rF : Int32} {τF : hj_Ob} (hf : fX6_toMove τ sd x1 x2 = some (rF, τF)) :
    hj_MI l yX6_toMove wsX6_toMove rmX6_toMove g 13 ad hj_X0 [.ref (ad 0), .int x1, .int x2] (hj_wm g ad τ sd) rF (hj_wm g ad τF sd) := by
  refine hj_ofI (cc := cX6_toMove) (maxL := 5) (ret := (some .int)) (by decide) rfl (Nat.le_of_ble_eq_true rfl) ?_
  intro p e s m args below meth c ls C hP hK hX hl
  exact wX6_toMove hI C hK hf hP va_S.rf hl
