/-! X6_jury -/
abbrev rmX6_jury : Room := { frames := 4, cells := 0, slots := 0, locals := 91 }
theorem iX6_jury_X6 : ∀ w ∈ wsX60, w ∈ wsX6_jury := fun _ h => List.mem_cons_of_mem _ (List.mem_append_right _ h)
theorem mX6_jury_1 : Cond.fieldLink RX6 72 "HungryJuryModel" "readJurors" "I" ∈ wsX6_jury := List.mem_of_getElem? (i := 1) rfl
theorem mX6_jury_2 : Cond.fieldLink RX6 96 "HungryJuryModel" "jurors" "I" ∈ wsX6_jury := List.mem_of_getElem? (i := 2) rfl
theorem mX6_jury_3 : Cond.fieldLink RX6 82 "HungryJuryModel" "readNeed" "I" ∈ wsX6_jury := List.mem_of_getElem? (i := 3) rfl
theorem mX6_jury_4 : Cond.fieldLink RX6 47 "HungryJuryModel" "need" "I" ∈ wsX6_jury := List.mem_of_getElem? (i := 4) rfl
theorem mX6_jury_5 : Cond.fieldLink RX6 16 "HungryJuryModel" "now" "[I" ∈ wsX6_jury := List.mem_of_getElem? (i := 5) rfl
theorem mX6_jury_6 : Cond.fieldLink RX6 19 "HungryJuryModel" "readOf" "[I" ∈ wsX6_jury := List.mem_of_getElem? (i := 6) rfl
theorem mX6_jury_7 : Cond.fieldLink RX6 7 "HungryJuryModel" "kind" "[I" ∈ wsX6_jury := List.mem_of_getElem? (i := 7) rfl
theorem mX6_jury_8 : Cond.fieldLink RX6 13 "HungryJuryModel" "heeds" "[I" ∈ wsX6_jury := List.mem_of_getElem? (i := 8) rfl
theorem mX6_jury_9 : Cond.fieldLink RX6 22 "HungryJuryModel" "readHeeds" "[I" ∈ wsX6_jury := List.mem_of_getElem? (i := 9) rfl
theorem mX6_jury_10 : Cond.fieldLink RX6 99 "HungryJuryModel" "acts" "I" ∈ wsX6_jury := List.mem_of_getElem? (i := 10) rfl
theorem mX6_jury_11 : Cond.fieldLink RX6 40 "HungryJuryModel" "isKept" "[Z" ∈ wsX6_jury := List.mem_of_getElem? (i := 11) rfl
def fX6_jury_30 (τ : hj_Ob) (sd : Int64) (x1 : Int32) : Option (hj_Ob ⊕ (Int32 × hj_Ob)) :=
  if 15 ≤ x1 then (some (.inl τ)) else (hj_ck x1 30 (hj_nm (hj_a τ 4 x1 0) fun τ8 => hj_nm (x1 + 1) fun y9 => some (.inr (y9, τ8))))
set_option maxHeartbeats 4000000 in
set_option maxRecDepth 100000 in
theorem wX6_jury_30b {p : Program} {l : Launch} {e : Env} {s : State} {m : MethodId} {args : Array Value} {below : List Frame} {meth : Method} {c : Code} {g : hj_G} {ad : Nat → Nat} (hI : hj_I 13 ad) (C : hj_C p s m args meth c cX6_jury RX6 wsX6_jury 2 (some .int)) (hK : hj_K g s) {τ : hj_Ob} {sd : Int64} {x1 : Int32} {y : hj_Ob ⊕ (Int32 × hj_Ob)} {rF : Int32} {τF : hj_Ob}
    (hf : fX6_jury_30 τ sd x1 = some y) (KX : ∀ (τ' : hj_Ob), y = .inl τ' → ∀ (H : Heap) (locs : List Loc) (ls : Array Slot), hj_P g 13 ad (hj_wm g ad τ' sd) H → hj_S 13 ad s H locs → lv_has ls 2 [(0, .ref (ad 0))] → W p l e rmX6_jury s m args below meth c H locs 0 0 (MQ below (hj_QI g 13 ad (hj_wm g ad τF sd) rF s.heap.size) args s 0 0 (hj_A 13 ad s.heap.size)) (F0 m 49 ls [])) (KI : ∀ (v1 : Int32) (τ' : hj_Ob), y = .inr (v1, τ') → ∀ (H : Heap) (locs : List Loc) (ls : Array Slot), hj_P g 13 ad (hj_wm g ad τ' sd) H → hj_S 13 ad s H locs → lv_has ls 2 [(0, .ref (ad 0)), (1, .int v1)] → W p l e rmX6_jury s m args below meth c H locs 0 0 (MQ below (hj_QI g 13 ad (hj_wm g ad τF sd) rF s.heap.size) args s 0 0 (hj_A 13 ad s.heap.size)) (F0 m 30 ls [])) {H : Heap} {locs : List Loc} {ls : Array Slot} (hP : hj_P g 13 ad (hj_wm g ad τ sd) H) (hS : hj_S 13 ad s H locs) (hl : lv_has ls 2 [(0, .ref (ad 0)), (1, .int x1)]) :
    W p l e rmX6_jury s m args below meth c H locs 0 0 (MQ below (hj_QI g 13 ad (hj_wm g ad τF sd) rF s.heap.size) args s 0 0 (hj_A 13 ad s.heap.size)) (F0 m 30 ls []) := by
  obtain ⟨hx, hb, hr, hml, hown, hts, hlocks⟩ := id C
  unfold fX6_jury_30 at hf
  refine lv_iload_n hx hb dX6_jury_30 rfl (lv_at hl 1 rfl) ?_
  refine lv_bipush (v := 15) hx hb dX6_jury_31 (by decide) ?_
  refine lv_icmp_ge (tgt := 49) hx hb dX6_jury_33 (by decide) (fun c6 => ?_) (fun c6 => ?_)
  · rw [if_pos c6] at hf
    exact KX _ (Option.some.inj hf).symm _ _ _ hP hS (lv_sub hl [0] rfl)
  · rw [if_neg c6] at hf
    refine lv_aload_n hx hb dX6_jury_36 rfl (lv_at hl 0 rfl) ?_
    refine hj_get (ci := 6) (v := .ref (ad 3)) (C := RX6) (T := TX6) (N := 24) hx hb hts iX6_jury_X6 hown hK hP (by decide) rfl rfl 4 (by decide) mX6_jury_5 rfl dX6_jury_37 ?_
    refine lv_iload_n hx hb dX6_jury_40 rfl (lv_at hl 1 rfl) ?_
    refine lv_iconst (v := 0) hx hb dX6_jury_41 (by decide) ?_
    obtain ⟨hk7, hf⟩ := hj_ck_s hf
    refine hj_ias (f := τ.2 4) (v := 0) hx hb hK hI hP hS (by decide) rfl hk7 dX6_jury_42 (wm_a2 (τ := τ) (x := x1) (v := 0) 3 4 rfl (by decide) (by decide) (by decide)) (fun H locs hP hS => ?_)
    obtain ⟨τ8, eτ8⟩ : ∃ z : hj_Ob, z = hj_a τ 4 x1 0 := ⟨_, rfl⟩
    replace hf := hj_nm_y hf eτ8
    rw [← eτ8] at hP
    obtain ⟨y9, ey9⟩ : ∃ z : Int32, z = x1 + 1 := ⟨_, rfl⟩
    replace hf := hj_nm_y hf ey9
    refine lv_iinc (v := y9) (lv' := [(1, .int y9), (0, .ref (ad 0))]) hx hb dX6_jury_43 hl (k := 1) rfl (by rw [ey9]; rfl) (by decide) rfl (fun ls hl => ?_)
    refine lv_goto (tgt := 30) hx hb dX6_jury_46 (by decide) ?_
    exact KI _ _ (Option.some.inj hf).symm _ _ _ hP hS (lv_sub hl [1, 0] rfl)
set_option maxHeartbeats 4000000 in
set_option maxRecDepth 100000 in
theorem wX6_jury_30 {p : Program} {l : Launch} {e : Env} {s : State} {m : MethodId} {args : Array Value} {below : List Frame} {meth : Method} {c : Code} {g : hj_G} {ad : Nat → Nat} (hI : hj_I 13 ad) (C : hj_C p s m args meth c cX6_jury RX6 wsX6_jury 2 (some .int)) (hK : hj_K g s) {sd : Int64} {rF : Int32} {τF : hj_Ob} {τe : hj_Ob} :
    ∀ (fu : Nat) (x1 : Int32) (τ : hj_Ob), hj_lp (fun q : (Int32 × hj_Ob) => fX6_jury_30 q.2 sd q.1) fu (x1, τ) = some τe → (∀ (H : Heap) (locs : List Loc) (ls : Array Slot), hj_P g 13 ad (hj_wm g ad τe sd) H → hj_S 13 ad s H locs → lv_has ls 2 [(0, .ref (ad 0))] → W p l e rmX6_jury s m args below meth c H locs 0 0 (MQ below (hj_QI g 13 ad (hj_wm g ad τF sd) rF s.heap.size) args s 0 0 (hj_A 13 ad s.heap.size)) (F0 m 49 ls [])) → ∀ (H : Heap) (locs : List Loc) (ls : Array Slot), hj_P g 13 ad (hj_wm g ad τ sd) H → hj_S 13 ad s H locs → lv_has ls 2 [(0, .ref (ad 0)), (1, .int x1)] →
    W p l e rmX6_jury s m args below meth c H locs 0 0 (MQ below (hj_QI g 13 ad (hj_wm g ad τF sd) rF s.heap.size) args s 0 0 (hj_A 13 ad s.heap.size)) (F0 m 30 ls []) := by
  intro fu
  induction fu with
  | zero => intro x1 τ hq; cases hq
  | succ fu ih =>
    intro x1 τ hq KX H locs ls hP hS hl
    obtain ⟨y, hy, h1, h2⟩ := hj_lp_s hq
    exact wX6_jury_30b hI C hK  hy (fun τ' hv H locs ls hP hS hl => by obtain rfl := h1 _ hv; exact KX H locs ls hP hS hl) (fun v1 τ' hv H locs ls hP hS hl => ih v1 τ' (h2 _ hv) KX H locs ls hP hS hl) hP hS hl
def fX6_jury_65 (τ : hj_Ob) (sd : Int64) (x1 : Int32) : Option (hj_Ob ⊕ (Int32 × hj_Ob)) :=
  if (τ.1 0) ≤ x1 then (some (.inl τ)) else (hj_ck (0 : Int32) 30 (hj_ck (3 * x1) 18 (hj_ck (0 : Int32) 30 (hj_nm (hj_a τ 4 (0 : Int32) ((τ.2 4 (0 : Int32).toNatClampNeg) ||| ((τ.2 5 (3 * x1).toNatClampNeg) <<< (x1 &&& 31)))) fun τ17 => hj_ck ((3 * x1) + 1) 18 (hj_ck (3 + x1) 30 (hj_nm (hj_a τ17 4 (3 + x1) (τ17.2 5 ((3 * x1) + 1).toNatClampNeg)) fun τ20 => hj_ck ((3 * x1) + 2) 18 (hj_ck x1 6 (hj_nm (hj_a τ20 2 x1 (τ20.2 5 ((3 * x1) + 2).toNatClampNeg)) fun τ23 => hj_ck x1 6 (hj_ck x1 6 (hj_nm (hj_a τ23 3 x1 (τ23.2 6 x1.toNatClampNeg)) fun τ26 => hj_nm (x1 + 1) fun y27 => some (.inr (y27, τ26))))))))))))
set_option maxHeartbeats 4000000 in
set_option maxRecDepth 100000 in
theorem wX6_jury_65b {p : Program} {l : Launch} {e : Env} {s : State} {m : MethodId} {args : Array Value} {below : List Frame} {meth : Method} {c : Code} {g : hj_G} {ad : Nat → Nat} (hI : hj_I 13 ad) (C : hj_C p s m args meth c cX6_jury RX6 wsX6_jury 2 (some .int)) (hK : hj_K g s) {τ : hj_Ob} {sd : Int64} {x1 : Int32} {y : hj_Ob ⊕ (Int32 × hj_Ob)} {rF : Int32} {τF : hj_Ob}
    (hf : fX6_jury_65 τ sd x1 = some y) (KX : ∀ (τ' : hj_Ob), y = .inl τ' → ∀ (H : Heap) (locs : List Loc) (ls : Array Slot), hj_P g 13 ad (hj_wm g ad τ' sd) H → hj_S 13 ad s H locs → lv_has ls 2 [(0, .ref (ad 0))] → W p l e rmX6_jury s m args below meth c H locs 0 0 (MQ below (hj_QI g 13 ad (hj_wm g ad τF sd) rF s.heap.size) args s 0 0 (hj_A 13 ad s.heap.size)) (F0 m 144 ls [])) (KI : ∀ (v1 : Int32) (τ' : hj_Ob), y = .inr (v1, τ') → ∀ (H : Heap) (locs : List Loc) (ls : Array Slot), hj_P g 13 ad (hj_wm g ad τ' sd) H → hj_S 13 ad s H locs → lv_has ls 2 [(0, .ref (ad 0)), (1, .int v1)] → W p l e rmX6_jury s m args below meth c H locs 0 0 (MQ below (hj_QI g 13 ad (hj_wm g ad τF sd) rF s.heap.size) args s 0 0 (hj_A 13 ad s.heap.size)) (F0 m 65 ls [])) {H : Heap} {locs : List Loc} {ls : Array Slot} (hP : hj_P g 13 ad (hj_wm g ad τ sd) H) (hS : hj_S 13 ad s H locs) (hl : lv_has ls 2 [(0, .ref (ad 0)), (1, .int x1)]) :
    W p l e rmX6_jury s m args below meth c H locs 0 0 (MQ below (hj_QI g 13 ad (hj_wm g ad τF sd) rF s.heap.size) args s 0 0 (hj_A 13 ad s.heap.size)) (F0 m 65 ls []) := by
  obtain ⟨hx, hb, hr, hml, hown, hts, hlocks⟩ := id C
  unfold fX6_jury_65 at hf
  refine lv_iload_n hx hb dX6_jury_65 rfl (lv_at hl 1 rfl) ?_
  refine lv_aload_n hx hb dX6_jury_66 rfl (lv_at hl 0 rfl) ?_
  refine hj_get (ci := 6) (v := .int (τ.1 0)) (C := RX6) (T := TX6) (N := 24) hx hb hts iX6_jury_X6 hown hK hP (by decide) rfl rfl 0 (by decide) mX6_jury_2 rfl dX6_jury_67 ?_
  refine lv_icmp_ge (tgt := 144) hx hb dX6_jury_70 (by decide) (fun c13 => ?_) (fun c13 => ?_)
  · rw [if_pos c13] at hf
    exact KX _ (Option.some.inj hf).symm _ _ _ hP hS (lv_sub hl [0] rfl)
  · rw [if_neg c13] at hf
    refine lv_aload_n hx hb dX6_jury_73 rfl (lv_at hl 0 rfl) ?_
    refine hj_get (ci := 6) (v := .ref (ad 3)) (C := RX6) (T := TX6) (N := 24) hx hb hts iX6_jury_X6 hown hK hP (by decide) rfl rfl 4 (by decide) mX6_jury_5 rfl dX6_jury_74 ?_
    refine lv_iconst (v := 0) hx hb dX6_jury_77 (by decide) ?_
    refine lv_dup2_11 hx hb dX6_jury_78 rfl rfl ?_
    obtain ⟨hk14, hf⟩ := hj_ck_s hf
    refine hj_ial (f := τ.2 4) hx hb hK hP (by decide) rfl hk14 dX6_jury_79 ?_
    refine lv_aload_n hx hb dX6_jury_80 rfl (lv_at hl 0 rfl) ?_
    refine hj_get (ci := 6) (v := .ref (ad 4)) (C := RX6) (T := TX6) (N := 24) hx hb hts iX6_jury_X6 hown hK hP (by decide) rfl rfl 5 (by decide) mX6_jury_6 rfl dX6_jury_81 ?_
    refine lv_iconst (v := 3) hx hb dX6_jury_84 (by decide) ?_
    refine lv_iload_n hx hb dX6_jury_85 rfl (lv_at hl 1 rfl) ?_
    refine lv_imul hx hb dX6_jury_86 ?_
    obtain ⟨hk15, hf⟩ := hj_ck_s hf
    refine hj_ial (f := τ.2 5) hx hb hK hP (by decide) rfl hk15 dX6_jury_87 ?_
    refine lv_iload_n hx hb dX6_jury_88 rfl (lv_at hl 1 rfl) ?_
    refine lv_ishl hx hb dX6_jury_89 ?_
    refine lv_ior hx hb dX6_jury_90 ?_
    obtain ⟨hk16, hf⟩ := hj_ck_s hf
    refine hj_ias (f := τ.2 4) (v := ((τ.2 4 (0 : Int32).toNatClampNeg) ||| ((τ.2 5 (3 * x1).toNatClampNeg) <<< (x1 &&& 31)))) hx hb hK hI hP hS (by decide) rfl hk16 dX6_jury_91 (wm_a2 (τ := τ) (x := (0 : Int32)) (v := ((τ.2 4 (0 : Int32).toNatClampNeg) ||| ((τ.2 5 (3 * x1).toNatClampNeg) <<< (x1 &&& 31)))) 3 4 rfl (by decide) (by decide) (by decide)) (fun H locs hP hS => ?_)
    obtain ⟨τ17, eτ17⟩ : ∃ z : hj_Ob, z = hj_a τ 4 (0 : Int32) ((τ.2 4 (0 : Int32).toNatClampNeg) ||| ((τ.2 5 (3 * x1).toNatClampNeg) <<< (x1 &&& 31))) := ⟨_, rfl⟩
    replace hf := hj_nm_y hf eτ17
    rw [← eτ17] at hP
    refine lv_aload_n hx hb dX6_jury_92 rfl (lv_at hl 0 rfl) ?_
    refine hj_get (ci := 6) (v := .ref (ad 3)) (C := RX6) (T := TX6) (N := 24) hx hb hts iX6_jury_X6 hown hK hP (by decide) rfl rfl 4 (by decide) mX6_jury_5 rfl dX6_jury_93 ?_
    refine lv_iconst (v := 3) hx hb dX6_jury_96 (by decide) ?_
    refine lv_iload_n hx hb dX6_jury_97 rfl (lv_at hl 1 rfl) ?_
    refine lv_iadd hx hb dX6_jury_98 ?_
    refine lv_aload_n hx hb dX6_jury_99 rfl (lv_at hl 0 rfl) ?_
    refine hj_get (ci := 6) (v := .ref (ad 4)) (C := RX6) (T := TX6) (N := 24) hx hb hts iX6_jury_X6 hown hK hP (by decide) rfl rfl 5 (by decide) mX6_jury_6 rfl dX6_jury_100 ?_
    refine lv_iconst (v := 3) hx hb dX6_jury_103 (by decide) ?_
    refine lv_iload_n hx hb dX6_jury_104 rfl (lv_at hl 1 rfl) ?_
    refine lv_imul hx hb dX6_jury_105 ?_
    refine lv_iconst (v := 1) hx hb dX6_jury_106 (by decide) ?_
    refine lv_iadd hx hb dX6_jury_107 ?_
    obtain ⟨hk18, hf⟩ := hj_ck_s hf
    refine hj_ial (f := τ17.2 5) hx hb hK hP (by decide) rfl hk18 dX6_jury_108 ?_
    obtain ⟨hk19, hf⟩ := hj_ck_s hf
    refine hj_ias (f := τ17.2 4) (v := (τ17.2 5 ((3 * x1) + 1).toNatClampNeg)) hx hb hK hI hP hS (by decide) rfl hk19 dX6_jury_109 (wm_a2 (τ := τ17) (x := (3 + x1)) (v := (τ17.2 5 ((3 * x1) + 1).toNatClampNeg)) 3 4 rfl (by decide) (by decide) (by decide)) (fun H locs hP hS => ?_)
    obtain ⟨τ20, eτ20⟩ : ∃ z : hj_Ob, z = hj_a τ17 4 (3 + x1) (τ17.2 5 ((3 * x1) + 1).toNatClampNeg) := ⟨_, rfl⟩
    replace hf := hj_nm_y hf eτ20
    rw [← eτ20] at hP
    refine lv_aload_n hx hb dX6_jury_110 rfl (lv_at hl 0 rfl) ?_
    refine hj_get (ci := 6) (v := .ref (ad 1)) (C := RX6) (T := TX6) (N := 24) hx hb hts iX6_jury_X6 hown hK hP (by decide) rfl rfl 2 (by decide) mX6_jury_7 rfl dX6_jury_111 ?_
    refine lv_iload_n hx hb dX6_jury_114 rfl (lv_at hl 1 rfl) ?_
    refine lv_aload_n hx hb dX6_jury_115 rfl (lv_at hl 0 rfl) ?_
    refine hj_get (ci := 6) (v := .ref (ad 4)) (C := RX6) (T := TX6) (N := 24) hx hb hts iX6_jury_X6 hown hK hP (by decide) rfl rfl 5 (by decide) mX6_jury_6 rfl dX6_jury_116 ?_
    refine lv_iconst (v := 3) hx hb dX6_jury_119 (by decide) ?_
    refine lv_iload_n hx hb dX6_jury_120 rfl (lv_at hl 1 rfl) ?_
    refine lv_imul hx hb dX6_jury_121 ?_
    refine lv_iconst (v := 2) hx hb dX6_jury_122 (by decide) ?_
    refine lv_iadd hx hb dX6_jury_123 ?_
    obtain ⟨hk21, hf⟩ := hj_ck_s hf
    refine hj_ial (f := τ20.2 5) hx hb hK hP (by decide) rfl hk21 dX6_jury_124 ?_
    obtain ⟨hk22, hf⟩ := hj_ck_s hf
    refine hj_ias (f := τ20.2 2) (v := (τ20.2 5 ((3 * x1) + 2).toNatClampNeg)) hx hb hK hI hP hS (by decide) rfl hk22 dX6_jury_125 (wm_a2 (τ := τ20) (x := x1) (v := (τ20.2 5 ((3 * x1) + 2).toNatClampNeg)) 1 2 rfl (by decide) (by decide) (by decide)) (fun H locs hP hS => ?_)
    obtain ⟨τ23, eτ23⟩ : ∃ z : hj_Ob, z = hj_a τ20 2 x1 (τ20.2 5 ((3 * x1) + 2).toNatClampNeg) := ⟨_, rfl⟩
    replace hf := hj_nm_y hf eτ23
    rw [← eτ23] at hP
    refine lv_aload_n hx hb dX6_jury_126 rfl (lv_at hl 0 rfl) ?_
    refine hj_get (ci := 6) (v := .ref (ad 2)) (C := RX6) (T := TX6) (N := 24) hx hb hts iX6_jury_X6 hown hK hP (by decide) rfl rfl 3 (by decide) mX6_jury_8 rfl dX6_jury_127 ?_
    refine lv_iload_n hx hb dX6_jury_130 rfl (lv_at hl 1 rfl) ?_
    refine lv_aload_n hx hb dX6_jury_131 rfl (lv_at hl 0 rfl) ?_
    refine hj_get (ci := 6) (v := .ref (ad 5)) (C := RX6) (T := TX6) (N := 24) hx hb hts iX6_jury_X6 hown hK hP (by decide) rfl rfl 6 (by decide) mX6_jury_9 rfl dX6_jury_132 ?_
    refine lv_iload_n hx hb dX6_jury_135 rfl (lv_at hl 1 rfl) ?_
    obtain ⟨hk24, hf⟩ := hj_ck_s hf
    refine hj_ial (f := τ23.2 6) hx hb hK hP (by decide) rfl hk24 dX6_jury_136 ?_
    obtain ⟨hk25, hf⟩ := hj_ck_s hf
    refine hj_ias (f := τ23.2 3) (v := (τ23.2 6 x1.toNatClampNeg)) hx hb hK hI hP hS (by decide) rfl hk25 dX6_jury_137 (wm_a2 (τ := τ23) (x := x1) (v := (τ23.2 6 x1.toNatClampNeg)) 2 3 rfl (by decide) (by decide) (by decide)) (fun H locs hP hS => ?_)
    obtain ⟨τ26, eτ26⟩ : ∃ z : hj_Ob, z = hj_a τ23 3 x1 (τ23.2 6 x1.toNatClampNeg) := ⟨_, rfl⟩
    replace hf := hj_nm_y hf eτ26
    rw [← eτ26] at hP
    obtain ⟨y27, ey27⟩ : ∃ z : Int32, z = x1 + 1 := ⟨_, rfl⟩
    replace hf := hj_nm_y hf ey27
    refine lv_iinc (v := y27) (lv' := [(1, .int y27), (0, .ref (ad 0))]) hx hb dX6_jury_138 hl (k := 1) rfl (by rw [ey27]; rfl) (by decide) rfl (fun ls hl => ?_)
    refine lv_goto (tgt := 65) hx hb dX6_jury_141 (by decide) ?_
    exact KI _ _ (Option.some.inj hf).symm _ _ _ hP hS (lv_sub hl [1, 0] rfl)
set_option maxHeartbeats 4000000 in
set_option maxRecDepth 100000 in
theorem wX6_jury_65 {p : Program} {l : Launch} {e : Env} {s : State} {m : MethodId} {args : Array Value} {below : List Frame} {meth : Method} {c : Code} {g : hj_G} {ad : Nat → Nat} (hI : hj_I 13 ad) (C : hj_C p s m args meth c cX6_jury RX6 wsX6_jury 2 (some .int)) (hK : hj_K g s) {sd : Int64} {rF : Int32} {τF : hj_Ob} {τe : hj_Ob} :
    ∀ (fu : Nat) (x1 : Int32) (τ : hj_Ob), hj_lp (fun q : (Int32 × hj_Ob) => fX6_jury_65 q.2 sd q.1) fu (x1, τ) = some τe → (∀ (H : Heap) (locs : List Loc) (ls : Array Slot), hj_P g 13 ad (hj_wm g ad τe sd) H → hj_S 13 ad s H locs → lv_has ls 2 [(0, .ref (ad 0))] → W p l e rmX6_jury s m args below meth c H locs 0 0 (MQ below (hj_QI g 13 ad (hj_wm g ad τF sd) rF s.heap.size) args s 0 0 (hj_A 13 ad s.heap.size)) (F0 m 144 ls [])) → ∀ (H : Heap) (locs : List Loc) (ls : Array Slot), hj_P g 13 ad (hj_wm g ad τ sd) H → hj_S 13 ad s H locs → lv_has ls 2 [(0, .ref (ad 0)), (1, .int x1)] →
    W p l e rmX6_jury s m args below meth c H locs 0 0 (MQ below (hj_QI g 13 ad (hj_wm g ad τF sd) rF s.heap.size) args s 0 0 (hj_A 13 ad s.heap.size)) (F0 m 65 ls []) := by
  intro fu
  induction fu with
  | zero => intro x1 τ hq; cases hq
  | succ fu ih =>
    intro x1 τ hq KX H locs ls hP hS hl
    obtain ⟨y, hy, h1, h2⟩ := hj_lp_s hq
    exact wX6_jury_65b hI C hK  hy (fun τ' hv H locs ls hP hS hl => by obtain rfl := h1 _ hv; exact KX H locs ls hP hS hl) (fun v1 τ' hv H locs ls hP hS hl => ih v1 τ' (h2 _ hv) KX H locs ls hP hS hl) hP hS hl
def fX6_jury (τ : hj_Ob) (sd : Int64) : Option (Int32 × hj_Ob) :=
  hj_o2 (fX6_readText τ sd) fun r1 τ2 => if r1 = (-9) then (hj_nm (hj_s τ2 0 (τ2.1 7)) fun τ4 => hj_nm (hj_s τ4 1 (τ4.1 8)) fun τ5 => hj_o1 (hj_lp (fun q : (Int32 × hj_Ob) => fX6_jury_30 q.2 sd q.1) 100 (0, τ5)) fun τ10 => (hj_ck (1 : Int32) 30 (hj_nm (hj_a τ10 4 (1 : Int32) (((1 : Int32) <<< ((τ10.1 0) &&& 31)) - 1)) fun τ12 => hj_o1 (hj_lp (fun q : (Int32 × hj_Ob) => fX6_jury_65 q.2 sd q.1) 100 (0, τ12)) fun τ28 => (hj_nm (hj_s τ28 13 0) fun τ29 => hj_ck (0 : Int32) 2 (hj_nm (hj_a τ29 22 (0 : Int32) (vp_nar .boolean 0)) fun τ31 => hj_ck (1 : Int32) 2 (hj_nm (hj_a τ31 22 (1 : Int32) (vp_nar .boolean 0)) fun τ33 => some (τ33.1 0, τ33))))))) else (some ((-3), τ2))
set_option maxHeartbeats 4000000 in
set_option maxRecDepth 100000 in
theorem wX6_jury {p : Program} {l : Launch} {e : Env} {s : State} {m : MethodId} {args : Array Value} {below : List Frame} {meth : Method} {c : Code} {g : hj_G} {ad : Nat → Nat} (hI : hj_I 13 ad) (C : hj_C p s m args meth c cX6_jury RX6 wsX6_jury 2 (some .int)) (hK : hj_K g s) {τ : hj_Ob} {sd : Int64} {rF : Int32} {τF : hj_Ob}
    (hf : fX6_jury τ sd = some (rF, τF)) {H : Heap} {locs : List Loc} {ls : Array Slot} (hP : hj_P g 13 ad (hj_wm g ad τ sd) H) (hS : hj_S 13 ad s H locs) (hl : lv_has ls 2 [(0, .ref (ad 0))]) :
    W p l e rmX6_jury s m args below meth c H locs 0 0 (MQ below (hj_QI g 13 ad (hj_wm g ad τF sd) rF s.heap.size) args s 0 0 (hj_A 13 ad s.heap.size)) (F0 m 0 ls []) := by
  obtain ⟨hx, hb, hr, hml, hown, hts, hlocks⟩ := id C
  unfold fX6_jury at hf
  refine lv_aload_n hx hb dX6_jury_0 rfl (lv_at hl 0 rfl) ?_
  obtain ⟨r1, τ2, hc, hf⟩ := hj_o2_s hf
  refine hj_callVi (nL := 2) (As := []) (rest := []) (i0 := 0) (C := RX6) (T := TX6) (N := 24) (ci := 6) ⟨hx, hb, hml, hown, hts⟩ (ctX6_readText l g hI hc) (cwV 0 hts gX6_jury_X6_readText rfl rfl rfl (by decide +kernel) ⟨Nat.le_of_ble_eq_true rfl, Nat.le_of_ble_eq_true rfl⟩) hj_Xb0 (fun _ _ _ => trivial) hK hP hS (by decide) rfl rfl rfl hl.1 rfl (Nat.le_of_ble_eq_true rfl) dX6_jury_1 (fun H locs hP hS => ?_)
  refine lv_bipush (v := (-9)) hx hb dX6_jury_4 (by decide) ?_
  refine lv_icmp_eq (tgt := 12) hx hb dX6_jury_6 (by decide) (fun c3 => ?_) (fun c3 => ?_)
  · rw [if_pos c3] at hf
    refine lv_aload_n hx hb dX6_jury_12 rfl (lv_at hl 0 rfl) ?_
    refine lv_aload_n hx hb dX6_jury_13 rfl (lv_at hl 0 rfl) ?_
    refine hj_get (ci := 6) (v := .int (τ2.1 7)) (C := RX6) (T := TX6) (N := 24) hx hb hts iX6_jury_X6 hown hK hP (by decide) rfl rfl 7 (by decide) mX6_jury_1 rfl dX6_jury_14 ?_
    refine hj_put (ci := 6) (v := .int (τ2.1 7)) (C := RX6) (T := TX6) (N := 24) hx hb hts iX6_jury_X6 tyX6 tyX6_ok nmX6 hown hK hI hP hS (by decide) rfl rfl 0 (by decide) mX6_jury_2 rfl rfl rfl (Nat.le_of_ble_eq_true rfl) dX6_jury_17 (wm_s (τ := τ2) (k := 0) (v := τ2.1 7) rfl) (fun H locs hP hS => ?_)
    obtain ⟨τ4, eτ4⟩ : ∃ z : hj_Ob, z = hj_s τ2 0 (τ2.1 7) := ⟨_, rfl⟩
    replace hf := hj_nm_y hf eτ4
    rw [← eτ4] at hP
    refine lv_aload_n hx hb dX6_jury_20 rfl (lv_at hl 0 rfl) ?_
    refine lv_aload_n hx hb dX6_jury_21 rfl (lv_at hl 0 rfl) ?_
    refine hj_get (ci := 6) (v := .int (τ4.1 8)) (C := RX6) (T := TX6) (N := 24) hx hb hts iX6_jury_X6 hown hK hP (by decide) rfl rfl 8 (by decide) mX6_jury_3 rfl dX6_jury_22 ?_
    refine hj_put (ci := 6) (v := .int (τ4.1 8)) (C := RX6) (T := TX6) (N := 24) hx hb hts iX6_jury_X6 tyX6 tyX6_ok nmX6 hown hK hI hP hS (by decide) rfl rfl 1 (by decide) mX6_jury_4 rfl rfl rfl (Nat.le_of_ble_eq_true rfl) dX6_jury_25 (wm_s (τ := τ4) (k := 1) (v := τ4.1 8) rfl) (fun H locs hP hS => ?_)
    obtain ⟨τ5, eτ5⟩ : ∃ z : hj_Ob, z = hj_s τ4 1 (τ4.1 8) := ⟨_, rfl⟩
    replace hf := hj_nm_y hf eτ5
    rw [← eτ5] at hP
    refine lv_iconst (v := 0) hx hb dX6_jury_28 (by decide) ?_
    refine lv_istore_n (lv' := [(1, .int 0), (0, .ref (ad 0))]) hx hb dX6_jury_29 rfl hl (by decide) rfl (fun ls hl => ?_)
    obtain ⟨τ10, hlx, hf⟩ := hj_o1_s hf
    refine wX6_jury_30 hI C hK  100 0 τ5 hlx (fun H locs ls hP hS hl => ?_) H locs ls hP hS (lv_sub hl [1, 0] rfl)
    refine lv_aload_n hx hb dX6_jury_49 rfl (lv_at hl 0 rfl) ?_
    refine hj_get (ci := 6) (v := .ref (ad 3)) (C := RX6) (T := TX6) (N := 24) hx hb hts iX6_jury_X6 hown hK hP (by decide) rfl rfl 4 (by decide) mX6_jury_5 rfl dX6_jury_50 ?_
    refine lv_iconst (v := 1) hx hb dX6_jury_53 (by decide) ?_
    refine lv_iconst (v := 1) hx hb dX6_jury_54 (by decide) ?_
    refine lv_aload_n hx hb dX6_jury_55 rfl (lv_at hl 0 rfl) ?_
    refine hj_get (ci := 6) (v := .int (τ10.1 0)) (C := RX6) (T := TX6) (N := 24) hx hb hts iX6_jury_X6 hown hK hP (by decide) rfl rfl 0 (by decide) mX6_jury_2 rfl dX6_jury_56 ?_
    refine lv_ishl hx hb dX6_jury_59 ?_
    refine lv_iconst (v := 1) hx hb dX6_jury_60 (by decide) ?_
    refine lv_isub hx hb dX6_jury_61 ?_
    obtain ⟨hk11, hf⟩ := hj_ck_s hf
    refine hj_ias (f := τ10.2 4) (v := (((1 : Int32) <<< ((τ10.1 0) &&& 31)) - 1)) hx hb hK hI hP hS (by decide) rfl hk11 dX6_jury_62 (wm_a2 (τ := τ10) (x := (1 : Int32)) (v := (((1 : Int32) <<< ((τ10.1 0) &&& 31)) - 1)) 3 4 rfl (by decide) (by decide) (by decide)) (fun H locs hP hS => ?_)
    obtain ⟨τ12, eτ12⟩ : ∃ z : hj_Ob, z = hj_a τ10 4 (1 : Int32) (((1 : Int32) <<< ((τ10.1 0) &&& 31)) - 1) := ⟨_, rfl⟩
    replace hf := hj_nm_y hf eτ12
    rw [← eτ12] at hP
    refine lv_iconst (v := 0) hx hb dX6_jury_63 (by decide) ?_
    refine lv_istore_n (lv' := [(1, .int 0), (0, .ref (ad 0))]) hx hb dX6_jury_64 rfl hl (by decide) rfl (fun ls hl => ?_)
    obtain ⟨τ28, hlx, hf⟩ := hj_o1_s hf
    refine wX6_jury_65 hI C hK  100 0 τ12 hlx (fun H locs ls hP hS hl => ?_) H locs ls hP hS (lv_sub hl [1, 0] rfl)
    refine lv_aload_n hx hb dX6_jury_144 rfl (lv_at hl 0 rfl) ?_
    refine lv_iconst (v := 0) hx hb dX6_jury_145 (by decide) ?_
    refine hj_put (ci := 6) (v := .int 0) (C := RX6) (T := TX6) (N := 24) hx hb hts iX6_jury_X6 tyX6 tyX6_ok nmX6 hown hK hI hP hS (by decide) rfl rfl 13 (by decide) mX6_jury_10 rfl rfl rfl (Nat.le_of_ble_eq_true rfl) dX6_jury_146 (wm_s (τ := τ28) (k := 13) (v := 0) rfl) (fun H locs hP hS => ?_)
    obtain ⟨τ29, eτ29⟩ : ∃ z : hj_Ob, z = hj_s τ28 13 0 := ⟨_, rfl⟩
    replace hf := hj_nm_y hf eτ29
    rw [← eτ29] at hP
    refine lv_aload_n hx hb dX6_jury_149 rfl (lv_at hl 0 rfl) ?_
    refine hj_get (ci := 6) (v := .ref (ad 11)) (C := RX6) (T := TX6) (N := 24) hx hb hts iX6_jury_X6 hown hK hP (by decide) rfl rfl 22 (by decide) mX6_jury_11 rfl dX6_jury_150 ?_
    refine lv_iconst (v := 0) hx hb dX6_jury_153 (by decide) ?_
    refine lv_iconst (v := 0) hx hb dX6_jury_154 (by decide) ?_
    obtain ⟨hk30, hf⟩ := hj_ck_s hf
    refine hj_zas (f := τ29.2 22) (v := 0) hx hb hK hI hP hS (by decide) rfl hk30 dX6_jury_155 (wm_z (τ := τ29) (x := (0 : Int32)) (v := (vp_nar .boolean 0))) (fun H locs hP hS => ?_)
    obtain ⟨τ31, eτ31⟩ : ∃ z : hj_Ob, z = hj_a τ29 22 (0 : Int32) (vp_nar .boolean 0) := ⟨_, rfl⟩
    replace hf := hj_nm_y hf eτ31
    rw [← eτ31] at hP
    refine lv_aload_n hx hb dX6_jury_156 rfl (lv_at hl 0 rfl) ?_
    refine hj_get (ci := 6) (v := .ref (ad 11)) (C := RX6) (T := TX6) (N := 24) hx hb hts iX6_jury_X6 hown hK hP (by decide) rfl rfl 22 (by decide) mX6_jury_11 rfl dX6_jury_157 ?_
    refine lv_iconst (v := 1) hx hb dX6_jury_160 (by decide) ?_
    refine lv_iconst (v := 0) hx hb dX6_jury_161 (by decide) ?_
    obtain ⟨hk32, hf⟩ := hj_ck_s hf
    refine hj_zas (f := τ31.2 22) (v := 0) hx hb hK hI hP hS (by decide) rfl hk32 dX6_jury_162 (wm_z (τ := τ31) (x := (1 : Int32)) (v := (vp_nar .boolean 0))) (fun H locs hP hS => ?_)
    obtain ⟨τ33, eτ33⟩ : ∃ z : hj_Ob, z = hj_a τ31 22 (1 : Int32) (vp_nar .boolean 0) := ⟨_, rfl⟩
    replace hf := hj_nm_y hf eτ33
    rw [← eτ33] at hP
    refine lv_aload_n hx hb dX6_jury_163 rfl (lv_at hl 0 rfl) ?_
    refine hj_get (ci := 6) (v := .int (τ33.1 0)) (C := RX6) (T := TX6) (N := 24) hx hb hts iX6_jury_X6 hown hK hP (by decide) rfl rfl 0 (by decide) mX6_jury_2 rfl dX6_jury_164 ?_
    have hq := Option.some.inj hf
    obtain ⟨rfl, rfl⟩ := Prod.mk.inj hq
    exact hj_reti C hP hK hS dX6_jury_167
  · rw [if_neg c3] at hf
    refine lv_bipush (v := (-3)) hx hb dX6_jury_9 (by decide) ?_
    have hq := Option.some.inj hf
    obtain ⟨rfl, rfl⟩ := Prod.mk.inj hq
    exact hj_reti C hP hK hS dX6_jury_11
set_option maxHeartbeats 4000000 in
set_option maxRecDepth 100000 in
theorem ctX6_jury (l : Launch) (g : hj_G) {ad : Nat → Nat} (hI : hj_I 13 ad) {τ : hj_Ob} {sd : Int64} {rF : Int32} {τF : hj_Ob} (hf : fX6_jury τ sd = some (rF, τF)) :
    hj_MI l yX6_jury wsX6_jury rmX6_jury g 13 ad hj_X0 [.ref (ad 0)] (hj_wm g ad τ sd) rF (hj_wm g ad τF sd) := by
  refine hj_ofI (cc := cX6_jury) (maxL := 2) (ret := (some .int)) (by decide) rfl (Nat.le_of_ble_eq_true rfl) ?_
  intro p e s m args below meth c ls C hP hK hX hl
  exact wX6_jury hI C hK hf hP va_S.rf hl

/-! X6_isJuror -/
abbrev rmX6_isJuror : Room := { frames := 1, cells := 0, slots := 0, locals := 25 }
theorem iX6_isJuror_X6 : ∀ w ∈ wsX60, w ∈ wsX6_isJuror := fun _ h => List.mem_cons_of_mem _ (List.mem_append_right _ h)
theorem mX6_isJuror_1 : Cond.fieldLink RX6 96 "HungryJuryModel" "jurors" "I" ∈ wsX6_isJuror := List.mem_of_getElem? (i := 1) rfl
def fX6_isJuror (τ : hj_Ob) (sd : Int64) (x1 : Int32) : Option Int32 :=
  hj_o1 (fX6_in x1.toInt64 0 (((τ.1 0) - 1).toInt64)) fun r1 => hj_bz r1 (some r1)
set_option maxHeartbeats 4000000 in
set_option maxRecDepth 100000 in
theorem wX6_isJuror {p : Program} {l : Launch} {e : Env} {s : State} {m : MethodId} {args : Array Value} {below : List Frame} {meth : Method} {c : Code} {g : hj_G} {ad : Nat → Nat} (hI : hj_I 13 ad) (C : hj_C p s m args meth c cX6_isJuror RX6 wsX6_isJuror 2 (some .boolean)) (hK : hj_K g s) {τ : hj_Ob} {sd : Int64} {x1 : Int32} {rF : Int32}
    (hf : fX6_isJuror τ sd x1 = some rF) {H : Heap} {locs : List Loc} {ls : Array Slot} (hP : hj_P g 13 ad (hj_wm g ad τ sd) H) (hS : hj_S 13 ad s H locs) (hl : lv_has ls 2 [(0, .ref (ad 0)), (1, .int x1)]) :
    W p l e rmX6_isJuror s m args below meth c H locs 0 0 (MQ below (hj_QI g 13 ad (hj_wm g ad τ sd) rF s.heap.size) args s 0 0 (hj_A 13 ad s.heap.size)) (F0 m 0 ls []) := by
  obtain ⟨hx, hb, hr, hml, hown, hts, hlocks⟩ := id C
  unfold fX6_isJuror at hf
  refine lv_iload_n hx hb dX6_isJuror_0 rfl (lv_at hl 1 rfl) ?_
  refine lv_i2l (v := x1.toInt64) hx hb dX6_isJuror_1 rfl ?_
  refine lv_lconst (v := 0) hx hb dX6_isJuror_2 (by decide) ?_
  refine lv_aload_n hx hb dX6_isJuror_3 rfl (lv_at hl 0 rfl) ?_
  refine hj_get (ci := 6) (v := .int (τ.1 0)) (C := RX6) (T := TX6) (N := 24) hx hb hts iX6_isJuror_X6 hown hK hP (by decide) rfl rfl 0 (by decide) mX6_isJuror_1 rfl dX6_isJuror_4 ?_
  refine lv_iconst (v := 1) hx hb dX6_isJuror_7 (by decide) ?_
  refine lv_isub hx hb dX6_isJuror_8 ?_
  refine lv_i2l (v := ((τ.1 0) - 1).toInt64) hx hb dX6_isJuror_9 rfl ?_
  obtain ⟨r1, hc, hf⟩ := hj_o1_s hf
  refine hj_callSi (nL := 2) (As := [.long x1.toInt64, .long 0, .long (((τ.1 0) - 1).toInt64)]) (rest := []) ⟨hx, hb, hml, hown, hts⟩ (ctX6_in l g (n := 13) (ad := ad) (w := (hj_wm g ad τ sd)) hc) (va_cwS 3 hts gX6_isJuror_X6_in rfl rfl rfl (by decide +kernel) ⟨Nat.le_of_ble_eq_true rfl, Nat.le_of_ble_eq_true rfl⟩) hj_Xb0 (fun _ _ _ => trivial) hK hP hS rfl hl.1 rfl (Nat.le_of_ble_eq_true rfl) dX6_isJuror_10 (fun H locs hP hS => ?_)
  obtain ⟨hz, hf⟩ := hj_bz_s hf
  have hq := Option.some.inj hf
  obtain rfl := hq
  exact hj_retz hz  C hP hK hS dX6_isJuror_13
set_option maxHeartbeats 4000000 in
set_option maxRecDepth 100000 in
theorem ctX6_isJuror (l : Launch) (g : hj_G) {ad : Nat → Nat} (hI : hj_I 13 ad) {τ : hj_Ob} {sd : Int64} {x1 : Int32} {rF : Int32} (hf : fX6_isJuror τ sd x1 = some rF) :
    hj_MI l yX6_isJuror wsX6_isJuror rmX6_isJuror g 13 ad hj_X0 [.ref (ad 0), .int x1] (hj_wm g ad τ sd) rF (hj_wm g ad τ sd) := by
  refine hj_ofI (cc := cX6_isJuror) (maxL := 2) (ret := (some .boolean)) (by decide) rfl (Nat.le_of_ble_eq_true rfl) ?_
  intro p e s m args below meth c ls C hP hK hX hl
  exact wX6_isJuror hI C hK hf hP va_S.rf hl

/-! X6_isThere -/
abbrev rmX6_isThere : Room := { frames := 1, cells := 0, slots := 0, locals := 21 }
theorem iX6_isThere_X6 : ∀ w ∈ wsX60, w ∈ wsX6_isThere := fun _ h => List.mem_cons_of_mem _ (List.mem_append_right _ h)
theorem mX6_isThere_1 : Cond.fieldLink RX6 16 "HungryJuryModel" "now" "[I" ∈ wsX6_isThere := List.mem_of_getElem? (i := 1) rfl
def fX6_isThere (τ : hj_Ob) (sd : Int64) (x1 : Int32) (x2 : Int32) : Option Int32 :=
  hj_ck ((15 * x1) + 1) 30 (hj_o1 (fX6_has (τ.2 4 ((15 * x1) + 1).toNatClampNeg) x2) fun r2 => hj_bz r2 (some r2))
set_option maxHeartbeats 4000000 in
set_option maxRecDepth 100000 in
theorem wX6_isThere {p : Program} {l : Launch} {e : Env} {s : State} {m : MethodId} {args : Array Value} {below : List Frame} {meth : Method} {c : Code} {g : hj_G} {ad : Nat → Nat} (hI : hj_I 13 ad) (C : hj_C p s m args meth c cX6_isThere RX6 wsX6_isThere 3 (some .boolean)) (hK : hj_K g s) {τ : hj_Ob} {sd : Int64} {x1 : Int32} {x2 : Int32} {rF : Int32}
    (hf : fX6_isThere τ sd x1 x2 = some rF) {H : Heap} {locs : List Loc} {ls : Array Slot} (hP : hj_P g 13 ad (hj_wm g ad τ sd) H) (hS : hj_S 13 ad s H locs) (hl : lv_has ls 3 [(0, .ref (ad 0)), (1, .int x1), (2, .int x2)]) :
    W p l e rmX6_isThere s m args below meth c H locs 0 0 (MQ below (hj_QI g 13 ad (hj_wm g ad τ sd) rF s.heap.size) args s 0 0 (hj_A 13 ad s.heap.size)) (F0 m 0 ls []) := by
  obtain ⟨hx, hb, hr, hml, hown, hts, hlocks⟩ := id C
  unfold fX6_isThere at hf
  refine lv_aload_n hx hb dX6_isThere_0 rfl (lv_at hl 0 rfl) ?_
  refine hj_get (ci := 6) (v := .ref (ad 3)) (C := RX6) (T := TX6) (N := 24) hx hb hts iX6_isThere_X6 hown hK hP (by decide) rfl rfl 4 (by decide) mX6_isThere_1 rfl dX6_isThere_1 ?_
  refine lv_bipush (v := 15) hx hb dX6_isThere_4 (by decide) ?_
  refine lv_iload_n hx hb dX6_isThere_6 rfl (lv_at hl 1 rfl) ?_
  refine lv_imul hx hb dX6_isThere_7 ?_
  refine lv_iconst (v := 1) hx hb dX6_isThere_8 (by decide) ?_
  refine lv_iadd hx hb dX6_isThere_9 ?_
  obtain ⟨hk1, hf⟩ := hj_ck_s hf
  refine hj_ial (f := τ.2 4) hx hb hK hP (by decide) rfl hk1 dX6_isThere_10 ?_
  refine lv_iload_n hx hb dX6_isThere_11 rfl (lv_at hl 2 rfl) ?_
  obtain ⟨r2, hc, hf⟩ := hj_o1_s hf
  refine hj_callSi (nL := 3) (As := [.int (τ.2 4 ((15 * x1) + 1).toNatClampNeg), .int x2]) (rest := []) ⟨hx, hb, hml, hown, hts⟩ (ctX6_has l g (n := 13) (ad := ad) (w := (hj_wm g ad τ sd)) hc) (va_cwS 2 hts gX6_isThere_X6_has rfl rfl rfl (by decide +kernel) ⟨Nat.le_of_ble_eq_true rfl, Nat.le_of_ble_eq_true rfl⟩) hj_Xb0 (fun _ _ _ => trivial) hK hP hS rfl hl.1 rfl (Nat.le_of_ble_eq_true rfl) dX6_isThere_12 (fun H locs hP hS => ?_)
  obtain ⟨hz, hf⟩ := hj_bz_s hf
  have hq := Option.some.inj hf
  obtain rfl := hq
  exact hj_retz hz  C hP hK hS dX6_isThere_15
set_option maxHeartbeats 4000000 in
set_option maxRecDepth 100000 in
theorem ctX6_isThere (l : Launch) (g : hj_G) {ad : Nat → Nat} (hI : hj_I 13 ad) {τ : hj_Ob} {sd : Int64} {x1 : Int32} {x2 : Int32} {rF : Int32} (hf : fX6_isThere τ sd x1 x2 = some rF) :
    hj_MI l yX6_isThere wsX6_isThere rmX6_isThere g 13 ad hj_X0 [.ref (ad 0), .int x1, .int x2] (hj_wm g ad τ sd) rF (hj_wm g ad τ sd) := by
  refine hj_ofI (cc := cX6_isThere) (maxL := 3) (ret := (some .boolean)) (by decide) rfl (Nat.le_of_ble_eq_true rfl) ?_
  intro p e s m args below meth c ls C hP hK hX hl
  exact wX6_isThere hI C hK hf hP va_S.rf hl

/-! X6_verdict -/
abbrev rmX6_verdict : Room := { frames := 1, cells := 0, slots := 0, locals := 22 }
theorem iX6_verdict_X6 : ∀ w ∈ wsX60, w ∈ wsX6_verdict := fun _ h => List.mem_cons_of_mem _ (List.mem_append_right _ h)
theorem mX6_verdict_1 : Cond.fieldLink RX6 16 "HungryJuryModel" "now" "[I" ∈ wsX6_verdict := List.mem_of_getElem? (i := 1) rfl
theorem mX6_verdict_2 : Cond.fieldLink RX6 47 "HungryJuryModel" "need" "I" ∈ wsX6_verdict := List.mem_of_getElem? (i := 2) rfl
def fX6_verdict_69 (τ : hj_Ob) (sd : Int64) (x3 : Int32) (x4 : Int32) : Option Int32 :=
  if x4 < (τ.1 1) then (some 9) else (if x4 ≤ x3 then (some 9) else (some 0))
set_option maxHeartbeats 4000000 in
set_option maxRecDepth 100000 in
theorem wX6_verdict_69 {p : Program} {l : Launch} {e : Env} {s : State} {m : MethodId} {args : Array Value} {below : List Frame} {meth : Method} {c : Code} {g : hj_G} {ad : Nat → Nat} (hI : hj_I 13 ad) (C : hj_C p s m args meth c cX6_verdict RX6 wsX6_verdict 5 (some .int)) (hK : hj_K g s) {τ : hj_Ob} {sd : Int64} {x3 : Int32} {x4 : Int32} {rF : Int32}
    (hf : fX6_verdict_69 τ sd x3 x4 = some rF) {H : Heap} {locs : List Loc} {ls : Array Slot} (hP : hj_P g 13 ad (hj_wm g ad τ sd) H) (hS : hj_S 13 ad s H locs) (hl : lv_has ls 5 [(0, .ref (ad 0)), (3, .int x3), (4, .int x4)]) :
    W p l e rmX6_verdict s m args below meth c H locs 0 0 (MQ below (hj_QI g 13 ad (hj_wm g ad τ sd) rF s.heap.size) args s 0 0 (hj_A 13 ad s.heap.size)) (F0 m 69 ls []) := by
  obtain ⟨hx, hb, hr, hml, hown, hts, hlocks⟩ := id C
  unfold fX6_verdict_69 at hf
  refine lv_iload hx hb dX6_verdict_69 (lv_at hl 2 rfl) ?_
  refine lv_aload_n hx hb dX6_verdict_71 rfl (lv_at hl 0 rfl) ?_
  refine hj_get (ci := 6) (v := .int (τ.1 1)) (C := RX6) (T := TX6) (N := 24) hx hb hts iX6_verdict_X6 hown hK hP (by decide) rfl rfl 1 (by decide) mX6_verdict_2 rfl dX6_verdict_72 ?_
  refine lv_icmp_lt (tgt := 88) hx hb dX6_verdict_75 (by decide) (fun c10 => ?_) (fun c10 => ?_)
  · rw [if_pos c10] at hf
    refine lv_bipush (v := 9) hx hb dX6_verdict_88 (by decide) ?_
    have hq := Option.some.inj hf
    obtain rfl := hq
    exact hj_reti C hP hK hS dX6_verdict_90
  · rw [if_neg c10] at hf
    refine lv_iload hx hb dX6_verdict_78 (lv_at hl 2 rfl) ?_
    refine lv_iload_n hx hb dX6_verdict_80 rfl (lv_at hl 1 rfl) ?_
    refine lv_icmp_le (tgt := 88) hx hb dX6_verdict_81 (by decide) (fun c11 => ?_) (fun c11 => ?_)
    · rw [if_pos c11] at hf
      refine lv_bipush (v := 9) hx hb dX6_verdict_88 (by decide) ?_
      have hq := Option.some.inj hf
      obtain rfl := hq
      exact hj_reti C hP hK hS dX6_verdict_90
    · rw [if_neg c11] at hf
      refine lv_iconst (v := 0) hx hb dX6_verdict_84 (by decide) ?_
      refine lv_goto (tgt := 90) hx hb dX6_verdict_85 (by decide) ?_
      have hq := Option.some.inj hf
      obtain rfl := hq
      exact hj_reti C hP hK hS dX6_verdict_90
def fX6_verdict_44 (τ : hj_Ob) (sd : Int64) (x3 : Int32) (x4 : Int32) : Option Int32 :=
  if x3 < (τ.1 1) then (if x4 ≤ 0 then (fX6_verdict_69 τ sd x3 x4) else (if x3 = 0 then (some 0) else (fX6_verdict_69 τ sd x3 x4))) else (if x3 ≤ x4 then (if x4 ≤ 0 then (fX6_verdict_69 τ sd x3 x4) else (if x3 = 0 then (some 0) else (fX6_verdict_69 τ sd x3 x4))) else (some 1))
set_option maxHeartbeats 4000000 in
set_option maxRecDepth 100000 in
theorem wX6_verdict_44 {p : Program} {l : Launch} {e : Env} {s : State} {m : MethodId} {args : Array Value} {below : List Frame} {meth : Method} {c : Code} {g : hj_G} {ad : Nat → Nat} (hI : hj_I 13 ad) (C : hj_C p s m args meth c cX6_verdict RX6 wsX6_verdict 5 (some .int)) (hK : hj_K g s) {τ : hj_Ob} {sd : Int64} {x3 : Int32} {x4 : Int32} {rF : Int32}
    (hf : fX6_verdict_44 τ sd x3 x4 = some rF) {H : Heap} {locs : List Loc} {ls : Array Slot} (hP : hj_P g 13 ad (hj_wm g ad τ sd) H) (hS : hj_S 13 ad s H locs) (hl : lv_has ls 5 [(0, .ref (ad 0)), (3, .int x3), (4, .int x4)]) :
    W p l e rmX6_verdict s m args below meth c H locs 0 0 (MQ below (hj_QI g 13 ad (hj_wm g ad τ sd) rF s.heap.size) args s 0 0 (hj_A 13 ad s.heap.size)) (F0 m 44 ls []) := by
  obtain ⟨hx, hb, hr, hml, hown, hts, hlocks⟩ := id C
  unfold fX6_verdict_44 at hf
  refine lv_iload_n hx hb dX6_verdict_44 rfl (lv_at hl 1 rfl) ?_
  refine lv_aload_n hx hb dX6_verdict_45 rfl (lv_at hl 0 rfl) ?_
  refine hj_get (ci := 6) (v := .int (τ.1 1)) (C := RX6) (T := TX6) (N := 24) hx hb hts iX6_verdict_X6 hown hK hP (by decide) rfl rfl 1 (by decide) mX6_verdict_2 rfl dX6_verdict_46 ?_
  refine lv_icmp_lt (tgt := 60) hx hb dX6_verdict_49 (by decide) (fun c8 => ?_) (fun c8 => ?_)
  · rw [if_pos c8] at hf
    refine lv_iload hx hb dX6_verdict_60 (lv_at hl 2 rfl) ?_
    refine lv_if_le (tgt := 69) hx hb dX6_verdict_62 (by decide) (fun c9 => ?_) (fun c9 => ?_)
    · rw [if_pos c9] at hf
      exact wX6_verdict_69 hI C hK  hf hP hS (lv_sub hl [0, 1, 2] rfl)
    · rw [if_neg c9] at hf
      refine lv_iload_n hx hb dX6_verdict_65 rfl (lv_at hl 1 rfl) ?_
      refine lv_if_eq (tgt := 84) hx hb dX6_verdict_66 (by decide) (fun c12 => ?_) (fun c12 => ?_)
      · rw [if_pos c12] at hf
        refine lv_iconst (v := 0) hx hb dX6_verdict_84 (by decide) ?_
        refine lv_goto (tgt := 90) hx hb dX6_verdict_85 (by decide) ?_
        have hq := Option.some.inj hf
        obtain rfl := hq
        exact hj_reti C hP hK hS dX6_verdict_90
      · rw [if_neg c12] at hf
        exact wX6_verdict_69 hI C hK  hf hP hS (lv_sub hl [0, 1, 2] rfl)
  · rw [if_neg c8] at hf
    refine lv_iload_n hx hb dX6_verdict_52 rfl (lv_at hl 1 rfl) ?_
    refine lv_iload hx hb dX6_verdict_53 (lv_at hl 2 rfl) ?_
    refine lv_icmp_le (tgt := 60) hx hb dX6_verdict_55 (by decide) (fun c13 => ?_) (fun c13 => ?_)
    · rw [if_pos c13] at hf
      refine lv_iload hx hb dX6_verdict_60 (lv_at hl 2 rfl) ?_
      refine lv_if_le (tgt := 69) hx hb dX6_verdict_62 (by decide) (fun c14 => ?_) (fun c14 => ?_)
      · rw [if_pos c14] at hf
        exact wX6_verdict_69 hI C hK  hf hP hS (lv_sub hl [0, 1, 2] rfl)
      · rw [if_neg c14] at hf
        refine lv_iload_n hx hb dX6_verdict_65 rfl (lv_at hl 1 rfl) ?_
        refine lv_if_eq (tgt := 84) hx hb dX6_verdict_66 (by decide) (fun c15 => ?_) (fun c15 => ?_)
        · rw [if_pos c15] at hf
          refine lv_iconst (v := 0) hx hb dX6_verdict_84 (by decide) ?_
          refine lv_goto (tgt := 90) hx hb dX6_verdict_85 (by decide) ?_
          have hq := Option.some.inj hf
          obtain rfl := hq
          exact hj_reti C hP hK hS dX6_verdict_90
        · rw [if_neg c15] at hf
          exact wX6_verdict_69 hI C hK  hf hP hS (lv_sub hl [0, 1, 2] rfl)
    · rw [if_neg c13] at hf
      refine lv_iconst (v := 1) hx hb dX6_verdict_58 (by decide) ?_
      have hq := Option.some.inj hf
      obtain rfl := hq
      exact hj_reti C hP hK hS dX6_verdict_59
def fX6_verdict (τ : hj_Ob) (sd : Int64) (x1 : Int32) : Option Int32 :=
  hj_ck ((15 * x1) + 1) 30 (hj_nm (τ.2 4 ((15 * x1) + 1).toNatClampNeg) fun y2 => hj_ck (15 * x1) 30 (hj_o1 (fX6_ones ((τ.2 4 (15 * x1).toNatClampNeg) &&& y2)) fun r4 => hj_o1 (fX6_ones y2) fun r5 => hj_nm (r5 - r4) fun y6 => if r4 ≤ 0 then (fX6_verdict_44 τ sd r4 y6) else (if y6 = 0 then (some 1) else (fX6_verdict_44 τ sd r4 y6))))
set_option maxHeartbeats 4000000 in
set_option maxRecDepth 100000 in
theorem wX6_verdict {p : Program} {l : Launch} {e : Env} {s : State} {m : MethodId} {args : Array Value} {below : List Frame} {meth : Method} {c : Code} {g : hj_G} {ad : Nat → Nat} (hI : hj_I 13 ad) (C : hj_C p s m args meth c cX6_verdict RX6 wsX6_verdict 5 (some .int)) (hK : hj_K g s) {τ : hj_Ob} {sd : Int64} {x1 : Int32} {rF : Int32}
    (hf : fX6_verdict τ sd x1 = some rF) {H : Heap} {locs : List Loc} {ls : Array Slot} (hP : hj_P g 13 ad (hj_wm g ad τ sd) H) (hS : hj_S 13 ad s H locs) (hl : lv_has ls 5 [(0, .ref (ad 0)), (1, .int x1)]) :
    W p l e rmX6_verdict s m args below meth c H locs 0 0 (MQ below (hj_QI g 13 ad (hj_wm g ad τ sd) rF s.heap.size) args s 0 0 (hj_A 13 ad s.heap.size)) (F0 m 0 ls []) := by
  obtain ⟨hx, hb, hr, hml, hown, hts, hlocks⟩ := id C
  unfold fX6_verdict at hf
  refine lv_aload_n hx hb dX6_verdict_0 rfl (lv_at hl 0 rfl) ?_
  refine hj_get (ci := 6) (v := .ref (ad 3)) (C := RX6) (T := TX6) (N := 24) hx hb hts iX6_verdict_X6 hown hK hP (by decide) rfl rfl 4 (by decide) mX6_verdict_1 rfl dX6_verdict_1 ?_
  refine lv_bipush (v := 15) hx hb dX6_verdict_4 (by decide) ?_
  refine lv_iload_n hx hb dX6_verdict_6 rfl (lv_at hl 1 rfl) ?_
  refine lv_imul hx hb dX6_verdict_7 ?_
  refine lv_iconst (v := 1) hx hb dX6_verdict_8 (by decide) ?_
  refine lv_iadd hx hb dX6_verdict_9 ?_
  obtain ⟨hk1, hf⟩ := hj_ck_s hf
  refine hj_ial (f := τ.2 4) hx hb hK hP (by decide) rfl hk1 dX6_verdict_10 ?_
  refine lv_topi (fun y2 ey2 => ?_)
  replace hf := hj_nm_y hf ey2
  refine lv_istore_n (lv' := [(2, .int y2), (0, .ref (ad 0)), (1, .int x1)]) hx hb dX6_verdict_11 rfl hl (by decide) rfl (fun ls hl => ?_)
  refine lv_aload_n hx hb dX6_verdict_12 rfl (lv_at hl 1 rfl) ?_
  refine hj_get (ci := 6) (v := .ref (ad 3)) (C := RX6) (T := TX6) (N := 24) hx hb hts iX6_verdict_X6 hown hK hP (by decide) rfl rfl 4 (by decide) mX6_verdict_1 rfl dX6_verdict_13 ?_
  refine lv_bipush (v := 15) hx hb dX6_verdict_16 (by decide) ?_
  refine lv_iload_n hx hb dX6_verdict_18 rfl (lv_at hl 2 rfl) ?_
  refine lv_imul hx hb dX6_verdict_19 ?_
  obtain ⟨hk3, hf⟩ := hj_ck_s hf
  refine hj_ial (f := τ.2 4) hx hb hK hP (by decide) rfl hk3 dX6_verdict_20 ?_
  refine lv_iload_n hx hb dX6_verdict_21 rfl (lv_at hl 0 rfl) ?_
  refine lv_iand hx hb dX6_verdict_22 ?_
  obtain ⟨r4, hc, hf⟩ := hj_o1_s hf
  refine hj_callSi (nL := 5) (As := [.int ((τ.2 4 (15 * x1).toNatClampNeg) &&& y2)]) (rest := []) ⟨hx, hb, hml, hown, hts⟩ (ctX6_ones l g (n := 13) (ad := ad) (w := (hj_wm g ad τ sd)) hc) (va_cwS 1 hts gX6_verdict_X6_ones rfl rfl rfl (by decide +kernel) ⟨Nat.le_of_ble_eq_true rfl, Nat.le_of_ble_eq_true rfl⟩) hj_Xb0 (fun _ _ _ => trivial) hK hP hS rfl hl.1 rfl (Nat.le_of_ble_eq_true rfl) dX6_verdict_23 (fun H locs hP hS => ?_)
  refine lv_istore_n (lv' := [(3, .int r4), (2, .int y2), (0, .ref (ad 0)), (1, .int x1)]) hx hb dX6_verdict_26 rfl hl (by decide) rfl (fun ls hl => ?_)
  refine lv_iload_n hx hb dX6_verdict_27 rfl (lv_at hl 1 rfl) ?_
  obtain ⟨r5, hc, hf⟩ := hj_o1_s hf
  refine hj_callSi (nL := 5) (As := [.int y2]) (rest := []) ⟨hx, hb, hml, hown, hts⟩ (ctX6_ones l g (n := 13) (ad := ad) (w := (hj_wm g ad τ sd)) hc) (va_cwS 1 hts gX6_verdict_X6_ones rfl rfl rfl (by decide +kernel) ⟨Nat.le_of_ble_eq_true rfl, Nat.le_of_ble_eq_true rfl⟩) hj_Xb0 (fun _ _ _ => trivial) hK hP hS rfl hl.1 rfl (Nat.le_of_ble_eq_true rfl) dX6_verdict_28 (fun H locs hP hS => ?_)
  refine lv_iload_n hx hb dX6_verdict_31 rfl (lv_at hl 0 rfl) ?_
  refine lv_isub hx hb dX6_verdict_32 ?_
  refine lv_topi (fun y6 ey6 => ?_)
  replace hf := hj_nm_y hf ey6
  refine lv_istore (lv' := [(4, .int y6), (3, .int r4), (2, .int y2), (0, .ref (ad 0)), (1, .int x1)]) hx hb dX6_verdict_33 hl (by decide) rfl (fun ls hl => ?_)
  refine lv_iload_n hx hb dX6_verdict_35 rfl (lv_at hl 1 rfl) ?_
  refine lv_if_le (tgt := 44) hx hb dX6_verdict_36 (by decide) (fun c7 => ?_) (fun c7 => ?_)
  · rw [if_pos c7] at hf
    exact wX6_verdict_44 hI C hK  hf hP hS (lv_sub hl [3, 1, 0] rfl)
  · rw [if_neg c7] at hf
    refine lv_iload hx hb dX6_verdict_39 (lv_at hl 0 rfl) ?_
    refine lv_if_eq (tgt := 58) hx hb dX6_verdict_41 (by decide) (fun c16 => ?_) (fun c16 => ?_)
    · rw [if_pos c16] at hf
      refine lv_iconst (v := 1) hx hb dX6_verdict_58 (by decide) ?_
      have hq := Option.some.inj hf
      obtain rfl := hq
      exact hj_reti C hP hK hS dX6_verdict_59
    · rw [if_neg c16] at hf
      exact wX6_verdict_44 hI C hK  hf hP hS (lv_sub hl [3, 1, 0] rfl)
set_option maxHeartbeats 4000000 in
set_option maxRecDepth 100000 in
theorem ctX6_verdict (l : Launch) (g : hj_G) {ad : Nat → Nat} (hI : hj_I 13 ad) {τ : hj_Ob} {sd : Int64} {x1 : Int32} {rF : Int32} (hf : fX6_verdict τ sd x1 = some rF) :
    hj_MI l yX6_verdict wsX6_verdict rmX6_verdict g 13 ad hj_X0 [.ref (ad 0), .int x1] (hj_wm g ad τ sd) rF (hj_wm g ad τ sd) := by
  refine hj_ofI (cc := cX6_verdict) (maxL := 5) (ret := (some .int)) (by decide) rfl (Nat.le_of_ble_eq_true rfl) ?_
  intro p e s m args below meth c ls C hP hK hX hl
  exact wX6_verdict hI C hK hf hP va_S.rf hl

/-! X6_hungerOn -/
abbrev rmX6_hungerOn : Room := { frames := 0, cells := 0, slots := 0, locals := 0 }
theorem iX6_hungerOn_X6 : ∀ w ∈ wsX60, w ∈ wsX6_hungerOn := fun _ h => List.mem_cons_of_mem _ (List.mem_append_right _ h)
theorem mX6_hungerOn_1 : Cond.fieldLink RX6 7 "HungryJuryModel" "kind" "[I" ∈ wsX6_hungerOn := List.mem_of_getElem? (i := 1) rfl
theorem mX6_hungerOn_2 : Cond.fieldLink RX6 16 "HungryJuryModel" "now" "[I" ∈ wsX6_hungerOn := List.mem_of_getElem? (i := 2) rfl
def fX6_hungerOn_48 (τ : hj_Ob) (sd : Int64) (x2 : Int32) (x3 : Int32) (z0 : Int32) : Option hj_Ob :=
  hj_ck ((x3 + 9) + x2) 30 (hj_nm ((τ.2 4 ((x3 + 9) + x2).toNatClampNeg) + z0) fun y7 => if y7 ≤ 20 then (hj_ck ((x3 + 9) + x2) 30 (hj_nm (hj_a τ 4 ((x3 + 9) + x2) y7) fun τ10 => some τ10)) else (hj_ck ((x3 + 9) + x2) 30 (hj_nm (hj_a τ 4 ((x3 + 9) + x2) 20) fun τ12 => some τ12)))
set_option maxHeartbeats 4000000 in
set_option maxRecDepth 100000 in
theorem wX6_hungerOn_48 {p : Program} {l : Launch} {e : Env} {s : State} {m : MethodId} {args : Array Value} {below : List Frame} {meth : Method} {c : Code} {g : hj_G} {ad : Nat → Nat} (hI : hj_I 13 ad) (C : hj_C p s m args meth c cX6_hungerOn RX6 wsX6_hungerOn 6 none) (hK : hj_K g s) {τ : hj_Ob} {sd : Int64} {x2 : Int32} {x3 : Int32} {z0 : Int32} {τF : hj_Ob}
    (hf : fX6_hungerOn_48 τ sd x2 x3 z0 = some τF) {H : Heap} {locs : List Loc} {ls : Array Slot} (hP : hj_P g 13 ad (hj_wm g ad τ sd) H) (hS : hj_S 13 ad s H locs) (hl : lv_has ls 6 [(0, .ref (ad 0)), (2, .int x2), (3, .int x3)]) :
    W p l e rmX6_hungerOn s m args below meth c H locs 0 0 (MQ below (hj_QV g 13 ad (hj_wm g ad τF sd) s.heap.size) args s 0 0 (hj_A 13 ad s.heap.size)) (F0 m 48 ls [.int z0]) := by
  obtain ⟨hx, hb, hr, hml, hown, hts, hlocks⟩ := id C
  unfold fX6_hungerOn_48 at hf
  refine lv_istore (lv' := [(4, .int z0), (0, .ref (ad 0)), (2, .int x2), (3, .int x3)]) hx hb dX6_hungerOn_48 hl (by decide) rfl (fun ls hl => ?_)
  refine lv_aload_n hx hb dX6_hungerOn_50 rfl (lv_at hl 1 rfl) ?_
  refine hj_get (ci := 6) (v := .ref (ad 3)) (C := RX6) (T := TX6) (N := 24) hx hb hts iX6_hungerOn_X6 hown hK hP (by decide) rfl rfl 4 (by decide) mX6_hungerOn_2 rfl dX6_hungerOn_51 ?_
  refine lv_iload_n hx hb dX6_hungerOn_54 rfl (lv_at hl 3 rfl) ?_
  refine lv_bipush (v := 9) hx hb dX6_hungerOn_55 (by decide) ?_
  refine lv_iadd hx hb dX6_hungerOn_57 ?_
  refine lv_iload_n hx hb dX6_hungerOn_58 rfl (lv_at hl 2 rfl) ?_
  refine lv_iadd hx hb dX6_hungerOn_59 ?_
  obtain ⟨hk6, hf⟩ := hj_ck_s hf
  refine hj_ial (f := τ.2 4) hx hb hK hP (by decide) rfl hk6 dX6_hungerOn_60 ?_
  refine lv_iload hx hb dX6_hungerOn_61 (lv_at hl 0 rfl) ?_
  refine lv_iadd hx hb dX6_hungerOn_63 ?_
  refine lv_topi (fun y7 ey7 => ?_)
  replace hf := hj_nm_y hf ey7
  refine lv_istore (lv' := [(5, .int y7), (4, .int z0), (0, .ref (ad 0)), (2, .int x2), (3, .int x3)]) hx hb dX6_hungerOn_64 hl (by decide) rfl (fun ls hl => ?_)
  refine lv_aload_n hx hb dX6_hungerOn_66 rfl (lv_at hl 2 rfl) ?_
  refine hj_get (ci := 6) (v := .ref (ad 3)) (C := RX6) (T := TX6) (N := 24) hx hb hts iX6_hungerOn_X6 hown hK hP (by decide) rfl rfl 4 (by decide) mX6_hungerOn_2 rfl dX6_hungerOn_67 ?_
  refine lv_iload_n hx hb dX6_hungerOn_70 rfl (lv_at hl 4 rfl) ?_
  refine lv_bipush (v := 9) hx hb dX6_hungerOn_71 (by decide) ?_
  refine lv_iadd hx hb dX6_hungerOn_73 ?_
  refine lv_iload_n hx hb dX6_hungerOn_74 rfl (lv_at hl 3 rfl) ?_
  refine lv_iadd hx hb dX6_hungerOn_75 ?_
  refine lv_iload hx hb dX6_hungerOn_76 (lv_at hl 0 rfl) ?_
  refine lv_bipush (v := 20) hx hb dX6_hungerOn_78 (by decide) ?_
  refine lv_icmp_le (tgt := 88) hx hb dX6_hungerOn_80 (by decide) (fun c8 => ?_) (fun c8 => ?_)
  · rw [if_pos c8] at hf
    refine lv_iload hx hb dX6_hungerOn_88 (lv_at hl 0 rfl) ?_
    obtain ⟨hk9, hf⟩ := hj_ck_s hf
    refine hj_ias (f := τ.2 4) (v := y7) hx hb hK hI hP hS (by decide) rfl hk9 dX6_hungerOn_90 (wm_a2 (τ := τ) (x := ((x3 + 9) + x2)) (v := y7) 3 4 rfl (by decide) (by decide) (by decide)) (fun H locs hP hS => ?_)
    obtain ⟨τ10, eτ10⟩ : ∃ z : hj_Ob, z = hj_a τ 4 ((x3 + 9) + x2) y7 := ⟨_, rfl⟩
    replace hf := hj_nm_y hf eτ10
    rw [← eτ10] at hP
    have hq := Option.some.inj hf
    obtain rfl := hq
    exact hj_retv C hP hK hS dX6_hungerOn_91
  · rw [if_neg c8] at hf
    refine lv_bipush (v := 20) hx hb dX6_hungerOn_83 (by decide) ?_
    refine lv_goto (tgt := 90) hx hb dX6_hungerOn_85 (by decide) ?_
    obtain ⟨hk11, hf⟩ := hj_ck_s hf
    refine hj_ias (f := τ.2 4) (v := 20) hx hb hK hI hP hS (by decide) rfl hk11 dX6_hungerOn_90 (wm_a2 (τ := τ) (x := ((x3 + 9) + x2)) (v := 20) 3 4 rfl (by decide) (by decide) (by decide)) (fun H locs hP hS => ?_)
    obtain ⟨τ12, eτ12⟩ : ∃ z : hj_Ob, z = hj_a τ 4 ((x3 + 9) + x2) 20 := ⟨_, rfl⟩
    replace hf := hj_nm_y hf eτ12
    rw [← eτ12] at hP
    have hq := Option.some.inj hf
    obtain rfl := hq
    exact hj_retv C hP hK hS dX6_hungerOn_91
def fX6_hungerOn (τ : hj_Ob) (sd : Int64) (x1 : Int32) (x2 : Int32) : Option hj_Ob :=
  hj_nm (15 * x1) fun y1 => hj_ck x2 6 (if (τ.2 2 x2.toNatClampNeg) = 1 then (fX6_hungerOn_48 τ sd x2 y1 2) else (hj_ck x2 6 (if (τ.2 2 x2.toNatClampNeg) = 2 then (hj_ck (y1 + 2) 30 (if ((τ.2 4 (y1 + 2).toNatClampNeg) - (τ.2 4 (y1 + 2).toNatClampNeg) / 2 * 2) = 1 then (fX6_hungerOn_48 τ sd x2 y1 0) else (fX6_hungerOn_48 τ sd x2 y1 1))) else (fX6_hungerOn_48 τ sd x2 y1 1))))
set_option maxHeartbeats 4000000 in
set_option maxRecDepth 100000 in
theorem wX6_hungerOn {p : Program} {l : Launch} {e : Env} {s : State} {m : MethodId} {args : Array Value} {below : List Frame} {meth : Method} {c : Code} {g : hj_G} {ad : Nat → Nat} (hI : hj_I 13 ad) (C : hj_C p s m args meth c cX6_hungerOn RX6 wsX6_hungerOn 6 none) (hK : hj_K g s) {τ : hj_Ob} {sd : Int64} {x1 : Int32} {x2 : Int32} {τF : hj_Ob}
    (hf : fX6_hungerOn τ sd x1 x2 = some τF) {H : Heap} {locs : List Loc} {ls : Array Slot} (hP : hj_P g 13 ad (hj_wm g ad τ sd) H) (hS : hj_S 13 ad s H locs) (hl : lv_has ls 6 [(0, .ref (ad 0)), (1, .int x1), (2, .int x2)]) :
    W p l e rmX6_hungerOn s m args below meth c H locs 0 0 (MQ below (hj_QV g 13 ad (hj_wm g ad τF sd) s.heap.size) args s 0 0 (hj_A 13 ad s.heap.size)) (F0 m 0 ls []) := by
  obtain ⟨hx, hb, hr, hml, hown, hts, hlocks⟩ := id C
  unfold fX6_hungerOn at hf
  refine lv_bipush (v := 15) hx hb dX6_hungerOn_0 (by decide) ?_
  refine lv_iload_n hx hb dX6_hungerOn_2 rfl (lv_at hl 1 rfl) ?_
  refine lv_imul hx hb dX6_hungerOn_3 ?_
  refine lv_topi (fun y1 ey1 => ?_)
  replace hf := hj_nm_y hf ey1
  refine lv_istore_n (lv' := [(3, .int y1), (0, .ref (ad 0)), (1, .int x1), (2, .int x2)]) hx hb dX6_hungerOn_4 rfl hl (by decide) rfl (fun ls hl => ?_)
  refine lv_aload_n hx hb dX6_hungerOn_5 rfl (lv_at hl 1 rfl) ?_
  refine hj_get (ci := 6) (v := .ref (ad 1)) (C := RX6) (T := TX6) (N := 24) hx hb hts iX6_hungerOn_X6 hown hK hP (by decide) rfl rfl 2 (by decide) mX6_hungerOn_1 rfl dX6_hungerOn_6 ?_
  refine lv_iload_n hx hb dX6_hungerOn_9 rfl (lv_at hl 3 rfl) ?_
  obtain ⟨hk2, hf⟩ := hj_ck_s hf
  refine hj_ial (f := τ.2 2) hx hb hK hP (by decide) rfl hk2 dX6_hungerOn_10 ?_
  refine lv_iconst (v := 1) hx hb dX6_hungerOn_11 (by decide) ?_
  refine lv_icmp_ne (tgt := 19) hx hb dX6_hungerOn_12 (by decide) (fun c3 => ?_) (fun c3 => ?_)
  · rw [if_neg c3] at hf
    refine lv_aload_n hx hb dX6_hungerOn_19 rfl (lv_at hl 1 rfl) ?_
    refine hj_get (ci := 6) (v := .ref (ad 1)) (C := RX6) (T := TX6) (N := 24) hx hb hts iX6_hungerOn_X6 hown hK hP (by decide) rfl rfl 2 (by decide) mX6_hungerOn_1 rfl dX6_hungerOn_20 ?_
    refine lv_iload_n hx hb dX6_hungerOn_23 rfl (lv_at hl 3 rfl) ?_
    obtain ⟨hk4, hf⟩ := hj_ck_s hf
    refine hj_ial (f := τ.2 2) hx hb hK hP (by decide) rfl hk4 dX6_hungerOn_24 ?_
    refine lv_iconst (v := 2) hx hb dX6_hungerOn_25 (by decide) ?_
    refine lv_icmp_ne (tgt := 47) hx hb dX6_hungerOn_26 (by decide) (fun c5 => ?_) (fun c5 => ?_)
    · rw [if_neg c5] at hf
      refine lv_iconst (v := 1) hx hb dX6_hungerOn_47 (by decide) ?_
      exact wX6_hungerOn_48 hI C hK  hf hP hS (lv_sub hl [1, 3, 0] rfl)
    · rw [if_pos c5] at hf
      refine lv_aload_n hx hb dX6_hungerOn_29 rfl (lv_at hl 1 rfl) ?_
      refine hj_get (ci := 6) (v := .ref (ad 3)) (C := RX6) (T := TX6) (N := 24) hx hb hts iX6_hungerOn_X6 hown hK hP (by decide) rfl rfl 4 (by decide) mX6_hungerOn_2 rfl dX6_hungerOn_30 ?_
      refine lv_iload_n hx hb dX6_hungerOn_33 rfl (lv_at hl 0 rfl) ?_
      refine lv_iconst (v := 2) hx hb dX6_hungerOn_34 (by decide) ?_
      refine lv_iadd hx hb dX6_hungerOn_35 ?_
      obtain ⟨hk13, hf⟩ := hj_ck_s hf
      refine hj_ial (f := τ.2 4) hx hb hK hP (by decide) rfl hk13 dX6_hungerOn_36 ?_
      refine lv_iconst (v := 2) hx hb dX6_hungerOn_37 (by decide) ?_
      refine lv_irem hx hb dX6_hungerOn_38 (by decide) ?_
      refine lv_iconst (v := 1) hx hb dX6_hungerOn_39 (by decide) ?_
      refine lv_icmp_ne (tgt := 47) hx hb dX6_hungerOn_40 (by decide) (fun c14 => ?_) (fun c14 => ?_)
      · rw [if_neg c14] at hf
        refine lv_iconst (v := 1) hx hb dX6_hungerOn_47 (by decide) ?_
        exact wX6_hungerOn_48 hI C hK  hf hP hS (lv_sub hl [1, 3, 0] rfl)
      · rw [if_pos c14] at hf
        refine lv_iconst (v := 0) hx hb dX6_hungerOn_43 (by decide) ?_
        refine lv_goto (tgt := 48) hx hb dX6_hungerOn_44 (by decide) ?_
        exact wX6_hungerOn_48 hI C hK  hf hP hS (lv_sub hl [1, 3, 0] rfl)
  · rw [if_pos c3] at hf
    refine lv_iconst (v := 2) hx hb dX6_hungerOn_15 (by decide) ?_
    refine lv_goto (tgt := 48) hx hb dX6_hungerOn_16 (by decide) ?_
    exact wX6_hungerOn_48 hI C hK  hf hP hS (lv_sub hl [1, 3, 0] rfl)
set_option maxHeartbeats 4000000 in
set_option maxRecDepth 100000 in
theorem ctX6_hungerOn (l : Launch) (g : hj_G) {ad : Nat → Nat} (hI : hj_I 13 ad) {τ : hj_Ob} {sd : Int64} {x1 : Int32} {x2 : Int32} {τF : hj_Ob} (hf : fX6_hungerOn τ sd x1 x2 = some τF) :
    hj_MV l yX6_hungerOn wsX6_hungerOn rmX6_hungerOn g 13 ad hj_X0 [.ref (ad 0), .int x1, .int x2] (hj_wm g ad τ sd) (hj_wm g ad τF sd) := by
  refine hj_ofV (cc := cX6_hungerOn) (maxL := 6) (ret := none) (by decide) rfl (Nat.le_of_ble_eq_true rfl) ?_
  intro p e s m args below meth c ls C hP hK hX hl
  exact wX6_hungerOn hI C hK hf hP va_S.rf hl

/-! X6_givesIn -/
abbrev rmX6_givesIn : Room := { frames := 1, cells := 0, slots := 0, locals := 22 }
theorem iX6_givesIn_X6 : ∀ w ∈ wsX60, w ∈ wsX6_givesIn := fun _ h => List.mem_cons_of_mem _ (List.mem_append_right _ h)
theorem mX6_givesIn_1 : Cond.fieldLink RX6 16 "HungryJuryModel" "now" "[I" ∈ wsX6_givesIn := List.mem_of_getElem? (i := 1) rfl
theorem mX6_givesIn_2 : Cond.fieldLink RX6 7 "HungryJuryModel" "kind" "[I" ∈ wsX6_givesIn := List.mem_of_getElem? (i := 2) rfl
theorem mX6_givesIn_3 : Cond.fieldLink RX6 13 "HungryJuryModel" "heeds" "[I" ∈ wsX6_givesIn := List.mem_of_getElem? (i := 3) rfl
def fX6_givesIn_123 (τ : hj_Ob) (sd : Int64) (x2 : Int32) (x3 : Int32) (x7 : Int32) (z0 : Int32) : Option Int32 :=
  if x7 ≤ 0 then (some 0) else (hj_ck ((x3 + 3) + x2) 30 (if z0 < (τ.2 4 ((x3 + 3) + x2).toNatClampNeg) then (some 0) else (some 1)))
set_option maxHeartbeats 4000000 in
set_option maxRecDepth 100000 in
theorem wX6_givesIn_123 {p : Program} {l : Launch} {e : Env} {s : State} {m : MethodId} {args : Array Value} {below : List Frame} {meth : Method} {c : Code} {g : hj_G} {ad : Nat → Nat} (hI : hj_I 13 ad) (C : hj_C p s m args meth c cX6_givesIn RX6 wsX6_givesIn 10 (some .boolean)) (hK : hj_K g s) {τ : hj_Ob} {sd : Int64} {x2 : Int32} {x3 : Int32} {x7 : Int32} {z0 : Int32} {rF : Int32}
    (hf : fX6_givesIn_123 τ sd x2 x3 x7 z0 = some rF) {H : Heap} {locs : List Loc} {ls : Array Slot} (hP : hj_P g 13 ad (hj_wm g ad τ sd) H) (hS : hj_S 13 ad s H locs) (hl : lv_has ls 10 [(0, .ref (ad 0)), (2, .int x2), (3, .int x3), (7, .int x7)]) :
    W p l e rmX6_givesIn s m args below meth c H locs 0 0 (MQ below (hj_QI g 13 ad (hj_wm g ad τ sd) rF s.heap.size) args s 0 0 (hj_A 13 ad s.heap.size)) (F0 m 123 ls [.int z0]) := by
  obtain ⟨hx, hb, hr, hml, hown, hts, hlocks⟩ := id C
  unfold fX6_givesIn_123 at hf
  refine lv_istore (lv' := [(9, .int z0), (0, .ref (ad 0)), (2, .int x2), (3, .int x3), (7, .int x7)]) hx hb dX6_givesIn_123 hl (by decide) rfl (fun ls hl => ?_)
  refine lv_iload hx hb dX6_givesIn_125 (lv_at hl 4 rfl) ?_
  refine lv_if_le (tgt := 149) hx hb dX6_givesIn_127 (by decide) (fun c18 => ?_) (fun c18 => ?_)
  · rw [if_pos c18] at hf
    refine lv_iconst (v := 0) hx hb dX6_givesIn_149 (by decide) ?_
    have hq := Option.some.inj hf
    obtain rfl := hq
    exact hj_retz (Or.inl rfl)  C hP hK hS dX6_givesIn_150
  · rw [if_neg c18] at hf
    refine lv_iload hx hb dX6_givesIn_130 (lv_at hl 0 rfl) ?_
    refine lv_aload_n hx hb dX6_givesIn_132 rfl (lv_at hl 1 rfl) ?_
    refine hj_get (ci := 6) (v := .ref (ad 3)) (C := RX6) (T := TX6) (N := 24) hx hb hts iX6_givesIn_X6 hown hK hP (by decide) rfl rfl 4 (by decide) mX6_givesIn_1 rfl dX6_givesIn_133 ?_
    refine lv_iload_n hx hb dX6_givesIn_136 rfl (lv_at hl 3 rfl) ?_
    refine lv_iconst (v := 3) hx hb dX6_givesIn_137 (by decide) ?_
    refine lv_iadd hx hb dX6_givesIn_138 ?_
    refine lv_iload_n hx hb dX6_givesIn_139 rfl (lv_at hl 2 rfl) ?_
    refine lv_iadd hx hb dX6_givesIn_140 ?_
    obtain ⟨hk19, hf⟩ := hj_ck_s hf
    refine hj_ial (f := τ.2 4) hx hb hK hP (by decide) rfl hk19 dX6_givesIn_141 ?_
    refine lv_icmp_lt (tgt := 149) hx hb dX6_givesIn_142 (by decide) (fun c20 => ?_) (fun c20 => ?_)
    · rw [if_pos c20] at hf
      refine lv_iconst (v := 0) hx hb dX6_givesIn_149 (by decide) ?_
      have hq := Option.some.inj hf
      obtain rfl := hq
      exact hj_retz (Or.inl rfl)  C hP hK hS dX6_givesIn_150
    · rw [if_neg c20] at hf
      refine lv_iconst (v := 1) hx hb dX6_givesIn_145 (by decide) ?_
      refine lv_goto (tgt := 150) hx hb dX6_givesIn_146 (by decide) ?_
      have hq := Option.some.inj hf
      obtain rfl := hq
      exact hj_retz (Or.inr rfl)  C hP hK hS dX6_givesIn_150
def fX6_givesIn_51 (τ : hj_Ob) (sd : Int64) (x2 : Int32) (x3 : Int32) (x4 : Int32) (z0 : Int32) : Option Int32 :=
  hj_nm (x4 &&& (z0 ^^^ (-1))) fun y8 => hj_o1 (fX6_ones y8) fun r9 => hj_o1 (fX6_ones z0) fun r10 => hj_nm (r9 - r10) fun y11 => hj_ck ((x3 + 9) + x2) 30 (hj_nm (τ.2 4 ((x3 + 9) + x2).toNatClampNeg) fun y13 => hj_ck x2 6 (if (τ.2 2 x2.toNatClampNeg) = 3 then (fX6_givesIn_123 τ sd x2 x3 y11 y13) else (hj_ck x2 6 (hj_o1 (fX6_ones ((τ.2 3 x2.toNatClampNeg) &&& y8)) fun r17 => fX6_givesIn_123 τ sd x2 x3 y11 ((y13 + y11) + (2 * r17))))))
set_option maxHeartbeats 4000000 in
set_option maxRecDepth 100000 in
theorem wX6_givesIn_51 {p : Program} {l : Launch} {e : Env} {s : State} {m : MethodId} {args : Array Value} {below : List Frame} {meth : Method} {c : Code} {g : hj_G} {ad : Nat → Nat} (hI : hj_I 13 ad) (C : hj_C p s m args meth c cX6_givesIn RX6 wsX6_givesIn 10 (some .boolean)) (hK : hj_K g s) {τ : hj_Ob} {sd : Int64} {x2 : Int32} {x3 : Int32} {x4 : Int32} {z0 : Int32} {rF : Int32}
    (hf : fX6_givesIn_51 τ sd x2 x3 x4 z0 = some rF) {H : Heap} {locs : List Loc} {ls : Array Slot} (hP : hj_P g 13 ad (hj_wm g ad τ sd) H) (hS : hj_S 13 ad s H locs) (hl : lv_has ls 10 [(0, .ref (ad 0)), (2, .int x2), (3, .int x3), (4, .int x4)]) :
    W p l e rmX6_givesIn s m args below meth c H locs 0 0 (MQ below (hj_QI g 13 ad (hj_wm g ad τ sd) rF s.heap.size) args s 0 0 (hj_A 13 ad s.heap.size)) (F0 m 51 ls [.int z0]) := by
  obtain ⟨hx, hb, hr, hml, hown, hts, hlocks⟩ := id C
  unfold fX6_givesIn_51 at hf
  refine lv_istore (lv' := [(5, .int z0), (0, .ref (ad 0)), (2, .int x2), (3, .int x3), (4, .int x4)]) hx hb dX6_givesIn_51 hl (by decide) rfl (fun ls hl => ?_)
  refine lv_iload hx hb dX6_givesIn_53 (lv_at hl 4 rfl) ?_
  refine lv_iload hx hb dX6_givesIn_55 (lv_at hl 0 rfl) ?_
  refine lv_iconst (v := (-1)) hx hb dX6_givesIn_57 (by decide) ?_
  refine lv_ixor hx hb dX6_givesIn_58 ?_
  refine lv_iand hx hb dX6_givesIn_59 ?_
  refine lv_topi (fun y8 ey8 => ?_)
  replace hf := hj_nm_y hf ey8
  refine lv_istore (lv' := [(6, .int y8), (5, .int z0), (0, .ref (ad 0)), (2, .int x2), (3, .int x3), (4, .int x4)]) hx hb dX6_givesIn_60 hl (by decide) rfl (fun ls hl => ?_)
  refine lv_iload hx hb dX6_givesIn_62 (lv_at hl 0 rfl) ?_
  obtain ⟨r9, hc, hf⟩ := hj_o1_s hf
  refine hj_callSi (nL := 10) (As := [.int y8]) (rest := []) ⟨hx, hb, hml, hown, hts⟩ (ctX6_ones l g (n := 13) (ad := ad) (w := (hj_wm g ad τ sd)) hc) (va_cwS 1 hts gX6_givesIn_X6_ones rfl rfl rfl (by decide +kernel) ⟨Nat.le_of_ble_eq_true rfl, Nat.le_of_ble_eq_true rfl⟩) hj_Xb0 (fun _ _ _ => trivial) hK hP hS rfl hl.1 rfl (Nat.le_of_ble_eq_true rfl) dX6_givesIn_64 (fun H locs hP hS => ?_)
  refine lv_iload hx hb dX6_givesIn_67 (lv_at hl 1 rfl) ?_
  obtain ⟨r10, hc, hf⟩ := hj_o1_s hf
  refine hj_callSi (nL := 10) (As := [.int z0]) (rest := [.int r9]) ⟨hx, hb, hml, hown, hts⟩ (ctX6_ones l g (n := 13) (ad := ad) (w := (hj_wm g ad τ sd)) hc) (va_cwS 1 hts gX6_givesIn_X6_ones rfl rfl rfl (by decide +kernel) ⟨Nat.le_of_ble_eq_true rfl, Nat.le_of_ble_eq_true rfl⟩) hj_Xb0 (fun _ _ _ => trivial) hK hP hS rfl hl.1 rfl (Nat.le_of_ble_eq_true rfl) dX6_givesIn_69 (fun H locs hP hS => ?_)
  refine lv_isub hx hb dX6_givesIn_72 ?_
  refine lv_topi (fun y11 ey11 => ?_)
  replace hf := hj_nm_y hf ey11
  refine lv_istore (lv' := [(7, .int y11), (6, .int y8), (5, .int z0), (0, .ref (ad 0)), (2, .int x2), (3, .int x3), (4, .int x4)]) hx hb dX6_givesIn_73 hl (by decide) rfl (fun ls hl => ?_)
  refine lv_aload_n hx hb dX6_givesIn_75 rfl (lv_at hl 3 rfl) ?_
  refine hj_get (ci := 6) (v := .ref (ad 3)) (C := RX6) (T := TX6) (N := 24) hx hb hts iX6_givesIn_X6 hown hK hP (by decide) rfl rfl 4 (by decide) mX6_givesIn_1 rfl dX6_givesIn_76 ?_
  refine lv_iload_n hx hb dX6_givesIn_79 rfl (lv_at hl 5 rfl) ?_
  refine lv_bipush (v := 9) hx hb dX6_givesIn_80 (by decide) ?_
  refine lv_iadd hx hb dX6_givesIn_82 ?_
  refine lv_iload_n hx hb dX6_givesIn_83 rfl (lv_at hl 4 rfl) ?_
  refine lv_iadd hx hb dX6_givesIn_84 ?_
  obtain ⟨hk12, hf⟩ := hj_ck_s hf
  refine hj_ial (f := τ.2 4) hx hb hK hP (by decide) rfl hk12 dX6_givesIn_85 ?_
  refine lv_topi (fun y13 ey13 => ?_)
  replace hf := hj_nm_y hf ey13
  refine lv_istore (lv' := [(8, .int y13), (7, .int y11), (6, .int y8), (5, .int z0), (0, .ref (ad 0)), (2, .int x2), (3, .int x3), (4, .int x4)]) hx hb dX6_givesIn_86 hl (by decide) rfl (fun ls hl => ?_)
  refine lv_aload_n hx hb dX6_givesIn_88 rfl (lv_at hl 4 rfl) ?_
  refine hj_get (ci := 6) (v := .ref (ad 1)) (C := RX6) (T := TX6) (N := 24) hx hb hts iX6_givesIn_X6 hown hK hP (by decide) rfl rfl 2 (by decide) mX6_givesIn_2 rfl dX6_givesIn_89 ?_
  refine lv_iload_n hx hb dX6_givesIn_92 rfl (lv_at hl 5 rfl) ?_
  obtain ⟨hk14, hf⟩ := hj_ck_s hf
  refine hj_ial (f := τ.2 2) hx hb hK hP (by decide) rfl hk14 dX6_givesIn_93 ?_
  refine lv_iconst (v := 3) hx hb dX6_givesIn_94 (by decide) ?_
  refine lv_icmp_ne (tgt := 103) hx hb dX6_givesIn_95 (by decide) (fun c15 => ?_) (fun c15 => ?_)
  · rw [if_neg c15] at hf
    refine lv_iload hx hb dX6_givesIn_103 (lv_at hl 0 rfl) ?_
    refine lv_iload hx hb dX6_givesIn_105 (lv_at hl 1 rfl) ?_
    refine lv_iadd hx hb dX6_givesIn_107 ?_
    refine lv_iconst (v := 2) hx hb dX6_givesIn_108 (by decide) ?_
    refine lv_aload_n hx hb dX6_givesIn_109 rfl (lv_at hl 4 rfl) ?_
    refine hj_get (ci := 6) (v := .ref (ad 2)) (C := RX6) (T := TX6) (N := 24) hx hb hts iX6_givesIn_X6 hown hK hP (by decide) rfl rfl 3 (by decide) mX6_givesIn_3 rfl dX6_givesIn_110 ?_
    refine lv_iload_n hx hb dX6_givesIn_113 rfl (lv_at hl 5 rfl) ?_
    obtain ⟨hk16, hf⟩ := hj_ck_s hf
    refine hj_ial (f := τ.2 3) hx hb hK hP (by decide) rfl hk16 dX6_givesIn_114 ?_
    refine lv_iload hx hb dX6_givesIn_115 (lv_at hl 2 rfl) ?_
    refine lv_iand hx hb dX6_givesIn_117 ?_
    obtain ⟨r17, hc, hf⟩ := hj_o1_s hf
    refine hj_callSi (nL := 10) (As := [.int ((τ.2 3 x2.toNatClampNeg) &&& y8)]) (rest := [.int 2, .int (y13 + y11)]) ⟨hx, hb, hml, hown, hts⟩ (ctX6_ones l g (n := 13) (ad := ad) (w := (hj_wm g ad τ sd)) hc) (va_cwS 1 hts gX6_givesIn_X6_ones rfl rfl rfl (by decide +kernel) ⟨Nat.le_of_ble_eq_true rfl, Nat.le_of_ble_eq_true rfl⟩) hj_Xb0 (fun _ _ _ => trivial) hK hP hS rfl hl.1 rfl (Nat.le_of_ble_eq_true rfl) dX6_givesIn_118 (fun H locs hP hS => ?_)
    refine lv_imul hx hb dX6_givesIn_121 ?_
    refine lv_iadd hx hb dX6_givesIn_122 ?_
    exact wX6_givesIn_123 hI C hK  hf hP hS (lv_sub hl [4, 5, 6, 1] rfl)
  · rw [if_pos c15] at hf
    refine lv_iload hx hb dX6_givesIn_98 (lv_at hl 0 rfl) ?_
    refine lv_goto (tgt := 123) hx hb dX6_givesIn_100 (by decide) ?_
    exact wX6_givesIn_123 hI C hK  hf hP hS (lv_sub hl [4, 5, 6, 1] rfl)
def fX6_givesIn (τ : hj_Ob) (sd : Int64) (x1 : Int32) (x2 : Int32) : Option Int32 :=
  hj_nm (15 * x1) fun y1 => hj_ck (y1 + 1) 30 (hj_nm (τ.2 4 (y1 + 1).toNatClampNeg) fun y3 => hj_ck y1 30 (hj_o1 (fX6_has (τ.2 4 y1.toNatClampNeg) x2) fun r5 => if r5 = 0 then (hj_ck y1 30 (fX6_givesIn_51 τ sd x2 y1 y3 (y3 &&& ((τ.2 4 y1.toNatClampNeg) ^^^ (-1))))) else (hj_ck y1 30 (fX6_givesIn_51 τ sd x2 y1 y3 ((τ.2 4 y1.toNatClampNeg) &&& y3)))))
set_option maxHeartbeats 4000000 in
set_option maxRecDepth 100000 in
theorem wX6_givesIn {p : Program} {l : Launch} {e : Env} {s : State} {m : MethodId} {args : Array Value} {below : List Frame} {meth : Method} {c : Code} {g : hj_G} {ad : Nat → Nat} (hI : hj_I 13 ad) (C : hj_C p s m args meth c cX6_givesIn RX6 wsX6_givesIn 10 (some .boolean)) (hK : hj_K g s) {τ : hj_Ob} {sd : Int64} {x1 : Int32} {x2 : Int32} {rF : Int32}
    (hf : fX6_givesIn τ sd x1 x2 = some rF) {H : Heap} {locs : List Loc} {ls : Array Slot} (hP : hj_P g 13 ad (hj_wm g ad τ sd) H) (hS : hj_S 13 ad s H locs) (hl : lv_has ls 10 [(0, .ref (ad 0)), (1, .int x1), (2, .int x2)]) :
    W p l e rmX6_givesIn s m args below meth c H locs 0 0 (MQ below (hj_QI g 13 ad (hj_wm g ad τ sd) rF s.heap.size) args s 0 0 (hj_A 13 ad s.heap.size)) (F0 m 0 ls []) := by
  obtain ⟨hx, hb, hr, hml, hown, hts, hlocks⟩ := id C
  unfold fX6_givesIn at hf
  refine lv_bipush (v := 15) hx hb dX6_givesIn_0 (by decide) ?_
  refine lv_iload_n hx hb dX6_givesIn_2 rfl (lv_at hl 1 rfl) ?_
  refine lv_imul hx hb dX6_givesIn_3 ?_
  refine lv_topi (fun y1 ey1 => ?_)
  replace hf := hj_nm_y hf ey1
  refine lv_istore_n (lv' := [(3, .int y1), (0, .ref (ad 0)), (1, .int x1), (2, .int x2)]) hx hb dX6_givesIn_4 rfl hl (by decide) rfl (fun ls hl => ?_)
  refine lv_aload_n hx hb dX6_givesIn_5 rfl (lv_at hl 1 rfl) ?_
  refine hj_get (ci := 6) (v := .ref (ad 3)) (C := RX6) (T := TX6) (N := 24) hx hb hts iX6_givesIn_X6 hown hK hP (by decide) rfl rfl 4 (by decide) mX6_givesIn_1 rfl dX6_givesIn_6 ?_
  refine lv_iload_n hx hb dX6_givesIn_9 rfl (lv_at hl 0 rfl) ?_
  refine lv_iconst (v := 1) hx hb dX6_givesIn_10 (by decide) ?_
  refine lv_iadd hx hb dX6_givesIn_11 ?_
  obtain ⟨hk2, hf⟩ := hj_ck_s hf
  refine hj_ial (f := τ.2 4) hx hb hK hP (by decide) rfl hk2 dX6_givesIn_12 ?_
  refine lv_topi (fun y3 ey3 => ?_)
  replace hf := hj_nm_y hf ey3
  refine lv_istore (lv' := [(4, .int y3), (3, .int y1), (0, .ref (ad 0)), (1, .int x1), (2, .int x2)]) hx hb dX6_givesIn_13 hl (by decide) rfl (fun ls hl => ?_)
  refine lv_aload_n hx hb dX6_givesIn_15 rfl (lv_at hl 2 rfl) ?_
  refine hj_get (ci := 6) (v := .ref (ad 3)) (C := RX6) (T := TX6) (N := 24) hx hb hts iX6_givesIn_X6 hown hK hP (by decide) rfl rfl 4 (by decide) mX6_givesIn_1 rfl dX6_givesIn_16 ?_
  refine lv_iload_n hx hb dX6_givesIn_19 rfl (lv_at hl 1 rfl) ?_
  obtain ⟨hk4, hf⟩ := hj_ck_s hf
  refine hj_ial (f := τ.2 4) hx hb hK hP (by decide) rfl hk4 dX6_givesIn_20 ?_
  refine lv_iload_n hx hb dX6_givesIn_21 rfl (lv_at hl 4 rfl) ?_
  obtain ⟨r5, hc, hf⟩ := hj_o1_s hf
  refine hj_callSi (nL := 10) (As := [.int (τ.2 4 y1.toNatClampNeg), .int x2]) (rest := []) ⟨hx, hb, hml, hown, hts⟩ (ctX6_has l g (n := 13) (ad := ad) (w := (hj_wm g ad τ sd)) hc) (va_cwS 2 hts gX6_givesIn_X6_has rfl rfl rfl (by decide +kernel) ⟨Nat.le_of_ble_eq_true rfl, Nat.le_of_ble_eq_true rfl⟩) hj_Xb0 (fun _ _ _ => trivial) hK hP hS rfl hl.1 rfl (Nat.le_of_ble_eq_true rfl) dX6_givesIn_22 (fun H locs hP hS => ?_)
  refine lv_if_eq (tgt := 40) hx hb dX6_givesIn_25 (by decide) (fun c6 => ?_) (fun c6 => ?_)
  · rw [if_pos c6] at hf
    refine lv_iload hx hb dX6_givesIn_40 (lv_at hl 0 rfl) ?_
    refine lv_aload_n hx hb dX6_givesIn_42 rfl (lv_at hl 2 rfl) ?_
    refine hj_get (ci := 6) (v := .ref (ad 3)) (C := RX6) (T := TX6) (N := 24) hx hb hts iX6_givesIn_X6 hown hK hP (by decide) rfl rfl 4 (by decide) mX6_givesIn_1 rfl dX6_givesIn_43 ?_
    refine lv_iload_n hx hb dX6_givesIn_46 rfl (lv_at hl 1 rfl) ?_
    obtain ⟨hk7, hf⟩ := hj_ck_s hf
    refine hj_ial (f := τ.2 4) hx hb hK hP (by decide) rfl hk7 dX6_givesIn_47 ?_
    refine lv_iconst (v := (-1)) hx hb dX6_givesIn_48 (by decide) ?_
    refine lv_ixor hx hb dX6_givesIn_49 ?_
    refine lv_iand hx hb dX6_givesIn_50 ?_
    exact wX6_givesIn_51 hI C hK  hf hP hS (lv_sub hl [2, 4, 1, 0] rfl)
  · rw [if_neg c6] at hf
    refine lv_aload_n hx hb dX6_givesIn_28 rfl (lv_at hl 2 rfl) ?_
    refine hj_get (ci := 6) (v := .ref (ad 3)) (C := RX6) (T := TX6) (N := 24) hx hb hts iX6_givesIn_X6 hown hK hP (by decide) rfl rfl 4 (by decide) mX6_givesIn_1 rfl dX6_givesIn_29 ?_
    refine lv_iload_n hx hb dX6_givesIn_32 rfl (lv_at hl 1 rfl) ?_
    obtain ⟨hk21, hf⟩ := hj_ck_s hf
    refine hj_ial (f := τ.2 4) hx hb hK hP (by decide) rfl hk21 dX6_givesIn_33 ?_
    refine lv_iload hx hb dX6_givesIn_34 (lv_at hl 0 rfl) ?_
    refine lv_iand hx hb dX6_givesIn_36 ?_
    refine lv_goto (tgt := 51) hx hb dX6_givesIn_37 (by decide) ?_
    exact wX6_givesIn_51 hI C hK  hf hP hS (lv_sub hl [2, 4, 1, 0] rfl)
set_option maxHeartbeats 4000000 in
set_option maxRecDepth 100000 in
theorem ctX6_givesIn (l : Launch) (g : hj_G) {ad : Nat → Nat} (hI : hj_I 13 ad) {τ : hj_Ob} {sd : Int64} {x1 : Int32} {x2 : Int32} {rF : Int32} (hf : fX6_givesIn τ sd x1 x2 = some rF) :
    hj_MI l yX6_givesIn wsX6_givesIn rmX6_givesIn g 13 ad hj_X0 [.ref (ad 0), .int x1, .int x2] (hj_wm g ad τ sd) rF (hj_wm g ad τ sd) := by
  refine hj_ofI (cc := cX6_givesIn) (maxL := 10) (ret := (some .boolean)) (by decide) rfl (Nat.le_of_ble_eq_true rfl) ?_
  intro p e s m args below meth c ls C hP hK hX hl
  exact wX6_givesIn hI C hK hf hP va_S.rf hl

/-! X6_passOn -/
abbrev rmX6_passOn : Room := { frames := 2, cells := 0, slots := 0, locals := 51 }
theorem iX6_passOn_X6 : ∀ w ∈ wsX60, w ∈ wsX6_passOn := fun _ h => List.mem_cons_of_mem _ (List.mem_append_right _ h)
theorem mX6_passOn_1 : Cond.fieldLink RX6 16 "HungryJuryModel" "now" "[I" ∈ wsX6_passOn := List.mem_of_getElem? (i := 1) rfl
theorem mX6_passOn_2 : Cond.fieldLink RX6 96 "HungryJuryModel" "jurors" "I" ∈ wsX6_passOn := List.mem_of_getElem? (i := 2) rfl
def fX6_passOn_31 (τ : hj_Ob) (sd : Int64) (x1 : Int32) (x2 : Int32) (x3 : Int32) : Option (hj_Ob ⊕ (Int32 × hj_Ob)) :=
  if (τ.1 0) ≤ x3 then (some (.inl τ)) else (hj_o1 (fX6_isThere τ sd x1 x3) fun r8 => if r8 = 0 then (hj_nm (x3 + 1) fun y10 => some (.inr (y10, τ))) else (hj_o1 (fX6_hungerOn τ sd x1 x3) fun τ11 => hj_nm (x3 + 1) fun y12 => some (.inr (y12, τ11))))
set_option maxHeartbeats 4000000 in
set_option maxRecDepth 100000 in
theorem wX6_passOn_31b {p : Program} {l : Launch} {e : Env} {s : State} {m : MethodId} {args : Array Value} {below : List Frame} {meth : Method} {c : Code} {g : hj_G} {ad : Nat → Nat} (hI : hj_I 13 ad) (C : hj_C p s m args meth c cX6_passOn RX6 wsX6_passOn 5 (some .int)) (hK : hj_K g s) {τ : hj_Ob} {sd : Int64} {x1 : Int32} {x2 : Int32} {x3 : Int32} {y : hj_Ob ⊕ (Int32 × hj_Ob)} {rF : Int32} {τF : hj_Ob}
    (hf : fX6_passOn_31 τ sd x1 x2 x3 = some y) (KX : ∀ (τ' : hj_Ob), y = .inl τ' → ∀ (H : Heap) (locs : List Loc) (ls : Array Slot), hj_P g 13 ad (hj_wm g ad τ' sd) H → hj_S 13 ad s H locs → lv_has ls 5 [(0, .ref (ad 0)), (1, .int x1), (2, .int x2)] → W p l e rmX6_passOn s m args below meth c H locs 0 0 (MQ below (hj_QI g 13 ad (hj_wm g ad τF sd) rF s.heap.size) args s 0 0 (hj_A 13 ad s.heap.size)) (F0 m 60 ls [])) (KI : ∀ (v3 : Int32) (τ' : hj_Ob), y = .inr (v3, τ') → ∀ (H : Heap) (locs : List Loc) (ls : Array Slot), hj_P g 13 ad (hj_wm g ad τ' sd) H → hj_S 13 ad s H locs → lv_has ls 5 [(0, .ref (ad 0)), (1, .int x1), (2, .int x2), (3, .int v3)] → W p l e rmX6_passOn s m args below meth c H locs 0 0 (MQ below (hj_QI g 13 ad (hj_wm g ad τF sd) rF s.heap.size) args s 0 0 (hj_A 13 ad s.heap.size)) (F0 m 31 ls [])) {H : Heap} {locs : List Loc} {ls : Array Slot} (hP : hj_P g 13 ad (hj_wm g ad τ sd) H) (hS : hj_S 13 ad s H locs) (hl : lv_has ls 5 [(0, .ref (ad 0)), (1, .int x1), (2, .int x2), (3, .int x3)]) :
    W p l e rmX6_passOn s m args below meth c H locs 0 0 (MQ below (hj_QI g 13 ad (hj_wm g ad τF sd) rF s.heap.size) args s 0 0 (hj_A 13 ad s.heap.size)) (F0 m 31 ls []) := by
  obtain ⟨hx, hb, hr, hml, hown, hts, hlocks⟩ := id C
  unfold fX6_passOn_31 at hf
  refine lv_iload_n hx hb dX6_passOn_31 rfl (lv_at hl 3 rfl) ?_
  refine lv_aload_n hx hb dX6_passOn_32 rfl (lv_at hl 0 rfl) ?_
  refine hj_get (ci := 6) (v := .int (τ.1 0)) (C := RX6) (T := TX6) (N := 24) hx hb hts iX6_passOn_X6 hown hK hP (by decide) rfl rfl 0 (by decide) mX6_passOn_2 rfl dX6_passOn_33 ?_
  refine lv_icmp_ge (tgt := 60) hx hb dX6_passOn_36 (by decide) (fun c7 => ?_) (fun c7 => ?_)
  · rw [if_pos c7] at hf
    exact KX _ (Option.some.inj hf).symm _ _ _ hP hS (lv_sub hl [0, 1, 2] rfl)
  · rw [if_neg c7] at hf
    refine lv_aload_n hx hb dX6_passOn_39 rfl (lv_at hl 0 rfl) ?_
    refine lv_iload_n hx hb dX6_passOn_40 rfl (lv_at hl 1 rfl) ?_
    refine lv_iload_n hx hb dX6_passOn_41 rfl (lv_at hl 3 rfl) ?_
    obtain ⟨r8, hc, hf⟩ := hj_o1_s hf
    refine hj_callVi (nL := 5) (As := [.int x1, .int x3]) (rest := []) (i0 := 0) (C := RX6) (T := TX6) (N := 24) (ci := 6) ⟨hx, hb, hml, hown, hts⟩ (ctX6_isThere l g hI hc) (cwV 2 hts gX6_passOn_X6_isThere rfl rfl rfl (by decide +kernel) ⟨Nat.le_of_ble_eq_true rfl, Nat.le_of_ble_eq_true rfl⟩) hj_Xb0 (fun _ _ _ => trivial) hK hP hS (by decide) rfl rfl rfl hl.1 rfl (Nat.le_of_ble_eq_true rfl) dX6_passOn_42 (fun H locs hP hS => ?_)
    refine lv_if_eq (tgt := 54) hx hb dX6_passOn_45 (by decide) (fun c9 => ?_) (fun c9 => ?_)
    · rw [if_pos c9] at hf
      obtain ⟨y10, ey10⟩ : ∃ z : Int32, z = x3 + 1 := ⟨_, rfl⟩
      replace hf := hj_nm_y hf ey10
      refine lv_iinc (v := y10) (lv' := [(3, .int y10), (0, .ref (ad 0)), (1, .int x1), (2, .int x2)]) hx hb dX6_passOn_54 hl (k := 3) rfl (by rw [ey10]; rfl) (by decide) rfl (fun ls hl => ?_)
      refine lv_goto (tgt := 31) hx hb dX6_passOn_57 (by decide) ?_
      exact KI _ _ (Option.some.inj hf).symm _ _ _ hP hS (lv_sub hl [1, 2, 3, 0] rfl)
    · rw [if_neg c9] at hf
      refine lv_aload_n hx hb dX6_passOn_48 rfl (lv_at hl 0 rfl) ?_
      refine lv_iload_n hx hb dX6_passOn_49 rfl (lv_at hl 1 rfl) ?_
      refine lv_iload_n hx hb dX6_passOn_50 rfl (lv_at hl 3 rfl) ?_
      obtain ⟨τ11, hc, hf⟩ := hj_o1_s hf
      refine hj_callVv (nL := 5) (As := [.int x1, .int x3]) (rest := []) (i0 := 0) (C := RX6) (T := TX6) (N := 24) (ci := 6) ⟨hx, hb, hml, hown, hts⟩ (ctX6_hungerOn l g hI hc) (cwV 2 hts gX6_passOn_X6_hungerOn rfl rfl rfl (by decide +kernel) ⟨Nat.le_of_ble_eq_true rfl, Nat.le_of_ble_eq_true rfl⟩) hj_Xb0 (fun _ _ _ => trivial) hK hP hS (by decide) rfl rfl rfl hl.1 rfl (Nat.le_of_ble_eq_true rfl) dX6_passOn_51 (fun H locs hP hS => ?_)
      obtain ⟨y12, ey12⟩ : ∃ z : Int32, z = x3 + 1 := ⟨_, rfl⟩
      replace hf := hj_nm_y hf ey12
      refine lv_iinc (v := y12) (lv' := [(3, .int y12), (0, .ref (ad 0)), (1, .int x1), (2, .int x2)]) hx hb dX6_passOn_54 hl (k := 3) rfl (by rw [ey12]; rfl) (by decide) rfl (fun ls hl => ?_)
      refine lv_goto (tgt := 31) hx hb dX6_passOn_57 (by decide) ?_
      exact KI _ _ (Option.some.inj hf).symm _ _ _ hP hS (lv_sub hl [1, 2, 3, 0] rfl)
set_option maxHeartbeats 4000000 in
set_option maxRecDepth 100000 in
theorem wX6_passOn_31 {p : Program} {l : Launch} {e : Env} {s : State} {m : MethodId} {args : Array Value} {below : List Frame} {meth : Method} {c : Code} {g : hj_G} {ad : Nat → Nat} (hI : hj_I 13 ad) (C : hj_C p s m args meth c cX6_passOn RX6 wsX6_passOn 5 (some .int)) (hK : hj_K g s) {sd : Int64} {x1 : Int32} {x2 : Int32} {rF : Int32} {τF : hj_Ob} {τe : hj_Ob} :
    ∀ (fu : Nat) (x3 : Int32) (τ : hj_Ob), hj_lp (fun q : (Int32 × hj_Ob) => fX6_passOn_31 q.2 sd x1 x2 q.1) fu (x3, τ) = some τe → (∀ (H : Heap) (locs : List Loc) (ls : Array Slot), hj_P g 13 ad (hj_wm g ad τe sd) H → hj_S 13 ad s H locs → lv_has ls 5 [(0, .ref (ad 0)), (1, .int x1), (2, .int x2)] → W p l e rmX6_passOn s m args below meth c H locs 0 0 (MQ below (hj_QI g 13 ad (hj_wm g ad τF sd) rF s.heap.size) args s 0 0 (hj_A 13 ad s.heap.size)) (F0 m 60 ls [])) → ∀ (H : Heap) (locs : List Loc) (ls : Array Slot), hj_P g 13 ad (hj_wm g ad τ sd) H → hj_S 13 ad s H locs → lv_has ls 5 [(0, .ref (ad 0)), (1, .int x1), (2, .int x2), (3, .int x3)] →
    W p l e rmX6_passOn s m args below meth c H locs 0 0 (MQ below (hj_QI g 13 ad (hj_wm g ad τF sd) rF s.heap.size) args s 0 0 (hj_A 13 ad s.heap.size)) (F0 m 31 ls []) := by
  intro fu
  induction fu with
  | zero => intro x3 τ hq; cases hq
  | succ fu ih =>
    intro x3 τ hq KX H locs ls hP hS hl
    obtain ⟨y, hy, h1, h2⟩ := hj_lp_s hq
    exact wX6_passOn_31b hI C hK  hy (fun τ' hv H locs ls hP hS hl => by obtain rfl := h1 _ hv; exact KX H locs ls hP hS hl) (fun v3 τ' hv H locs ls hP hS hl => ih v3 τ' (h2 _ hv) KX H locs ls hP hS hl) hP hS hl
def fX6_passOn_65 (τ : hj_Ob) (sd : Int64) (x1 : Int32) (x2 : Int32) (x3 : Int32) (x4 : Int32) : Option ((Int32 × hj_Ob) ⊕ (Int32 × Int32 × hj_Ob)) :=
  if (τ.1 0) ≤ x4 then (some (.inl (x3, τ))) else (hj_o1 (fX6_isThere τ sd x1 x4) fun r15 => if r15 = 0 then (hj_nm (x4 + 1) fun y17 => some (.inr (x3, y17, τ))) else (hj_o1 (fX6_givesIn τ sd x1 x4) fun r18 => if r18 = 0 then (hj_nm (x4 + 1) fun y20 => some (.inr (x3, y20, τ))) else (hj_ck x2 30 (hj_ck x2 30 (hj_nm (hj_a τ 4 x2 ((τ.2 4 x2.toNatClampNeg) ^^^ ((1 : Int32) <<< (x4 &&& 31)))) fun τ23 => hj_nm (x3 + 1) fun y24 => hj_nm (x4 + 1) fun y25 => some (.inr (y24, y25, τ23)))))))
set_option maxHeartbeats 4000000 in
set_option maxRecDepth 100000 in
theorem wX6_passOn_65b {p : Program} {l : Launch} {e : Env} {s : State} {m : MethodId} {args : Array Value} {below : List Frame} {meth : Method} {c : Code} {g : hj_G} {ad : Nat → Nat} (hI : hj_I 13 ad) (C : hj_C p s m args meth c cX6_passOn RX6 wsX6_passOn 5 (some .int)) (hK : hj_K g s) {τ : hj_Ob} {sd : Int64} {x1 : Int32} {x2 : Int32} {x3 : Int32} {x4 : Int32} {y : (Int32 × hj_Ob) ⊕ (Int32 × Int32 × hj_Ob)} {rF : Int32} {τF : hj_Ob}
    (hf : fX6_passOn_65 τ sd x1 x2 x3 x4 = some y) (KX : ∀ (v3 : Int32) (τ' : hj_Ob), y = .inl (v3, τ') → ∀ (H : Heap) (locs : List Loc) (ls : Array Slot), hj_P g 13 ad (hj_wm g ad τ' sd) H → hj_S 13 ad s H locs → lv_has ls 5 [(3, .int v3)] → W p l e rmX6_passOn s m args below meth c H locs 0 0 (MQ below (hj_QI g 13 ad (hj_wm g ad τF sd) rF s.heap.size) args s 0 0 (hj_A 13 ad s.heap.size)) (F0 m 116 ls [])) (KI : ∀ (v3 : Int32) (v4 : Int32) (τ' : hj_Ob), y = .inr (v3, v4, τ') → ∀ (H : Heap) (locs : List Loc) (ls : Array Slot), hj_P g 13 ad (hj_wm g ad τ' sd) H → hj_S 13 ad s H locs → lv_has ls 5 [(0, .ref (ad 0)), (1, .int x1), (2, .int x2), (3, .int v3), (4, .int v4)] → W p l e rmX6_passOn s m args below meth c H locs 0 0 (MQ below (hj_QI g 13 ad (hj_wm g ad τF sd) rF s.heap.size) args s 0 0 (hj_A 13 ad s.heap.size)) (F0 m 65 ls [])) {H : Heap} {locs : List Loc} {ls : Array Slot} (hP : hj_P g 13 ad (hj_wm g ad τ sd) H) (hS : hj_S 13 ad s H locs) (hl : lv_has ls 5 [(0, .ref (ad 0)), (1, .int x1), (2, .int x2), (3, .int x3), (4, .int x4)]) :
    W p l e rmX6_passOn s m args below meth c H locs 0 0 (MQ below (hj_QI g 13 ad (hj_wm g ad τF sd) rF s.heap.size) args s 0 0 (hj_A 13 ad s.heap.size)) (F0 m 65 ls []) := by
  obtain ⟨hx, hb, hr, hml, hown, hts, hlocks⟩ := id C
  unfold fX6_passOn_65 at hf
  refine lv_iload hx hb dX6_passOn_65 (lv_at hl 4 rfl) ?_
  refine lv_aload_n hx hb dX6_passOn_67 rfl (lv_at hl 0 rfl) ?_
  refine hj_get (ci := 6) (v := .int (τ.1 0)) (C := RX6) (T := TX6) (N := 24) hx hb hts iX6_passOn_X6 hown hK hP (by decide) rfl rfl 0 (by decide) mX6_passOn_2 rfl dX6_passOn_68 ?_
  refine lv_icmp_ge (tgt := 116) hx hb dX6_passOn_71 (by decide) (fun c14 => ?_) (fun c14 => ?_)
  · rw [if_pos c14] at hf
    exact KX _ _ (Option.some.inj hf).symm _ _ _ hP hS (lv_sub hl [3] rfl)
  · rw [if_neg c14] at hf
    refine lv_aload_n hx hb dX6_passOn_74 rfl (lv_at hl 0 rfl) ?_
    refine lv_iload_n hx hb dX6_passOn_75 rfl (lv_at hl 1 rfl) ?_
    refine lv_iload hx hb dX6_passOn_76 (lv_at hl 4 rfl) ?_
    obtain ⟨r15, hc, hf⟩ := hj_o1_s hf
    refine hj_callVi (nL := 5) (As := [.int x1, .int x4]) (rest := []) (i0 := 0) (C := RX6) (T := TX6) (N := 24) (ci := 6) ⟨hx, hb, hml, hown, hts⟩ (ctX6_isThere l g hI hc) (cwV 2 hts gX6_passOn_X6_isThere rfl rfl rfl (by decide +kernel) ⟨Nat.le_of_ble_eq_true rfl, Nat.le_of_ble_eq_true rfl⟩) hj_Xb0 (fun _ _ _ => trivial) hK hP hS (by decide) rfl rfl rfl hl.1 rfl (Nat.le_of_ble_eq_true rfl) dX6_passOn_78 (fun H locs hP hS => ?_)
    refine lv_if_eq (tgt := 110) hx hb dX6_passOn_81 (by decide) (fun c16 => ?_) (fun c16 => ?_)
    · rw [if_pos c16] at hf
      obtain ⟨y17, ey17⟩ : ∃ z : Int32, z = x4 + 1 := ⟨_, rfl⟩
      replace hf := hj_nm_y hf ey17
      refine lv_iinc (v := y17) (lv' := [(4, .int y17), (0, .ref (ad 0)), (1, .int x1), (2, .int x2), (3, .int x3)]) hx hb dX6_passOn_110 hl (k := 4) rfl (by rw [ey17]; rfl) (by decide) rfl (fun ls hl => ?_)
      refine lv_goto (tgt := 65) hx hb dX6_passOn_113 (by decide) ?_
      exact KI _ _ _ (Option.some.inj hf).symm _ _ _ hP hS (lv_sub hl [1, 2, 3, 4, 0] rfl)
    · rw [if_neg c16] at hf
      refine lv_aload_n hx hb dX6_passOn_84 rfl (lv_at hl 0 rfl) ?_
      refine lv_iload_n hx hb dX6_passOn_85 rfl (lv_at hl 1 rfl) ?_
      refine lv_iload hx hb dX6_passOn_86 (lv_at hl 4 rfl) ?_
      obtain ⟨r18, hc, hf⟩ := hj_o1_s hf
      refine hj_callVi (nL := 5) (As := [.int x1, .int x4]) (rest := []) (i0 := 0) (C := RX6) (T := TX6) (N := 24) (ci := 6) ⟨hx, hb, hml, hown, hts⟩ (ctX6_givesIn l g hI hc) (cwV 2 hts gX6_passOn_X6_givesIn rfl rfl rfl (by decide +kernel) ⟨Nat.le_of_ble_eq_true rfl, Nat.le_of_ble_eq_true rfl⟩) hj_Xb0 (fun _ _ _ => trivial) hK hP hS (by decide) rfl rfl rfl hl.1 rfl (Nat.le_of_ble_eq_true rfl) dX6_passOn_88 (fun H locs hP hS => ?_)
      refine lv_if_eq (tgt := 110) hx hb dX6_passOn_91 (by decide) (fun c19 => ?_) (fun c19 => ?_)
      · rw [if_pos c19] at hf
        obtain ⟨y20, ey20⟩ : ∃ z : Int32, z = x4 + 1 := ⟨_, rfl⟩
        replace hf := hj_nm_y hf ey20
        refine lv_iinc (v := y20) (lv' := [(4, .int y20), (0, .ref (ad 0)), (1, .int x1), (2, .int x2), (3, .int x3)]) hx hb dX6_passOn_110 hl (k := 4) rfl (by rw [ey20]; rfl) (by decide) rfl (fun ls hl => ?_)
        refine lv_goto (tgt := 65) hx hb dX6_passOn_113 (by decide) ?_
        exact KI _ _ _ (Option.some.inj hf).symm _ _ _ hP hS (lv_sub hl [1, 2, 3, 4, 0] rfl)
      · rw [if_neg c19] at hf
        refine lv_aload_n hx hb dX6_passOn_94 rfl (lv_at hl 0 rfl) ?_
        refine hj_get (ci := 6) (v := .ref (ad 3)) (C := RX6) (T := TX6) (N := 24) hx hb hts iX6_passOn_X6 hown hK hP (by decide) rfl rfl 4 (by decide) mX6_passOn_1 rfl dX6_passOn_95 ?_
        refine lv_iload_n hx hb dX6_passOn_98 rfl (lv_at hl 2 rfl) ?_
        refine lv_dup2_11 hx hb dX6_passOn_99 rfl rfl ?_
        obtain ⟨hk21, hf⟩ := hj_ck_s hf
        refine hj_ial (f := τ.2 4) hx hb hK hP (by decide) rfl hk21 dX6_passOn_100 ?_
        refine lv_iconst (v := 1) hx hb dX6_passOn_101 (by decide) ?_
        refine lv_iload hx hb dX6_passOn_102 (lv_at hl 4 rfl) ?_
        refine lv_ishl hx hb dX6_passOn_104 ?_
        refine lv_ixor hx hb dX6_passOn_105 ?_
        obtain ⟨hk22, hf⟩ := hj_ck_s hf
        refine hj_ias (f := τ.2 4) (v := ((τ.2 4 x2.toNatClampNeg) ^^^ ((1 : Int32) <<< (x4 &&& 31)))) hx hb hK hI hP hS (by decide) rfl hk22 dX6_passOn_106 (wm_a2 (τ := τ) (x := x2) (v := ((τ.2 4 x2.toNatClampNeg) ^^^ ((1 : Int32) <<< (x4 &&& 31)))) 3 4 rfl (by decide) (by decide) (by decide)) (fun H locs hP hS => ?_)
        obtain ⟨τ23, eτ23⟩ : ∃ z : hj_Ob, z = hj_a τ 4 x2 ((τ.2 4 x2.toNatClampNeg) ^^^ ((1 : Int32) <<< (x4 &&& 31))) := ⟨_, rfl⟩
        replace hf := hj_nm_y hf eτ23
        rw [← eτ23] at hP
        obtain ⟨y24, ey24⟩ : ∃ z : Int32, z = x3 + 1 := ⟨_, rfl⟩
        replace hf := hj_nm_y hf ey24
        refine lv_iinc (v := y24) (lv' := [(3, .int y24), (0, .ref (ad 0)), (1, .int x1), (2, .int x2), (4, .int x4)]) hx hb dX6_passOn_107 hl (k := 3) rfl (by rw [ey24]; rfl) (by decide) rfl (fun ls hl => ?_)
        obtain ⟨y25, ey25⟩ : ∃ z : Int32, z = x4 + 1 := ⟨_, rfl⟩
        replace hf := hj_nm_y hf ey25
        refine lv_iinc (v := y25) (lv' := [(4, .int y25), (3, .int y24), (0, .ref (ad 0)), (1, .int x1), (2, .int x2)]) hx hb dX6_passOn_110 hl (k := 4) rfl (by rw [ey25]; rfl) (by decide) rfl (fun ls hl => ?_)
        refine lv_goto (tgt := 65) hx hb dX6_passOn_113 (by decide) ?_
        exact KI _ _ _ (Option.some.inj hf).symm _ _ _ hP hS (lv_sub hl [2, 3, 4, 1, 0] rfl)
set_option maxHeartbeats 4000000 in
set_option maxRecDepth 100000 in
theorem wX6_passOn_65 {p : Program} {l : Launch} {e : Env} {s : State} {m : MethodId} {args : Array Value} {below : List Frame} {meth : Method} {c : Code} {g : hj_G} {ad : Nat → Nat} (hI : hj_I 13 ad) (C : hj_C p s m args meth c cX6_passOn RX6 wsX6_passOn 5 (some .int)) (hK : hj_K g s) {sd : Int64} {x1 : Int32} {x2 : Int32} {rF : Int32} {τF : hj_Ob} {e3 : Int32} {τe : hj_Ob} :
    ∀ (fu : Nat) (x3 : Int32) (x4 : Int32) (τ : hj_Ob), hj_lp (fun q : (Int32 × Int32 × hj_Ob) => fX6_passOn_65 q.2.2 sd x1 x2 q.1 q.2.1) fu (x3, x4, τ) = some (e3, τe) → (∀ (H : Heap) (locs : List Loc) (ls : Array Slot), hj_P g 13 ad (hj_wm g ad τe sd) H → hj_S 13 ad s H locs → lv_has ls 5 [(3, .int e3)] → W p l e rmX6_passOn s m args below meth c H locs 0 0 (MQ below (hj_QI g 13 ad (hj_wm g ad τF sd) rF s.heap.size) args s 0 0 (hj_A 13 ad s.heap.size)) (F0 m 116 ls [])) → ∀ (H : Heap) (locs : List Loc) (ls : Array Slot), hj_P g 13 ad (hj_wm g ad τ sd) H → hj_S 13 ad s H locs → lv_has ls 5 [(0, .ref (ad 0)), (1, .int x1), (2, .int x2), (3, .int x3), (4, .int x4)] →
    W p l e rmX6_passOn s m args below meth c H locs 0 0 (MQ below (hj_QI g 13 ad (hj_wm g ad τF sd) rF s.heap.size) args s 0 0 (hj_A 13 ad s.heap.size)) (F0 m 65 ls []) := by
  intro fu
  induction fu with
  | zero => intro x3 x4 τ hq; cases hq
  | succ fu ih =>
    intro x3 x4 τ hq KX H locs ls hP hS hl
    obtain ⟨y, hy, h1, h2⟩ := hj_lp_s hq
    exact wX6_passOn_65b hI C hK  hy (fun v3 τ' hv H locs ls hP hS hl => by have hw := h1 _ hv; obtain ⟨rfl, rfl⟩ := Prod.mk.inj hw; exact KX H locs ls hP hS hl) (fun v3 v4 τ' hv H locs ls hP hS hl => ih v3 v4 τ' (h2 _ hv) KX H locs ls hP hS hl) hP hS hl
def fX6_passOn (τ : hj_Ob) (sd : Int64) (x1 : Int32) : Option (Int32 × hj_Ob) :=
  hj_nm (15 * x1) fun y1 => hj_ck (y1 + 2) 30 (hj_ck (y1 + 2) 30 (hj_nm (hj_a τ 4 (y1 + 2) ((τ.2 4 (y1 + 2).toNatClampNeg) + 1)) fun τ4 => hj_o1 (fX6_verdict τ4 sd x1) fun r5 => if r5 = 9 then (hj_o1 (hj_lp (fun q : (Int32 × hj_Ob) => fX6_passOn_31 q.2 sd x1 y1 q.1) 100 (0, τ4)) fun τ13 => (hj_o2 (hj_lp (fun q : (Int32 × Int32 × hj_Ob) => fX6_passOn_65 q.2.2 sd x1 y1 q.1 q.2.1) 100 (0, 0, τ13)) fun e26 τ27 => (some (e26, τ27)))) else (some (0, τ4))))
set_option maxHeartbeats 4000000 in
set_option maxRecDepth 100000 in
theorem wX6_passOn {p : Program} {l : Launch} {e : Env} {s : State} {m : MethodId} {args : Array Value} {below : List Frame} {meth : Method} {c : Code} {g : hj_G} {ad : Nat → Nat} (hI : hj_I 13 ad) (C : hj_C p s m args meth c cX6_passOn RX6 wsX6_passOn 5 (some .int)) (hK : hj_K g s) {τ : hj_Ob} {sd : Int64} {x1 : Int32} {rF : Int32} {τF : hj_Ob}
    (hf : fX6_passOn τ sd x1 = some (rF, τF)) {H : Heap} {locs : List Loc} {ls : Array Slot} (hP : hj_P g 13 ad (hj_wm g ad τ sd) H) (hS : hj_S 13 ad s H locs) (hl : lv_has ls 5 [(0, .ref (ad 0)), (1, .int x1)]) :
    W p l e rmX6_passOn s m args below meth c H locs 0 0 (MQ below (hj_QI g 13 ad (hj_wm g ad τF sd) rF s.heap.size) args s 0 0 (hj_A 13 ad s.heap.size)) (F0 m 0 ls []) := by
  obtain ⟨hx, hb, hr, hml, hown, hts, hlocks⟩ := id C
  unfold fX6_passOn at hf
  refine lv_bipush (v := 15) hx hb dX6_passOn_0 (by decide) ?_
  refine lv_iload_n hx hb dX6_passOn_2 rfl (lv_at hl 1 rfl) ?_
  refine lv_imul hx hb dX6_passOn_3 ?_
  refine lv_topi (fun y1 ey1 => ?_)
  replace hf := hj_nm_y hf ey1
  refine lv_istore_n (lv' := [(2, .int y1), (0, .ref (ad 0)), (1, .int x1)]) hx hb dX6_passOn_4 rfl hl (by decide) rfl (fun ls hl => ?_)
  refine lv_aload_n hx hb dX6_passOn_5 rfl (lv_at hl 1 rfl) ?_
  refine hj_get (ci := 6) (v := .ref (ad 3)) (C := RX6) (T := TX6) (N := 24) hx hb hts iX6_passOn_X6 hown hK hP (by decide) rfl rfl 4 (by decide) mX6_passOn_1 rfl dX6_passOn_6 ?_
  refine lv_iload_n hx hb dX6_passOn_9 rfl (lv_at hl 0 rfl) ?_
  refine lv_iconst (v := 2) hx hb dX6_passOn_10 (by decide) ?_
  refine lv_iadd hx hb dX6_passOn_11 ?_
  refine lv_dup2_11 hx hb dX6_passOn_12 rfl rfl ?_
  obtain ⟨hk2, hf⟩ := hj_ck_s hf
  refine hj_ial (f := τ.2 4) hx hb hK hP (by decide) rfl hk2 dX6_passOn_13 ?_
  refine lv_iconst (v := 1) hx hb dX6_passOn_14 (by decide) ?_
  refine lv_iadd hx hb dX6_passOn_15 ?_
  obtain ⟨hk3, hf⟩ := hj_ck_s hf
  refine hj_ias (f := τ.2 4) (v := ((τ.2 4 (y1 + 2).toNatClampNeg) + 1)) hx hb hK hI hP hS (by decide) rfl hk3 dX6_passOn_16 (wm_a2 (τ := τ) (x := (y1 + 2)) (v := ((τ.2 4 (y1 + 2).toNatClampNeg) + 1)) 3 4 rfl (by decide) (by decide) (by decide)) (fun H locs hP hS => ?_)
  obtain ⟨τ4, eτ4⟩ : ∃ z : hj_Ob, z = hj_a τ 4 (y1 + 2) ((τ.2 4 (y1 + 2).toNatClampNeg) + 1) := ⟨_, rfl⟩
  replace hf := hj_nm_y hf eτ4
  rw [← eτ4] at hP
  refine lv_aload_n hx hb dX6_passOn_17 rfl (lv_at hl 1 rfl) ?_
  refine lv_iload_n hx hb dX6_passOn_18 rfl (lv_at hl 2 rfl) ?_
  obtain ⟨r5, hc, hf⟩ := hj_o1_s hf
  refine hj_callVi (nL := 5) (As := [.int x1]) (rest := []) (i0 := 0) (C := RX6) (T := TX6) (N := 24) (ci := 6) ⟨hx, hb, hml, hown, hts⟩ (ctX6_verdict l g hI hc) (cwV 1 hts gX6_passOn_X6_verdict rfl rfl rfl (by decide +kernel) ⟨Nat.le_of_ble_eq_true rfl, Nat.le_of_ble_eq_true rfl⟩) hj_Xb0 (fun _ _ _ => trivial) hK hP hS (by decide) rfl rfl rfl hl.1 rfl (Nat.le_of_ble_eq_true rfl) dX6_passOn_19 (fun H locs hP hS => ?_)
  refine lv_bipush (v := 9) hx hb dX6_passOn_22 (by decide) ?_
  refine lv_icmp_eq (tgt := 29) hx hb dX6_passOn_24 (by decide) (fun c6 => ?_) (fun c6 => ?_)
  · rw [if_pos c6] at hf
    refine lv_iconst (v := 0) hx hb dX6_passOn_29 (by decide) ?_
    refine lv_istore_n (lv' := [(3, .int 0), (2, .int y1), (0, .ref (ad 0)), (1, .int x1)]) hx hb dX6_passOn_30 rfl hl (by decide) rfl (fun ls hl => ?_)
    obtain ⟨τ13, hlx, hf⟩ := hj_o1_s hf
    refine wX6_passOn_31 hI C hK  100 0 τ4 hlx (fun H locs ls hP hS hl => ?_) H locs ls hP hS (lv_sub hl [2, 3, 1, 0] rfl)
    refine lv_iconst (v := 0) hx hb dX6_passOn_60 (by decide) ?_
    refine lv_istore_n (lv' := [(3, .int 0), (0, .ref (ad 0)), (1, .int x1), (2, .int y1)]) hx hb dX6_passOn_61 rfl hl (by decide) rfl (fun ls hl => ?_)
    refine lv_iconst (v := 0) hx hb dX6_passOn_62 (by decide) ?_
    refine lv_istore (lv' := [(4, .int 0), (3, .int 0), (0, .ref (ad 0)), (1, .int x1), (2, .int y1)]) hx hb dX6_passOn_63 hl (by decide) rfl (fun ls hl => ?_)
    obtain ⟨e26, τ27, hlx, hf⟩ := hj_o2_s hf
    refine wX6_passOn_65 hI C hK  100 0 0 τ13 hlx (fun H locs ls hP hS hl => ?_) H locs ls hP hS (lv_sub hl [2, 3, 4, 1, 0] rfl)
    refine lv_iload_n hx hb dX6_passOn_116 rfl (lv_at hl 0 rfl) ?_
    have hq := Option.some.inj hf
    obtain ⟨rfl, rfl⟩ := Prod.mk.inj hq
    exact hj_reti C hP hK hS dX6_passOn_117
  · rw [if_neg c6] at hf
    refine lv_iconst (v := 0) hx hb dX6_passOn_27 (by decide) ?_
    have hq := Option.some.inj hf
    obtain ⟨rfl, rfl⟩ := Prod.mk.inj hq
    exact hj_reti C hP hK hS dX6_passOn_28
set_option maxHeartbeats 4000000 in
set_option maxRecDepth 100000 in
theorem ctX6_passOn (l : Launch) (g : hj_G) {ad : Nat → Nat} (hI : hj_I 13 ad) {τ : hj_Ob} {sd : Int64} {x1 : Int32} {rF : Int32} {τF : hj_Ob} (hf : fX6_passOn τ sd x1 = some (rF, τF)) :
    hj_MI l yX6_passOn wsX6_passOn rmX6_passOn g 13 ad hj_X0 [.ref (ad 0), .int x1] (hj_wm g ad τ sd) rF (hj_wm g ad τF sd) := by
  refine hj_ofI (cc := cX6_passOn) (maxL := 5) (ret := (some .int)) (by decide) rfl (Nat.le_of_ble_eq_true rfl) ?_
  intro p e s m args below meth c ls C hP hK hX hl
  exact wX6_passOn hI C hK hf hP va_S.rf hl

/-! X6_juror -/
abbrev rmX6_juror : Room := { frames := 2, cells := 0, slots := 0, locals := 46 }
theorem iX6_juror_X6 : ∀ w ∈ wsX60, w ∈ wsX6_juror := fun _ h => List.mem_cons_of_mem _ (List.mem_append_right _ h)
theorem mX6_juror_1 : Cond.fieldLink RX6 16 "HungryJuryModel" "now" "[I" ∈ wsX6_juror := List.mem_of_getElem? (i := 1) rfl
theorem mX6_juror_2 : Cond.fieldLink RX6 7 "HungryJuryModel" "kind" "[I" ∈ wsX6_juror := List.mem_of_getElem? (i := 2) rfl
theorem mX6_juror_3 : Cond.fieldLink RX6 13 "HungryJuryModel" "heeds" "[I" ∈ wsX6_juror := List.mem_of_getElem? (i := 3) rfl
def fX6_juror (τ : hj_Ob) (sd : Int64) (x1 : Int32) (x2 : Int32) : Option Int32 :=
  hj_o1 (fX6_isJuror τ sd x1) fun r1 => if r1 = 0 then (some (-1)) else (if x2 = 0 then (hj_ck (0 : Int32) 30 (some (((τ.2 4 (0 : Int32).toNatClampNeg) >>> (x1 &&& 31)) &&& 1))) else (if x2 = 1 then (hj_ck (3 + x1) 30 (some (τ.2 4 (3 + x1).toNatClampNeg))) else (if x2 = 2 then (hj_ck x1 6 (some (τ.2 2 x1.toNatClampNeg))) else (if x2 = 3 then (hj_ck (9 + x1) 30 (some (τ.2 4 (9 + x1).toNatClampNeg))) else (if x2 = 4 then (hj_ck x1 6 (some (τ.2 3 x1.toNatClampNeg))) else (if x2 = 5 then (hj_ck (1 : Int32) 30 (some (((τ.2 4 (1 : Int32).toNatClampNeg) >>> (x1 &&& 31)) &&& 1))) else (some (-2))))))))
set_option maxHeartbeats 4000000 in
set_option maxRecDepth 100000 in
theorem wX6_juror {p : Program} {l : Launch} {e : Env} {s : State} {m : MethodId} {args : Array Value} {below : List Frame} {meth : Method} {c : Code} {g : hj_G} {ad : Nat → Nat} (hI : hj_I 13 ad) (C : hj_C p s m args meth c cX6_juror RX6 wsX6_juror 3 (some .int)) (hK : hj_K g s) {τ : hj_Ob} {sd : Int64} {x1 : Int32} {x2 : Int32} {rF : Int32}
    (hf : fX6_juror τ sd x1 x2 = some rF) {H : Heap} {locs : List Loc} {ls : Array Slot} (hP : hj_P g 13 ad (hj_wm g ad τ sd) H) (hS : hj_S 13 ad s H locs) (hl : lv_has ls 3 [(0, .ref (ad 0)), (1, .int x1), (2, .int x2)]) :
    W p l e rmX6_juror s m args below meth c H locs 0 0 (MQ below (hj_QI g 13 ad (hj_wm g ad τ sd) rF s.heap.size) args s 0 0 (hj_A 13 ad s.heap.size)) (F0 m 0 ls []) := by
  obtain ⟨hx, hb, hr, hml, hown, hts, hlocks⟩ := id C
  unfold fX6_juror at hf
  refine lv_aload_n hx hb dX6_juror_0 rfl (lv_at hl 0 rfl) ?_
  refine lv_iload_n hx hb dX6_juror_1 rfl (lv_at hl 1 rfl) ?_
  obtain ⟨r1, hc, hf⟩ := hj_o1_s hf
  refine hj_callVi (nL := 3) (As := [.int x1]) (rest := []) (i0 := 0) (C := RX6) (T := TX6) (N := 24) (ci := 6) ⟨hx, hb, hml, hown, hts⟩ (ctX6_isJuror l g hI hc) (cwV 1 hts gX6_juror_X6_isJuror rfl rfl rfl (by decide +kernel) ⟨Nat.le_of_ble_eq_true rfl, Nat.le_of_ble_eq_true rfl⟩) hj_Xb0 (fun _ _ _ => trivial) hK hP hS (by decide) rfl rfl rfl hl.1 rfl (Nat.le_of_ble_eq_true rfl) dX6_juror_2 (fun H locs hP hS => ?_)
  refine lv_if_ne (tgt := 10) hx hb dX6_juror_5 (by decide) (fun c2 => ?_) (fun c2 => ?_)
  · rw [if_neg c2] at hf
    refine lv_iload_n hx hb dX6_juror_10 rfl (lv_at hl 2 rfl) ?_
    by_cases c3 : x2 = 0
    · rw [if_pos c3] at hf
      refine lv_tableIn (tgt := 48) hx hb dX6_juror_11 (by rw [c3]; decide) (by rw [c3]; decide) (by rw [c3]; rfl) (by decide) ?_
      refine lv_aload_n hx hb dX6_juror_48 rfl (lv_at hl 0 rfl) ?_
      refine hj_get (ci := 6) (v := .ref (ad 3)) (C := RX6) (T := TX6) (N := 24) hx hb hts iX6_juror_X6 hown hK hP (by decide) rfl rfl 4 (by decide) mX6_juror_1 rfl dX6_juror_49 ?_
      refine lv_iconst (v := 0) hx hb dX6_juror_52 (by decide) ?_
      obtain ⟨hk4, hf⟩ := hj_ck_s hf
      refine hj_ial (f := τ.2 4) hx hb hK hP (by decide) rfl hk4 dX6_juror_53 ?_
      refine lv_iload_n hx hb dX6_juror_54 rfl (lv_at hl 1 rfl) ?_
      refine lv_ishr hx hb dX6_juror_55 ?_
      refine lv_iconst (v := 1) hx hb dX6_juror_56 (by decide) ?_
      refine lv_iand hx hb dX6_juror_57 ?_
      have hq := Option.some.inj hf
      obtain rfl := hq
      exact hj_reti C hP hK hS dX6_juror_58
    rw [if_neg c3] at hf
    by_cases c5 : x2 = 1
    · rw [if_pos c5] at hf
      refine lv_tableIn (tgt := 59) hx hb dX6_juror_11 (by rw [c5]; decide) (by rw [c5]; decide) (by rw [c5]; rfl) (by decide) ?_
      refine lv_aload_n hx hb dX6_juror_59 rfl (lv_at hl 0 rfl) ?_
      refine hj_get (ci := 6) (v := .ref (ad 3)) (C := RX6) (T := TX6) (N := 24) hx hb hts iX6_juror_X6 hown hK hP (by decide) rfl rfl 4 (by decide) mX6_juror_1 rfl dX6_juror_60 ?_
      refine lv_iconst (v := 3) hx hb dX6_juror_63 (by decide) ?_
      refine lv_iload_n hx hb dX6_juror_64 rfl (lv_at hl 1 rfl) ?_
      refine lv_iadd hx hb dX6_juror_65 ?_
      obtain ⟨hk6, hf⟩ := hj_ck_s hf
      refine hj_ial (f := τ.2 4) hx hb hK hP (by decide) rfl hk6 dX6_juror_66 ?_
      have hq := Option.some.inj hf
      obtain rfl := hq
      exact hj_reti C hP hK hS dX6_juror_67
    rw [if_neg c5] at hf
    by_cases c7 : x2 = 2
    · rw [if_pos c7] at hf
      refine lv_tableIn (tgt := 68) hx hb dX6_juror_11 (by rw [c7]; decide) (by rw [c7]; decide) (by rw [c7]; rfl) (by decide) ?_
      refine lv_aload_n hx hb dX6_juror_68 rfl (lv_at hl 0 rfl) ?_
      refine hj_get (ci := 6) (v := .ref (ad 1)) (C := RX6) (T := TX6) (N := 24) hx hb hts iX6_juror_X6 hown hK hP (by decide) rfl rfl 2 (by decide) mX6_juror_2 rfl dX6_juror_69 ?_
      refine lv_iload_n hx hb dX6_juror_72 rfl (lv_at hl 1 rfl) ?_
      obtain ⟨hk8, hf⟩ := hj_ck_s hf
      refine hj_ial (f := τ.2 2) hx hb hK hP (by decide) rfl hk8 dX6_juror_73 ?_
      have hq := Option.some.inj hf
      obtain rfl := hq
      exact hj_reti C hP hK hS dX6_juror_74
    rw [if_neg c7] at hf
    by_cases c9 : x2 = 3
    · rw [if_pos c9] at hf
      refine lv_tableIn (tgt := 75) hx hb dX6_juror_11 (by rw [c9]; decide) (by rw [c9]; decide) (by rw [c9]; rfl) (by decide) ?_
      refine lv_aload_n hx hb dX6_juror_75 rfl (lv_at hl 0 rfl) ?_
      refine hj_get (ci := 6) (v := .ref (ad 3)) (C := RX6) (T := TX6) (N := 24) hx hb hts iX6_juror_X6 hown hK hP (by decide) rfl rfl 4 (by decide) mX6_juror_1 rfl dX6_juror_76 ?_
      refine lv_bipush (v := 9) hx hb dX6_juror_79 (by decide) ?_
      refine lv_iload_n hx hb dX6_juror_81 rfl (lv_at hl 1 rfl) ?_
      refine lv_iadd hx hb dX6_juror_82 ?_
      obtain ⟨hk10, hf⟩ := hj_ck_s hf
      refine hj_ial (f := τ.2 4) hx hb hK hP (by decide) rfl hk10 dX6_juror_83 ?_
      have hq := Option.some.inj hf
      obtain rfl := hq
      exact hj_reti C hP hK hS dX6_juror_84
    rw [if_neg c9] at hf
    by_cases c11 : x2 = 4
    · rw [if_pos c11] at hf
      refine lv_tableIn (tgt := 85) hx hb dX6_juror_11 (by rw [c11]; decide) (by rw [c11]; decide) (by rw [c11]; rfl) (by decide) ?_
      refine lv_aload_n hx hb dX6_juror_85 rfl (lv_at hl 0 rfl) ?_
      refine hj_get (ci := 6) (v := .ref (ad 2)) (C := RX6) (T := TX6) (N := 24) hx hb hts iX6_juror_X6 hown hK hP (by decide) rfl rfl 3 (by decide) mX6_juror_3 rfl dX6_juror_86 ?_
      refine lv_iload_n hx hb dX6_juror_89 rfl (lv_at hl 1 rfl) ?_
      obtain ⟨hk12, hf⟩ := hj_ck_s hf
      refine hj_ial (f := τ.2 3) hx hb hK hP (by decide) rfl hk12 dX6_juror_90 ?_
      have hq := Option.some.inj hf
      obtain rfl := hq
      exact hj_reti C hP hK hS dX6_juror_91
    rw [if_neg c11] at hf
    by_cases c13 : x2 = 5
    · rw [if_pos c13] at hf
      refine lv_tableIn (tgt := 92) hx hb dX6_juror_11 (by rw [c13]; decide) (by rw [c13]; decide) (by rw [c13]; rfl) (by decide) ?_
      refine lv_aload_n hx hb dX6_juror_92 rfl (lv_at hl 0 rfl) ?_
      refine hj_get (ci := 6) (v := .ref (ad 3)) (C := RX6) (T := TX6) (N := 24) hx hb hts iX6_juror_X6 hown hK hP (by decide) rfl rfl 4 (by decide) mX6_juror_1 rfl dX6_juror_93 ?_
      refine lv_iconst (v := 1) hx hb dX6_juror_96 (by decide) ?_
      obtain ⟨hk14, hf⟩ := hj_ck_s hf
      refine hj_ial (f := τ.2 4) hx hb hK hP (by decide) rfl hk14 dX6_juror_97 ?_
      refine lv_iload_n hx hb dX6_juror_98 rfl (lv_at hl 1 rfl) ?_
      refine lv_ishr hx hb dX6_juror_99 ?_
      refine lv_iconst (v := 1) hx hb dX6_juror_100 (by decide) ?_
      refine lv_iand hx hb dX6_juror_101 ?_
      have hq := Option.some.inj hf
      obtain rfl := hq
      exact hj_reti C hP hK hS dX6_juror_102
    rw [if_neg c13] at hf
    refine lv_tableOut (tgt := 103) hx hb dX6_juror_11 (by have qc3 := lv_neT c3 (k := 0) (a := 0) (by decide); have qc5 := lv_neT c5 (k := 1) (a := 1) (by decide); have qc7 := lv_neT c7 (k := 2) (a := 2) (by decide); have qc9 := lv_neT c9 (k := 3) (a := 3) (by decide); have qc11 := lv_neT c11 (k := 4) (a := 4) (by decide); have qc13 := lv_neT c13 (k := 5) (a := 5) (by decide); omega) (by decide) ?_
    refine lv_bipush (v := (-2)) hx hb dX6_juror_103 (by decide) ?_
    have hq := Option.some.inj hf
    obtain rfl := hq
    exact hj_reti C hP hK hS dX6_juror_105
  · rw [if_pos c2] at hf
    refine lv_iconst (v := (-1)) hx hb dX6_juror_8 (by decide) ?_
    have hq := Option.some.inj hf
    obtain rfl := hq
    exact hj_reti C hP hK hS dX6_juror_9
set_option maxHeartbeats 4000000 in
set_option maxRecDepth 100000 in
theorem ctX6_juror (l : Launch) (g : hj_G) {ad : Nat → Nat} (hI : hj_I 13 ad) {τ : hj_Ob} {sd : Int64} {x1 : Int32} {x2 : Int32} {rF : Int32} (hf : fX6_juror τ sd x1 x2 = some rF) :
    hj_MI l yX6_juror wsX6_juror rmX6_juror g 13 ad hj_X0 [.ref (ad 0), .int x1, .int x2] (hj_wm g ad τ sd) rF (hj_wm g ad τ sd) := by
  refine hj_ofI (cc := cX6_juror) (maxL := 3) (ret := (some .int)) (by decide) rfl (Nat.le_of_ble_eq_true rfl) ?_
  intro p e s m args below meth c ls C hP hK hX hl
  exact wX6_juror hI C hK hf hP va_S.rf hl
