/-! X2_copyFrom -/
abbrev rmX2_copyFrom : Room := { frames := 0, cells := 0, slots := 0, locals := 0 }
theorem iX2_copyFrom_X2 : ∀ w ∈ wsX20, w ∈ wsX2_copyFrom := fun _ h => List.mem_cons_of_mem _ (List.mem_append_right _ h)
theorem mX2_copyFrom_1 : Cond.fieldLink RX2 28 "HungryJury$Room" "yes" "I" ∈ wsX2_copyFrom := List.mem_of_getElem? (i := 1) rfl
theorem mX2_copyFrom_2 : Cond.fieldLink RX2 32 "HungryJury$Room" "there" "I" ∈ wsX2_copyFrom := List.mem_of_getElem? (i := 2) rfl
theorem mX2_copyFrom_3 : Cond.fieldLink RX2 35 "HungryJury$Room" "theHour" "I" ∈ wsX2_copyFrom := List.mem_of_getElem? (i := 3) rfl
theorem mX2_copyFrom_4 : Cond.fieldLink RX2 9 "HungryJury$Room" "stubborn" "[I" ∈ wsX2_copyFrom := List.mem_of_getElem? (i := 4) rfl
theorem mX2_copyFrom_5 : Cond.fieldLink RX2 15 "HungryJury$Room" "hunger" "[I" ∈ wsX2_copyFrom := List.mem_of_getElem? (i := 5) rfl
def fX2_copyFrom_26 (π : hj_Ob) (ρo : hj_Ob) (ρ : hj_Ob) (x2 : Int32) : Option (hj_Ob ⊕ (Int32 × hj_Ob)) :=
  if 6 ≤ x2 then (some (.inl ρ)) else (hj_ck x2 6 (hj_ck x2 6 (hj_nm (hj_a ρ 1 x2 (ρo.2 1 x2.toNatClampNeg)) fun ρ7 => hj_ck x2 6 (hj_ck x2 6 (hj_nm (hj_a ρ7 2 x2 (ρo.2 2 x2.toNatClampNeg)) fun ρ10 => hj_nm (x2 + 1) fun y11 => some (.inr (y11, ρ10)))))))
set_option maxHeartbeats 4000000 in
set_option maxRecDepth 100000 in
theorem wX2_copyFrom_26b {p : Program} {l : Launch} {e : Env} {s : State} {m : MethodId} {args : Array Value} {below : List Frame} {meth : Method} {c : Code} {g : hj_G} {ad : Nat → Nat} (hI : hj_I 73 ad) (C : hj_C p s m args meth c cX2_copyFrom RX2 wsX2_copyFrom 3 none) (hK : hj_K g s) {σ : Nat → hj_Ob} {bf : Nat → Nat} {sd : Int64} {o : Nat} (ho : wx_R o) {π : hj_Ob} (hπ : σ 3 = π) {o2 : Nat} (ho2 : wx_R o2) (h22 : o2 ≠ o) {ρo : hj_Ob} (hρ2 : σ o2 = ρo) {ρ : hj_Ob} {x2 : Int32} {y : hj_Ob ⊕ (Int32 × hj_Ob)} {ρF : hj_Ob}
    (hf : fX2_copyFrom_26 π ρo ρ x2 = some y) (KX : ∀ (ρ' : hj_Ob), y = .inl ρ' → ∀ (H : Heap) (locs : List Loc) (ls : Array Slot), hj_P g 73 ad (hj_wx g ad (va_up σ o ρ') bf sd) H → hj_S 73 ad s H locs → lv_has ls 3 [] → W p l e rmX2_copyFrom s m args below meth c H locs 0 0 (MQ below (hj_QV g 73 ad (hj_wx g ad (va_up σ o ρF) bf sd) s.heap.size) args s 0 0 (hj_A 73 ad s.heap.size)) (F0 m 62 ls [])) (KI : ∀ (v2 : Int32) (ρ' : hj_Ob), y = .inr (v2, ρ') → ∀ (H : Heap) (locs : List Loc) (ls : Array Slot), hj_P g 73 ad (hj_wx g ad (va_up σ o ρ') bf sd) H → hj_S 73 ad s H locs → lv_has ls 3 [(0, .ref (ad o)), (1, .ref (ad o2)), (2, .int v2)] → W p l e rmX2_copyFrom s m args below meth c H locs 0 0 (MQ below (hj_QV g 73 ad (hj_wx g ad (va_up σ o ρF) bf sd) s.heap.size) args s 0 0 (hj_A 73 ad s.heap.size)) (F0 m 26 ls [])) {H : Heap} {locs : List Loc} {ls : Array Slot} (hP : hj_P g 73 ad (hj_wx g ad (va_up σ o ρ) bf sd) H) (hS : hj_S 73 ad s H locs) (hl : lv_has ls 3 [(0, .ref (ad o)), (1, .ref (ad o2)), (2, .int x2)]) :
    W p l e rmX2_copyFrom s m args below meth c H locs 0 0 (MQ below (hj_QV g 73 ad (hj_wx g ad (va_up σ o ρF) bf sd) s.heap.size) args s 0 0 (hj_A 73 ad s.heap.size)) (F0 m 26 ls []) := by
  obtain ⟨hx, hb, hr, hml, hown, hts, hlocks⟩ := id C
  unfold fX2_copyFrom_26 at hf
  refine lv_iload_n hx hb dX2_copyFrom_26 rfl (lv_at hl 2 rfl) ?_
  refine lv_bipush (v := 6) hx hb dX2_copyFrom_27 (by decide) ?_
  refine lv_icmp_ge (tgt := 62) hx hb dX2_copyFrom_29 (by decide) (fun c4 => ?_) (fun c4 => ?_)
  · rw [if_pos c4] at hf
    exact KX _ (Option.some.inj hf).symm _ _ _ hP hS (lv_sub hl [] rfl)
  · rw [if_neg c4] at hf
    refine lv_aload_n hx hb dX2_copyFrom_32 rfl (lv_at hl 0 rfl) ?_
    refine hj_get (ci := 2) (v := .ref (ad (o + 1))) (C := RX2) (T := TX2) (N := 6) hx hb hts iX2_copyFrom_X2 hown hK hP (wx_R_lt (k := 0) ho (by decide)) (wx_at_r ho (va_up_self _ _ _)) rfl 1 (by decide) mX2_copyFrom_4 rfl dX2_copyFrom_33 ?_
    refine lv_iload_n hx hb dX2_copyFrom_36 rfl (lv_at hl 2 rfl) ?_
    refine lv_aload_n hx hb dX2_copyFrom_37 rfl (lv_at hl 1 rfl) ?_
    refine hj_get (ci := 2) (v := .ref (ad (o2 + 1))) (C := RX2) (T := TX2) (N := 6) hx hb hts iX2_copyFrom_X2 hown hK hP (wx_R_lt (k := 0) ho2 (by decide)) (wx_at_r ho2 ((va_up_ne _ _ h22).trans hρ2)) rfl 1 (by decide) mX2_copyFrom_4 rfl dX2_copyFrom_38 ?_
    refine lv_iload_n hx hb dX2_copyFrom_41 rfl (lv_at hl 2 rfl) ?_
    obtain ⟨hk5, hf⟩ := hj_ck_s hf
    refine hj_ial (f := ρo.2 1) hx hb hK hP (wx_R_lt (k := 1) ho2 (by decide)) (wx_at_ra 1 ho2 (by decide) ((va_up_ne _ _ h22).trans hρ2)) hk5 dX2_copyFrom_42 ?_
    obtain ⟨hk6, hf⟩ := hj_ck_s hf
    refine hj_ias (f := ρ.2 1) (v := (ρo.2 1 x2.toNatClampNeg)) hx hb hK hI hP hS (wx_R_lt (k := 1) ho (by decide)) (wx_at_ra 1 ho (by decide) (va_up_self _ _ _)) hk6 dX2_copyFrom_43 ((wx_a_r (x := x2) (v := (ρo.2 1 x2.toNatClampNeg)) 1 ho (by decide) (va_up_self _ _ _)).trans (by rw [hj_uu])) (fun H locs hP hS => ?_)
    obtain ⟨ρ7, eρ7⟩ : ∃ z : hj_Ob, z = hj_a ρ 1 x2 (ρo.2 1 x2.toNatClampNeg) := ⟨_, rfl⟩
    replace hf := hj_nm_y hf eρ7
    rw [← eρ7] at hP
    refine lv_aload_n hx hb dX2_copyFrom_44 rfl (lv_at hl 0 rfl) ?_
    refine hj_get (ci := 2) (v := .ref (ad (o + 2))) (C := RX2) (T := TX2) (N := 6) hx hb hts iX2_copyFrom_X2 hown hK hP (wx_R_lt (k := 0) ho (by decide)) (wx_at_r ho (va_up_self _ _ _)) rfl 2 (by decide) mX2_copyFrom_5 rfl dX2_copyFrom_45 ?_
    refine lv_iload_n hx hb dX2_copyFrom_48 rfl (lv_at hl 2 rfl) ?_
    refine lv_aload_n hx hb dX2_copyFrom_49 rfl (lv_at hl 1 rfl) ?_
    refine hj_get (ci := 2) (v := .ref (ad (o2 + 2))) (C := RX2) (T := TX2) (N := 6) hx hb hts iX2_copyFrom_X2 hown hK hP (wx_R_lt (k := 0) ho2 (by decide)) (wx_at_r ho2 ((va_up_ne _ _ h22).trans hρ2)) rfl 2 (by decide) mX2_copyFrom_5 rfl dX2_copyFrom_50 ?_
    refine lv_iload_n hx hb dX2_copyFrom_53 rfl (lv_at hl 2 rfl) ?_
    obtain ⟨hk8, hf⟩ := hj_ck_s hf
    refine hj_ial (f := ρo.2 2) hx hb hK hP (wx_R_lt (k := 2) ho2 (by decide)) (wx_at_ra 2 ho2 (by decide) ((va_up_ne _ _ h22).trans hρ2)) hk8 dX2_copyFrom_54 ?_
    obtain ⟨hk9, hf⟩ := hj_ck_s hf
    refine hj_ias (f := ρ7.2 2) (v := (ρo.2 2 x2.toNatClampNeg)) hx hb hK hI hP hS (wx_R_lt (k := 2) ho (by decide)) (wx_at_ra 2 ho (by decide) (va_up_self _ _ _)) hk9 dX2_copyFrom_55 ((wx_a_r (x := x2) (v := (ρo.2 2 x2.toNatClampNeg)) 2 ho (by decide) (va_up_self _ _ _)).trans (by rw [hj_uu])) (fun H locs hP hS => ?_)
    obtain ⟨ρ10, eρ10⟩ : ∃ z : hj_Ob, z = hj_a ρ7 2 x2 (ρo.2 2 x2.toNatClampNeg) := ⟨_, rfl⟩
    replace hf := hj_nm_y hf eρ10
    rw [← eρ10] at hP
    obtain ⟨y11, ey11⟩ : ∃ z : Int32, z = x2 + 1 := ⟨_, rfl⟩
    replace hf := hj_nm_y hf ey11
    refine lv_iinc (v := y11) (lv' := [(2, .int y11), (0, .ref (ad o)), (1, .ref (ad o2))]) hx hb dX2_copyFrom_56 hl (k := 2) rfl (by rw [ey11]; rfl) (by decide) rfl (fun ls hl => ?_)
    refine lv_goto (tgt := 26) hx hb dX2_copyFrom_59 (by decide) ?_
    exact KI _ _ (Option.some.inj hf).symm _ _ _ hP hS (lv_sub hl [1, 2, 0] rfl)
set_option maxHeartbeats 4000000 in
set_option maxRecDepth 100000 in
theorem wX2_copyFrom_26 {p : Program} {l : Launch} {e : Env} {s : State} {m : MethodId} {args : Array Value} {below : List Frame} {meth : Method} {c : Code} {g : hj_G} {ad : Nat → Nat} (hI : hj_I 73 ad) (C : hj_C p s m args meth c cX2_copyFrom RX2 wsX2_copyFrom 3 none) (hK : hj_K g s) {σ : Nat → hj_Ob} {bf : Nat → Nat} {sd : Int64} {o : Nat} (ho : wx_R o) {π : hj_Ob} (hπ : σ 3 = π) {o2 : Nat} (ho2 : wx_R o2) (h22 : o2 ≠ o) {ρo : hj_Ob} (hρ2 : σ o2 = ρo) {ρF : hj_Ob} {ρe : hj_Ob} :
    ∀ (fu : Nat) (x2 : Int32) (ρ : hj_Ob), hj_lp (fun q : (Int32 × hj_Ob) => fX2_copyFrom_26 π ρo q.2 q.1) fu (x2, ρ) = some ρe → (∀ (H : Heap) (locs : List Loc) (ls : Array Slot), hj_P g 73 ad (hj_wx g ad (va_up σ o ρe) bf sd) H → hj_S 73 ad s H locs → lv_has ls 3 [] → W p l e rmX2_copyFrom s m args below meth c H locs 0 0 (MQ below (hj_QV g 73 ad (hj_wx g ad (va_up σ o ρF) bf sd) s.heap.size) args s 0 0 (hj_A 73 ad s.heap.size)) (F0 m 62 ls [])) → ∀ (H : Heap) (locs : List Loc) (ls : Array Slot), hj_P g 73 ad (hj_wx g ad (va_up σ o ρ) bf sd) H → hj_S 73 ad s H locs → lv_has ls 3 [(0, .ref (ad o)), (1, .ref (ad o2)), (2, .int x2)] →
    W p l e rmX2_copyFrom s m args below meth c H locs 0 0 (MQ below (hj_QV g 73 ad (hj_wx g ad (va_up σ o ρF) bf sd) s.heap.size) args s 0 0 (hj_A 73 ad s.heap.size)) (F0 m 26 ls []) := by
  intro fu
  induction fu with
  | zero => intro x2 ρ hq; cases hq
  | succ fu ih =>
    intro x2 ρ hq KX H locs ls hP hS hl
    obtain ⟨y, hy, h1, h2⟩ := hj_lp_s hq
    exact wX2_copyFrom_26b hI C hK ho hπ ho2 h22 hρ2  hy (fun ρ' hv H locs ls hP hS hl => by obtain rfl := h1 _ hv; exact KX H locs ls hP hS hl) (fun v2 ρ' hv H locs ls hP hS hl => ih v2 ρ' (h2 _ hv) KX H locs ls hP hS hl) hP hS hl
def fX2_copyFrom (π : hj_Ob) (ρo : hj_Ob) (ρ : hj_Ob) : Option hj_Ob :=
  hj_nm (hj_s ρ 3 (ρo.1 3)) fun ρ1 => hj_nm (hj_s ρ1 4 (ρo.1 4)) fun ρ2 => hj_nm (hj_s ρ2 5 (ρo.1 5)) fun ρ3 => hj_o1 (hj_lp (fun q : (Int32 × hj_Ob) => fX2_copyFrom_26 π ρo q.2 q.1) 100 (0, ρ3)) fun ρ12 => (some ρ12)
set_option maxHeartbeats 4000000 in
set_option maxRecDepth 100000 in
theorem wX2_copyFrom {p : Program} {l : Launch} {e : Env} {s : State} {m : MethodId} {args : Array Value} {below : List Frame} {meth : Method} {c : Code} {g : hj_G} {ad : Nat → Nat} (hI : hj_I 73 ad) (C : hj_C p s m args meth c cX2_copyFrom RX2 wsX2_copyFrom 3 none) (hK : hj_K g s) {σ : Nat → hj_Ob} {bf : Nat → Nat} {sd : Int64} {o : Nat} (ho : wx_R o) {π : hj_Ob} (hπ : σ 3 = π) {o2 : Nat} (ho2 : wx_R o2) (h22 : o2 ≠ o) {ρo : hj_Ob} (hρ2 : σ o2 = ρo) {ρ : hj_Ob} {ρF : hj_Ob}
    (hf : fX2_copyFrom π ρo ρ = some ρF) {H : Heap} {locs : List Loc} {ls : Array Slot} (hP : hj_P g 73 ad (hj_wx g ad (va_up σ o ρ) bf sd) H) (hS : hj_S 73 ad s H locs) (hl : lv_has ls 3 [(0, .ref (ad o)), (1, .ref (ad o2))]) :
    W p l e rmX2_copyFrom s m args below meth c H locs 0 0 (MQ below (hj_QV g 73 ad (hj_wx g ad (va_up σ o ρF) bf sd) s.heap.size) args s 0 0 (hj_A 73 ad s.heap.size)) (F0 m 0 ls []) := by
  obtain ⟨hx, hb, hr, hml, hown, hts, hlocks⟩ := id C
  unfold fX2_copyFrom at hf
  refine lv_aload_n hx hb dX2_copyFrom_0 rfl (lv_at hl 0 rfl) ?_
  refine lv_aload_n hx hb dX2_copyFrom_1 rfl (lv_at hl 1 rfl) ?_
  refine hj_get (ci := 2) (v := .int (ρo.1 3)) (C := RX2) (T := TX2) (N := 6) hx hb hts iX2_copyFrom_X2 hown hK hP (wx_R_lt (k := 0) ho2 (by decide)) (wx_at_r ho2 ((va_up_ne _ _ h22).trans hρ2)) rfl 3 (by decide) mX2_copyFrom_1 rfl dX2_copyFrom_2 ?_
  refine hj_put (ci := 2) (v := .int (ρo.1 3)) (C := RX2) (T := TX2) (N := 6) hx hb hts iX2_copyFrom_X2 tyX2 tyX2_ok nmX2 hown hK hI hP hS (wx_R_lt (k := 0) ho (by decide)) (wx_at_r ho (va_up_self _ _ _)) rfl 3 (by decide) mX2_copyFrom_1 rfl rfl rfl (Nat.le_of_ble_eq_true rfl) dX2_copyFrom_5 ((wx_s_r (k := 3) (v := ρo.1 3) ho (va_up_self _ _ _) rfl).trans (by rw [hj_uu])) (fun H locs hP hS => ?_)
  obtain ⟨ρ1, eρ1⟩ : ∃ z : hj_Ob, z = hj_s ρ 3 (ρo.1 3) := ⟨_, rfl⟩
  replace hf := hj_nm_y hf eρ1
  rw [← eρ1] at hP
  refine lv_aload_n hx hb dX2_copyFrom_8 rfl (lv_at hl 0 rfl) ?_
  refine lv_aload_n hx hb dX2_copyFrom_9 rfl (lv_at hl 1 rfl) ?_
  refine hj_get (ci := 2) (v := .int (ρo.1 4)) (C := RX2) (T := TX2) (N := 6) hx hb hts iX2_copyFrom_X2 hown hK hP (wx_R_lt (k := 0) ho2 (by decide)) (wx_at_r ho2 ((va_up_ne _ _ h22).trans hρ2)) rfl 4 (by decide) mX2_copyFrom_2 rfl dX2_copyFrom_10 ?_
  refine hj_put (ci := 2) (v := .int (ρo.1 4)) (C := RX2) (T := TX2) (N := 6) hx hb hts iX2_copyFrom_X2 tyX2 tyX2_ok nmX2 hown hK hI hP hS (wx_R_lt (k := 0) ho (by decide)) (wx_at_r ho (va_up_self _ _ _)) rfl 4 (by decide) mX2_copyFrom_2 rfl rfl rfl (Nat.le_of_ble_eq_true rfl) dX2_copyFrom_13 ((wx_s_r (k := 4) (v := ρo.1 4) ho (va_up_self _ _ _) rfl).trans (by rw [hj_uu])) (fun H locs hP hS => ?_)
  obtain ⟨ρ2, eρ2⟩ : ∃ z : hj_Ob, z = hj_s ρ1 4 (ρo.1 4) := ⟨_, rfl⟩
  replace hf := hj_nm_y hf eρ2
  rw [← eρ2] at hP
  refine lv_aload_n hx hb dX2_copyFrom_16 rfl (lv_at hl 0 rfl) ?_
  refine lv_aload_n hx hb dX2_copyFrom_17 rfl (lv_at hl 1 rfl) ?_
  refine hj_get (ci := 2) (v := .int (ρo.1 5)) (C := RX2) (T := TX2) (N := 6) hx hb hts iX2_copyFrom_X2 hown hK hP (wx_R_lt (k := 0) ho2 (by decide)) (wx_at_r ho2 ((va_up_ne _ _ h22).trans hρ2)) rfl 5 (by decide) mX2_copyFrom_3 rfl dX2_copyFrom_18 ?_
  refine hj_put (ci := 2) (v := .int (ρo.1 5)) (C := RX2) (T := TX2) (N := 6) hx hb hts iX2_copyFrom_X2 tyX2 tyX2_ok nmX2 hown hK hI hP hS (wx_R_lt (k := 0) ho (by decide)) (wx_at_r ho (va_up_self _ _ _)) rfl 5 (by decide) mX2_copyFrom_3 rfl rfl rfl (Nat.le_of_ble_eq_true rfl) dX2_copyFrom_21 ((wx_s_r (k := 5) (v := ρo.1 5) ho (va_up_self _ _ _) rfl).trans (by rw [hj_uu])) (fun H locs hP hS => ?_)
  obtain ⟨ρ3, eρ3⟩ : ∃ z : hj_Ob, z = hj_s ρ2 5 (ρo.1 5) := ⟨_, rfl⟩
  replace hf := hj_nm_y hf eρ3
  rw [← eρ3] at hP
  refine lv_iconst (v := 0) hx hb dX2_copyFrom_24 (by decide) ?_
  refine lv_istore_n (lv' := [(2, .int 0), (0, .ref (ad o)), (1, .ref (ad o2))]) hx hb dX2_copyFrom_25 rfl hl (by decide) rfl (fun ls hl => ?_)
  obtain ⟨ρ12, hlx, hf⟩ := hj_o1_s hf
  refine wX2_copyFrom_26 hI C hK ho hπ ho2 h22 hρ2  100 0 ρ3 hlx (fun H locs ls hP hS hl => ?_) H locs ls hP hS (lv_sub hl [1, 2, 0] rfl)
  have hq := Option.some.inj hf
  obtain rfl := hq
  exact hj_retv C hP hK hS dX2_copyFrom_62
set_option maxHeartbeats 4000000 in
set_option maxRecDepth 100000 in
theorem ctX2_copyFrom (l : Launch) (g : hj_G) {ad : Nat → Nat} (hI : hj_I 73 ad) {σ : Nat → hj_Ob} {bf : Nat → Nat} {sd : Int64} {o : Nat} (ho : wx_R o) {π : hj_Ob} (hπ : σ 3 = π) {o2 : Nat} (ho2 : wx_R o2) (h22 : o2 ≠ o) {ρo : hj_Ob} (hρ2 : σ o2 = ρo) {ρ : hj_Ob} (hρ : σ o = ρ) {ρF : hj_Ob} (hf : fX2_copyFrom π ρo ρ = some ρF) :
    hj_MV l yX2_copyFrom wsX2_copyFrom rmX2_copyFrom g 73 ad hj_X0 [.ref (ad o), .ref (ad o2)] (hj_wx g ad σ bf sd) (hj_wx g ad (va_up σ o ρF) bf sd) := by
  refine hj_ofV (cc := cX2_copyFrom) (maxL := 3) (ret := none) (by decide) rfl (Nat.le_of_ble_eq_true rfl) ?_
  intro p e s m args below meth c ls C hP hK hX hl
  have hP : hj_P g 73 ad (hj_wx g ad (va_up σ o ρ) bf sd) s.heap := by rw [hj_ue σ _ hρ]; exact hP
  exact wX2_copyFrom hI C hK ho hπ ho2 h22 hρ2 hf hP va_S.rf hl

/-! X2_beginAnew -/
abbrev rmX2_beginAnew : Room := { frames := 0, cells := 0, slots := 0, locals := 0 }
theorem iX2_beginAnew_X2 : ∀ w ∈ wsX20, w ∈ wsX2_beginAnew := fun _ h => List.mem_cons_of_mem _ (List.mem_append_left _ (List.mem_append_right _ h))
theorem mX2_beginAnew_1 : Cond.fieldLink RX2 18 "HungryJury$Room" "panel" "LHungryJury$Panel;" ∈ wsX2_beginAnew := List.mem_of_getElem? (i := 1) rfl
theorem iX2_beginAnew_X1 : ∀ w ∈ wsX10, w ∈ wsX2_beginAnew := fun _ h => List.mem_cons_of_mem _ (List.mem_append_right _ h)
theorem mX2_beginAnew_2 : Cond.fieldLink RX2 22 "HungryJury$Panel" "yes" "I" ∈ wsX2_beginAnew := List.mem_of_getElem? (i := 2) rfl
theorem mX2_beginAnew_3 : Cond.fieldLink RX2 28 "HungryJury$Room" "yes" "I" ∈ wsX2_beginAnew := List.mem_of_getElem? (i := 3) rfl
theorem mX2_beginAnew_4 : Cond.fieldLink RX2 29 "HungryJury$Panel" "jurors" "I" ∈ wsX2_beginAnew := List.mem_of_getElem? (i := 4) rfl
theorem mX2_beginAnew_5 : Cond.fieldLink RX2 32 "HungryJury$Room" "there" "I" ∈ wsX2_beginAnew := List.mem_of_getElem? (i := 5) rfl
theorem mX2_beginAnew_6 : Cond.fieldLink RX2 35 "HungryJury$Room" "theHour" "I" ∈ wsX2_beginAnew := List.mem_of_getElem? (i := 6) rfl
theorem mX2_beginAnew_7 : Cond.fieldLink RX2 9 "HungryJury$Room" "stubborn" "[I" ∈ wsX2_beginAnew := List.mem_of_getElem? (i := 7) rfl
theorem mX2_beginAnew_8 : Cond.fieldLink RX2 38 "HungryJury$Panel" "stubborn" "[I" ∈ wsX2_beginAnew := List.mem_of_getElem? (i := 8) rfl
theorem mX2_beginAnew_9 : Cond.fieldLink RX2 15 "HungryJury$Room" "hunger" "[I" ∈ wsX2_beginAnew := List.mem_of_getElem? (i := 9) rfl
def fX2_beginAnew_33 (π : hj_Ob) (ρ : hj_Ob) (x1 : Int32) : Option (hj_Ob ⊕ (Int32 × hj_Ob)) :=
  if 6 ≤ x1 then (some (.inl ρ)) else (hj_ck x1 6 (hj_ck x1 6 (hj_nm (hj_a ρ 1 x1 (π.2 0 x1.toNatClampNeg)) fun ρ7 => hj_ck x1 6 (hj_nm (hj_a ρ7 2 x1 0) fun ρ9 => hj_nm (x1 + 1) fun y10 => some (.inr (y10, ρ9))))))
set_option maxHeartbeats 4000000 in
set_option maxRecDepth 100000 in
theorem wX2_beginAnew_33b {p : Program} {l : Launch} {e : Env} {s : State} {m : MethodId} {args : Array Value} {below : List Frame} {meth : Method} {c : Code} {g : hj_G} {ad : Nat → Nat} (hI : hj_I 73 ad) (C : hj_C p s m args meth c cX2_beginAnew RX2 wsX2_beginAnew 2 none) (hK : hj_K g s) {σ : Nat → hj_Ob} {bf : Nat → Nat} {sd : Int64} {o : Nat} (ho : wx_R o) {π : hj_Ob} (hπ : σ 3 = π) {ρ : hj_Ob} {x1 : Int32} {y : hj_Ob ⊕ (Int32 × hj_Ob)} {ρF : hj_Ob}
    (hf : fX2_beginAnew_33 π ρ x1 = some y) (KX : ∀ (ρ' : hj_Ob), y = .inl ρ' → ∀ (H : Heap) (locs : List Loc) (ls : Array Slot), hj_P g 73 ad (hj_wx g ad (va_up σ o ρ') bf sd) H → hj_S 73 ad s H locs → lv_has ls 2 [] → W p l e rmX2_beginAnew s m args below meth c H locs 0 0 (MQ below (hj_QV g 73 ad (hj_wx g ad (va_up σ o ρF) bf sd) s.heap.size) args s 0 0 (hj_A 73 ad s.heap.size)) (F0 m 67 ls [])) (KI : ∀ (v1 : Int32) (ρ' : hj_Ob), y = .inr (v1, ρ') → ∀ (H : Heap) (locs : List Loc) (ls : Array Slot), hj_P g 73 ad (hj_wx g ad (va_up σ o ρ') bf sd) H → hj_S 73 ad s H locs → lv_has ls 2 [(0, .ref (ad o)), (1, .int v1)] → W p l e rmX2_beginAnew s m args below meth c H locs 0 0 (MQ below (hj_QV g 73 ad (hj_wx g ad (va_up σ o ρF) bf sd) s.heap.size) args s 0 0 (hj_A 73 ad s.heap.size)) (F0 m 33 ls [])) {H : Heap} {locs : List Loc} {ls : Array Slot} (hP : hj_P g 73 ad (hj_wx g ad (va_up σ o ρ) bf sd) H) (hS : hj_S 73 ad s H locs) (hl : lv_has ls 2 [(0, .ref (ad o)), (1, .int x1)]) :
    W p l e rmX2_beginAnew s m args below meth c H locs 0 0 (MQ below (hj_QV g 73 ad (hj_wx g ad (va_up σ o ρF) bf sd) s.heap.size) args s 0 0 (hj_A 73 ad s.heap.size)) (F0 m 33 ls []) := by
  obtain ⟨hx, hb, hr, hml, hown, hts, hlocks⟩ := id C
  unfold fX2_beginAnew_33 at hf
  refine lv_iload_n hx hb dX2_beginAnew_33 rfl (lv_at hl 1 rfl) ?_
  refine lv_bipush (v := 6) hx hb dX2_beginAnew_34 (by decide) ?_
  refine lv_icmp_ge (tgt := 67) hx hb dX2_beginAnew_36 (by decide) (fun c4 => ?_) (fun c4 => ?_)
  · rw [if_pos c4] at hf
    exact KX _ (Option.some.inj hf).symm _ _ _ hP hS (lv_sub hl [] rfl)
  · rw [if_neg c4] at hf
    refine lv_aload_n hx hb dX2_beginAnew_39 rfl (lv_at hl 0 rfl) ?_
    refine hj_get (ci := 2) (v := .ref (ad (o + 1))) (C := RX2) (T := TX2) (N := 6) hx hb hts iX2_beginAnew_X2 hown hK hP (wx_R_lt (k := 0) ho (by decide)) (wx_at_r ho (va_up_self _ _ _)) rfl 1 (by decide) mX2_beginAnew_7 rfl dX2_beginAnew_40 ?_
    refine lv_iload_n hx hb dX2_beginAnew_43 rfl (lv_at hl 1 rfl) ?_
    refine lv_aload_n hx hb dX2_beginAnew_44 rfl (lv_at hl 0 rfl) ?_
    refine hj_get (ci := 2) (v := .ref (ad 3)) (C := RX2) (T := TX2) (N := 6) hx hb hts iX2_beginAnew_X2 hown hK hP (wx_R_lt (k := 0) ho (by decide)) (wx_at_r ho (va_up_self _ _ _)) rfl 0 (by decide) mX2_beginAnew_1 rfl dX2_beginAnew_45 ?_
    refine hj_get (ci := 1) (v := .ref (ad (3 + 1))) (C := RX1) (T := TX1) (N := 6) hx hb hts iX2_beginAnew_X1 hown hK hP (by decide) (wx_at_b (Or.inl rfl) ((va_up_ne _ _ (wx_R_3 ho)).trans hπ)) rfl 0 (by decide) mX2_beginAnew_8 rfl dX2_beginAnew_48 ?_
    refine lv_iload_n hx hb dX2_beginAnew_51 rfl (lv_at hl 1 rfl) ?_
    obtain ⟨hk5, hf⟩ := hj_ck_s hf
    refine hj_ial (f := π.2 0) hx hb hK hP (by decide) (wx_at_ba 0 (Or.inl rfl) (by decide) ((va_up_ne _ _ (wx_R_3 ho)).trans hπ)) hk5 dX2_beginAnew_52 ?_
    obtain ⟨hk6, hf⟩ := hj_ck_s hf
    refine hj_ias (f := ρ.2 1) (v := (π.2 0 x1.toNatClampNeg)) hx hb hK hI hP hS (wx_R_lt (k := 1) ho (by decide)) (wx_at_ra 1 ho (by decide) (va_up_self _ _ _)) hk6 dX2_beginAnew_53 ((wx_a_r (x := x1) (v := (π.2 0 x1.toNatClampNeg)) 1 ho (by decide) (va_up_self _ _ _)).trans (by rw [hj_uu])) (fun H locs hP hS => ?_)
    obtain ⟨ρ7, eρ7⟩ : ∃ z : hj_Ob, z = hj_a ρ 1 x1 (π.2 0 x1.toNatClampNeg) := ⟨_, rfl⟩
    replace hf := hj_nm_y hf eρ7
    rw [← eρ7] at hP
    refine lv_aload_n hx hb dX2_beginAnew_54 rfl (lv_at hl 0 rfl) ?_
    refine hj_get (ci := 2) (v := .ref (ad (o + 2))) (C := RX2) (T := TX2) (N := 6) hx hb hts iX2_beginAnew_X2 hown hK hP (wx_R_lt (k := 0) ho (by decide)) (wx_at_r ho (va_up_self _ _ _)) rfl 2 (by decide) mX2_beginAnew_9 rfl dX2_beginAnew_55 ?_
    refine lv_iload_n hx hb dX2_beginAnew_58 rfl (lv_at hl 1 rfl) ?_
    refine lv_iconst (v := 0) hx hb dX2_beginAnew_59 (by decide) ?_
    obtain ⟨hk8, hf⟩ := hj_ck_s hf
    refine hj_ias (f := ρ7.2 2) (v := 0) hx hb hK hI hP hS (wx_R_lt (k := 2) ho (by decide)) (wx_at_ra 2 ho (by decide) (va_up_self _ _ _)) hk8 dX2_beginAnew_60 ((wx_a_r (x := x1) (v := 0) 2 ho (by decide) (va_up_self _ _ _)).trans (by rw [hj_uu])) (fun H locs hP hS => ?_)
    obtain ⟨ρ9, eρ9⟩ : ∃ z : hj_Ob, z = hj_a ρ7 2 x1 0 := ⟨_, rfl⟩
    replace hf := hj_nm_y hf eρ9
    rw [← eρ9] at hP
    obtain ⟨y10, ey10⟩ : ∃ z : Int32, z = x1 + 1 := ⟨_, rfl⟩
    replace hf := hj_nm_y hf ey10
    refine lv_iinc (v := y10) (lv' := [(1, .int y10), (0, .ref (ad o))]) hx hb dX2_beginAnew_61 hl (k := 1) rfl (by rw [ey10]; rfl) (by decide) rfl (fun ls hl => ?_)
    refine lv_goto (tgt := 33) hx hb dX2_beginAnew_64 (by decide) ?_
    exact KI _ _ (Option.some.inj hf).symm _ _ _ hP hS (lv_sub hl [1, 0] rfl)
set_option maxHeartbeats 4000000 in
set_option maxRecDepth 100000 in
theorem wX2_beginAnew_33 {p : Program} {l : Launch} {e : Env} {s : State} {m : MethodId} {args : Array Value} {below : List Frame} {meth : Method} {c : Code} {g : hj_G} {ad : Nat → Nat} (hI : hj_I 73 ad) (C : hj_C p s m args meth c cX2_beginAnew RX2 wsX2_beginAnew 2 none) (hK : hj_K g s) {σ : Nat → hj_Ob} {bf : Nat → Nat} {sd : Int64} {o : Nat} (ho : wx_R o) {π : hj_Ob} (hπ : σ 3 = π) {ρF : hj_Ob} {ρe : hj_Ob} :
    ∀ (fu : Nat) (x1 : Int32) (ρ : hj_Ob), hj_lp (fun q : (Int32 × hj_Ob) => fX2_beginAnew_33 π q.2 q.1) fu (x1, ρ) = some ρe → (∀ (H : Heap) (locs : List Loc) (ls : Array Slot), hj_P g 73 ad (hj_wx g ad (va_up σ o ρe) bf sd) H → hj_S 73 ad s H locs → lv_has ls 2 [] → W p l e rmX2_beginAnew s m args below meth c H locs 0 0 (MQ below (hj_QV g 73 ad (hj_wx g ad (va_up σ o ρF) bf sd) s.heap.size) args s 0 0 (hj_A 73 ad s.heap.size)) (F0 m 67 ls [])) → ∀ (H : Heap) (locs : List Loc) (ls : Array Slot), hj_P g 73 ad (hj_wx g ad (va_up σ o ρ) bf sd) H → hj_S 73 ad s H locs → lv_has ls 2 [(0, .ref (ad o)), (1, .int x1)] →
    W p l e rmX2_beginAnew s m args below meth c H locs 0 0 (MQ below (hj_QV g 73 ad (hj_wx g ad (va_up σ o ρF) bf sd) s.heap.size) args s 0 0 (hj_A 73 ad s.heap.size)) (F0 m 33 ls []) := by
  intro fu
  induction fu with
  | zero => intro x1 ρ hq; cases hq
  | succ fu ih =>
    intro x1 ρ hq KX H locs ls hP hS hl
    obtain ⟨y, hy, h1, h2⟩ := hj_lp_s hq
    exact wX2_beginAnew_33b hI C hK ho hπ  hy (fun ρ' hv H locs ls hP hS hl => by obtain rfl := h1 _ hv; exact KX H locs ls hP hS hl) (fun v1 ρ' hv H locs ls hP hS hl => ih v1 ρ' (h2 _ hv) KX H locs ls hP hS hl) hP hS hl
def fX2_beginAnew (π : hj_Ob) (ρ : hj_Ob) : Option hj_Ob :=
  hj_nm (hj_s ρ 3 (π.1 5)) fun ρ1 => hj_nm (hj_s ρ1 4 (((1 : Int32) <<< ((π.1 3) &&& 31)) - 1)) fun ρ2 => hj_nm (hj_s ρ2 5 0) fun ρ3 => hj_o1 (hj_lp (fun q : (Int32 × hj_Ob) => fX2_beginAnew_33 π q.2 q.1) 100 (0, ρ3)) fun ρ11 => (some ρ11)
set_option maxHeartbeats 4000000 in
set_option maxRecDepth 100000 in
theorem wX2_beginAnew {p : Program} {l : Launch} {e : Env} {s : State} {m : MethodId} {args : Array Value} {below : List Frame} {meth : Method} {c : Code} {g : hj_G} {ad : Nat → Nat} (hI : hj_I 73 ad) (C : hj_C p s m args meth c cX2_beginAnew RX2 wsX2_beginAnew 2 none) (hK : hj_K g s) {σ : Nat → hj_Ob} {bf : Nat → Nat} {sd : Int64} {o : Nat} (ho : wx_R o) {π : hj_Ob} (hπ : σ 3 = π) {ρ : hj_Ob} {ρF : hj_Ob}
    (hf : fX2_beginAnew π ρ = some ρF) {H : Heap} {locs : List Loc} {ls : Array Slot} (hP : hj_P g 73 ad (hj_wx g ad (va_up σ o ρ) bf sd) H) (hS : hj_S 73 ad s H locs) (hl : lv_has ls 2 [(0, .ref (ad o))]) :
    W p l e rmX2_beginAnew s m args below meth c H locs 0 0 (MQ below (hj_QV g 73 ad (hj_wx g ad (va_up σ o ρF) bf sd) s.heap.size) args s 0 0 (hj_A 73 ad s.heap.size)) (F0 m 0 ls []) := by
  obtain ⟨hx, hb, hr, hml, hown, hts, hlocks⟩ := id C
  unfold fX2_beginAnew at hf
  refine lv_aload_n hx hb dX2_beginAnew_0 rfl (lv_at hl 0 rfl) ?_
  refine lv_aload_n hx hb dX2_beginAnew_1 rfl (lv_at hl 0 rfl) ?_
  refine hj_get (ci := 2) (v := .ref (ad 3)) (C := RX2) (T := TX2) (N := 6) hx hb hts iX2_beginAnew_X2 hown hK hP (wx_R_lt (k := 0) ho (by decide)) (wx_at_r ho (va_up_self _ _ _)) rfl 0 (by decide) mX2_beginAnew_1 rfl dX2_beginAnew_2 ?_
  refine hj_get (ci := 1) (v := .int (π.1 5)) (C := RX1) (T := TX1) (N := 6) hx hb hts iX2_beginAnew_X1 hown hK hP (by decide) (wx_at_b (Or.inl rfl) ((va_up_ne _ _ (wx_R_3 ho)).trans hπ)) rfl 5 (by decide) mX2_beginAnew_2 rfl dX2_beginAnew_5 ?_
  refine hj_put (ci := 2) (v := .int (π.1 5)) (C := RX2) (T := TX2) (N := 6) hx hb hts iX2_beginAnew_X2 tyX2 tyX2_ok nmX2 hown hK hI hP hS (wx_R_lt (k := 0) ho (by decide)) (wx_at_r ho (va_up_self _ _ _)) rfl 3 (by decide) mX2_beginAnew_3 rfl rfl rfl (Nat.le_of_ble_eq_true rfl) dX2_beginAnew_8 ((wx_s_r (k := 3) (v := π.1 5) ho (va_up_self _ _ _) rfl).trans (by rw [hj_uu])) (fun H locs hP hS => ?_)
  obtain ⟨ρ1, eρ1⟩ : ∃ z : hj_Ob, z = hj_s ρ 3 (π.1 5) := ⟨_, rfl⟩
  replace hf := hj_nm_y hf eρ1
  rw [← eρ1] at hP
  refine lv_aload_n hx hb dX2_beginAnew_11 rfl (lv_at hl 0 rfl) ?_
  refine lv_iconst (v := 1) hx hb dX2_beginAnew_12 (by decide) ?_
  refine lv_aload_n hx hb dX2_beginAnew_13 rfl (lv_at hl 0 rfl) ?_
  refine hj_get (ci := 2) (v := .ref (ad 3)) (C := RX2) (T := TX2) (N := 6) hx hb hts iX2_beginAnew_X2 hown hK hP (wx_R_lt (k := 0) ho (by decide)) (wx_at_r ho (va_up_self _ _ _)) rfl 0 (by decide) mX2_beginAnew_1 rfl dX2_beginAnew_14 ?_
  refine hj_get (ci := 1) (v := .int (π.1 3)) (C := RX1) (T := TX1) (N := 6) hx hb hts iX2_beginAnew_X1 hown hK hP (by decide) (wx_at_b (Or.inl rfl) ((va_up_ne _ _ (wx_R_3 ho)).trans hπ)) rfl 3 (by decide) mX2_beginAnew_4 rfl dX2_beginAnew_17 ?_
  refine lv_ishl hx hb dX2_beginAnew_20 ?_
  refine lv_iconst (v := 1) hx hb dX2_beginAnew_21 (by decide) ?_
  refine lv_isub hx hb dX2_beginAnew_22 ?_
  refine hj_put (ci := 2) (v := .int (((1 : Int32) <<< ((π.1 3) &&& 31)) - 1)) (C := RX2) (T := TX2) (N := 6) hx hb hts iX2_beginAnew_X2 tyX2 tyX2_ok nmX2 hown hK hI hP hS (wx_R_lt (k := 0) ho (by decide)) (wx_at_r ho (va_up_self _ _ _)) rfl 4 (by decide) mX2_beginAnew_5 rfl rfl rfl (Nat.le_of_ble_eq_true rfl) dX2_beginAnew_23 ((wx_s_r (k := 4) (v := ((1 : Int32) <<< ((π.1 3) &&& 31)) - 1) ho (va_up_self _ _ _) rfl).trans (by rw [hj_uu])) (fun H locs hP hS => ?_)
  obtain ⟨ρ2, eρ2⟩ : ∃ z : hj_Ob, z = hj_s ρ1 4 (((1 : Int32) <<< ((π.1 3) &&& 31)) - 1) := ⟨_, rfl⟩
  replace hf := hj_nm_y hf eρ2
  rw [← eρ2] at hP
  refine lv_aload_n hx hb dX2_beginAnew_26 rfl (lv_at hl 0 rfl) ?_
  refine lv_iconst (v := 0) hx hb dX2_beginAnew_27 (by decide) ?_
  refine hj_put (ci := 2) (v := .int 0) (C := RX2) (T := TX2) (N := 6) hx hb hts iX2_beginAnew_X2 tyX2 tyX2_ok nmX2 hown hK hI hP hS (wx_R_lt (k := 0) ho (by decide)) (wx_at_r ho (va_up_self _ _ _)) rfl 5 (by decide) mX2_beginAnew_6 rfl rfl rfl (Nat.le_of_ble_eq_true rfl) dX2_beginAnew_28 ((wx_s_r (k := 5) (v := 0) ho (va_up_self _ _ _) rfl).trans (by rw [hj_uu])) (fun H locs hP hS => ?_)
  obtain ⟨ρ3, eρ3⟩ : ∃ z : hj_Ob, z = hj_s ρ2 5 0 := ⟨_, rfl⟩
  replace hf := hj_nm_y hf eρ3
  rw [← eρ3] at hP
  refine lv_iconst (v := 0) hx hb dX2_beginAnew_31 (by decide) ?_
  refine lv_istore_n (lv' := [(1, .int 0), (0, .ref (ad o))]) hx hb dX2_beginAnew_32 rfl hl (by decide) rfl (fun ls hl => ?_)
  obtain ⟨ρ11, hlx, hf⟩ := hj_o1_s hf
  refine wX2_beginAnew_33 hI C hK ho hπ  100 0 ρ3 hlx (fun H locs ls hP hS hl => ?_) H locs ls hP hS (lv_sub hl [1, 0] rfl)
  have hq := Option.some.inj hf
  obtain rfl := hq
  exact hj_retv C hP hK hS dX2_beginAnew_67
set_option maxHeartbeats 4000000 in
set_option maxRecDepth 100000 in
theorem ctX2_beginAnew (l : Launch) (g : hj_G) {ad : Nat → Nat} (hI : hj_I 73 ad) {σ : Nat → hj_Ob} {bf : Nat → Nat} {sd : Int64} {o : Nat} (ho : wx_R o) {π : hj_Ob} (hπ : σ 3 = π) {ρ : hj_Ob} (hρ : σ o = ρ) {ρF : hj_Ob} (hf : fX2_beginAnew π ρ = some ρF) :
    hj_MV l yX2_beginAnew wsX2_beginAnew rmX2_beginAnew g 73 ad hj_X0 [.ref (ad o)] (hj_wx g ad σ bf sd) (hj_wx g ad (va_up σ o ρF) bf sd) := by
  refine hj_ofV (cc := cX2_beginAnew) (maxL := 2) (ret := none) (by decide) rfl (Nat.le_of_ble_eq_true rfl) ?_
  intro p e s m args below meth c ls C hP hK hX hl
  have hP : hj_P g 73 ad (hj_wx g ad (va_up σ o ρ) bf sd) s.heap := by rw [hj_ue σ _ hρ]; exact hP
  exact wX2_beginAnew hI C hK ho hπ hf hP va_S.rf hl

/-! X2_isThere -/
abbrev rmX2_isThere : Room := { frames := 0, cells := 0, slots := 0, locals := 0 }
theorem iX2_isThere_X2 : ∀ w ∈ wsX20, w ∈ wsX2_isThere := fun _ h => List.mem_cons_of_mem _ (List.mem_append_right _ h)
theorem mX2_isThere_1 : Cond.fieldLink RX2 32 "HungryJury$Room" "there" "I" ∈ wsX2_isThere := List.mem_of_getElem? (i := 1) rfl
def fX2_isThere (π : hj_Ob) (ρ : hj_Ob) (x1 : Int32) : Option Int32 :=
  if x1 < 0 then (some 0) else (if 6 ≤ x1 then (some 0) else (if (((ρ.1 4) >>> (x1 &&& 31)) &&& 1) = 1 then (some 1) else (some 0)))
set_option maxHeartbeats 4000000 in
set_option maxRecDepth 100000 in
theorem wX2_isThere {p : Program} {l : Launch} {e : Env} {s : State} {m : MethodId} {args : Array Value} {below : List Frame} {meth : Method} {c : Code} {g : hj_G} {ad : Nat → Nat} (hI : hj_I 73 ad) (C : hj_C p s m args meth c cX2_isThere RX2 wsX2_isThere 2 (some .boolean)) (hK : hj_K g s) {σ : Nat → hj_Ob} {bf : Nat → Nat} {sd : Int64} {o : Nat} (ho : wx_R o) {π : hj_Ob} (hπ : σ 3 = π) {ρ : hj_Ob} (hρ : σ o = ρ) {x1 : Int32} {rF : Int32}
    (hf : fX2_isThere π ρ x1 = some rF) {H : Heap} {locs : List Loc} {ls : Array Slot} (hP : hj_P g 73 ad (hj_wx g ad σ bf sd) H) (hS : hj_S 73 ad s H locs) (hl : lv_has ls 2 [(0, .ref (ad o)), (1, .int x1)]) :
    W p l e rmX2_isThere s m args below meth c H locs 0 0 (MQ below (hj_QI g 73 ad (hj_wx g ad σ bf sd) rF s.heap.size) args s 0 0 (hj_A 73 ad s.heap.size)) (F0 m 0 ls []) := by
  obtain ⟨hx, hb, hr, hml, hown, hts, hlocks⟩ := id C
  unfold fX2_isThere at hf
  refine lv_iload_n hx hb dX2_isThere_0 rfl (lv_at hl 1 rfl) ?_
  refine lv_if_lt (tgt := 26) hx hb dX2_isThere_1 (by decide) (fun c1 => ?_) (fun c1 => ?_)
  · rw [if_pos c1] at hf
    refine lv_iconst (v := 0) hx hb dX2_isThere_26 (by decide) ?_
    have hq := Option.some.inj hf
    obtain rfl := hq
    exact hj_retz (Or.inl rfl)  C hP hK hS dX2_isThere_27
  · rw [if_neg c1] at hf
    refine lv_iload_n hx hb dX2_isThere_4 rfl (lv_at hl 1 rfl) ?_
    refine lv_bipush (v := 6) hx hb dX2_isThere_5 (by decide) ?_
    refine lv_icmp_ge (tgt := 26) hx hb dX2_isThere_7 (by decide) (fun c2 => ?_) (fun c2 => ?_)
    · rw [if_pos c2] at hf
      refine lv_iconst (v := 0) hx hb dX2_isThere_26 (by decide) ?_
      have hq := Option.some.inj hf
      obtain rfl := hq
      exact hj_retz (Or.inl rfl)  C hP hK hS dX2_isThere_27
    · rw [if_neg c2] at hf
      refine lv_aload_n hx hb dX2_isThere_10 rfl (lv_at hl 0 rfl) ?_
      refine hj_get (ci := 2) (v := .int (ρ.1 4)) (C := RX2) (T := TX2) (N := 6) hx hb hts iX2_isThere_X2 hown hK hP (wx_R_lt (k := 0) ho (by decide)) (wx_at_r ho hρ) rfl 4 (by decide) mX2_isThere_1 rfl dX2_isThere_11 ?_
      refine lv_iload_n hx hb dX2_isThere_14 rfl (lv_at hl 1 rfl) ?_
      refine lv_ishr hx hb dX2_isThere_15 ?_
      refine lv_iconst (v := 1) hx hb dX2_isThere_16 (by decide) ?_
      refine lv_iand hx hb dX2_isThere_17 ?_
      refine lv_iconst (v := 1) hx hb dX2_isThere_18 (by decide) ?_
      refine lv_icmp_ne (tgt := 26) hx hb dX2_isThere_19 (by decide) (fun c3 => ?_) (fun c3 => ?_)
      · rw [if_neg c3] at hf
        refine lv_iconst (v := 0) hx hb dX2_isThere_26 (by decide) ?_
        have hq := Option.some.inj hf
        obtain rfl := hq
        exact hj_retz (Or.inl rfl)  C hP hK hS dX2_isThere_27
      · rw [if_pos c3] at hf
        refine lv_iconst (v := 1) hx hb dX2_isThere_22 (by decide) ?_
        refine lv_goto (tgt := 27) hx hb dX2_isThere_23 (by decide) ?_
        have hq := Option.some.inj hf
        obtain rfl := hq
        exact hj_retz (Or.inr rfl)  C hP hK hS dX2_isThere_27
set_option maxHeartbeats 4000000 in
set_option maxRecDepth 100000 in
theorem ctX2_isThere (l : Launch) (g : hj_G) {ad : Nat → Nat} (hI : hj_I 73 ad) {σ : Nat → hj_Ob} {bf : Nat → Nat} {sd : Int64} {o : Nat} (ho : wx_R o) {π : hj_Ob} (hπ : σ 3 = π) {ρ : hj_Ob} (hρ : σ o = ρ) {x1 : Int32} {rF : Int32} (hf : fX2_isThere π ρ x1 = some rF) :
    hj_MI l yX2_isThere wsX2_isThere rmX2_isThere g 73 ad hj_X0 [.ref (ad o), .int x1] (hj_wx g ad σ bf sd) rF (hj_wx g ad σ bf sd) := by
  refine hj_ofI (cc := cX2_isThere) (maxL := 2) (ret := (some .boolean)) (by decide) rfl (Nat.le_of_ble_eq_true rfl) ?_
  intro p e s m args below meth c ls C hP hK hX hl
  exact wX2_isThere hI C hK ho hπ hρ hf hP va_S.rf hl

/-! X2_isYes -/
abbrev rmX2_isYes : Room := { frames := 0, cells := 0, slots := 0, locals := 0 }
theorem iX2_isYes_X2 : ∀ w ∈ wsX20, w ∈ wsX2_isYes := fun _ h => List.mem_cons_of_mem _ (List.mem_append_right _ h)
theorem mX2_isYes_1 : Cond.fieldLink RX2 28 "HungryJury$Room" "yes" "I" ∈ wsX2_isYes := List.mem_of_getElem? (i := 1) rfl
def fX2_isYes (π : hj_Ob) (ρ : hj_Ob) (x1 : Int32) : Option Int32 :=
  if x1 < 0 then (some 0) else (if 6 ≤ x1 then (some 0) else (if (((ρ.1 3) >>> (x1 &&& 31)) &&& 1) = 1 then (some 1) else (some 0)))
set_option maxHeartbeats 4000000 in
set_option maxRecDepth 100000 in
theorem wX2_isYes {p : Program} {l : Launch} {e : Env} {s : State} {m : MethodId} {args : Array Value} {below : List Frame} {meth : Method} {c : Code} {g : hj_G} {ad : Nat → Nat} (hI : hj_I 73 ad) (C : hj_C p s m args meth c cX2_isYes RX2 wsX2_isYes 2 (some .boolean)) (hK : hj_K g s) {σ : Nat → hj_Ob} {bf : Nat → Nat} {sd : Int64} {o : Nat} (ho : wx_R o) {π : hj_Ob} (hπ : σ 3 = π) {ρ : hj_Ob} (hρ : σ o = ρ) {x1 : Int32} {rF : Int32}
    (hf : fX2_isYes π ρ x1 = some rF) {H : Heap} {locs : List Loc} {ls : Array Slot} (hP : hj_P g 73 ad (hj_wx g ad σ bf sd) H) (hS : hj_S 73 ad s H locs) (hl : lv_has ls 2 [(0, .ref (ad o)), (1, .int x1)]) :
    W p l e rmX2_isYes s m args below meth c H locs 0 0 (MQ below (hj_QI g 73 ad (hj_wx g ad σ bf sd) rF s.heap.size) args s 0 0 (hj_A 73 ad s.heap.size)) (F0 m 0 ls []) := by
  obtain ⟨hx, hb, hr, hml, hown, hts, hlocks⟩ := id C
  unfold fX2_isYes at hf
  refine lv_iload_n hx hb dX2_isYes_0 rfl (lv_at hl 1 rfl) ?_
  refine lv_if_lt (tgt := 26) hx hb dX2_isYes_1 (by decide) (fun c1 => ?_) (fun c1 => ?_)
  · rw [if_pos c1] at hf
    refine lv_iconst (v := 0) hx hb dX2_isYes_26 (by decide) ?_
    have hq := Option.some.inj hf
    obtain rfl := hq
    exact hj_retz (Or.inl rfl)  C hP hK hS dX2_isYes_27
  · rw [if_neg c1] at hf
    refine lv_iload_n hx hb dX2_isYes_4 rfl (lv_at hl 1 rfl) ?_
    refine lv_bipush (v := 6) hx hb dX2_isYes_5 (by decide) ?_
    refine lv_icmp_ge (tgt := 26) hx hb dX2_isYes_7 (by decide) (fun c2 => ?_) (fun c2 => ?_)
    · rw [if_pos c2] at hf
      refine lv_iconst (v := 0) hx hb dX2_isYes_26 (by decide) ?_
      have hq := Option.some.inj hf
      obtain rfl := hq
      exact hj_retz (Or.inl rfl)  C hP hK hS dX2_isYes_27
    · rw [if_neg c2] at hf
      refine lv_aload_n hx hb dX2_isYes_10 rfl (lv_at hl 0 rfl) ?_
      refine hj_get (ci := 2) (v := .int (ρ.1 3)) (C := RX2) (T := TX2) (N := 6) hx hb hts iX2_isYes_X2 hown hK hP (wx_R_lt (k := 0) ho (by decide)) (wx_at_r ho hρ) rfl 3 (by decide) mX2_isYes_1 rfl dX2_isYes_11 ?_
      refine lv_iload_n hx hb dX2_isYes_14 rfl (lv_at hl 1 rfl) ?_
      refine lv_ishr hx hb dX2_isYes_15 ?_
      refine lv_iconst (v := 1) hx hb dX2_isYes_16 (by decide) ?_
      refine lv_iand hx hb dX2_isYes_17 ?_
      refine lv_iconst (v := 1) hx hb dX2_isYes_18 (by decide) ?_
      refine lv_icmp_ne (tgt := 26) hx hb dX2_isYes_19 (by decide) (fun c3 => ?_) (fun c3 => ?_)
      · rw [if_neg c3] at hf
        refine lv_iconst (v := 0) hx hb dX2_isYes_26 (by decide) ?_
        have hq := Option.some.inj hf
        obtain rfl := hq
        exact hj_retz (Or.inl rfl)  C hP hK hS dX2_isYes_27
      · rw [if_pos c3] at hf
        refine lv_iconst (v := 1) hx hb dX2_isYes_22 (by decide) ?_
        refine lv_goto (tgt := 27) hx hb dX2_isYes_23 (by decide) ?_
        have hq := Option.some.inj hf
        obtain rfl := hq
        exact hj_retz (Or.inr rfl)  C hP hK hS dX2_isYes_27
set_option maxHeartbeats 4000000 in
set_option maxRecDepth 100000 in
theorem ctX2_isYes (l : Launch) (g : hj_G) {ad : Nat → Nat} (hI : hj_I 73 ad) {σ : Nat → hj_Ob} {bf : Nat → Nat} {sd : Int64} {o : Nat} (ho : wx_R o) {π : hj_Ob} (hπ : σ 3 = π) {ρ : hj_Ob} (hρ : σ o = ρ) {x1 : Int32} {rF : Int32} (hf : fX2_isYes π ρ x1 = some rF) :
    hj_MI l yX2_isYes wsX2_isYes rmX2_isYes g 73 ad hj_X0 [.ref (ad o), .int x1] (hj_wx g ad σ bf sd) rF (hj_wx g ad σ bf sd) := by
  refine hj_ofI (cc := cX2_isYes) (maxL := 2) (ret := (some .boolean)) (by decide) rfl (Nat.le_of_ble_eq_true rfl) ?_
  intro p e s m args below meth c ls C hP hK hX hl
  exact wX2_isYes hI C hK ho hπ hρ hf hP va_S.rf hl

/-! X2_yesThere -/
abbrev rmX2_yesThere : Room := { frames := 0, cells := 0, slots := 0, locals := 0 }
theorem iX2_yesThere_X2 : ∀ w ∈ wsX20, w ∈ wsX2_yesThere := fun _ h => List.mem_cons_of_mem _ (List.mem_append_right _ h)
theorem mX2_yesThere_1 : Cond.fieldLink RX2 28 "HungryJury$Room" "yes" "I" ∈ wsX2_yesThere := List.mem_of_getElem? (i := 1) rfl
theorem mX2_yesThere_2 : Cond.fieldLink RX2 32 "HungryJury$Room" "there" "I" ∈ wsX2_yesThere := List.mem_of_getElem? (i := 2) rfl
def fX2_yesThere (π : hj_Ob) (ρ : hj_Ob) : Option Int32 :=
  some ((ρ.1 3) &&& (ρ.1 4))
set_option maxHeartbeats 4000000 in
set_option maxRecDepth 100000 in
theorem wX2_yesThere {p : Program} {l : Launch} {e : Env} {s : State} {m : MethodId} {args : Array Value} {below : List Frame} {meth : Method} {c : Code} {g : hj_G} {ad : Nat → Nat} (hI : hj_I 73 ad) (C : hj_C p s m args meth c cX2_yesThere RX2 wsX2_yesThere 1 (some .int)) (hK : hj_K g s) {σ : Nat → hj_Ob} {bf : Nat → Nat} {sd : Int64} {o : Nat} (ho : wx_R o) {π : hj_Ob} (hπ : σ 3 = π) {ρ : hj_Ob} (hρ : σ o = ρ) {rF : Int32}
    (hf : fX2_yesThere π ρ = some rF) {H : Heap} {locs : List Loc} {ls : Array Slot} (hP : hj_P g 73 ad (hj_wx g ad σ bf sd) H) (hS : hj_S 73 ad s H locs) (hl : lv_has ls 1 [(0, .ref (ad o))]) :
    W p l e rmX2_yesThere s m args below meth c H locs 0 0 (MQ below (hj_QI g 73 ad (hj_wx g ad σ bf sd) rF s.heap.size) args s 0 0 (hj_A 73 ad s.heap.size)) (F0 m 0 ls []) := by
  obtain ⟨hx, hb, hr, hml, hown, hts, hlocks⟩ := id C
  unfold fX2_yesThere at hf
  refine lv_aload_n hx hb dX2_yesThere_0 rfl (lv_at hl 0 rfl) ?_
  refine hj_get (ci := 2) (v := .int (ρ.1 3)) (C := RX2) (T := TX2) (N := 6) hx hb hts iX2_yesThere_X2 hown hK hP (wx_R_lt (k := 0) ho (by decide)) (wx_at_r ho hρ) rfl 3 (by decide) mX2_yesThere_1 rfl dX2_yesThere_1 ?_
  refine lv_aload_n hx hb dX2_yesThere_4 rfl (lv_at hl 0 rfl) ?_
  refine hj_get (ci := 2) (v := .int (ρ.1 4)) (C := RX2) (T := TX2) (N := 6) hx hb hts iX2_yesThere_X2 hown hK hP (wx_R_lt (k := 0) ho (by decide)) (wx_at_r ho hρ) rfl 4 (by decide) mX2_yesThere_2 rfl dX2_yesThere_5 ?_
  refine lv_iand hx hb dX2_yesThere_8 ?_
  have hq := Option.some.inj hf
  obtain rfl := hq
  exact hj_reti C hP hK hS dX2_yesThere_9
set_option maxHeartbeats 4000000 in
set_option maxRecDepth 100000 in
theorem ctX2_yesThere (l : Launch) (g : hj_G) {ad : Nat → Nat} (hI : hj_I 73 ad) {σ : Nat → hj_Ob} {bf : Nat → Nat} {sd : Int64} {o : Nat} (ho : wx_R o) {π : hj_Ob} (hπ : σ 3 = π) {ρ : hj_Ob} (hρ : σ o = ρ) {rF : Int32} (hf : fX2_yesThere π ρ = some rF) :
    hj_MI l yX2_yesThere wsX2_yesThere rmX2_yesThere g 73 ad hj_X0 [.ref (ad o)] (hj_wx g ad σ bf sd) rF (hj_wx g ad σ bf sd) := by
  refine hj_ofI (cc := cX2_yesThere) (maxL := 1) (ret := (some .int)) (by decide) rfl (Nat.le_of_ble_eq_true rfl) ?_
  intro p e s m args below meth c ls C hP hK hX hl
  exact wX2_yesThere hI C hK ho hπ hρ hf hP va_S.rf hl

/-! X2_carries -/
abbrev rmX2_carries : Room := { frames := 0, cells := 0, slots := 0, locals := 0 }
theorem iX2_carries_X2 : ∀ w ∈ wsX20, w ∈ wsX2_carries := fun _ h => List.mem_cons_of_mem _ (List.mem_append_left _ (List.mem_append_right _ h))
theorem mX2_carries_1 : Cond.fieldLink RX2 18 "HungryJury$Room" "panel" "LHungryJury$Panel;" ∈ wsX2_carries := List.mem_of_getElem? (i := 1) rfl
theorem iX2_carries_X1 : ∀ w ∈ wsX10, w ∈ wsX2_carries := fun _ h => List.mem_cons_of_mem _ (List.mem_append_right _ h)
theorem mX2_carries_2 : Cond.fieldLink RX2 49 "HungryJury$Panel" "need" "I" ∈ wsX2_carries := List.mem_of_getElem? (i := 2) rfl
def fX2_carries (π : hj_Ob) (ρ : hj_Ob) (x1 : Int32) (x2 : Int32) : Option Int32 :=
  if x1 ≤ x2 then (some 0) else (if x2 = 0 then (some 1) else (if x1 < (π.1 4) then (some 0) else (some 1)))
set_option maxHeartbeats 4000000 in
set_option maxRecDepth 100000 in
theorem wX2_carries {p : Program} {l : Launch} {e : Env} {s : State} {m : MethodId} {args : Array Value} {below : List Frame} {meth : Method} {c : Code} {g : hj_G} {ad : Nat → Nat} (hI : hj_I 73 ad) (C : hj_C p s m args meth c cX2_carries RX2 wsX2_carries 3 (some .boolean)) (hK : hj_K g s) {σ : Nat → hj_Ob} {bf : Nat → Nat} {sd : Int64} {o : Nat} (ho : wx_R o) {π : hj_Ob} (hπ : σ 3 = π) {ρ : hj_Ob} (hρ : σ o = ρ) {x1 : Int32} {x2 : Int32} {rF : Int32}
    (hf : fX2_carries π ρ x1 x2 = some rF) {H : Heap} {locs : List Loc} {ls : Array Slot} (hP : hj_P g 73 ad (hj_wx g ad σ bf sd) H) (hS : hj_S 73 ad s H locs) (hl : lv_has ls 3 [(0, .ref (ad o)), (1, .int x1), (2, .int x2)]) :
    W p l e rmX2_carries s m args below meth c H locs 0 0 (MQ below (hj_QI g 73 ad (hj_wx g ad σ bf sd) rF s.heap.size) args s 0 0 (hj_A 73 ad s.heap.size)) (F0 m 0 ls []) := by
  obtain ⟨hx, hb, hr, hml, hown, hts, hlocks⟩ := id C
  unfold fX2_carries at hf
  refine lv_iload_n hx hb dX2_carries_0 rfl (lv_at hl 1 rfl) ?_
  refine lv_iload_n hx hb dX2_carries_1 rfl (lv_at hl 2 rfl) ?_
  refine lv_icmp_le (tgt := 24) hx hb dX2_carries_2 (by decide) (fun c1 => ?_) (fun c1 => ?_)
  · rw [if_pos c1] at hf
    refine lv_iconst (v := 0) hx hb dX2_carries_24 (by decide) ?_
    have hq := Option.some.inj hf
    obtain rfl := hq
    exact hj_retz (Or.inl rfl)  C hP hK hS dX2_carries_25
  · rw [if_neg c1] at hf
    refine lv_iload_n hx hb dX2_carries_5 rfl (lv_at hl 2 rfl) ?_
    refine lv_if_eq (tgt := 20) hx hb dX2_carries_6 (by decide) (fun c2 => ?_) (fun c2 => ?_)
    · rw [if_pos c2] at hf
      refine lv_iconst (v := 1) hx hb dX2_carries_20 (by decide) ?_
      refine lv_goto (tgt := 25) hx hb dX2_carries_21 (by decide) ?_
      have hq := Option.some.inj hf
      obtain rfl := hq
      exact hj_retz (Or.inr rfl)  C hP hK hS dX2_carries_25
    · rw [if_neg c2] at hf
      refine lv_iload_n hx hb dX2_carries_9 rfl (lv_at hl 1 rfl) ?_
      refine lv_aload_n hx hb dX2_carries_10 rfl (lv_at hl 0 rfl) ?_
      refine hj_get (ci := 2) (v := .ref (ad 3)) (C := RX2) (T := TX2) (N := 6) hx hb hts iX2_carries_X2 hown hK hP (wx_R_lt (k := 0) ho (by decide)) (wx_at_r ho hρ) rfl 0 (by decide) mX2_carries_1 rfl dX2_carries_11 ?_
      refine hj_get (ci := 1) (v := .int (π.1 4)) (C := RX1) (T := TX1) (N := 6) hx hb hts iX2_carries_X1 hown hK hP (by decide) (wx_at_b (Or.inl rfl) hπ) rfl 4 (by decide) mX2_carries_2 rfl dX2_carries_14 ?_
      refine lv_icmp_lt (tgt := 24) hx hb dX2_carries_17 (by decide) (fun c3 => ?_) (fun c3 => ?_)
      · rw [if_pos c3] at hf
        refine lv_iconst (v := 0) hx hb dX2_carries_24 (by decide) ?_
        have hq := Option.some.inj hf
        obtain rfl := hq
        exact hj_retz (Or.inl rfl)  C hP hK hS dX2_carries_25
      · rw [if_neg c3] at hf
        refine lv_iconst (v := 1) hx hb dX2_carries_20 (by decide) ?_
        refine lv_goto (tgt := 25) hx hb dX2_carries_21 (by decide) ?_
        have hq := Option.some.inj hf
        obtain rfl := hq
        exact hj_retz (Or.inr rfl)  C hP hK hS dX2_carries_25
set_option maxHeartbeats 4000000 in
set_option maxRecDepth 100000 in
theorem ctX2_carries (l : Launch) (g : hj_G) {ad : Nat → Nat} (hI : hj_I 73 ad) {σ : Nat → hj_Ob} {bf : Nat → Nat} {sd : Int64} {o : Nat} (ho : wx_R o) {π : hj_Ob} (hπ : σ 3 = π) {ρ : hj_Ob} (hρ : σ o = ρ) {x1 : Int32} {x2 : Int32} {rF : Int32} (hf : fX2_carries π ρ x1 x2 = some rF) :
    hj_MI l yX2_carries wsX2_carries rmX2_carries g 73 ad hj_X0 [.ref (ad o), .int x1, .int x2] (hj_wx g ad σ bf sd) rF (hj_wx g ad σ bf sd) := by
  refine hj_ofI (cc := cX2_carries) (maxL := 3) (ret := (some .boolean)) (by decide) rfl (Nat.le_of_ble_eq_true rfl) ?_
  intro p e s m args below meth c ls C hP hK hX hl
  exact wX2_carries hI C hK ho hπ hρ hf hP va_S.rf hl

/-! X2_verdict -/
abbrev rmX2_verdict : Room := { frames := 1, cells := 0, slots := 0, locals := 22 }
theorem iX2_verdict_X2 : ∀ w ∈ wsX20, w ∈ wsX2_verdict := fun _ h => List.mem_cons_of_mem _ (List.mem_append_left _ (List.mem_append_right _ h))
theorem mX2_verdict_1 : Cond.fieldLink RX2 32 "HungryJury$Room" "there" "I" ∈ wsX2_verdict := List.mem_of_getElem? (i := 1) rfl
theorem mX2_verdict_2 : Cond.fieldLink RX2 28 "HungryJury$Room" "yes" "I" ∈ wsX2_verdict := List.mem_of_getElem? (i := 2) rfl
def fX2_verdict (π : hj_Ob) (ρ : hj_Ob) : Option Int32 :=
  hj_o1 (fJ6_bitCount_0f7a4 ((ρ.1 4) &&& (ρ.1 3))) fun r1 => hj_o1 (fJ6_bitCount_0f7a4 ((ρ.1 4) &&& ((ρ.1 3) ^^^ (-1)))) fun r2 => hj_o1 (fX2_carries π ρ r1 r2) fun r3 => if r3 = 0 then (hj_o1 (fX2_carries π ρ r2 r1) fun r5 => if r5 = 0 then (some 9) else (some 0)) else (some 1)
set_option maxHeartbeats 4000000 in
set_option maxRecDepth 100000 in
theorem wX2_verdict {p : Program} {l : Launch} {e : Env} {s : State} {m : MethodId} {args : Array Value} {below : List Frame} {meth : Method} {c : Code} {g : hj_G} {ad : Nat → Nat} (hI : hj_I 73 ad) (C : hj_C p s m args meth c cX2_verdict RX2 wsX2_verdict 3 (some .int)) (hK : hj_K g s) {σ : Nat → hj_Ob} {bf : Nat → Nat} {sd : Int64} {o : Nat} (ho : wx_R o) {π : hj_Ob} (hπ : σ 3 = π) {ρ : hj_Ob} (hρ : σ o = ρ) {rF : Int32}
    (hf : fX2_verdict π ρ = some rF) {H : Heap} {locs : List Loc} {ls : Array Slot} (hP : hj_P g 73 ad (hj_wx g ad σ bf sd) H) (hS : hj_S 73 ad s H locs) (hl : lv_has ls 3 [(0, .ref (ad o))]) :
    W p l e rmX2_verdict s m args below meth c H locs 0 0 (MQ below (hj_QI g 73 ad (hj_wx g ad σ bf sd) rF s.heap.size) args s 0 0 (hj_A 73 ad s.heap.size)) (F0 m 0 ls []) := by
  obtain ⟨hx, hb, hr, hml, hown, hts, hlocks⟩ := id C
  unfold fX2_verdict at hf
  refine lv_aload_n hx hb dX2_verdict_0 rfl (lv_at hl 0 rfl) ?_
  refine hj_get (ci := 2) (v := .int (ρ.1 4)) (C := RX2) (T := TX2) (N := 6) hx hb hts iX2_verdict_X2 hown hK hP (wx_R_lt (k := 0) ho (by decide)) (wx_at_r ho hρ) rfl 4 (by decide) mX2_verdict_1 rfl dX2_verdict_1 ?_
  refine lv_aload_n hx hb dX2_verdict_4 rfl (lv_at hl 0 rfl) ?_
  refine hj_get (ci := 2) (v := .int (ρ.1 3)) (C := RX2) (T := TX2) (N := 6) hx hb hts iX2_verdict_X2 hown hK hP (wx_R_lt (k := 0) ho (by decide)) (wx_at_r ho hρ) rfl 3 (by decide) mX2_verdict_2 rfl dX2_verdict_5 ?_
  refine lv_iand hx hb dX2_verdict_8 ?_
  obtain ⟨r1, hc, hf⟩ := hj_o1_s hf
  refine hj_callSi (nL := 3) (As := [.int ((ρ.1 4) &&& (ρ.1 3))]) (rest := []) ⟨hx, hb, hml, hown, hts⟩ (ctJ6_bitCount_0f7a4 l g (n := 73) (ad := ad) (w := (hj_wx g ad σ bf sd)) hc) (va_cwS 1 hts gX2_verdict_J6_bitCount_0f7a4 rfl rfl rfl (by decide +kernel) ⟨Nat.le_of_ble_eq_true rfl, Nat.le_of_ble_eq_true rfl⟩) hj_Xb0 (fun _ _ _ => trivial) hK hP hS rfl hl.1 rfl (Nat.le_of_ble_eq_true rfl) dX2_verdict_9 (fun H locs hP hS => ?_)
  refine lv_istore_n (lv' := [(1, .int r1), (0, .ref (ad o))]) hx hb dX2_verdict_12 rfl hl (by decide) rfl (fun ls hl => ?_)
  refine lv_aload_n hx hb dX2_verdict_13 rfl (lv_at hl 1 rfl) ?_
  refine hj_get (ci := 2) (v := .int (ρ.1 4)) (C := RX2) (T := TX2) (N := 6) hx hb hts iX2_verdict_X2 hown hK hP (wx_R_lt (k := 0) ho (by decide)) (wx_at_r ho hρ) rfl 4 (by decide) mX2_verdict_1 rfl dX2_verdict_14 ?_
  refine lv_aload_n hx hb dX2_verdict_17 rfl (lv_at hl 1 rfl) ?_
  refine hj_get (ci := 2) (v := .int (ρ.1 3)) (C := RX2) (T := TX2) (N := 6) hx hb hts iX2_verdict_X2 hown hK hP (wx_R_lt (k := 0) ho (by decide)) (wx_at_r ho hρ) rfl 3 (by decide) mX2_verdict_2 rfl dX2_verdict_18 ?_
  refine lv_iconst (v := (-1)) hx hb dX2_verdict_21 (by decide) ?_
  refine lv_ixor hx hb dX2_verdict_22 ?_
  refine lv_iand hx hb dX2_verdict_23 ?_
  obtain ⟨r2, hc, hf⟩ := hj_o1_s hf
  refine hj_callSi (nL := 3) (As := [.int ((ρ.1 4) &&& ((ρ.1 3) ^^^ (-1)))]) (rest := []) ⟨hx, hb, hml, hown, hts⟩ (ctJ6_bitCount_0f7a4 l g (n := 73) (ad := ad) (w := (hj_wx g ad σ bf sd)) hc) (va_cwS 1 hts gX2_verdict_J6_bitCount_0f7a4 rfl rfl rfl (by decide +kernel) ⟨Nat.le_of_ble_eq_true rfl, Nat.le_of_ble_eq_true rfl⟩) hj_Xb0 (fun _ _ _ => trivial) hK hP hS rfl hl.1 rfl (Nat.le_of_ble_eq_true rfl) dX2_verdict_24 (fun H locs hP hS => ?_)
  refine lv_istore_n (lv' := [(2, .int r2), (1, .int r1), (0, .ref (ad o))]) hx hb dX2_verdict_27 rfl hl (by decide) rfl (fun ls hl => ?_)
  refine lv_aload_n hx hb dX2_verdict_28 rfl (lv_at hl 2 rfl) ?_
  refine lv_iload_n hx hb dX2_verdict_29 rfl (lv_at hl 1 rfl) ?_
  refine lv_iload_n hx hb dX2_verdict_30 rfl (lv_at hl 0 rfl) ?_
  obtain ⟨r3, hc, hf⟩ := hj_o1_s hf
  refine hj_callVi (nL := 3) (As := [.int r1, .int r2]) (rest := []) (i0 := o) (C := RX2) (T := TX2) (N := 6) (ci := 2) ⟨hx, hb, hml, hown, hts⟩ (ctX2_carries l g hI (σ := σ) (bf := bf) (sd := sd) ho hπ hρ hc) (cwV 2 hts gX2_verdict_X2_carries rfl rfl rfl (by decide +kernel) ⟨Nat.le_of_ble_eq_true rfl, Nat.le_of_ble_eq_true rfl⟩) hj_Xb0 (fun _ _ _ => trivial) hK hP hS (wx_R_lt (k := 0) ho (by decide)) (wx_at_r ho hρ) rfl rfl hl.1 rfl (Nat.le_of_ble_eq_true rfl) dX2_verdict_31 (fun H locs hP hS => ?_)
  refine lv_if_eq (tgt := 39) hx hb dX2_verdict_34 (by decide) (fun c4 => ?_) (fun c4 => ?_)
  · rw [if_pos c4] at hf
    refine lv_aload_n hx hb dX2_verdict_39 rfl (lv_at hl 2 rfl) ?_
    refine lv_iload_n hx hb dX2_verdict_40 rfl (lv_at hl 0 rfl) ?_
    refine lv_iload_n hx hb dX2_verdict_41 rfl (lv_at hl 1 rfl) ?_
    obtain ⟨r5, hc, hf⟩ := hj_o1_s hf
    refine hj_callVi (nL := 3) (As := [.int r2, .int r1]) (rest := []) (i0 := o) (C := RX2) (T := TX2) (N := 6) (ci := 2) ⟨hx, hb, hml, hown, hts⟩ (ctX2_carries l g hI (σ := σ) (bf := bf) (sd := sd) ho hπ hρ hc) (cwV 2 hts gX2_verdict_X2_carries rfl rfl rfl (by decide +kernel) ⟨Nat.le_of_ble_eq_true rfl, Nat.le_of_ble_eq_true rfl⟩) hj_Xb0 (fun _ _ _ => trivial) hK hP hS (wx_R_lt (k := 0) ho (by decide)) (wx_at_r ho hρ) rfl rfl hl.1 rfl (Nat.le_of_ble_eq_true rfl) dX2_verdict_42 (fun H locs hP hS => ?_)
    refine lv_if_eq (tgt := 52) hx hb dX2_verdict_45 (by decide) (fun c6 => ?_) (fun c6 => ?_)
    · rw [if_pos c6] at hf
      refine lv_bipush (v := 9) hx hb dX2_verdict_52 (by decide) ?_
      have hq := Option.some.inj hf
      obtain rfl := hq
      exact hj_reti C hP hK hS dX2_verdict_54
    · rw [if_neg c6] at hf
      refine lv_iconst (v := 0) hx hb dX2_verdict_48 (by decide) ?_
      refine lv_goto (tgt := 54) hx hb dX2_verdict_49 (by decide) ?_
      have hq := Option.some.inj hf
      obtain rfl := hq
      exact hj_reti C hP hK hS dX2_verdict_54
  · rw [if_neg c4] at hf
    refine lv_iconst (v := 1) hx hb dX2_verdict_37 (by decide) ?_
    have hq := Option.some.inj hf
    obtain rfl := hq
    exact hj_reti C hP hK hS dX2_verdict_38
set_option maxHeartbeats 4000000 in
set_option maxRecDepth 100000 in
theorem ctX2_verdict (l : Launch) (g : hj_G) {ad : Nat → Nat} (hI : hj_I 73 ad) {σ : Nat → hj_Ob} {bf : Nat → Nat} {sd : Int64} {o : Nat} (ho : wx_R o) {π : hj_Ob} (hπ : σ 3 = π) {ρ : hj_Ob} (hρ : σ o = ρ) {rF : Int32} (hf : fX2_verdict π ρ = some rF) :
    hj_MI l yX2_verdict wsX2_verdict rmX2_verdict g 73 ad hj_X0 [.ref (ad o)] (hj_wx g ad σ bf sd) rF (hj_wx g ad σ bf sd) := by
  refine hj_ofI (cc := cX2_verdict) (maxL := 3) (ret := (some .int)) (by decide) rfl (Nat.le_of_ble_eq_true rfl) ?_
  intro p e s m args below meth c ls C hP hK hX hl
  exact wX2_verdict hI C hK ho hπ hρ hf hP va_S.rf hl

/-! X2_hungerOfHour -/
abbrev rmX2_hungerOfHour : Room := { frames := 0, cells := 0, slots := 0, locals := 0 }
theorem iX2_hungerOfHour_X2 : ∀ w ∈ wsX20, w ∈ wsX2_hungerOfHour := fun _ h => List.mem_cons_of_mem _ (List.mem_append_right _ h)
theorem mX2_hungerOfHour_1 : Cond.fieldLink RX2 35 "HungryJury$Room" "theHour" "I" ∈ wsX2_hungerOfHour := List.mem_of_getElem? (i := 1) rfl
def fX2_hungerOfHour (π : hj_Ob) (ρ : hj_Ob) (x1 : Int32) : Option Int32 :=
  if x1 = 2 then (if ((ρ.1 5) &&& 1) = 0 then (some 1) else (some 0)) else (if x1 = 1 then (some 2) else (some 1))
set_option maxHeartbeats 4000000 in
set_option maxRecDepth 100000 in
theorem wX2_hungerOfHour {p : Program} {l : Launch} {e : Env} {s : State} {m : MethodId} {args : Array Value} {below : List Frame} {meth : Method} {c : Code} {g : hj_G} {ad : Nat → Nat} (hI : hj_I 73 ad) (C : hj_C p s m args meth c cX2_hungerOfHour RX2 wsX2_hungerOfHour 2 (some .int)) (hK : hj_K g s) {σ : Nat → hj_Ob} {bf : Nat → Nat} {sd : Int64} {o : Nat} (ho : wx_R o) {π : hj_Ob} (hπ : σ 3 = π) {ρ : hj_Ob} (hρ : σ o = ρ) {x1 : Int32} {rF : Int32}
    (hf : fX2_hungerOfHour π ρ x1 = some rF) {H : Heap} {locs : List Loc} {ls : Array Slot} (hP : hj_P g 73 ad (hj_wx g ad σ bf sd) H) (hS : hj_S 73 ad s H locs) (hl : lv_has ls 2 [(0, .ref (ad o)), (1, .int x1)]) :
    W p l e rmX2_hungerOfHour s m args below meth c H locs 0 0 (MQ below (hj_QI g 73 ad (hj_wx g ad σ bf sd) rF s.heap.size) args s 0 0 (hj_A 73 ad s.heap.size)) (F0 m 0 ls []) := by
  obtain ⟨hx, hb, hr, hml, hown, hts, hlocks⟩ := id C
  unfold fX2_hungerOfHour at hf
  refine lv_iload_n hx hb dX2_hungerOfHour_0 rfl (lv_at hl 1 rfl) ?_
  refine lv_iconst (v := 2) hx hb dX2_hungerOfHour_1 (by decide) ?_
  refine lv_icmp_ne (tgt := 20) hx hb dX2_hungerOfHour_2 (by decide) (fun c1 => ?_) (fun c1 => ?_)
  · rw [if_neg c1] at hf
    refine lv_iload_n hx hb dX2_hungerOfHour_20 rfl (lv_at hl 1 rfl) ?_
    refine lv_iconst (v := 1) hx hb dX2_hungerOfHour_21 (by decide) ?_
    refine lv_icmp_ne (tgt := 29) hx hb dX2_hungerOfHour_22 (by decide) (fun c2 => ?_) (fun c2 => ?_)
    · rw [if_neg c2] at hf
      refine lv_iconst (v := 1) hx hb dX2_hungerOfHour_29 (by decide) ?_
      have hq := Option.some.inj hf
      obtain rfl := hq
      exact hj_reti C hP hK hS dX2_hungerOfHour_30
    · rw [if_pos c2] at hf
      refine lv_iconst (v := 2) hx hb dX2_hungerOfHour_25 (by decide) ?_
      refine lv_goto (tgt := 30) hx hb dX2_hungerOfHour_26 (by decide) ?_
      have hq := Option.some.inj hf
      obtain rfl := hq
      exact hj_reti C hP hK hS dX2_hungerOfHour_30
  · rw [if_pos c1] at hf
    refine lv_aload_n hx hb dX2_hungerOfHour_5 rfl (lv_at hl 0 rfl) ?_
    refine hj_get (ci := 2) (v := .int (ρ.1 5)) (C := RX2) (T := TX2) (N := 6) hx hb hts iX2_hungerOfHour_X2 hown hK hP (wx_R_lt (k := 0) ho (by decide)) (wx_at_r ho hρ) rfl 5 (by decide) mX2_hungerOfHour_1 rfl dX2_hungerOfHour_6 ?_
    refine lv_iconst (v := 1) hx hb dX2_hungerOfHour_9 (by decide) ?_
    refine lv_iand hx hb dX2_hungerOfHour_10 ?_
    refine lv_if_ne (tgt := 18) hx hb dX2_hungerOfHour_11 (by decide) (fun c3 => ?_) (fun c3 => ?_)
    · rw [if_neg c3] at hf
      refine lv_iconst (v := 0) hx hb dX2_hungerOfHour_18 (by decide) ?_
      have hq := Option.some.inj hf
      obtain rfl := hq
      exact hj_reti C hP hK hS dX2_hungerOfHour_19
    · rw [if_pos c3] at hf
      refine lv_iconst (v := 1) hx hb dX2_hungerOfHour_14 (by decide) ?_
      refine lv_goto (tgt := 19) hx hb dX2_hungerOfHour_15 (by decide) ?_
      have hq := Option.some.inj hf
      obtain rfl := hq
      exact hj_reti C hP hK hS dX2_hungerOfHour_19
set_option maxHeartbeats 4000000 in
set_option maxRecDepth 100000 in
theorem ctX2_hungerOfHour (l : Launch) (g : hj_G) {ad : Nat → Nat} (hI : hj_I 73 ad) {σ : Nat → hj_Ob} {bf : Nat → Nat} {sd : Int64} {o : Nat} (ho : wx_R o) {π : hj_Ob} (hπ : σ 3 = π) {ρ : hj_Ob} (hρ : σ o = ρ) {x1 : Int32} {rF : Int32} (hf : fX2_hungerOfHour π ρ x1 = some rF) :
    hj_MI l yX2_hungerOfHour wsX2_hungerOfHour rmX2_hungerOfHour g 73 ad hj_X0 [.ref (ad o), .int x1] (hj_wx g ad σ bf sd) rF (hj_wx g ad σ bf sd) := by
  refine hj_ofI (cc := cX2_hungerOfHour) (maxL := 2) (ret := (some .int)) (by decide) rfl (Nat.le_of_ble_eq_true rfl) ?_
  intro p e s m args below meth c ls C hP hK hX hl
  exact wX2_hungerOfHour hI C hK ho hπ hρ hf hP va_S.rf hl

/-! X2_growHungry -/
abbrev rmX2_growHungry : Room := { frames := 1, cells := 0, slots := 0, locals := 24 }
theorem iX2_growHungry_X2 : ∀ w ∈ wsX20, w ∈ wsX2_growHungry := fun _ h => List.mem_cons_of_mem _ (List.mem_append_left _ (List.mem_append_right _ h))
theorem mX2_growHungry_1 : Cond.fieldLink RX2 15 "HungryJury$Room" "hunger" "[I" ∈ wsX2_growHungry := List.mem_of_getElem? (i := 1) rfl
theorem mX2_growHungry_2 : Cond.fieldLink RX2 18 "HungryJury$Room" "panel" "LHungryJury$Panel;" ∈ wsX2_growHungry := List.mem_of_getElem? (i := 2) rfl
theorem iX2_growHungry_X1 : ∀ w ∈ wsX10, w ∈ wsX2_growHungry := fun _ h => List.mem_cons_of_mem _ (List.mem_append_right _ h)
theorem mX2_growHungry_3 : Cond.fieldLink RX2 66 "HungryJury$Panel" "kind" "[I" ∈ wsX2_growHungry := List.mem_of_getElem? (i := 3) rfl
theorem mX2_growHungry_4 : Cond.methodLink RX2 72 Lib.Math.min.name ∈ wsX2_growHungry := List.mem_of_getElem? (i := 4) rfl
theorem mX2_growHungry_5 : Cond.static Lib.Math.min.name ∈ wsX2_growHungry := List.mem_of_getElem? (i := 5) rfl
theorem mX2_growHungry_6 : Cond.initialized "java/lang/Math" ∈ wsX2_growHungry := List.mem_of_getElem? (i := 6) rfl
theorem mX2_growHungry_7 : Cond.code Lib.Math.min.name Lib.Math.min.code 2 (some .int) ∈ wsX2_growHungry := List.mem_of_getElem? (i := 7) rfl
def fX2_growHungry_2 (π : hj_Ob) (ρ : hj_Ob) (x1 : Int32) : Option (hj_Ob ⊕ (Int32 × hj_Ob)) :=
  if 6 ≤ x1 then (some (.inl ρ)) else (hj_o1 (fX2_isThere π ρ x1) fun r2 => if r2 = 0 then (hj_nm (x1 + 1) fun y4 => some (.inr (y4, ρ))) else (hj_ck x1 6 (hj_ck x1 6 (hj_o1 (fX2_hungerOfHour π ρ (π.2 1 x1.toNatClampNeg)) fun r7 => hj_ck x1 6 (hj_nm (hj_a ρ 2 x1 (if ((ρ.2 2 x1.toNatClampNeg) + r7) < (20 : Int32) then ((ρ.2 2 x1.toNatClampNeg) + r7) else (20 : Int32))) fun ρ9 => hj_nm (x1 + 1) fun y10 => some (.inr (y10, ρ9)))))))
set_option maxHeartbeats 4000000 in
set_option maxRecDepth 100000 in
theorem wX2_growHungry_2b {p : Program} {l : Launch} {e : Env} {s : State} {m : MethodId} {args : Array Value} {below : List Frame} {meth : Method} {c : Code} {g : hj_G} {ad : Nat → Nat} (hI : hj_I 73 ad) (C : hj_C p s m args meth c cX2_growHungry RX2 wsX2_growHungry 2 none) (hK : hj_K g s) {σ : Nat → hj_Ob} {bf : Nat → Nat} {sd : Int64} {o : Nat} (ho : wx_R o) {π : hj_Ob} (hπ : σ 3 = π) {ρ : hj_Ob} {x1 : Int32} {y : hj_Ob ⊕ (Int32 × hj_Ob)} {ρF : hj_Ob}
    (hf : fX2_growHungry_2 π ρ x1 = some y) (KX : ∀ (ρ' : hj_Ob), y = .inl ρ' → ∀ (H : Heap) (locs : List Loc) (ls : Array Slot), hj_P g 73 ad (hj_wx g ad (va_up σ o ρ') bf sd) H → hj_S 73 ad s H locs → lv_has ls 2 [] → W p l e rmX2_growHungry s m args below meth c H locs 0 0 (MQ below (hj_QV g 73 ad (hj_wx g ad (va_up σ o ρF) bf sd) s.heap.size) args s 0 0 (hj_A 73 ad s.heap.size)) (F0 m 53 ls [])) (KI : ∀ (v1 : Int32) (ρ' : hj_Ob), y = .inr (v1, ρ') → ∀ (H : Heap) (locs : List Loc) (ls : Array Slot), hj_P g 73 ad (hj_wx g ad (va_up σ o ρ') bf sd) H → hj_S 73 ad s H locs → lv_has ls 2 [(0, .ref (ad o)), (1, .int v1)] → W p l e rmX2_growHungry s m args below meth c H locs 0 0 (MQ below (hj_QV g 73 ad (hj_wx g ad (va_up σ o ρF) bf sd) s.heap.size) args s 0 0 (hj_A 73 ad s.heap.size)) (F0 m 2 ls [])) {H : Heap} {locs : List Loc} {ls : Array Slot} (hP : hj_P g 73 ad (hj_wx g ad (va_up σ o ρ) bf sd) H) (hS : hj_S 73 ad s H locs) (hl : lv_has ls 2 [(0, .ref (ad o)), (1, .int x1)]) :
    W p l e rmX2_growHungry s m args below meth c H locs 0 0 (MQ below (hj_QV g 73 ad (hj_wx g ad (va_up σ o ρF) bf sd) s.heap.size) args s 0 0 (hj_A 73 ad s.heap.size)) (F0 m 2 ls []) := by
  obtain ⟨hx, hb, hr, hml, hown, hts, hlocks⟩ := id C
  unfold fX2_growHungry_2 at hf
  refine lv_iload_n hx hb dX2_growHungry_2 rfl (lv_at hl 1 rfl) ?_
  refine lv_bipush (v := 6) hx hb dX2_growHungry_3 (by decide) ?_
  refine lv_icmp_ge (tgt := 53) hx hb dX2_growHungry_5 (by decide) (fun c1 => ?_) (fun c1 => ?_)
  · rw [if_pos c1] at hf
    exact KX _ (Option.some.inj hf).symm _ _ _ hP hS (lv_sub hl [] rfl)
  · rw [if_neg c1] at hf
    refine lv_aload_n hx hb dX2_growHungry_8 rfl (lv_at hl 0 rfl) ?_
    refine lv_iload_n hx hb dX2_growHungry_9 rfl (lv_at hl 1 rfl) ?_
    obtain ⟨r2, hc, hf⟩ := hj_o1_s hf
    refine hj_callVi (nL := 2) (As := [.int x1]) (rest := []) (i0 := o) (C := RX2) (T := TX2) (N := 6) (ci := 2) ⟨hx, hb, hml, hown, hts⟩ (ctX2_isThere l g hI (σ := (va_up σ o ρ)) (bf := bf) (sd := sd) ho ((va_up_ne _ _ (wx_R_3 ho)).trans hπ) (va_up_self _ _ _) hc) (cwV 1 hts gX2_growHungry_X2_isThere rfl rfl rfl (by decide +kernel) ⟨Nat.le_of_ble_eq_true rfl, Nat.le_of_ble_eq_true rfl⟩) hj_Xb0 (fun _ _ _ => trivial) hK hP hS (wx_R_lt (k := 0) ho (by decide)) (wx_at_r ho (va_up_self _ _ _)) rfl rfl hl.1 rfl (Nat.le_of_ble_eq_true rfl) dX2_growHungry_10 (fun H locs hP hS => ?_)
    refine lv_if_eq (tgt := 47) hx hb dX2_growHungry_13 (by decide) (fun c3 => ?_) (fun c3 => ?_)
    · rw [if_pos c3] at hf
      obtain ⟨y4, ey4⟩ : ∃ z : Int32, z = x1 + 1 := ⟨_, rfl⟩
      replace hf := hj_nm_y hf ey4
      refine lv_iinc (v := y4) (lv' := [(1, .int y4), (0, .ref (ad o))]) hx hb dX2_growHungry_47 hl (k := 1) rfl (by rw [ey4]; rfl) (by decide) rfl (fun ls hl => ?_)
      refine lv_goto (tgt := 2) hx hb dX2_growHungry_50 (by decide) ?_
      exact KI _ _ (Option.some.inj hf).symm _ _ _ hP hS (lv_sub hl [1, 0] rfl)
    · rw [if_neg c3] at hf
      refine lv_aload_n hx hb dX2_growHungry_16 rfl (lv_at hl 0 rfl) ?_
      refine hj_get (ci := 2) (v := .ref (ad (o + 2))) (C := RX2) (T := TX2) (N := 6) hx hb hts iX2_growHungry_X2 hown hK hP (wx_R_lt (k := 0) ho (by decide)) (wx_at_r ho (va_up_self _ _ _)) rfl 2 (by decide) mX2_growHungry_1 rfl dX2_growHungry_17 ?_
      refine lv_iload_n hx hb dX2_growHungry_20 rfl (lv_at hl 1 rfl) ?_
      refine lv_bipush (v := 20) hx hb dX2_growHungry_21 (by decide) ?_
      refine lv_aload_n hx hb dX2_growHungry_23 rfl (lv_at hl 0 rfl) ?_
      refine hj_get (ci := 2) (v := .ref (ad (o + 2))) (C := RX2) (T := TX2) (N := 6) hx hb hts iX2_growHungry_X2 hown hK hP (wx_R_lt (k := 0) ho (by decide)) (wx_at_r ho (va_up_self _ _ _)) rfl 2 (by decide) mX2_growHungry_1 rfl dX2_growHungry_24 ?_
      refine lv_iload_n hx hb dX2_growHungry_27 rfl (lv_at hl 1 rfl) ?_
      obtain ⟨hk5, hf⟩ := hj_ck_s hf
      refine hj_ial (f := ρ.2 2) hx hb hK hP (wx_R_lt (k := 2) ho (by decide)) (wx_at_ra 2 ho (by decide) (va_up_self _ _ _)) hk5 dX2_growHungry_28 ?_
      refine lv_aload_n hx hb dX2_growHungry_29 rfl (lv_at hl 0 rfl) ?_
      refine lv_aload_n hx hb dX2_growHungry_30 rfl (lv_at hl 0 rfl) ?_
      refine hj_get (ci := 2) (v := .ref (ad 3)) (C := RX2) (T := TX2) (N := 6) hx hb hts iX2_growHungry_X2 hown hK hP (wx_R_lt (k := 0) ho (by decide)) (wx_at_r ho (va_up_self _ _ _)) rfl 0 (by decide) mX2_growHungry_2 rfl dX2_growHungry_31 ?_
      refine hj_get (ci := 1) (v := .ref (ad (3 + 2))) (C := RX1) (T := TX1) (N := 6) hx hb hts iX2_growHungry_X1 hown hK hP (by decide) (wx_at_b (Or.inl rfl) ((va_up_ne _ _ (wx_R_3 ho)).trans hπ)) rfl 1 (by decide) mX2_growHungry_3 rfl dX2_growHungry_34 ?_
      refine lv_iload_n hx hb dX2_growHungry_37 rfl (lv_at hl 1 rfl) ?_
      obtain ⟨hk6, hf⟩ := hj_ck_s hf
      refine hj_ial (f := π.2 1) hx hb hK hP (by decide) (wx_at_ba 1 (Or.inl rfl) (by decide) ((va_up_ne _ _ (wx_R_3 ho)).trans hπ)) hk6 dX2_growHungry_38 ?_
      obtain ⟨r7, hc, hf⟩ := hj_o1_s hf
      refine hj_callVi (nL := 2) (As := [.int (π.2 1 x1.toNatClampNeg)]) (rest := [.int (ρ.2 2 x1.toNatClampNeg), .int 20, .int x1, .ref (ad (o + 2))]) (i0 := o) (C := RX2) (T := TX2) (N := 6) (ci := 2) ⟨hx, hb, hml, hown, hts⟩ (ctX2_hungerOfHour l g hI (σ := (va_up σ o ρ)) (bf := bf) (sd := sd) ho ((va_up_ne _ _ (wx_R_3 ho)).trans hπ) (va_up_self _ _ _) hc) (cwV 1 hts gX2_growHungry_X2_hungerOfHour rfl rfl rfl (by decide +kernel) ⟨Nat.le_of_ble_eq_true rfl, Nat.le_of_ble_eq_true rfl⟩) hj_Xb0 (fun _ _ _ => trivial) hK hP hS (wx_R_lt (k := 0) ho (by decide)) (wx_at_r ho (va_up_self _ _ _)) rfl rfl hl.1 rfl (Nat.le_of_ble_eq_true rfl) dX2_growHungry_39 (fun H locs hP hS => ?_)
      refine lv_iadd hx hb dX2_growHungry_42 ?_
      refine va_mmin hx hb (hml.trans hl.1.symm) hown (hts _ mX2_growHungry_4) (hts _ mX2_growHungry_5) (hts _ mX2_growHungry_6) (hts _ mX2_growHungry_7) (Nat.le_of_ble_eq_true rfl) (Nat.le_of_ble_eq_true rfl) (Nat.zero_le _) (Nat.zero_le _) dX2_growHungry_43 ?_
      obtain ⟨hk8, hf⟩ := hj_ck_s hf
      refine hj_ias (f := ρ.2 2) (v := (if ((ρ.2 2 x1.toNatClampNeg) + r7) < (20 : Int32) then ((ρ.2 2 x1.toNatClampNeg) + r7) else (20 : Int32))) hx hb hK hI hP hS (wx_R_lt (k := 2) ho (by decide)) (wx_at_ra 2 ho (by decide) (va_up_self _ _ _)) hk8 dX2_growHungry_46 ((wx_a_r (x := x1) (v := (if ((ρ.2 2 x1.toNatClampNeg) + r7) < (20 : Int32) then ((ρ.2 2 x1.toNatClampNeg) + r7) else (20 : Int32))) 2 ho (by decide) (va_up_self _ _ _)).trans (by rw [hj_uu])) (fun H locs hP hS => ?_)
      obtain ⟨ρ9, eρ9⟩ : ∃ z : hj_Ob, z = hj_a ρ 2 x1 (if ((ρ.2 2 x1.toNatClampNeg) + r7) < (20 : Int32) then ((ρ.2 2 x1.toNatClampNeg) + r7) else (20 : Int32)) := ⟨_, rfl⟩
      replace hf := hj_nm_y hf eρ9
      rw [← eρ9] at hP
      obtain ⟨y10, ey10⟩ : ∃ z : Int32, z = x1 + 1 := ⟨_, rfl⟩
      replace hf := hj_nm_y hf ey10
      refine lv_iinc (v := y10) (lv' := [(1, .int y10), (0, .ref (ad o))]) hx hb dX2_growHungry_47 hl (k := 1) rfl (by rw [ey10]; rfl) (by decide) rfl (fun ls hl => ?_)
      refine lv_goto (tgt := 2) hx hb dX2_growHungry_50 (by decide) ?_
      exact KI _ _ (Option.some.inj hf).symm _ _ _ hP hS (lv_sub hl [1, 0] rfl)
set_option maxHeartbeats 4000000 in
set_option maxRecDepth 100000 in
theorem wX2_growHungry_2 {p : Program} {l : Launch} {e : Env} {s : State} {m : MethodId} {args : Array Value} {below : List Frame} {meth : Method} {c : Code} {g : hj_G} {ad : Nat → Nat} (hI : hj_I 73 ad) (C : hj_C p s m args meth c cX2_growHungry RX2 wsX2_growHungry 2 none) (hK : hj_K g s) {σ : Nat → hj_Ob} {bf : Nat → Nat} {sd : Int64} {o : Nat} (ho : wx_R o) {π : hj_Ob} (hπ : σ 3 = π) {ρF : hj_Ob} {ρe : hj_Ob} :
    ∀ (fu : Nat) (x1 : Int32) (ρ : hj_Ob), hj_lp (fun q : (Int32 × hj_Ob) => fX2_growHungry_2 π q.2 q.1) fu (x1, ρ) = some ρe → (∀ (H : Heap) (locs : List Loc) (ls : Array Slot), hj_P g 73 ad (hj_wx g ad (va_up σ o ρe) bf sd) H → hj_S 73 ad s H locs → lv_has ls 2 [] → W p l e rmX2_growHungry s m args below meth c H locs 0 0 (MQ below (hj_QV g 73 ad (hj_wx g ad (va_up σ o ρF) bf sd) s.heap.size) args s 0 0 (hj_A 73 ad s.heap.size)) (F0 m 53 ls [])) → ∀ (H : Heap) (locs : List Loc) (ls : Array Slot), hj_P g 73 ad (hj_wx g ad (va_up σ o ρ) bf sd) H → hj_S 73 ad s H locs → lv_has ls 2 [(0, .ref (ad o)), (1, .int x1)] →
    W p l e rmX2_growHungry s m args below meth c H locs 0 0 (MQ below (hj_QV g 73 ad (hj_wx g ad (va_up σ o ρF) bf sd) s.heap.size) args s 0 0 (hj_A 73 ad s.heap.size)) (F0 m 2 ls []) := by
  intro fu
  induction fu with
  | zero => intro x1 ρ hq; cases hq
  | succ fu ih =>
    intro x1 ρ hq KX H locs ls hP hS hl
    obtain ⟨y, hy, h1, h2⟩ := hj_lp_s hq
    exact wX2_growHungry_2b hI C hK ho hπ  hy (fun ρ' hv H locs ls hP hS hl => by obtain rfl := h1 _ hv; exact KX H locs ls hP hS hl) (fun v1 ρ' hv H locs ls hP hS hl => ih v1 ρ' (h2 _ hv) KX H locs ls hP hS hl) hP hS hl
def fX2_growHungry (π : hj_Ob) (ρ : hj_Ob) : Option hj_Ob :=
  hj_o1 (hj_lp (fun q : (Int32 × hj_Ob) => fX2_growHungry_2 π q.2 q.1) 100 (0, ρ)) fun ρ11 => (some ρ11)
set_option maxHeartbeats 4000000 in
set_option maxRecDepth 100000 in
theorem wX2_growHungry {p : Program} {l : Launch} {e : Env} {s : State} {m : MethodId} {args : Array Value} {below : List Frame} {meth : Method} {c : Code} {g : hj_G} {ad : Nat → Nat} (hI : hj_I 73 ad) (C : hj_C p s m args meth c cX2_growHungry RX2 wsX2_growHungry 2 none) (hK : hj_K g s) {σ : Nat → hj_Ob} {bf : Nat → Nat} {sd : Int64} {o : Nat} (ho : wx_R o) {π : hj_Ob} (hπ : σ 3 = π) {ρ : hj_Ob} {ρF : hj_Ob}
    (hf : fX2_growHungry π ρ = some ρF) {H : Heap} {locs : List Loc} {ls : Array Slot} (hP : hj_P g 73 ad (hj_wx g ad (va_up σ o ρ) bf sd) H) (hS : hj_S 73 ad s H locs) (hl : lv_has ls 2 [(0, .ref (ad o))]) :
    W p l e rmX2_growHungry s m args below meth c H locs 0 0 (MQ below (hj_QV g 73 ad (hj_wx g ad (va_up σ o ρF) bf sd) s.heap.size) args s 0 0 (hj_A 73 ad s.heap.size)) (F0 m 0 ls []) := by
  obtain ⟨hx, hb, hr, hml, hown, hts, hlocks⟩ := id C
  unfold fX2_growHungry at hf
  refine lv_iconst (v := 0) hx hb dX2_growHungry_0 (by decide) ?_
  refine lv_istore_n (lv' := [(1, .int 0), (0, .ref (ad o))]) hx hb dX2_growHungry_1 rfl hl (by decide) rfl (fun ls hl => ?_)
  obtain ⟨ρ11, hlx, hf⟩ := hj_o1_s hf
  refine wX2_growHungry_2 hI C hK ho hπ  100 0 ρ hlx (fun H locs ls hP hS hl => ?_) H locs ls hP hS (lv_sub hl [1, 0] rfl)
  have hq := Option.some.inj hf
  obtain rfl := hq
  exact hj_retv C hP hK hS dX2_growHungry_53
set_option maxHeartbeats 4000000 in
set_option maxRecDepth 100000 in
theorem ctX2_growHungry (l : Launch) (g : hj_G) {ad : Nat → Nat} (hI : hj_I 73 ad) {σ : Nat → hj_Ob} {bf : Nat → Nat} {sd : Int64} {o : Nat} (ho : wx_R o) {π : hj_Ob} (hπ : σ 3 = π) {ρ : hj_Ob} (hρ : σ o = ρ) {ρF : hj_Ob} (hf : fX2_growHungry π ρ = some ρF) :
    hj_MV l yX2_growHungry wsX2_growHungry rmX2_growHungry g 73 ad hj_X0 [.ref (ad o)] (hj_wx g ad σ bf sd) (hj_wx g ad (va_up σ o ρF) bf sd) := by
  refine hj_ofV (cc := cX2_growHungry) (maxL := 2) (ret := none) (by decide) rfl (Nat.le_of_ble_eq_true rfl) ?_
  intro p e s m args below meth c ls C hP hK hX hl
  have hP : hj_P g 73 ad (hj_wx g ad (va_up σ o ρ) bf sd) s.heap := by rw [hj_ue σ _ hρ]; exact hP
  exact wX2_growHungry hI C hK ho hπ hf hP va_S.rf hl

/-! X2_mustGiveIn -/
abbrev rmX2_mustGiveIn : Room := { frames := 1, cells := 0, slots := 0, locals := 21 }
theorem iX2_mustGiveIn_X2 : ∀ w ∈ wsX20, w ∈ wsX2_mustGiveIn := fun _ h => List.mem_cons_of_mem _ (List.mem_append_left _ (List.mem_append_right _ h))
theorem mX2_mustGiveIn_1 : Cond.fieldLink RX2 32 "HungryJury$Room" "there" "I" ∈ wsX2_mustGiveIn := List.mem_of_getElem? (i := 1) rfl
theorem mX2_mustGiveIn_2 : Cond.fieldLink RX2 28 "HungryJury$Room" "yes" "I" ∈ wsX2_mustGiveIn := List.mem_of_getElem? (i := 2) rfl
theorem mX2_mustGiveIn_3 : Cond.fieldLink RX2 15 "HungryJury$Room" "hunger" "[I" ∈ wsX2_mustGiveIn := List.mem_of_getElem? (i := 3) rfl
theorem mX2_mustGiveIn_4 : Cond.fieldLink RX2 18 "HungryJury$Room" "panel" "LHungryJury$Panel;" ∈ wsX2_mustGiveIn := List.mem_of_getElem? (i := 4) rfl
theorem iX2_mustGiveIn_X1 : ∀ w ∈ wsX10, w ∈ wsX2_mustGiveIn := fun _ h => List.mem_cons_of_mem _ (List.mem_append_right _ h)
theorem mX2_mustGiveIn_5 : Cond.fieldLink RX2 66 "HungryJury$Panel" "kind" "[I" ∈ wsX2_mustGiveIn := List.mem_of_getElem? (i := 5) rfl
theorem mX2_mustGiveIn_7 : Cond.fieldLink RX2 9 "HungryJury$Room" "stubborn" "[I" ∈ wsX2_mustGiveIn := List.mem_of_getElem? (i := 7) rfl
theorem mX2_mustGiveIn_6 : Cond.fieldLink RX2 81 "HungryJury$Panel" "heeded" "[I" ∈ wsX2_mustGiveIn := List.mem_of_getElem? (i := 6) rfl
def fX2_mustGiveIn_111 (π : hj_Ob) (ρ : hj_Ob) (x1 : Int32) (x4 : Int32) : Option Int32 :=
  hj_ck x1 6 (if x4 < (ρ.2 1 x1.toNatClampNeg) then (some 0) else (some 1))
set_option maxHeartbeats 4000000 in
set_option maxRecDepth 100000 in
theorem wX2_mustGiveIn_111 {p : Program} {l : Launch} {e : Env} {s : State} {m : MethodId} {args : Array Value} {below : List Frame} {meth : Method} {c : Code} {g : hj_G} {ad : Nat → Nat} (hI : hj_I 73 ad) (C : hj_C p s m args meth c cX2_mustGiveIn RX2 wsX2_mustGiveIn 5 (some .boolean)) (hK : hj_K g s) {σ : Nat → hj_Ob} {bf : Nat → Nat} {sd : Int64} {o : Nat} (ho : wx_R o) {π : hj_Ob} (hπ : σ 3 = π) {ρ : hj_Ob} (hρ : σ o = ρ) {x1 : Int32} {x4 : Int32} {rF : Int32}
    (hf : fX2_mustGiveIn_111 π ρ x1 x4 = some rF) {H : Heap} {locs : List Loc} {ls : Array Slot} (hP : hj_P g 73 ad (hj_wx g ad σ bf sd) H) (hS : hj_S 73 ad s H locs) (hl : lv_has ls 5 [(0, .ref (ad o)), (1, .int x1), (4, .int x4)]) :
    W p l e rmX2_mustGiveIn s m args below meth c H locs 0 0 (MQ below (hj_QI g 73 ad (hj_wx g ad σ bf sd) rF s.heap.size) args s 0 0 (hj_A 73 ad s.heap.size)) (F0 m 111 ls []) := by
  obtain ⟨hx, hb, hr, hml, hown, hts, hlocks⟩ := id C
  unfold fX2_mustGiveIn_111 at hf
  refine lv_iload hx hb dX2_mustGiveIn_111 (lv_at hl 2 rfl) ?_
  refine lv_aload_n hx hb dX2_mustGiveIn_113 rfl (lv_at hl 0 rfl) ?_
  refine hj_get (ci := 2) (v := .ref (ad (o + 1))) (C := RX2) (T := TX2) (N := 6) hx hb hts iX2_mustGiveIn_X2 hown hK hP (wx_R_lt (k := 0) ho (by decide)) (wx_at_r ho hρ) rfl 1 (by decide) mX2_mustGiveIn_7 rfl dX2_mustGiveIn_114 ?_
  refine lv_iload_n hx hb dX2_mustGiveIn_117 rfl (lv_at hl 1 rfl) ?_
  obtain ⟨hk13, hf⟩ := hj_ck_s hf
  refine hj_ial (f := ρ.2 1) hx hb hK hP (wx_R_lt (k := 1) ho (by decide)) (wx_at_ra 1 ho (by decide) hρ) hk13 dX2_mustGiveIn_118 ?_
  refine lv_icmp_lt (tgt := 126) hx hb dX2_mustGiveIn_119 (by decide) (fun c14 => ?_) (fun c14 => ?_)
  · rw [if_pos c14] at hf
    refine lv_iconst (v := 0) hx hb dX2_mustGiveIn_126 (by decide) ?_
    have hq := Option.some.inj hf
    obtain rfl := hq
    exact hj_retz (Or.inl rfl)  C hP hK hS dX2_mustGiveIn_127
  · rw [if_neg c14] at hf
    refine lv_iconst (v := 1) hx hb dX2_mustGiveIn_122 (by decide) ?_
    refine lv_goto (tgt := 127) hx hb dX2_mustGiveIn_123 (by decide) ?_
    have hq := Option.some.inj hf
    obtain rfl := hq
    exact hj_retz (Or.inr rfl)  C hP hK hS dX2_mustGiveIn_127
def fX2_mustGiveIn_43 (π : hj_Ob) (ρ : hj_Ob) (x1 : Int32) (z0 : Int32) : Option Int32 :=
  hj_o1 (fJ6_bitCount_0f7a4 z0) fun r5 => hj_o1 (fJ6_bitCount_0f7a4 ((ρ.1 4) &&& (z0 ^^^ (-1)))) fun r6 => hj_nm (r5 - r6) fun y7 => if 0 < y7 then (hj_ck x1 6 (hj_nm (ρ.2 2 x1.toNatClampNeg) fun y10 => hj_ck x1 6 (if (π.2 1 x1.toNatClampNeg) = 3 then (fX2_mustGiveIn_111 π ρ x1 y10) else (hj_ck x1 6 (hj_o1 (fJ6_bitCount_0f7a4 ((π.2 2 x1.toNatClampNeg) &&& z0)) fun r16 => hj_nm (y10 + (y7 + (2 * r16))) fun y17 => fX2_mustGiveIn_111 π ρ x1 y17))))) else (some 0)
set_option maxHeartbeats 4000000 in
set_option maxRecDepth 100000 in
theorem wX2_mustGiveIn_43 {p : Program} {l : Launch} {e : Env} {s : State} {m : MethodId} {args : Array Value} {below : List Frame} {meth : Method} {c : Code} {g : hj_G} {ad : Nat → Nat} (hI : hj_I 73 ad) (C : hj_C p s m args meth c cX2_mustGiveIn RX2 wsX2_mustGiveIn 5 (some .boolean)) (hK : hj_K g s) {σ : Nat → hj_Ob} {bf : Nat → Nat} {sd : Int64} {o : Nat} (ho : wx_R o) {π : hj_Ob} (hπ : σ 3 = π) {ρ : hj_Ob} (hρ : σ o = ρ) {x1 : Int32} {z0 : Int32} {rF : Int32}
    (hf : fX2_mustGiveIn_43 π ρ x1 z0 = some rF) {H : Heap} {locs : List Loc} {ls : Array Slot} (hP : hj_P g 73 ad (hj_wx g ad σ bf sd) H) (hS : hj_S 73 ad s H locs) (hl : lv_has ls 5 [(0, .ref (ad o)), (1, .int x1)]) :
    W p l e rmX2_mustGiveIn s m args below meth c H locs 0 0 (MQ below (hj_QI g 73 ad (hj_wx g ad σ bf sd) rF s.heap.size) args s 0 0 (hj_A 73 ad s.heap.size)) (F0 m 43 ls [.int z0]) := by
  obtain ⟨hx, hb, hr, hml, hown, hts, hlocks⟩ := id C
  unfold fX2_mustGiveIn_43 at hf
  refine lv_istore_n (lv' := [(2, .int z0), (0, .ref (ad o)), (1, .int x1)]) hx hb dX2_mustGiveIn_43 rfl hl (by decide) rfl (fun ls hl => ?_)
  refine lv_iload_n hx hb dX2_mustGiveIn_44 rfl (lv_at hl 0 rfl) ?_
  obtain ⟨r5, hc, hf⟩ := hj_o1_s hf
  refine hj_callSi (nL := 5) (As := [.int z0]) (rest := []) ⟨hx, hb, hml, hown, hts⟩ (ctJ6_bitCount_0f7a4 l g (n := 73) (ad := ad) (w := (hj_wx g ad σ bf sd)) hc) (va_cwS 1 hts gX2_mustGiveIn_J6_bitCount_0f7a4 rfl rfl rfl (by decide +kernel) ⟨Nat.le_of_ble_eq_true rfl, Nat.le_of_ble_eq_true rfl⟩) hj_Xb0 (fun _ _ _ => trivial) hK hP hS rfl hl.1 rfl (Nat.le_of_ble_eq_true rfl) dX2_mustGiveIn_45 (fun H locs hP hS => ?_)
  refine lv_aload_n hx hb dX2_mustGiveIn_48 rfl (lv_at hl 1 rfl) ?_
  refine hj_get (ci := 2) (v := .int (ρ.1 4)) (C := RX2) (T := TX2) (N := 6) hx hb hts iX2_mustGiveIn_X2 hown hK hP (wx_R_lt (k := 0) ho (by decide)) (wx_at_r ho hρ) rfl 4 (by decide) mX2_mustGiveIn_1 rfl dX2_mustGiveIn_49 ?_
  refine lv_iload_n hx hb dX2_mustGiveIn_52 rfl (lv_at hl 0 rfl) ?_
  refine lv_iconst (v := (-1)) hx hb dX2_mustGiveIn_53 (by decide) ?_
  refine lv_ixor hx hb dX2_mustGiveIn_54 ?_
  refine lv_iand hx hb dX2_mustGiveIn_55 ?_
  obtain ⟨r6, hc, hf⟩ := hj_o1_s hf
  refine hj_callSi (nL := 5) (As := [.int ((ρ.1 4) &&& (z0 ^^^ (-1)))]) (rest := [.int r5]) ⟨hx, hb, hml, hown, hts⟩ (ctJ6_bitCount_0f7a4 l g (n := 73) (ad := ad) (w := (hj_wx g ad σ bf sd)) hc) (va_cwS 1 hts gX2_mustGiveIn_J6_bitCount_0f7a4 rfl rfl rfl (by decide +kernel) ⟨Nat.le_of_ble_eq_true rfl, Nat.le_of_ble_eq_true rfl⟩) hj_Xb0 (fun _ _ _ => trivial) hK hP hS rfl hl.1 rfl (Nat.le_of_ble_eq_true rfl) dX2_mustGiveIn_56 (fun H locs hP hS => ?_)
  refine lv_isub hx hb dX2_mustGiveIn_59 ?_
  refine lv_topi (fun y7 ey7 => ?_)
  replace hf := hj_nm_y hf ey7
  refine lv_istore_n (lv' := [(3, .int y7), (2, .int z0), (0, .ref (ad o)), (1, .int x1)]) hx hb dX2_mustGiveIn_60 rfl hl (by decide) rfl (fun ls hl => ?_)
  refine lv_iload_n hx hb dX2_mustGiveIn_61 rfl (lv_at hl 0 rfl) ?_
  refine lv_if_gt (tgt := 67) hx hb dX2_mustGiveIn_62 (by decide) (fun c8 => ?_) (fun c8 => ?_)
  · rw [if_pos c8] at hf
    refine lv_aload_n hx hb dX2_mustGiveIn_67 rfl (lv_at hl 2 rfl) ?_
    refine hj_get (ci := 2) (v := .ref (ad (o + 2))) (C := RX2) (T := TX2) (N := 6) hx hb hts iX2_mustGiveIn_X2 hown hK hP (wx_R_lt (k := 0) ho (by decide)) (wx_at_r ho hρ) rfl 2 (by decide) mX2_mustGiveIn_3 rfl dX2_mustGiveIn_68 ?_
    refine lv_iload_n hx hb dX2_mustGiveIn_71 rfl (lv_at hl 3 rfl) ?_
    obtain ⟨hk9, hf⟩ := hj_ck_s hf
    refine hj_ial (f := ρ.2 2) hx hb hK hP (wx_R_lt (k := 2) ho (by decide)) (wx_at_ra 2 ho (by decide) hρ) hk9 dX2_mustGiveIn_72 ?_
    refine lv_topi (fun y10 ey10 => ?_)
    replace hf := hj_nm_y hf ey10
    refine lv_istore (lv' := [(4, .int y10), (3, .int y7), (2, .int z0), (0, .ref (ad o)), (1, .int x1)]) hx hb dX2_mustGiveIn_73 hl (by decide) rfl (fun ls hl => ?_)
    refine lv_aload_n hx hb dX2_mustGiveIn_75 rfl (lv_at hl 3 rfl) ?_
    refine hj_get (ci := 2) (v := .ref (ad 3)) (C := RX2) (T := TX2) (N := 6) hx hb hts iX2_mustGiveIn_X2 hown hK hP (wx_R_lt (k := 0) ho (by decide)) (wx_at_r ho hρ) rfl 0 (by decide) mX2_mustGiveIn_4 rfl dX2_mustGiveIn_76 ?_
    refine hj_get (ci := 1) (v := .ref (ad (3 + 2))) (C := RX1) (T := TX1) (N := 6) hx hb hts iX2_mustGiveIn_X1 hown hK hP (by decide) (wx_at_b (Or.inl rfl) hπ) rfl 1 (by decide) mX2_mustGiveIn_5 rfl dX2_mustGiveIn_79 ?_
    refine lv_iload_n hx hb dX2_mustGiveIn_82 rfl (lv_at hl 4 rfl) ?_
    obtain ⟨hk11, hf⟩ := hj_ck_s hf
    refine hj_ial (f := π.2 1) hx hb hK hP (by decide) (wx_at_ba 1 (Or.inl rfl) (by decide) hπ) hk11 dX2_mustGiveIn_83 ?_
    refine lv_iconst (v := 3) hx hb dX2_mustGiveIn_84 (by decide) ?_
    refine lv_icmp_eq (tgt := 111) hx hb dX2_mustGiveIn_85 (by decide) (fun c12 => ?_) (fun c12 => ?_)
    · rw [if_pos c12] at hf
      exact wX2_mustGiveIn_111 hI C hK ho hπ hρ  hf hP hS (lv_sub hl [3, 4, 0] rfl)
    · rw [if_neg c12] at hf
      refine lv_iload hx hb dX2_mustGiveIn_88 (lv_at hl 0 rfl) ?_
      refine lv_iload_n hx hb dX2_mustGiveIn_90 rfl (lv_at hl 1 rfl) ?_
      refine lv_iconst (v := 2) hx hb dX2_mustGiveIn_91 (by decide) ?_
      refine lv_aload_n hx hb dX2_mustGiveIn_92 rfl (lv_at hl 3 rfl) ?_
      refine hj_get (ci := 2) (v := .ref (ad 3)) (C := RX2) (T := TX2) (N := 6) hx hb hts iX2_mustGiveIn_X2 hown hK hP (wx_R_lt (k := 0) ho (by decide)) (wx_at_r ho hρ) rfl 0 (by decide) mX2_mustGiveIn_4 rfl dX2_mustGiveIn_93 ?_
      refine hj_get (ci := 1) (v := .ref (ad (3 + 3))) (C := RX1) (T := TX1) (N := 6) hx hb hts iX2_mustGiveIn_X1 hown hK hP (by decide) (wx_at_b (Or.inl rfl) hπ) rfl 2 (by decide) mX2_mustGiveIn_6 rfl dX2_mustGiveIn_96 ?_
      refine lv_iload_n hx hb dX2_mustGiveIn_99 rfl (lv_at hl 4 rfl) ?_
      obtain ⟨hk15, hf⟩ := hj_ck_s hf
      refine hj_ial (f := π.2 2) hx hb hK hP (by decide) (wx_at_ba 2 (Or.inl rfl) (by decide) hπ) hk15 dX2_mustGiveIn_100 ?_
      refine lv_iload_n hx hb dX2_mustGiveIn_101 rfl (lv_at hl 2 rfl) ?_
      refine lv_iand hx hb dX2_mustGiveIn_102 ?_
      obtain ⟨r16, hc, hf⟩ := hj_o1_s hf
      refine hj_callSi (nL := 5) (As := [.int ((π.2 2 x1.toNatClampNeg) &&& z0)]) (rest := [.int 2, .int y7, .int y10]) ⟨hx, hb, hml, hown, hts⟩ (ctJ6_bitCount_0f7a4 l g (n := 73) (ad := ad) (w := (hj_wx g ad σ bf sd)) hc) (va_cwS 1 hts gX2_mustGiveIn_J6_bitCount_0f7a4 rfl rfl rfl (by decide +kernel) ⟨Nat.le_of_ble_eq_true rfl, Nat.le_of_ble_eq_true rfl⟩) hj_Xb0 (fun _ _ _ => trivial) hK hP hS rfl hl.1 rfl (Nat.le_of_ble_eq_true rfl) dX2_mustGiveIn_103 (fun H locs hP hS => ?_)
      refine lv_imul hx hb dX2_mustGiveIn_106 ?_
      refine lv_iadd hx hb dX2_mustGiveIn_107 ?_
      refine lv_iadd hx hb dX2_mustGiveIn_108 ?_
      refine lv_topi (fun y17 ey17 => ?_)
      replace hf := hj_nm_y hf ey17
      refine lv_istore (lv' := [(4, .int y17), (3, .int y7), (2, .int z0), (0, .ref (ad o)), (1, .int x1)]) hx hb dX2_mustGiveIn_109 hl (by decide) rfl (fun ls hl => ?_)
      exact wX2_mustGiveIn_111 hI C hK ho hπ hρ  hf hP hS (lv_sub hl [3, 4, 0] rfl)
  · rw [if_neg c8] at hf
    refine lv_iconst (v := 0) hx hb dX2_mustGiveIn_65 (by decide) ?_
    have hq := Option.some.inj hf
    obtain rfl := hq
    exact hj_retz (Or.inl rfl)  C hP hK hS dX2_mustGiveIn_66
def fX2_mustGiveIn (π : hj_Ob) (ρ : hj_Ob) (x1 : Int32) : Option Int32 :=
  if x1 < 0 then (some 0) else (if x1 < 6 then (hj_o1 (fX2_isYes π ρ x1) fun r3 => if r3 = 0 then (fX2_mustGiveIn_43 π ρ x1 ((ρ.1 4) &&& (ρ.1 3))) else (fX2_mustGiveIn_43 π ρ x1 ((ρ.1 4) &&& ((ρ.1 3) ^^^ (-1))))) else (some 0))
set_option maxHeartbeats 4000000 in
set_option maxRecDepth 100000 in
theorem wX2_mustGiveIn {p : Program} {l : Launch} {e : Env} {s : State} {m : MethodId} {args : Array Value} {below : List Frame} {meth : Method} {c : Code} {g : hj_G} {ad : Nat → Nat} (hI : hj_I 73 ad) (C : hj_C p s m args meth c cX2_mustGiveIn RX2 wsX2_mustGiveIn 5 (some .boolean)) (hK : hj_K g s) {σ : Nat → hj_Ob} {bf : Nat → Nat} {sd : Int64} {o : Nat} (ho : wx_R o) {π : hj_Ob} (hπ : σ 3 = π) {ρ : hj_Ob} (hρ : σ o = ρ) {x1 : Int32} {rF : Int32}
    (hf : fX2_mustGiveIn π ρ x1 = some rF) {H : Heap} {locs : List Loc} {ls : Array Slot} (hP : hj_P g 73 ad (hj_wx g ad σ bf sd) H) (hS : hj_S 73 ad s H locs) (hl : lv_has ls 5 [(0, .ref (ad o)), (1, .int x1)]) :
    W p l e rmX2_mustGiveIn s m args below meth c H locs 0 0 (MQ below (hj_QI g 73 ad (hj_wx g ad σ bf sd) rF s.heap.size) args s 0 0 (hj_A 73 ad s.heap.size)) (F0 m 0 ls []) := by
  obtain ⟨hx, hb, hr, hml, hown, hts, hlocks⟩ := id C
  unfold fX2_mustGiveIn at hf
  refine lv_iload_n hx hb dX2_mustGiveIn_0 rfl (lv_at hl 1 rfl) ?_
  refine lv_if_lt (tgt := 10) hx hb dX2_mustGiveIn_1 (by decide) (fun c1 => ?_) (fun c1 => ?_)
  · rw [if_pos c1] at hf
    refine lv_iconst (v := 0) hx hb dX2_mustGiveIn_10 (by decide) ?_
    have hq := Option.some.inj hf
    obtain rfl := hq
    exact hj_retz (Or.inl rfl)  C hP hK hS dX2_mustGiveIn_11
  · rw [if_neg c1] at hf
    refine lv_iload_n hx hb dX2_mustGiveIn_4 rfl (lv_at hl 1 rfl) ?_
    refine lv_bipush (v := 6) hx hb dX2_mustGiveIn_5 (by decide) ?_
    refine lv_icmp_lt (tgt := 12) hx hb dX2_mustGiveIn_7 (by decide) (fun c2 => ?_) (fun c2 => ?_)
    · rw [if_pos c2] at hf
      refine lv_aload_n hx hb dX2_mustGiveIn_12 rfl (lv_at hl 0 rfl) ?_
      refine lv_iload_n hx hb dX2_mustGiveIn_13 rfl (lv_at hl 1 rfl) ?_
      obtain ⟨r3, hc, hf⟩ := hj_o1_s hf
      refine hj_callVi (nL := 5) (As := [.int x1]) (rest := []) (i0 := o) (C := RX2) (T := TX2) (N := 6) (ci := 2) ⟨hx, hb, hml, hown, hts⟩ (ctX2_isYes l g hI (σ := σ) (bf := bf) (sd := sd) ho hπ hρ hc) (cwV 1 hts gX2_mustGiveIn_X2_isYes rfl rfl rfl (by decide +kernel) ⟨Nat.le_of_ble_eq_true rfl, Nat.le_of_ble_eq_true rfl⟩) hj_Xb0 (fun _ _ _ => trivial) hK hP hS (wx_R_lt (k := 0) ho (by decide)) (wx_at_r ho hρ) rfl rfl hl.1 rfl (Nat.le_of_ble_eq_true rfl) dX2_mustGiveIn_14 (fun H locs hP hS => ?_)
      refine lv_if_eq (tgt := 34) hx hb dX2_mustGiveIn_17 (by decide) (fun c4 => ?_) (fun c4 => ?_)
      · rw [if_pos c4] at hf
        refine lv_aload_n hx hb dX2_mustGiveIn_34 rfl (lv_at hl 0 rfl) ?_
        refine hj_get (ci := 2) (v := .int (ρ.1 4)) (C := RX2) (T := TX2) (N := 6) hx hb hts iX2_mustGiveIn_X2 hown hK hP (wx_R_lt (k := 0) ho (by decide)) (wx_at_r ho hρ) rfl 4 (by decide) mX2_mustGiveIn_1 rfl dX2_mustGiveIn_35 ?_
        refine lv_aload_n hx hb dX2_mustGiveIn_38 rfl (lv_at hl 0 rfl) ?_
        refine hj_get (ci := 2) (v := .int (ρ.1 3)) (C := RX2) (T := TX2) (N := 6) hx hb hts iX2_mustGiveIn_X2 hown hK hP (wx_R_lt (k := 0) ho (by decide)) (wx_at_r ho hρ) rfl 3 (by decide) mX2_mustGiveIn_2 rfl dX2_mustGiveIn_39 ?_
        refine lv_iand hx hb dX2_mustGiveIn_42 ?_
        exact wX2_mustGiveIn_43 hI C hK ho hπ hρ  hf hP hS (lv_sub hl [0, 1] rfl)
      · rw [if_neg c4] at hf
        refine lv_aload_n hx hb dX2_mustGiveIn_20 rfl (lv_at hl 0 rfl) ?_
        refine hj_get (ci := 2) (v := .int (ρ.1 4)) (C := RX2) (T := TX2) (N := 6) hx hb hts iX2_mustGiveIn_X2 hown hK hP (wx_R_lt (k := 0) ho (by decide)) (wx_at_r ho hρ) rfl 4 (by decide) mX2_mustGiveIn_1 rfl dX2_mustGiveIn_21 ?_
        refine lv_aload_n hx hb dX2_mustGiveIn_24 rfl (lv_at hl 0 rfl) ?_
        refine hj_get (ci := 2) (v := .int (ρ.1 3)) (C := RX2) (T := TX2) (N := 6) hx hb hts iX2_mustGiveIn_X2 hown hK hP (wx_R_lt (k := 0) ho (by decide)) (wx_at_r ho hρ) rfl 3 (by decide) mX2_mustGiveIn_2 rfl dX2_mustGiveIn_25 ?_
        refine lv_iconst (v := (-1)) hx hb dX2_mustGiveIn_28 (by decide) ?_
        refine lv_ixor hx hb dX2_mustGiveIn_29 ?_
        refine lv_iand hx hb dX2_mustGiveIn_30 ?_
        refine lv_goto (tgt := 43) hx hb dX2_mustGiveIn_31 (by decide) ?_
        exact wX2_mustGiveIn_43 hI C hK ho hπ hρ  hf hP hS (lv_sub hl [0, 1] rfl)
    · rw [if_neg c2] at hf
      refine lv_iconst (v := 0) hx hb dX2_mustGiveIn_10 (by decide) ?_
      have hq := Option.some.inj hf
      obtain rfl := hq
      exact hj_retz (Or.inl rfl)  C hP hK hS dX2_mustGiveIn_11
set_option maxHeartbeats 4000000 in
set_option maxRecDepth 100000 in
theorem ctX2_mustGiveIn (l : Launch) (g : hj_G) {ad : Nat → Nat} (hI : hj_I 73 ad) {σ : Nat → hj_Ob} {bf : Nat → Nat} {sd : Int64} {o : Nat} (ho : wx_R o) {π : hj_Ob} (hπ : σ 3 = π) {ρ : hj_Ob} (hρ : σ o = ρ) {x1 : Int32} {rF : Int32} (hf : fX2_mustGiveIn π ρ x1 = some rF) :
    hj_MI l yX2_mustGiveIn wsX2_mustGiveIn rmX2_mustGiveIn g 73 ad hj_X0 [.ref (ad o), .int x1] (hj_wx g ad σ bf sd) rF (hj_wx g ad σ bf sd) := by
  refine hj_ofI (cc := cX2_mustGiveIn) (maxL := 5) (ret := (some .boolean)) (by decide) rfl (Nat.le_of_ble_eq_true rfl) ?_
  intro p e s m args below meth c ls C hP hK hX hl
  exact wX2_mustGiveIn hI C hK ho hπ hρ hf hP va_S.rf hl

/-! X2_passHour -/
abbrev rmX2_passHour : Room := { frames := 2, cells := 0, slots := 0, locals := 45 }
theorem iX2_passHour_X2 : ∀ w ∈ wsX20, w ∈ wsX2_passHour := fun _ h => List.mem_cons_of_mem _ (List.mem_append_left _ (List.mem_append_right _ h))
theorem mX2_passHour_1 : Cond.fieldLink RX2 35 "HungryJury$Room" "theHour" "I" ∈ wsX2_passHour := List.mem_of_getElem? (i := 1) rfl
theorem mX2_passHour_2 : Cond.fieldLink RX2 28 "HungryJury$Room" "yes" "I" ∈ wsX2_passHour := List.mem_of_getElem? (i := 2) rfl
def fX2_passHour_39 (π : hj_Ob) (ρ : hj_Ob) (x2 : Int32) (x3 : Int32) : Option ((Int32 × hj_Ob) ⊕ (Int32 × Int32 × hj_Ob)) :=
  if 6 ≤ x3 then (some (.inl (x2, ρ))) else (hj_o1 (fX2_isThere π ρ x3) fun r7 => if r7 = 0 then (hj_nm (x3 + 1) fun y9 => some (.inr (x2, y9, ρ))) else (hj_o1 (fX2_mustGiveIn π ρ x3) fun r10 => if r10 = 0 then (hj_nm (x3 + 1) fun y12 => some (.inr (x2, y12, ρ))) else (hj_nm (hj_s ρ 3 ((ρ.1 3) ^^^ ((1 : Int32) <<< (x3 &&& 31)))) fun ρ13 => hj_nm (x2 ||| ((1 : Int32) <<< (x3 &&& 31))) fun y14 => hj_nm (x3 + 1) fun y15 => some (.inr (y14, y15, ρ13)))))
set_option maxHeartbeats 4000000 in
set_option maxRecDepth 100000 in
theorem wX2_passHour_39b {p : Program} {l : Launch} {e : Env} {s : State} {m : MethodId} {args : Array Value} {below : List Frame} {meth : Method} {c : Code} {g : hj_G} {ad : Nat → Nat} (hI : hj_I 73 ad) (C : hj_C p s m args meth c cX2_passHour RX2 wsX2_passHour 4 (some .int)) (hK : hj_K g s) {σ : Nat → hj_Ob} {bf : Nat → Nat} {sd : Int64} {o : Nat} (ho : wx_R o) {π : hj_Ob} (hπ : σ 3 = π) {ρ : hj_Ob} {x2 : Int32} {x3 : Int32} {y : (Int32 × hj_Ob) ⊕ (Int32 × Int32 × hj_Ob)} {rF : Int32} {ρF : hj_Ob}
    (hf : fX2_passHour_39 π ρ x2 x3 = some y) (KX : ∀ (v2 : Int32) (ρ' : hj_Ob), y = .inl (v2, ρ') → ∀ (H : Heap) (locs : List Loc) (ls : Array Slot), hj_P g 73 ad (hj_wx g ad (va_up σ o ρ') bf sd) H → hj_S 73 ad s H locs → lv_has ls 4 [(2, .int v2)] → W p l e rmX2_passHour s m args below meth c H locs 0 0 (MQ below (hj_QI g 73 ad (hj_wx g ad (va_up σ o ρF) bf sd) rF s.heap.size) args s 0 0 (hj_A 73 ad s.heap.size)) (F0 m 85 ls [])) (KI : ∀ (v2 : Int32) (v3 : Int32) (ρ' : hj_Ob), y = .inr (v2, v3, ρ') → ∀ (H : Heap) (locs : List Loc) (ls : Array Slot), hj_P g 73 ad (hj_wx g ad (va_up σ o ρ') bf sd) H → hj_S 73 ad s H locs → lv_has ls 4 [(0, .ref (ad o)), (2, .int v2), (3, .int v3)] → W p l e rmX2_passHour s m args below meth c H locs 0 0 (MQ below (hj_QI g 73 ad (hj_wx g ad (va_up σ o ρF) bf sd) rF s.heap.size) args s 0 0 (hj_A 73 ad s.heap.size)) (F0 m 39 ls [])) {H : Heap} {locs : List Loc} {ls : Array Slot} (hP : hj_P g 73 ad (hj_wx g ad (va_up σ o ρ) bf sd) H) (hS : hj_S 73 ad s H locs) (hl : lv_has ls 4 [(0, .ref (ad o)), (2, .int x2), (3, .int x3)]) :
    W p l e rmX2_passHour s m args below meth c H locs 0 0 (MQ below (hj_QI g 73 ad (hj_wx g ad (va_up σ o ρF) bf sd) rF s.heap.size) args s 0 0 (hj_A 73 ad s.heap.size)) (F0 m 39 ls []) := by
  obtain ⟨hx, hb, hr, hml, hown, hts, hlocks⟩ := id C
  unfold fX2_passHour_39 at hf
  refine lv_iload_n hx hb dX2_passHour_39 rfl (lv_at hl 2 rfl) ?_
  refine lv_bipush (v := 6) hx hb dX2_passHour_40 (by decide) ?_
  refine lv_icmp_ge (tgt := 85) hx hb dX2_passHour_42 (by decide) (fun c6 => ?_) (fun c6 => ?_)
  · rw [if_pos c6] at hf
    exact KX _ _ (Option.some.inj hf).symm _ _ _ hP hS (lv_sub hl [1] rfl)
  · rw [if_neg c6] at hf
    refine lv_aload_n hx hb dX2_passHour_45 rfl (lv_at hl 0 rfl) ?_
    refine lv_iload_n hx hb dX2_passHour_46 rfl (lv_at hl 2 rfl) ?_
    obtain ⟨r7, hc, hf⟩ := hj_o1_s hf
    refine hj_callVi (nL := 4) (As := [.int x3]) (rest := []) (i0 := o) (C := RX2) (T := TX2) (N := 6) (ci := 2) ⟨hx, hb, hml, hown, hts⟩ (ctX2_isThere l g hI (σ := (va_up σ o ρ)) (bf := bf) (sd := sd) ho ((va_up_ne _ _ (wx_R_3 ho)).trans hπ) (va_up_self _ _ _) hc) (cwV 1 hts gX2_passHour_X2_isThere rfl rfl rfl (by decide +kernel) ⟨Nat.le_of_ble_eq_true rfl, Nat.le_of_ble_eq_true rfl⟩) hj_Xb0 (fun _ _ _ => trivial) hK hP hS (wx_R_lt (k := 0) ho (by decide)) (wx_at_r ho (va_up_self _ _ _)) rfl rfl hl.1 rfl (Nat.le_of_ble_eq_true rfl) dX2_passHour_47 (fun H locs hP hS => ?_)
    refine lv_if_eq (tgt := 79) hx hb dX2_passHour_50 (by decide) (fun c8 => ?_) (fun c8 => ?_)
    · rw [if_pos c8] at hf
      obtain ⟨y9, ey9⟩ : ∃ z : Int32, z = x3 + 1 := ⟨_, rfl⟩
      replace hf := hj_nm_y hf ey9
      refine lv_iinc (v := y9) (lv' := [(3, .int y9), (0, .ref (ad o)), (2, .int x2)]) hx hb dX2_passHour_79 hl (k := 2) rfl (by rw [ey9]; rfl) (by decide) rfl (fun ls hl => ?_)
      refine lv_goto (tgt := 39) hx hb dX2_passHour_82 (by decide) ?_
      exact KI _ _ _ (Option.some.inj hf).symm _ _ _ hP hS (lv_sub hl [1, 2, 0] rfl)
    · rw [if_neg c8] at hf
      refine lv_aload_n hx hb dX2_passHour_53 rfl (lv_at hl 0 rfl) ?_
      refine lv_iload_n hx hb dX2_passHour_54 rfl (lv_at hl 2 rfl) ?_
      obtain ⟨r10, hc, hf⟩ := hj_o1_s hf
      refine hj_callVi (nL := 4) (As := [.int x3]) (rest := []) (i0 := o) (C := RX2) (T := TX2) (N := 6) (ci := 2) ⟨hx, hb, hml, hown, hts⟩ (ctX2_mustGiveIn l g hI (σ := (va_up σ o ρ)) (bf := bf) (sd := sd) ho ((va_up_ne _ _ (wx_R_3 ho)).trans hπ) (va_up_self _ _ _) hc) (cwV 1 hts gX2_passHour_X2_mustGiveIn rfl rfl rfl (by decide +kernel) ⟨Nat.le_of_ble_eq_true rfl, Nat.le_of_ble_eq_true rfl⟩) hj_Xb0 (fun _ _ _ => trivial) hK hP hS (wx_R_lt (k := 0) ho (by decide)) (wx_at_r ho (va_up_self _ _ _)) rfl rfl hl.1 rfl (Nat.le_of_ble_eq_true rfl) dX2_passHour_55 (fun H locs hP hS => ?_)
      refine lv_if_eq (tgt := 79) hx hb dX2_passHour_58 (by decide) (fun c11 => ?_) (fun c11 => ?_)
      · rw [if_pos c11] at hf
        obtain ⟨y12, ey12⟩ : ∃ z : Int32, z = x3 + 1 := ⟨_, rfl⟩
        replace hf := hj_nm_y hf ey12
        refine lv_iinc (v := y12) (lv' := [(3, .int y12), (0, .ref (ad o)), (2, .int x2)]) hx hb dX2_passHour_79 hl (k := 2) rfl (by rw [ey12]; rfl) (by decide) rfl (fun ls hl => ?_)
        refine lv_goto (tgt := 39) hx hb dX2_passHour_82 (by decide) ?_
        exact KI _ _ _ (Option.some.inj hf).symm _ _ _ hP hS (lv_sub hl [1, 2, 0] rfl)
      · rw [if_neg c11] at hf
        refine lv_aload_n hx hb dX2_passHour_61 rfl (lv_at hl 0 rfl) ?_
        refine lv_dup hx hb dX2_passHour_62 rfl ?_
        refine hj_get (ci := 2) (v := .int (ρ.1 3)) (C := RX2) (T := TX2) (N := 6) hx hb hts iX2_passHour_X2 hown hK hP (wx_R_lt (k := 0) ho (by decide)) (wx_at_r ho (va_up_self _ _ _)) rfl 3 (by decide) mX2_passHour_2 rfl dX2_passHour_63 ?_
        refine lv_iconst (v := 1) hx hb dX2_passHour_66 (by decide) ?_
        refine lv_iload_n hx hb dX2_passHour_67 rfl (lv_at hl 2 rfl) ?_
        refine lv_ishl hx hb dX2_passHour_68 ?_
        refine lv_ixor hx hb dX2_passHour_69 ?_
        refine hj_put (ci := 2) (v := .int ((ρ.1 3) ^^^ ((1 : Int32) <<< (x3 &&& 31)))) (C := RX2) (T := TX2) (N := 6) hx hb hts iX2_passHour_X2 tyX2 tyX2_ok nmX2 hown hK hI hP hS (wx_R_lt (k := 0) ho (by decide)) (wx_at_r ho (va_up_self _ _ _)) rfl 3 (by decide) mX2_passHour_2 rfl rfl rfl (Nat.le_of_ble_eq_true rfl) dX2_passHour_70 ((wx_s_r (k := 3) (v := (ρ.1 3) ^^^ ((1 : Int32) <<< (x3 &&& 31))) ho (va_up_self _ _ _) rfl).trans (by rw [hj_uu])) (fun H locs hP hS => ?_)
        obtain ⟨ρ13, eρ13⟩ : ∃ z : hj_Ob, z = hj_s ρ 3 ((ρ.1 3) ^^^ ((1 : Int32) <<< (x3 &&& 31))) := ⟨_, rfl⟩
        replace hf := hj_nm_y hf eρ13
        rw [← eρ13] at hP
        refine lv_iload_n hx hb dX2_passHour_73 rfl (lv_at hl 1 rfl) ?_
        refine lv_iconst (v := 1) hx hb dX2_passHour_74 (by decide) ?_
        refine lv_iload_n hx hb dX2_passHour_75 rfl (lv_at hl 2 rfl) ?_
        refine lv_ishl hx hb dX2_passHour_76 ?_
        refine lv_ior hx hb dX2_passHour_77 ?_
        refine lv_topi (fun y14 ey14 => ?_)
        replace hf := hj_nm_y hf ey14
        refine lv_istore_n (lv' := [(2, .int y14), (0, .ref (ad o)), (3, .int x3)]) hx hb dX2_passHour_78 rfl hl (by decide) rfl (fun ls hl => ?_)
        obtain ⟨y15, ey15⟩ : ∃ z : Int32, z = x3 + 1 := ⟨_, rfl⟩
        replace hf := hj_nm_y hf ey15
        refine lv_iinc (v := y15) (lv' := [(3, .int y15), (2, .int y14), (0, .ref (ad o))]) hx hb dX2_passHour_79 hl (k := 2) rfl (by rw [ey15]; rfl) (by decide) rfl (fun ls hl => ?_)
        refine lv_goto (tgt := 39) hx hb dX2_passHour_82 (by decide) ?_
        exact KI _ _ _ (Option.some.inj hf).symm _ _ _ hP hS (lv_sub hl [2, 1, 0] rfl)
set_option maxHeartbeats 4000000 in
set_option maxRecDepth 100000 in
theorem wX2_passHour_39 {p : Program} {l : Launch} {e : Env} {s : State} {m : MethodId} {args : Array Value} {below : List Frame} {meth : Method} {c : Code} {g : hj_G} {ad : Nat → Nat} (hI : hj_I 73 ad) (C : hj_C p s m args meth c cX2_passHour RX2 wsX2_passHour 4 (some .int)) (hK : hj_K g s) {σ : Nat → hj_Ob} {bf : Nat → Nat} {sd : Int64} {o : Nat} (ho : wx_R o) {π : hj_Ob} (hπ : σ 3 = π) {rF : Int32} {ρF : hj_Ob} {e2 : Int32} {ρe : hj_Ob} :
    ∀ (fu : Nat) (x2 : Int32) (x3 : Int32) (ρ : hj_Ob), hj_lp (fun q : (Int32 × Int32 × hj_Ob) => fX2_passHour_39 π q.2.2 q.1 q.2.1) fu (x2, x3, ρ) = some (e2, ρe) → (∀ (H : Heap) (locs : List Loc) (ls : Array Slot), hj_P g 73 ad (hj_wx g ad (va_up σ o ρe) bf sd) H → hj_S 73 ad s H locs → lv_has ls 4 [(2, .int e2)] → W p l e rmX2_passHour s m args below meth c H locs 0 0 (MQ below (hj_QI g 73 ad (hj_wx g ad (va_up σ o ρF) bf sd) rF s.heap.size) args s 0 0 (hj_A 73 ad s.heap.size)) (F0 m 85 ls [])) → ∀ (H : Heap) (locs : List Loc) (ls : Array Slot), hj_P g 73 ad (hj_wx g ad (va_up σ o ρ) bf sd) H → hj_S 73 ad s H locs → lv_has ls 4 [(0, .ref (ad o)), (2, .int x2), (3, .int x3)] →
    W p l e rmX2_passHour s m args below meth c H locs 0 0 (MQ below (hj_QI g 73 ad (hj_wx g ad (va_up σ o ρF) bf sd) rF s.heap.size) args s 0 0 (hj_A 73 ad s.heap.size)) (F0 m 39 ls []) := by
  intro fu
  induction fu with
  | zero => intro x2 x3 ρ hq; cases hq
  | succ fu ih =>
    intro x2 x3 ρ hq KX H locs ls hP hS hl
    obtain ⟨y, hy, h1, h2⟩ := hj_lp_s hq
    exact wX2_passHour_39b hI C hK ho hπ  hy (fun v2 ρ' hv H locs ls hP hS hl => by have hw := h1 _ hv; obtain ⟨rfl, rfl⟩ := Prod.mk.inj hw; exact KX H locs ls hP hS hl) (fun v2 v3 ρ' hv H locs ls hP hS hl => ih v2 v3 ρ' (h2 _ hv) KX H locs ls hP hS hl) hP hS hl
def fX2_passHour_14 (π : hj_Ob) (ρ : hj_Ob) (z0 : Int32) : Option (Int32 × hj_Ob) :=
  hj_nm (hj_s ρ 5 ((ρ.1 5) + 1)) fun ρ3 => if z0 = 0 then (hj_o1 (fX2_growHungry π ρ3) fun ρ5 => hj_o2 (hj_lp (fun q : (Int32 × Int32 × hj_Ob) => fX2_passHour_39 π q.2.2 q.1 q.2.1) 100 (0, 0, ρ5)) fun e16 ρ17 => (some (e16, ρ17))) else (some (0, ρ3))
set_option maxHeartbeats 4000000 in
set_option maxRecDepth 100000 in
theorem wX2_passHour_14 {p : Program} {l : Launch} {e : Env} {s : State} {m : MethodId} {args : Array Value} {below : List Frame} {meth : Method} {c : Code} {g : hj_G} {ad : Nat → Nat} (hI : hj_I 73 ad) (C : hj_C p s m args meth c cX2_passHour RX2 wsX2_passHour 4 (some .int)) (hK : hj_K g s) {σ : Nat → hj_Ob} {bf : Nat → Nat} {sd : Int64} {o : Nat} (ho : wx_R o) {π : hj_Ob} (hπ : σ 3 = π) {ρ : hj_Ob} {z0 : Int32} {rF : Int32} {ρF : hj_Ob}
    (hf : fX2_passHour_14 π ρ z0 = some (rF, ρF)) {H : Heap} {locs : List Loc} {ls : Array Slot} (hP : hj_P g 73 ad (hj_wx g ad (va_up σ o ρ) bf sd) H) (hS : hj_S 73 ad s H locs) (hl : lv_has ls 4 [(0, .ref (ad o))]) :
    W p l e rmX2_passHour s m args below meth c H locs 0 0 (MQ below (hj_QI g 73 ad (hj_wx g ad (va_up σ o ρF) bf sd) rF s.heap.size) args s 0 0 (hj_A 73 ad s.heap.size)) (F0 m 14 ls [.int z0]) := by
  obtain ⟨hx, hb, hr, hml, hown, hts, hlocks⟩ := id C
  unfold fX2_passHour_14 at hf
  refine lv_istore_n (lv' := [(1, .int z0), (0, .ref (ad o))]) hx hb dX2_passHour_14 rfl hl (by decide) rfl (fun ls hl => ?_)
  refine lv_aload_n hx hb dX2_passHour_15 rfl (lv_at hl 1 rfl) ?_
  refine lv_dup hx hb dX2_passHour_16 rfl ?_
  refine hj_get (ci := 2) (v := .int (ρ.1 5)) (C := RX2) (T := TX2) (N := 6) hx hb hts iX2_passHour_X2 hown hK hP (wx_R_lt (k := 0) ho (by decide)) (wx_at_r ho (va_up_self _ _ _)) rfl 5 (by decide) mX2_passHour_1 rfl dX2_passHour_17 ?_
  refine lv_iconst (v := 1) hx hb dX2_passHour_20 (by decide) ?_
  refine lv_iadd hx hb dX2_passHour_21 ?_
  refine hj_put (ci := 2) (v := .int ((ρ.1 5) + 1)) (C := RX2) (T := TX2) (N := 6) hx hb hts iX2_passHour_X2 tyX2 tyX2_ok nmX2 hown hK hI hP hS (wx_R_lt (k := 0) ho (by decide)) (wx_at_r ho (va_up_self _ _ _)) rfl 5 (by decide) mX2_passHour_1 rfl rfl rfl (Nat.le_of_ble_eq_true rfl) dX2_passHour_22 ((wx_s_r (k := 5) (v := (ρ.1 5) + 1) ho (va_up_self _ _ _) rfl).trans (by rw [hj_uu])) (fun H locs hP hS => ?_)
  obtain ⟨ρ3, eρ3⟩ : ∃ z : hj_Ob, z = hj_s ρ 5 ((ρ.1 5) + 1) := ⟨_, rfl⟩
  replace hf := hj_nm_y hf eρ3
  rw [← eρ3] at hP
  refine lv_iload_n hx hb dX2_passHour_25 rfl (lv_at hl 0 rfl) ?_
  refine lv_if_eq (tgt := 31) hx hb dX2_passHour_26 (by decide) (fun c4 => ?_) (fun c4 => ?_)
  · rw [if_pos c4] at hf
    refine lv_aload_n hx hb dX2_passHour_31 rfl (lv_at hl 1 rfl) ?_
    obtain ⟨ρ5, hc, hf⟩ := hj_o1_s hf
    refine hj_callVv (nL := 4) (As := []) (rest := []) (i0 := o) (C := RX2) (T := TX2) (N := 6) (ci := 2) ⟨hx, hb, hml, hown, hts⟩ (ctX2_growHungry l g hI (σ := (va_up σ o ρ3)) (bf := bf) (sd := sd) ho ((va_up_ne _ _ (wx_R_3 ho)).trans hπ) (va_up_self _ _ _) hc) (cwV 0 hts gX2_passHour_X2_growHungry rfl rfl rfl (by decide +kernel) ⟨Nat.le_of_ble_eq_true rfl, Nat.le_of_ble_eq_true rfl⟩) hj_Xb0 (fun _ _ _ => trivial) hK hP hS (wx_R_lt (k := 0) ho (by decide)) (wx_at_r ho (va_up_self _ _ _)) rfl rfl hl.1 rfl (Nat.le_of_ble_eq_true rfl) dX2_passHour_32 (fun H locs hP hS => ?_)
    rw [hj_uu] at hP
    refine lv_iconst (v := 0) hx hb dX2_passHour_35 (by decide) ?_
    refine lv_istore_n (lv' := [(2, .int 0), (1, .int z0), (0, .ref (ad o))]) hx hb dX2_passHour_36 rfl hl (by decide) rfl (fun ls hl => ?_)
    refine lv_iconst (v := 0) hx hb dX2_passHour_37 (by decide) ?_
    refine lv_istore_n (lv' := [(3, .int 0), (2, .int 0), (1, .int z0), (0, .ref (ad o))]) hx hb dX2_passHour_38 rfl hl (by decide) rfl (fun ls hl => ?_)
    obtain ⟨e16, ρ17, hlx, hf⟩ := hj_o2_s hf
    refine wX2_passHour_39 hI C hK ho hπ  100 0 0 ρ5 hlx (fun H locs ls hP hS hl => ?_) H locs ls hP hS (lv_sub hl [3, 1, 0] rfl)
    refine lv_iload_n hx hb dX2_passHour_85 rfl (lv_at hl 0 rfl) ?_
    have hq := Option.some.inj hf
    obtain ⟨rfl, rfl⟩ := Prod.mk.inj hq
    exact hj_reti C hP hK hS dX2_passHour_86
  · rw [if_neg c4] at hf
    refine lv_iconst (v := 0) hx hb dX2_passHour_29 (by decide) ?_
    have hq := Option.some.inj hf
    obtain ⟨rfl, rfl⟩ := Prod.mk.inj hq
    exact hj_reti C hP hK hS dX2_passHour_30
def fX2_passHour (π : hj_Ob) (ρ : hj_Ob) : Option (Int32 × hj_Ob) :=
  hj_o1 (fX2_verdict π ρ) fun r1 => if r1 = 9 then (fX2_passHour_14 π ρ 0) else (fX2_passHour_14 π ρ 1)
set_option maxHeartbeats 4000000 in
set_option maxRecDepth 100000 in
theorem wX2_passHour {p : Program} {l : Launch} {e : Env} {s : State} {m : MethodId} {args : Array Value} {below : List Frame} {meth : Method} {c : Code} {g : hj_G} {ad : Nat → Nat} (hI : hj_I 73 ad) (C : hj_C p s m args meth c cX2_passHour RX2 wsX2_passHour 4 (some .int)) (hK : hj_K g s) {σ : Nat → hj_Ob} {bf : Nat → Nat} {sd : Int64} {o : Nat} (ho : wx_R o) {π : hj_Ob} (hπ : σ 3 = π) {ρ : hj_Ob} {rF : Int32} {ρF : hj_Ob}
    (hf : fX2_passHour π ρ = some (rF, ρF)) {H : Heap} {locs : List Loc} {ls : Array Slot} (hP : hj_P g 73 ad (hj_wx g ad (va_up σ o ρ) bf sd) H) (hS : hj_S 73 ad s H locs) (hl : lv_has ls 4 [(0, .ref (ad o))]) :
    W p l e rmX2_passHour s m args below meth c H locs 0 0 (MQ below (hj_QI g 73 ad (hj_wx g ad (va_up σ o ρF) bf sd) rF s.heap.size) args s 0 0 (hj_A 73 ad s.heap.size)) (F0 m 0 ls []) := by
  obtain ⟨hx, hb, hr, hml, hown, hts, hlocks⟩ := id C
  unfold fX2_passHour at hf
  refine lv_aload_n hx hb dX2_passHour_0 rfl (lv_at hl 0 rfl) ?_
  obtain ⟨r1, hc, hf⟩ := hj_o1_s hf
  refine hj_callVi (nL := 4) (As := []) (rest := []) (i0 := o) (C := RX2) (T := TX2) (N := 6) (ci := 2) ⟨hx, hb, hml, hown, hts⟩ (ctX2_verdict l g hI (σ := (va_up σ o ρ)) (bf := bf) (sd := sd) ho ((va_up_ne _ _ (wx_R_3 ho)).trans hπ) (va_up_self _ _ _) hc) (cwV 0 hts gX2_passHour_X2_verdict rfl rfl rfl (by decide +kernel) ⟨Nat.le_of_ble_eq_true rfl, Nat.le_of_ble_eq_true rfl⟩) hj_Xb0 (fun _ _ _ => trivial) hK hP hS (wx_R_lt (k := 0) ho (by decide)) (wx_at_r ho (va_up_self _ _ _)) rfl rfl hl.1 rfl (Nat.le_of_ble_eq_true rfl) dX2_passHour_1 (fun H locs hP hS => ?_)
  refine lv_bipush (v := 9) hx hb dX2_passHour_4 (by decide) ?_
  refine lv_icmp_eq (tgt := 13) hx hb dX2_passHour_6 (by decide) (fun c2 => ?_) (fun c2 => ?_)
  · rw [if_pos c2] at hf
    refine lv_iconst (v := 0) hx hb dX2_passHour_13 (by decide) ?_
    exact wX2_passHour_14 hI C hK ho hπ  hf hP hS (lv_sub hl [0] rfl)
  · rw [if_neg c2] at hf
    refine lv_iconst (v := 1) hx hb dX2_passHour_9 (by decide) ?_
    refine lv_goto (tgt := 14) hx hb dX2_passHour_10 (by decide) ?_
    exact wX2_passHour_14 hI C hK ho hπ  hf hP hS (lv_sub hl [0] rfl)
set_option maxHeartbeats 4000000 in
set_option maxRecDepth 100000 in
theorem ctX2_passHour (l : Launch) (g : hj_G) {ad : Nat → Nat} (hI : hj_I 73 ad) {σ : Nat → hj_Ob} {bf : Nat → Nat} {sd : Int64} {o : Nat} (ho : wx_R o) {π : hj_Ob} (hπ : σ 3 = π) {ρ : hj_Ob} (hρ : σ o = ρ) {rF : Int32} {ρF : hj_Ob} (hf : fX2_passHour π ρ = some (rF, ρF)) :
    hj_MI l yX2_passHour wsX2_passHour rmX2_passHour g 73 ad hj_X0 [.ref (ad o)] (hj_wx g ad σ bf sd) rF (hj_wx g ad (va_up σ o ρF) bf sd) := by
  refine hj_ofI (cc := cX2_passHour) (maxL := 4) (ret := (some .int)) (by decide) rfl (Nat.le_of_ble_eq_true rfl) ?_
  intro p e s m args below meth c ls C hP hK hX hl
  have hP : hj_P g 73 ad (hj_wx g ad (va_up σ o ρ) bf sd) s.heap := by rw [hj_ue σ _ hρ]; exact hP
  exact wX2_passHour hI C hK ho hπ hf hP va_S.rf hl

/-! X2_passHoursToEnd -/
abbrev rmX2_passHoursToEnd : Room := { frames := 3, cells := 0, slots := 0, locals := 68 }
def fX2_passHoursToEnd_2 (π : hj_Ob) (ρ : hj_Ob) (x1 : Int32) : Option (((Int32 × hj_Ob) ⊕ hj_Ob) ⊕ (Int32 × hj_Ob)) :=
  if 20 ≤ x1 then (some (.inl (.inr ρ))) else (hj_o1 (fX2_verdict π ρ) fun r2 => if r2 = 9 then (hj_o2 (fX2_passHour π ρ) fun r4 ρ5 => hj_nm (x1 + 1) fun y6 => some (.inr (y6, ρ5))) else (some (.inl (.inl (x1, ρ)))))
set_option maxHeartbeats 4000000 in
set_option maxRecDepth 100000 in
theorem wX2_passHoursToEnd_2b {p : Program} {l : Launch} {e : Env} {s : State} {m : MethodId} {args : Array Value} {below : List Frame} {meth : Method} {c : Code} {g : hj_G} {ad : Nat → Nat} (hI : hj_I 73 ad) (C : hj_C p s m args meth c cX2_passHoursToEnd RX2 wsX2_passHoursToEnd 2 (some .int)) (hK : hj_K g s) {σ : Nat → hj_Ob} {bf : Nat → Nat} {sd : Int64} {o : Nat} (ho : wx_R o) {π : hj_Ob} (hπ : σ 3 = π) {ρ : hj_Ob} {x1 : Int32} {y : ((Int32 × hj_Ob) ⊕ hj_Ob) ⊕ (Int32 × hj_Ob)} {rF : Int32} {ρF : hj_Ob}
    (hf : fX2_passHoursToEnd_2 π ρ x1 = some y) (KR : ∀ r, y = .inl (.inl r) → r = (rF, ρF)) (KX : ∀ (ρ' : hj_Ob), y = .inl (.inr ρ') → ∀ (H : Heap) (locs : List Loc) (ls : Array Slot), hj_P g 73 ad (hj_wx g ad (va_up σ o ρ') bf sd) H → hj_S 73 ad s H locs → lv_has ls 2 [(0, .ref (ad o))] → W p l e rmX2_passHoursToEnd s m args below meth c H locs 0 0 (MQ below (hj_QI g 73 ad (hj_wx g ad (va_up σ o ρF) bf sd) rF s.heap.size) args s 0 0 (hj_A 73 ad s.heap.size)) (F0 m 30 ls [])) (KI : ∀ (v1 : Int32) (ρ' : hj_Ob), y = .inr (v1, ρ') → ∀ (H : Heap) (locs : List Loc) (ls : Array Slot), hj_P g 73 ad (hj_wx g ad (va_up σ o ρ') bf sd) H → hj_S 73 ad s H locs → lv_has ls 2 [(0, .ref (ad o)), (1, .int v1)] → W p l e rmX2_passHoursToEnd s m args below meth c H locs 0 0 (MQ below (hj_QI g 73 ad (hj_wx g ad (va_up σ o ρF) bf sd) rF s.heap.size) args s 0 0 (hj_A 73 ad s.heap.size)) (F0 m 2 ls [])) {H : Heap} {locs : List Loc} {ls : Array Slot} (hP : hj_P g 73 ad (hj_wx g ad (va_up σ o ρ) bf sd) H) (hS : hj_S 73 ad s H locs) (hl : lv_has ls 2 [(0, .ref (ad o)), (1, .int x1)]) :
    W p l e rmX2_passHoursToEnd s m args below meth c H locs 0 0 (MQ below (hj_QI g 73 ad (hj_wx g ad (va_up σ o ρF) bf sd) rF s.heap.size) args s 0 0 (hj_A 73 ad s.heap.size)) (F0 m 2 ls []) := by
  obtain ⟨hx, hb, hr, hml, hown, hts, hlocks⟩ := id C
  unfold fX2_passHoursToEnd_2 at hf
  refine lv_iload_n hx hb dX2_passHoursToEnd_2 rfl (lv_at hl 1 rfl) ?_
  refine lv_bipush (v := 20) hx hb dX2_passHoursToEnd_3 (by decide) ?_
  refine lv_icmp_ge (tgt := 30) hx hb dX2_passHoursToEnd_5 (by decide) (fun c1 => ?_) (fun c1 => ?_)
  · rw [if_pos c1] at hf
    exact KX _ (Option.some.inj hf).symm _ _ _ hP hS (lv_sub hl [0] rfl)
  · rw [if_neg c1] at hf
    refine lv_aload_n hx hb dX2_passHoursToEnd_8 rfl (lv_at hl 0 rfl) ?_
    obtain ⟨r2, hc, hf⟩ := hj_o1_s hf
    refine hj_callVi (nL := 2) (As := []) (rest := []) (i0 := o) (C := RX2) (T := TX2) (N := 6) (ci := 2) ⟨hx, hb, hml, hown, hts⟩ (ctX2_verdict l g hI (σ := (va_up σ o ρ)) (bf := bf) (sd := sd) ho ((va_up_ne _ _ (wx_R_3 ho)).trans hπ) (va_up_self _ _ _) hc) (cwV 0 hts gX2_passHoursToEnd_X2_verdict rfl rfl rfl (by decide +kernel) ⟨Nat.le_of_ble_eq_true rfl, Nat.le_of_ble_eq_true rfl⟩) hj_Xb0 (fun _ _ _ => trivial) hK hP hS (wx_R_lt (k := 0) ho (by decide)) (wx_at_r ho (va_up_self _ _ _)) rfl rfl hl.1 rfl (Nat.le_of_ble_eq_true rfl) dX2_passHoursToEnd_9 (fun H locs hP hS => ?_)
    refine lv_bipush (v := 9) hx hb dX2_passHoursToEnd_12 (by decide) ?_
    refine lv_icmp_eq (tgt := 19) hx hb dX2_passHoursToEnd_14 (by decide) (fun c3 => ?_) (fun c3 => ?_)
    · rw [if_pos c3] at hf
      refine lv_aload_n hx hb dX2_passHoursToEnd_19 rfl (lv_at hl 0 rfl) ?_
      obtain ⟨r4, ρ5, hc, hf⟩ := hj_o2_s hf
      refine hj_callVi (nL := 2) (As := []) (rest := []) (i0 := o) (C := RX2) (T := TX2) (N := 6) (ci := 2) ⟨hx, hb, hml, hown, hts⟩ (ctX2_passHour l g hI (σ := (va_up σ o ρ)) (bf := bf) (sd := sd) ho ((va_up_ne _ _ (wx_R_3 ho)).trans hπ) (va_up_self _ _ _) hc) (cwV 0 hts gX2_passHoursToEnd_X2_passHour rfl rfl rfl (by decide +kernel) ⟨Nat.le_of_ble_eq_true rfl, Nat.le_of_ble_eq_true rfl⟩) hj_Xb0 (fun _ _ _ => trivial) hK hP hS (wx_R_lt (k := 0) ho (by decide)) (wx_at_r ho (va_up_self _ _ _)) rfl rfl hl.1 rfl (Nat.le_of_ble_eq_true rfl) dX2_passHoursToEnd_20 (fun H locs hP hS => ?_)
      rw [hj_uu] at hP
      refine lv_pop hx hb dX2_passHoursToEnd_23 rfl ?_
      obtain ⟨y6, ey6⟩ : ∃ z : Int32, z = x1 + 1 := ⟨_, rfl⟩
      replace hf := hj_nm_y hf ey6
      refine lv_iinc (v := y6) (lv' := [(1, .int y6), (0, .ref (ad o))]) hx hb dX2_passHoursToEnd_24 hl (k := 1) rfl (by rw [ey6]; rfl) (by decide) rfl (fun ls hl => ?_)
      refine lv_goto (tgt := 2) hx hb dX2_passHoursToEnd_27 (by decide) ?_
      exact KI _ _ (Option.some.inj hf).symm _ _ _ hP hS (lv_sub hl [1, 0] rfl)
    · rw [if_neg c3] at hf
      refine lv_iload_n hx hb dX2_passHoursToEnd_17 rfl (lv_at hl 1 rfl) ?_
      have hq := KR _ (Option.some.inj hf).symm
      obtain ⟨rfl, rfl⟩ := Prod.mk.inj hq
      exact hj_reti C hP hK hS dX2_passHoursToEnd_18
set_option maxHeartbeats 4000000 in
set_option maxRecDepth 100000 in
theorem wX2_passHoursToEnd_2 {p : Program} {l : Launch} {e : Env} {s : State} {m : MethodId} {args : Array Value} {below : List Frame} {meth : Method} {c : Code} {g : hj_G} {ad : Nat → Nat} (hI : hj_I 73 ad) (C : hj_C p s m args meth c cX2_passHoursToEnd RX2 wsX2_passHoursToEnd 2 (some .int)) (hK : hj_K g s) {σ : Nat → hj_Ob} {bf : Nat → Nat} {sd : Int64} {o : Nat} (ho : wx_R o) {π : hj_Ob} (hπ : σ 3 = π) {rF : Int32} {ρF : hj_Ob} {ex : ((Int32 × hj_Ob) ⊕ hj_Ob)} :
    ∀ (fu : Nat) (x1 : Int32) (ρ : hj_Ob), hj_lp (fun q : (Int32 × hj_Ob) => fX2_passHoursToEnd_2 π q.2 q.1) fu (x1, ρ) = some ex → (∀ r, ex = .inl r → r = (rF, ρF)) → (∀ (ρ' : hj_Ob), ex = .inr ρ' → ∀ (H : Heap) (locs : List Loc) (ls : Array Slot), hj_P g 73 ad (hj_wx g ad (va_up σ o ρ') bf sd) H → hj_S 73 ad s H locs → lv_has ls 2 [(0, .ref (ad o))] → W p l e rmX2_passHoursToEnd s m args below meth c H locs 0 0 (MQ below (hj_QI g 73 ad (hj_wx g ad (va_up σ o ρF) bf sd) rF s.heap.size) args s 0 0 (hj_A 73 ad s.heap.size)) (F0 m 30 ls [])) → ∀ (H : Heap) (locs : List Loc) (ls : Array Slot), hj_P g 73 ad (hj_wx g ad (va_up σ o ρ) bf sd) H → hj_S 73 ad s H locs → lv_has ls 2 [(0, .ref (ad o)), (1, .int x1)] →
    W p l e rmX2_passHoursToEnd s m args below meth c H locs 0 0 (MQ below (hj_QI g 73 ad (hj_wx g ad (va_up σ o ρF) bf sd) rF s.heap.size) args s 0 0 (hj_A 73 ad s.heap.size)) (F0 m 2 ls []) := by
  intro fu
  induction fu with
  | zero => intro x1 ρ hq; cases hq
  | succ fu ih =>
    intro x1 ρ hq KR KX H locs ls hP hS hl
    obtain ⟨y, hy, h1, h2⟩ := hj_lp_s hq
    exact wX2_passHoursToEnd_2b hI C hK ho hπ  hy (fun r hr => KR r (h1 _ hr).symm) (fun ρ' hv => KX ρ' (h1 _ hv).symm) (fun v1 ρ' hv H locs ls hP hS hl => ih v1 ρ' (h2 _ hv) KR KX H locs ls hP hS hl) hP hS hl
def fX2_passHoursToEnd (π : hj_Ob) (ρ : hj_Ob) : Option (Int32 × hj_Ob) :=
  hj_oe (fun r => r) (hj_lp (fun q : (Int32 × hj_Ob) => fX2_passHoursToEnd_2 π q.2 q.1) 100 (0, ρ)) (fun ex8 => hj_nm ex8 fun ρ7 => hj_o1 (fX2_verdict π ρ7) fun r9 => if r9 = 9 then (some ((-9), ρ7)) else (some (20, ρ7)))
set_option maxHeartbeats 4000000 in
set_option maxRecDepth 100000 in
theorem wX2_passHoursToEnd {p : Program} {l : Launch} {e : Env} {s : State} {m : MethodId} {args : Array Value} {below : List Frame} {meth : Method} {c : Code} {g : hj_G} {ad : Nat → Nat} (hI : hj_I 73 ad) (C : hj_C p s m args meth c cX2_passHoursToEnd RX2 wsX2_passHoursToEnd 2 (some .int)) (hK : hj_K g s) {σ : Nat → hj_Ob} {bf : Nat → Nat} {sd : Int64} {o : Nat} (ho : wx_R o) {π : hj_Ob} (hπ : σ 3 = π) {ρ : hj_Ob} {rF : Int32} {ρF : hj_Ob}
    (hf : fX2_passHoursToEnd π ρ = some (rF, ρF)) {H : Heap} {locs : List Loc} {ls : Array Slot} (hP : hj_P g 73 ad (hj_wx g ad (va_up σ o ρ) bf sd) H) (hS : hj_S 73 ad s H locs) (hl : lv_has ls 2 [(0, .ref (ad o))]) :
    W p l e rmX2_passHoursToEnd s m args below meth c H locs 0 0 (MQ below (hj_QI g 73 ad (hj_wx g ad (va_up σ o ρF) bf sd) rF s.heap.size) args s 0 0 (hj_A 73 ad s.heap.size)) (F0 m 0 ls []) := by
  obtain ⟨hx, hb, hr, hml, hown, hts, hlocks⟩ := id C
  unfold fX2_passHoursToEnd at hf
  refine lv_iconst (v := 0) hx hb dX2_passHoursToEnd_0 (by decide) ?_
  refine lv_istore_n (lv' := [(1, .int 0), (0, .ref (ad o))]) hx hb dX2_passHoursToEnd_1 rfl hl (by decide) rfl (fun ls hl => ?_)
  obtain ⟨exx, hlx, hlr, hfx⟩ := hj_oe_s hf
  refine wX2_passHoursToEnd_2 hI C hK ho hπ  100 0 ρ hlx hlr (fun ρ7 hxe H locs ls hP hS hl => ?_) H locs ls hP hS (lv_sub hl [1, 0] rfl)
  replace hf := hfx _ hxe
  replace hf := hj_nm_y (y := ρ7) hf rfl
  refine lv_aload_n hx hb dX2_passHoursToEnd_30 rfl (lv_at hl 0 rfl) ?_
  obtain ⟨r9, hc, hf⟩ := hj_o1_s hf
  refine hj_callVi (nL := 2) (As := []) (rest := []) (i0 := o) (C := RX2) (T := TX2) (N := 6) (ci := 2) ⟨hx, hb, hml, hown, hts⟩ (ctX2_verdict l g hI (σ := (va_up σ o ρ7)) (bf := bf) (sd := sd) ho ((va_up_ne _ _ (wx_R_3 ho)).trans hπ) (va_up_self _ _ _) hc) (cwV 0 hts gX2_passHoursToEnd_X2_verdict rfl rfl rfl (by decide +kernel) ⟨Nat.le_of_ble_eq_true rfl, Nat.le_of_ble_eq_true rfl⟩) hj_Xb0 (fun _ _ _ => trivial) hK hP hS (wx_R_lt (k := 0) ho (by decide)) (wx_at_r ho (va_up_self _ _ _)) rfl rfl hl.1 rfl (Nat.le_of_ble_eq_true rfl) dX2_passHoursToEnd_31 (fun H locs hP hS => ?_)
  refine lv_bipush (v := 9) hx hb dX2_passHoursToEnd_34 (by decide) ?_
  refine lv_icmp_eq (tgt := 44) hx hb dX2_passHoursToEnd_36 (by decide) (fun c10 => ?_) (fun c10 => ?_)
  · rw [if_pos c10] at hf
    refine lv_bipush (v := (-9)) hx hb dX2_passHoursToEnd_44 (by decide) ?_
    have hq := Option.some.inj hf
    obtain ⟨rfl, rfl⟩ := Prod.mk.inj hq
    exact hj_reti C hP hK hS dX2_passHoursToEnd_46
  · rw [if_neg c10] at hf
    refine lv_bipush (v := 20) hx hb dX2_passHoursToEnd_39 (by decide) ?_
    refine lv_goto (tgt := 46) hx hb dX2_passHoursToEnd_41 (by decide) ?_
    have hq := Option.some.inj hf
    obtain ⟨rfl, rfl⟩ := Prod.mk.inj hq
    exact hj_reti C hP hK hS dX2_passHoursToEnd_46
set_option maxHeartbeats 4000000 in
set_option maxRecDepth 100000 in
theorem ctX2_passHoursToEnd (l : Launch) (g : hj_G) {ad : Nat → Nat} (hI : hj_I 73 ad) {σ : Nat → hj_Ob} {bf : Nat → Nat} {sd : Int64} {o : Nat} (ho : wx_R o) {π : hj_Ob} (hπ : σ 3 = π) {ρ : hj_Ob} (hρ : σ o = ρ) {rF : Int32} {ρF : hj_Ob} (hf : fX2_passHoursToEnd π ρ = some (rF, ρF)) :
    hj_MI l yX2_passHoursToEnd wsX2_passHoursToEnd rmX2_passHoursToEnd g 73 ad hj_X0 [.ref (ad o)] (hj_wx g ad σ bf sd) rF (hj_wx g ad (va_up σ o ρF) bf sd) := by
  refine hj_ofI (cc := cX2_passHoursToEnd) (maxL := 2) (ret := (some .int)) (by decide) rfl (Nat.le_of_ble_eq_true rfl) ?_
  intro p e s m args below meth c ls C hP hK hX hl
  have hP : hj_P g 73 ad (hj_wx g ad (va_up σ o ρ) bf sd) s.heap := by rw [hj_ue σ _ hρ]; exact hP
  exact wX2_passHoursToEnd hI C hK ho hπ hf hP va_S.rf hl

/-! X2_canDo -/
abbrev rmX2_canDo : Room := { frames := 1, cells := 0, slots := 0, locals := 21 }
theorem iX2_canDo_X2 : ∀ w ∈ wsX20, w ∈ wsX2_canDo := fun _ h => List.mem_cons_of_mem _ (List.mem_append_right _ h)
theorem mX2_canDo_1 : Cond.fieldLink RX2 9 "HungryJury$Room" "stubborn" "[I" ∈ wsX2_canDo := List.mem_of_getElem? (i := 1) rfl
theorem mX2_canDo_2 : Cond.fieldLink RX2 15 "HungryJury$Room" "hunger" "[I" ∈ wsX2_canDo := List.mem_of_getElem? (i := 2) rfl
def fX2_canDo (π : hj_Ob) (ρ : hj_Ob) (x1 : Int32) (x2 : Int32) : Option Int32 :=
  if x1 = 0 then (if x2 = 0 then (some 1) else (some 0)) else (if x2 < 0 then (some 0) else (if 6 ≤ x2 then (some 0) else (hj_o1 (fX2_isThere π ρ x2) fun r4 => if r4 = 0 then (some 0) else (if x1 = 1 then (hj_ck x2 6 (if (ρ.2 1 x2.toNatClampNeg) ≤ 1 then (some 0) else (some 1))) else (if x1 = 2 then (hj_ck x2 6 (if (ρ.2 2 x2.toNatClampNeg) ≤ 0 then (some 0) else (some 1))) else (if x1 = 3 then (some 1) else (if x1 = 4 then (some 1) else (some 0))))))))
set_option maxHeartbeats 4000000 in
set_option maxRecDepth 100000 in
theorem wX2_canDo {p : Program} {l : Launch} {e : Env} {s : State} {m : MethodId} {args : Array Value} {below : List Frame} {meth : Method} {c : Code} {g : hj_G} {ad : Nat → Nat} (hI : hj_I 73 ad) (C : hj_C p s m args meth c cX2_canDo RX2 wsX2_canDo 3 (some .boolean)) (hK : hj_K g s) {σ : Nat → hj_Ob} {bf : Nat → Nat} {sd : Int64} {o : Nat} (ho : wx_R o) {π : hj_Ob} (hπ : σ 3 = π) {ρ : hj_Ob} (hρ : σ o = ρ) {x1 : Int32} {x2 : Int32} {rF : Int32}
    (hf : fX2_canDo π ρ x1 x2 = some rF) {H : Heap} {locs : List Loc} {ls : Array Slot} (hP : hj_P g 73 ad (hj_wx g ad σ bf sd) H) (hS : hj_S 73 ad s H locs) (hl : lv_has ls 3 [(0, .ref (ad o)), (1, .int x1), (2, .int x2)]) :
    W p l e rmX2_canDo s m args below meth c H locs 0 0 (MQ below (hj_QI g 73 ad (hj_wx g ad σ bf sd) rF s.heap.size) args s 0 0 (hj_A 73 ad s.heap.size)) (F0 m 0 ls []) := by
  obtain ⟨hx, hb, hr, hml, hown, hts, hlocks⟩ := id C
  unfold fX2_canDo at hf
  refine lv_iload_n hx hb dX2_canDo_0 rfl (lv_at hl 1 rfl) ?_
  refine lv_if_ne (tgt := 14) hx hb dX2_canDo_1 (by decide) (fun c1 => ?_) (fun c1 => ?_)
  · rw [if_neg c1] at hf
    refine lv_iload_n hx hb dX2_canDo_14 rfl (lv_at hl 2 rfl) ?_
    refine lv_if_lt (tgt := 32) hx hb dX2_canDo_15 (by decide) (fun c2 => ?_) (fun c2 => ?_)
    · rw [if_pos c2] at hf
      refine lv_iconst (v := 0) hx hb dX2_canDo_32 (by decide) ?_
      have hq := Option.some.inj hf
      obtain rfl := hq
      exact hj_retz (Or.inl rfl)  C hP hK hS dX2_canDo_33
    · rw [if_neg c2] at hf
      refine lv_iload_n hx hb dX2_canDo_18 rfl (lv_at hl 2 rfl) ?_
      refine lv_bipush (v := 6) hx hb dX2_canDo_19 (by decide) ?_
      refine lv_icmp_ge (tgt := 32) hx hb dX2_canDo_21 (by decide) (fun c3 => ?_) (fun c3 => ?_)
      · rw [if_pos c3] at hf
        refine lv_iconst (v := 0) hx hb dX2_canDo_32 (by decide) ?_
        have hq := Option.some.inj hf
        obtain rfl := hq
        exact hj_retz (Or.inl rfl)  C hP hK hS dX2_canDo_33
      · rw [if_neg c3] at hf
        refine lv_aload_n hx hb dX2_canDo_24 rfl (lv_at hl 0 rfl) ?_
        refine lv_iload_n hx hb dX2_canDo_25 rfl (lv_at hl 2 rfl) ?_
        obtain ⟨r4, hc, hf⟩ := hj_o1_s hf
        refine hj_callVi (nL := 3) (As := [.int x2]) (rest := []) (i0 := o) (C := RX2) (T := TX2) (N := 6) (ci := 2) ⟨hx, hb, hml, hown, hts⟩ (ctX2_isThere l g hI (σ := σ) (bf := bf) (sd := sd) ho hπ hρ hc) (cwV 1 hts gX2_canDo_X2_isThere rfl rfl rfl (by decide +kernel) ⟨Nat.le_of_ble_eq_true rfl, Nat.le_of_ble_eq_true rfl⟩) hj_Xb0 (fun _ _ _ => trivial) hK hP hS (wx_R_lt (k := 0) ho (by decide)) (wx_at_r ho hρ) rfl rfl hl.1 rfl (Nat.le_of_ble_eq_true rfl) dX2_canDo_26 (fun H locs hP hS => ?_)
        refine lv_if_ne (tgt := 34) hx hb dX2_canDo_29 (by decide) (fun c5 => ?_) (fun c5 => ?_)
        · rw [if_neg c5] at hf
          refine lv_iload_n hx hb dX2_canDo_34 rfl (lv_at hl 1 rfl) ?_
          by_cases c6 : x1 = 1
          · rw [if_pos c6] at hf
            refine lv_lookup (tgt := 60) (off := 25) hx hb dX2_canDo_35 (by decide) (by first | (rw [c6]; done) | (rw [c6]; rfl)) (by decide) ?_
            refine lv_aload_n hx hb dX2_canDo_60 rfl (lv_at hl 0 rfl) ?_
            refine hj_get (ci := 2) (v := .ref (ad (o + 1))) (C := RX2) (T := TX2) (N := 6) hx hb hts iX2_canDo_X2 hown hK hP (wx_R_lt (k := 0) ho (by decide)) (wx_at_r ho hρ) rfl 1 (by decide) mX2_canDo_1 rfl dX2_canDo_61 ?_
            refine lv_iload_n hx hb dX2_canDo_64 rfl (lv_at hl 2 rfl) ?_
            obtain ⟨hk7, hf⟩ := hj_ck_s hf
            refine hj_ial (f := ρ.2 1) hx hb hK hP (wx_R_lt (k := 1) ho (by decide)) (wx_at_ra 1 ho (by decide) hρ) hk7 dX2_canDo_65 ?_
            refine lv_iconst (v := 1) hx hb dX2_canDo_66 (by decide) ?_
            refine lv_icmp_le (tgt := 74) hx hb dX2_canDo_67 (by decide) (fun c8 => ?_) (fun c8 => ?_)
            · rw [if_pos c8] at hf
              refine lv_iconst (v := 0) hx hb dX2_canDo_74 (by decide) ?_
              have hq := Option.some.inj hf
              obtain rfl := hq
              exact hj_retz (Or.inl rfl)  C hP hK hS dX2_canDo_75
            · rw [if_neg c8] at hf
              refine lv_iconst (v := 1) hx hb dX2_canDo_70 (by decide) ?_
              refine lv_goto (tgt := 75) hx hb dX2_canDo_71 (by decide) ?_
              have hq := Option.some.inj hf
              obtain rfl := hq
              exact hj_retz (Or.inr rfl)  C hP hK hS dX2_canDo_75
          rw [if_neg c6] at hf
          by_cases c9 : x1 = 2
          · rw [if_pos c9] at hf
            refine lv_lookup (tgt := 76) (off := 41) hx hb dX2_canDo_35 (by decide) (by first | (rw [c9]; done) | (rw [c9]; rfl)) (by decide) ?_
            refine lv_aload_n hx hb dX2_canDo_76 rfl (lv_at hl 0 rfl) ?_
            refine hj_get (ci := 2) (v := .ref (ad (o + 2))) (C := RX2) (T := TX2) (N := 6) hx hb hts iX2_canDo_X2 hown hK hP (wx_R_lt (k := 0) ho (by decide)) (wx_at_r ho hρ) rfl 2 (by decide) mX2_canDo_2 rfl dX2_canDo_77 ?_
            refine lv_iload_n hx hb dX2_canDo_80 rfl (lv_at hl 2 rfl) ?_
            obtain ⟨hk10, hf⟩ := hj_ck_s hf
            refine hj_ial (f := ρ.2 2) hx hb hK hP (wx_R_lt (k := 2) ho (by decide)) (wx_at_ra 2 ho (by decide) hρ) hk10 dX2_canDo_81 ?_
            refine lv_if_le (tgt := 89) hx hb dX2_canDo_82 (by decide) (fun c11 => ?_) (fun c11 => ?_)
            · rw [if_pos c11] at hf
              refine lv_iconst (v := 0) hx hb dX2_canDo_89 (by decide) ?_
              have hq := Option.some.inj hf
              obtain rfl := hq
              exact hj_retz (Or.inl rfl)  C hP hK hS dX2_canDo_90
            · rw [if_neg c11] at hf
              refine lv_iconst (v := 1) hx hb dX2_canDo_85 (by decide) ?_
              refine lv_goto (tgt := 90) hx hb dX2_canDo_86 (by decide) ?_
              have hq := Option.some.inj hf
              obtain rfl := hq
              exact hj_retz (Or.inr rfl)  C hP hK hS dX2_canDo_90
          rw [if_neg c9] at hf
          refine lv_lookup (tgt := 91) (off := 56) hx hb dX2_canDo_35 (by decide) ((lv_osw c6 (by decide)).trans (lv_osw c9 (by decide))) (by decide) ?_
          refine lv_iload_n hx hb dX2_canDo_91 rfl (lv_at hl 1 rfl) ?_
          refine lv_iconst (v := 3) hx hb dX2_canDo_92 (by decide) ?_
          refine lv_icmp_eq (tgt := 101) hx hb dX2_canDo_93 (by decide) (fun c12 => ?_) (fun c12 => ?_)
          · rw [if_pos c12] at hf
            refine lv_iconst (v := 1) hx hb dX2_canDo_101 (by decide) ?_
            refine lv_goto (tgt := 106) hx hb dX2_canDo_102 (by decide) ?_
            have hq := Option.some.inj hf
            obtain rfl := hq
            exact hj_retz (Or.inr rfl)  C hP hK hS dX2_canDo_106
          · rw [if_neg c12] at hf
            refine lv_iload_n hx hb dX2_canDo_96 rfl (lv_at hl 1 rfl) ?_
            refine lv_iconst (v := 4) hx hb dX2_canDo_97 (by decide) ?_
            refine lv_icmp_ne (tgt := 105) hx hb dX2_canDo_98 (by decide) (fun c13 => ?_) (fun c13 => ?_)
            · rw [if_neg c13] at hf
              refine lv_iconst (v := 0) hx hb dX2_canDo_105 (by decide) ?_
              have hq := Option.some.inj hf
              obtain rfl := hq
              exact hj_retz (Or.inl rfl)  C hP hK hS dX2_canDo_106
            · rw [if_pos c13] at hf
              refine lv_iconst (v := 1) hx hb dX2_canDo_101 (by decide) ?_
              refine lv_goto (tgt := 106) hx hb dX2_canDo_102 (by decide) ?_
              have hq := Option.some.inj hf
              obtain rfl := hq
              exact hj_retz (Or.inr rfl)  C hP hK hS dX2_canDo_106
        · rw [if_pos c5] at hf
          refine lv_iconst (v := 0) hx hb dX2_canDo_32 (by decide) ?_
          have hq := Option.some.inj hf
          obtain rfl := hq
          exact hj_retz (Or.inl rfl)  C hP hK hS dX2_canDo_33
  · rw [if_pos c1] at hf
    refine lv_iload_n hx hb dX2_canDo_4 rfl (lv_at hl 2 rfl) ?_
    refine lv_if_ne (tgt := 12) hx hb dX2_canDo_5 (by decide) (fun c14 => ?_) (fun c14 => ?_)
    · rw [if_neg c14] at hf
      refine lv_iconst (v := 0) hx hb dX2_canDo_12 (by decide) ?_
      have hq := Option.some.inj hf
      obtain rfl := hq
      exact hj_retz (Or.inl rfl)  C hP hK hS dX2_canDo_13
    · rw [if_pos c14] at hf
      refine lv_iconst (v := 1) hx hb dX2_canDo_8 (by decide) ?_
      refine lv_goto (tgt := 13) hx hb dX2_canDo_9 (by decide) ?_
      have hq := Option.some.inj hf
      obtain rfl := hq
      exact hj_retz (Or.inr rfl)  C hP hK hS dX2_canDo_13
set_option maxHeartbeats 4000000 in
set_option maxRecDepth 100000 in
theorem ctX2_canDo (l : Launch) (g : hj_G) {ad : Nat → Nat} (hI : hj_I 73 ad) {σ : Nat → hj_Ob} {bf : Nat → Nat} {sd : Int64} {o : Nat} (ho : wx_R o) {π : hj_Ob} (hπ : σ 3 = π) {ρ : hj_Ob} (hρ : σ o = ρ) {x1 : Int32} {x2 : Int32} {rF : Int32} (hf : fX2_canDo π ρ x1 x2 = some rF) :
    hj_MI l yX2_canDo wsX2_canDo rmX2_canDo g 73 ad hj_X0 [.ref (ad o), .int x1, .int x2] (hj_wx g ad σ bf sd) rF (hj_wx g ad σ bf sd) := by
  refine hj_ofI (cc := cX2_canDo) (maxL := 3) (ret := (some .boolean)) (by decide) rfl (Nat.le_of_ble_eq_true rfl) ?_
  intro p e s m args below meth c ls C hP hK hX hl
  exact wX2_canDo hI C hK ho hπ hρ hf hP va_S.rf hl

/-! X2_carryOut -/
abbrev rmX2_carryOut : Room := { frames := 3, cells := 0, slots := 0, locals := 68 }
theorem iX2_carryOut_X2 : ∀ w ∈ wsX20, w ∈ wsX2_carryOut := fun _ h => List.mem_cons_of_mem _ (List.mem_append_left _ (List.mem_append_right _ h))
theorem mX2_carryOut_1 : Cond.fieldLink RX2 9 "HungryJury$Room" "stubborn" "[I" ∈ wsX2_carryOut := List.mem_of_getElem? (i := 1) rfl
theorem mX2_carryOut_2 : Cond.methodLink RX2 87 Lib.Math.max.name ∈ wsX2_carryOut := List.mem_of_getElem? (i := 2) rfl
theorem mX2_carryOut_3 : Cond.static Lib.Math.max.name ∈ wsX2_carryOut := List.mem_of_getElem? (i := 3) rfl
theorem mX2_carryOut_4 : Cond.initialized "java/lang/Math" ∈ wsX2_carryOut := List.mem_of_getElem? (i := 4) rfl
theorem mX2_carryOut_5 : Cond.code Lib.Math.max.name Lib.Math.max.code 2 (some .int) ∈ wsX2_carryOut := List.mem_of_getElem? (i := 5) rfl
theorem mX2_carryOut_6 : Cond.fieldLink RX2 15 "HungryJury$Room" "hunger" "[I" ∈ wsX2_carryOut := List.mem_of_getElem? (i := 6) rfl
theorem mX2_carryOut_7 : Cond.fieldLink RX2 32 "HungryJury$Room" "there" "I" ∈ wsX2_carryOut := List.mem_of_getElem? (i := 7) rfl
theorem mX2_carryOut_8 : Cond.fieldLink RX2 35 "HungryJury$Room" "theHour" "I" ∈ wsX2_carryOut := List.mem_of_getElem? (i := 8) rfl
theorem mX2_carryOut_9 : Cond.fieldLink RX2 28 "HungryJury$Room" "yes" "I" ∈ wsX2_carryOut := List.mem_of_getElem? (i := 9) rfl
def fX2_carryOut (π : hj_Ob) (ρ : hj_Ob) (x1 : Int32) (x2 : Int32) : Option hj_Ob :=
  if x2 < 0 then (some ρ) else (if x2 < 6 then (if x1 = 0 then (hj_o2 (fX2_passHour π ρ) fun r4 ρ5 => some ρ5) else (if x1 = 1 then (hj_ck x2 6 (hj_ck x2 6 (hj_nm (hj_a ρ 1 x2 (if (1 : Int32) < ((ρ.2 1 x2.toNatClampNeg) - 1) then ((ρ.2 1 x2.toNatClampNeg) - 1) else (1 : Int32))) fun ρ9 => some ρ9))) else (if x1 = 2 then (hj_ck x2 6 (hj_nm (hj_a ρ 2 x2 0) fun ρ12 => some ρ12)) else (if x1 = 3 then (hj_nm (hj_s ρ 4 ((ρ.1 4) &&& (((1 : Int32) <<< (x2 &&& 31)) ^^^ (-1)))) fun ρ14 => hj_nm (hj_s ρ14 5 0) fun ρ15 => some ρ15) else (if x1 = 4 then (hj_nm (hj_s ρ 3 ((ρ.1 3) ^^^ ((1 : Int32) <<< (x2 &&& 31)))) fun ρ17 => some ρ17) else (some ρ)))))) else (some ρ))
set_option maxHeartbeats 4000000 in
set_option maxRecDepth 100000 in
theorem wX2_carryOut {p : Program} {l : Launch} {e : Env} {s : State} {m : MethodId} {args : Array Value} {below : List Frame} {meth : Method} {c : Code} {g : hj_G} {ad : Nat → Nat} (hI : hj_I 73 ad) (C : hj_C p s m args meth c cX2_carryOut RX2 wsX2_carryOut 3 none) (hK : hj_K g s) {σ : Nat → hj_Ob} {bf : Nat → Nat} {sd : Int64} {o : Nat} (ho : wx_R o) {π : hj_Ob} (hπ : σ 3 = π) {ρ : hj_Ob} {x1 : Int32} {x2 : Int32} {ρF : hj_Ob}
    (hf : fX2_carryOut π ρ x1 x2 = some ρF) {H : Heap} {locs : List Loc} {ls : Array Slot} (hP : hj_P g 73 ad (hj_wx g ad (va_up σ o ρ) bf sd) H) (hS : hj_S 73 ad s H locs) (hl : lv_has ls 3 [(0, .ref (ad o)), (1, .int x1), (2, .int x2)]) :
    W p l e rmX2_carryOut s m args below meth c H locs 0 0 (MQ below (hj_QV g 73 ad (hj_wx g ad (va_up σ o ρF) bf sd) s.heap.size) args s 0 0 (hj_A 73 ad s.heap.size)) (F0 m 0 ls []) := by
  obtain ⟨hx, hb, hr, hml, hown, hts, hlocks⟩ := id C
  unfold fX2_carryOut at hf
  refine lv_iload_n hx hb dX2_carryOut_0 rfl (lv_at hl 2 rfl) ?_
  refine lv_if_lt (tgt := 10) hx hb dX2_carryOut_1 (by decide) (fun c1 => ?_) (fun c1 => ?_)
  · rw [if_pos c1] at hf
    have hq := Option.some.inj hf
    obtain rfl := hq
    exact hj_retv C hP hK hS dX2_carryOut_10
  · rw [if_neg c1] at hf
    refine lv_iload_n hx hb dX2_carryOut_4 rfl (lv_at hl 2 rfl) ?_
    refine lv_bipush (v := 6) hx hb dX2_carryOut_5 (by decide) ?_
    refine lv_icmp_lt (tgt := 11) hx hb dX2_carryOut_7 (by decide) (fun c2 => ?_) (fun c2 => ?_)
    · rw [if_pos c2] at hf
      refine lv_iload_n hx hb dX2_carryOut_11 rfl (lv_at hl 1 rfl) ?_
      by_cases c3 : x1 = 0
      · rw [if_pos c3] at hf
        refine lv_tableIn (tgt := 48) hx hb dX2_carryOut_12 (by rw [c3]; decide) (by rw [c3]; decide) (by rw [c3]; rfl) (by decide) ?_
        refine lv_aload_n hx hb dX2_carryOut_48 rfl (lv_at hl 0 rfl) ?_
        obtain ⟨r4, ρ5, hc, hf⟩ := hj_o2_s hf
        refine hj_callVi (nL := 3) (As := []) (rest := []) (i0 := o) (C := RX2) (T := TX2) (N := 6) (ci := 2) ⟨hx, hb, hml, hown, hts⟩ (ctX2_passHour l g hI (σ := (va_up σ o ρ)) (bf := bf) (sd := sd) ho ((va_up_ne _ _ (wx_R_3 ho)).trans hπ) (va_up_self _ _ _) hc) (cwV 0 hts gX2_carryOut_X2_passHour rfl rfl rfl (by decide +kernel) ⟨Nat.le_of_ble_eq_true rfl, Nat.le_of_ble_eq_true rfl⟩) hj_Xb0 (fun _ _ _ => trivial) hK hP hS (wx_R_lt (k := 0) ho (by decide)) (wx_at_r ho (va_up_self _ _ _)) rfl rfl hl.1 rfl (Nat.le_of_ble_eq_true rfl) dX2_carryOut_49 (fun H locs hP hS => ?_)
        rw [hj_uu] at hP
        refine lv_pop hx hb dX2_carryOut_52 rfl ?_
        refine lv_goto (tgt := 124) hx hb dX2_carryOut_53 (by decide) ?_
        have hq := Option.some.inj hf
        obtain rfl := hq
        exact hj_retv C hP hK hS dX2_carryOut_124
      rw [if_neg c3] at hf
      by_cases c6 : x1 = 1
      · rw [if_pos c6] at hf
        refine lv_tableIn (tgt := 56) hx hb dX2_carryOut_12 (by rw [c6]; decide) (by rw [c6]; decide) (by rw [c6]; rfl) (by decide) ?_
        refine lv_aload_n hx hb dX2_carryOut_56 rfl (lv_at hl 0 rfl) ?_
        refine hj_get (ci := 2) (v := .ref (ad (o + 1))) (C := RX2) (T := TX2) (N := 6) hx hb hts iX2_carryOut_X2 hown hK hP (wx_R_lt (k := 0) ho (by decide)) (wx_at_r ho (va_up_self _ _ _)) rfl 1 (by decide) mX2_carryOut_1 rfl dX2_carryOut_57 ?_
        refine lv_iload_n hx hb dX2_carryOut_60 rfl (lv_at hl 2 rfl) ?_
        refine lv_iconst (v := 1) hx hb dX2_carryOut_61 (by decide) ?_
        refine lv_aload_n hx hb dX2_carryOut_62 rfl (lv_at hl 0 rfl) ?_
        refine hj_get (ci := 2) (v := .ref (ad (o + 1))) (C := RX2) (T := TX2) (N := 6) hx hb hts iX2_carryOut_X2 hown hK hP (wx_R_lt (k := 0) ho (by decide)) (wx_at_r ho (va_up_self _ _ _)) rfl 1 (by decide) mX2_carryOut_1 rfl dX2_carryOut_63 ?_
        refine lv_iload_n hx hb dX2_carryOut_66 rfl (lv_at hl 2 rfl) ?_
        obtain ⟨hk7, hf⟩ := hj_ck_s hf
        refine hj_ial (f := ρ.2 1) hx hb hK hP (wx_R_lt (k := 1) ho (by decide)) (wx_at_ra 1 ho (by decide) (va_up_self _ _ _)) hk7 dX2_carryOut_67 ?_
        refine lv_iconst (v := 1) hx hb dX2_carryOut_68 (by decide) ?_
        refine lv_isub hx hb dX2_carryOut_69 ?_
        refine va_mmax hx hb (hml.trans hl.1.symm) hown (hts _ mX2_carryOut_2) (hts _ mX2_carryOut_3) (hts _ mX2_carryOut_4) (hts _ mX2_carryOut_5) (Nat.le_of_ble_eq_true rfl) (Nat.le_of_ble_eq_true rfl) (Nat.zero_le _) (Nat.zero_le _) dX2_carryOut_70 ?_
        obtain ⟨hk8, hf⟩ := hj_ck_s hf
        refine hj_ias (f := ρ.2 1) (v := (if (1 : Int32) < ((ρ.2 1 x2.toNatClampNeg) - 1) then ((ρ.2 1 x2.toNatClampNeg) - 1) else (1 : Int32))) hx hb hK hI hP hS (wx_R_lt (k := 1) ho (by decide)) (wx_at_ra 1 ho (by decide) (va_up_self _ _ _)) hk8 dX2_carryOut_73 ((wx_a_r (x := x2) (v := (if (1 : Int32) < ((ρ.2 1 x2.toNatClampNeg) - 1) then ((ρ.2 1 x2.toNatClampNeg) - 1) else (1 : Int32))) 1 ho (by decide) (va_up_self _ _ _)).trans (by rw [hj_uu])) (fun H locs hP hS => ?_)
        obtain ⟨ρ9, eρ9⟩ : ∃ z : hj_Ob, z = hj_a ρ 1 x2 (if (1 : Int32) < ((ρ.2 1 x2.toNatClampNeg) - 1) then ((ρ.2 1 x2.toNatClampNeg) - 1) else (1 : Int32)) := ⟨_, rfl⟩
        replace hf := hj_nm_y hf eρ9
        rw [← eρ9] at hP
        refine lv_goto (tgt := 124) hx hb dX2_carryOut_74 (by decide) ?_
        have hq := Option.some.inj hf
        obtain rfl := hq
        exact hj_retv C hP hK hS dX2_carryOut_124
      rw [if_neg c6] at hf
      by_cases c10 : x1 = 2
      · rw [if_pos c10] at hf
        refine lv_tableIn (tgt := 77) hx hb dX2_carryOut_12 (by rw [c10]; decide) (by rw [c10]; decide) (by rw [c10]; rfl) (by decide) ?_
        refine lv_aload_n hx hb dX2_carryOut_77 rfl (lv_at hl 0 rfl) ?_
        refine hj_get (ci := 2) (v := .ref (ad (o + 2))) (C := RX2) (T := TX2) (N := 6) hx hb hts iX2_carryOut_X2 hown hK hP (wx_R_lt (k := 0) ho (by decide)) (wx_at_r ho (va_up_self _ _ _)) rfl 2 (by decide) mX2_carryOut_6 rfl dX2_carryOut_78 ?_
        refine lv_iload_n hx hb dX2_carryOut_81 rfl (lv_at hl 2 rfl) ?_
        refine lv_iconst (v := 0) hx hb dX2_carryOut_82 (by decide) ?_
        obtain ⟨hk11, hf⟩ := hj_ck_s hf
        refine hj_ias (f := ρ.2 2) (v := 0) hx hb hK hI hP hS (wx_R_lt (k := 2) ho (by decide)) (wx_at_ra 2 ho (by decide) (va_up_self _ _ _)) hk11 dX2_carryOut_83 ((wx_a_r (x := x2) (v := 0) 2 ho (by decide) (va_up_self _ _ _)).trans (by rw [hj_uu])) (fun H locs hP hS => ?_)
        obtain ⟨ρ12, eρ12⟩ : ∃ z : hj_Ob, z = hj_a ρ 2 x2 0 := ⟨_, rfl⟩
        replace hf := hj_nm_y hf eρ12
        rw [← eρ12] at hP
        refine lv_goto (tgt := 124) hx hb dX2_carryOut_84 (by decide) ?_
        have hq := Option.some.inj hf
        obtain rfl := hq
        exact hj_retv C hP hK hS dX2_carryOut_124
      rw [if_neg c10] at hf
      by_cases c13 : x1 = 3
      · rw [if_pos c13] at hf
        refine lv_tableIn (tgt := 87) hx hb dX2_carryOut_12 (by rw [c13]; decide) (by rw [c13]; decide) (by rw [c13]; rfl) (by decide) ?_
        refine lv_aload_n hx hb dX2_carryOut_87 rfl (lv_at hl 0 rfl) ?_
        refine lv_dup hx hb dX2_carryOut_88 rfl ?_
        refine hj_get (ci := 2) (v := .int (ρ.1 4)) (C := RX2) (T := TX2) (N := 6) hx hb hts iX2_carryOut_X2 hown hK hP (wx_R_lt (k := 0) ho (by decide)) (wx_at_r ho (va_up_self _ _ _)) rfl 4 (by decide) mX2_carryOut_7 rfl dX2_carryOut_89 ?_
        refine lv_iconst (v := 1) hx hb dX2_carryOut_92 (by decide) ?_
        refine lv_iload_n hx hb dX2_carryOut_93 rfl (lv_at hl 2 rfl) ?_
        refine lv_ishl hx hb dX2_carryOut_94 ?_
        refine lv_iconst (v := (-1)) hx hb dX2_carryOut_95 (by decide) ?_
        refine lv_ixor hx hb dX2_carryOut_96 ?_
        refine lv_iand hx hb dX2_carryOut_97 ?_
        refine hj_put (ci := 2) (v := .int ((ρ.1 4) &&& (((1 : Int32) <<< (x2 &&& 31)) ^^^ (-1)))) (C := RX2) (T := TX2) (N := 6) hx hb hts iX2_carryOut_X2 tyX2 tyX2_ok nmX2 hown hK hI hP hS (wx_R_lt (k := 0) ho (by decide)) (wx_at_r ho (va_up_self _ _ _)) rfl 4 (by decide) mX2_carryOut_7 rfl rfl rfl (Nat.le_of_ble_eq_true rfl) dX2_carryOut_98 ((wx_s_r (k := 4) (v := (ρ.1 4) &&& (((1 : Int32) <<< (x2 &&& 31)) ^^^ (-1))) ho (va_up_self _ _ _) rfl).trans (by rw [hj_uu])) (fun H locs hP hS => ?_)
        obtain ⟨ρ14, eρ14⟩ : ∃ z : hj_Ob, z = hj_s ρ 4 ((ρ.1 4) &&& (((1 : Int32) <<< (x2 &&& 31)) ^^^ (-1))) := ⟨_, rfl⟩
        replace hf := hj_nm_y hf eρ14
        rw [← eρ14] at hP
        refine lv_aload_n hx hb dX2_carryOut_101 rfl (lv_at hl 0 rfl) ?_
        refine lv_iconst (v := 0) hx hb dX2_carryOut_102 (by decide) ?_
        refine hj_put (ci := 2) (v := .int 0) (C := RX2) (T := TX2) (N := 6) hx hb hts iX2_carryOut_X2 tyX2 tyX2_ok nmX2 hown hK hI hP hS (wx_R_lt (k := 0) ho (by decide)) (wx_at_r ho (va_up_self _ _ _)) rfl 5 (by decide) mX2_carryOut_8 rfl rfl rfl (Nat.le_of_ble_eq_true rfl) dX2_carryOut_103 ((wx_s_r (k := 5) (v := 0) ho (va_up_self _ _ _) rfl).trans (by rw [hj_uu])) (fun H locs hP hS => ?_)
        obtain ⟨ρ15, eρ15⟩ : ∃ z : hj_Ob, z = hj_s ρ14 5 0 := ⟨_, rfl⟩
        replace hf := hj_nm_y hf eρ15
        rw [← eρ15] at hP
        refine lv_goto (tgt := 124) hx hb dX2_carryOut_106 (by decide) ?_
        have hq := Option.some.inj hf
        obtain rfl := hq
        exact hj_retv C hP hK hS dX2_carryOut_124
      rw [if_neg c13] at hf
      by_cases c16 : x1 = 4
      · rw [if_pos c16] at hf
        refine lv_tableIn (tgt := 109) hx hb dX2_carryOut_12 (by rw [c16]; decide) (by rw [c16]; decide) (by rw [c16]; rfl) (by decide) ?_
        refine lv_aload_n hx hb dX2_carryOut_109 rfl (lv_at hl 0 rfl) ?_
        refine lv_dup hx hb dX2_carryOut_110 rfl ?_
        refine hj_get (ci := 2) (v := .int (ρ.1 3)) (C := RX2) (T := TX2) (N := 6) hx hb hts iX2_carryOut_X2 hown hK hP (wx_R_lt (k := 0) ho (by decide)) (wx_at_r ho (va_up_self _ _ _)) rfl 3 (by decide) mX2_carryOut_9 rfl dX2_carryOut_111 ?_
        refine lv_iconst (v := 1) hx hb dX2_carryOut_114 (by decide) ?_
        refine lv_iload_n hx hb dX2_carryOut_115 rfl (lv_at hl 2 rfl) ?_
        refine lv_ishl hx hb dX2_carryOut_116 ?_
        refine lv_ixor hx hb dX2_carryOut_117 ?_
        refine hj_put (ci := 2) (v := .int ((ρ.1 3) ^^^ ((1 : Int32) <<< (x2 &&& 31)))) (C := RX2) (T := TX2) (N := 6) hx hb hts iX2_carryOut_X2 tyX2 tyX2_ok nmX2 hown hK hI hP hS (wx_R_lt (k := 0) ho (by decide)) (wx_at_r ho (va_up_self _ _ _)) rfl 3 (by decide) mX2_carryOut_9 rfl rfl rfl (Nat.le_of_ble_eq_true rfl) dX2_carryOut_118 ((wx_s_r (k := 3) (v := (ρ.1 3) ^^^ ((1 : Int32) <<< (x2 &&& 31))) ho (va_up_self _ _ _) rfl).trans (by rw [hj_uu])) (fun H locs hP hS => ?_)
        obtain ⟨ρ17, eρ17⟩ : ∃ z : hj_Ob, z = hj_s ρ 3 ((ρ.1 3) ^^^ ((1 : Int32) <<< (x2 &&& 31))) := ⟨_, rfl⟩
        replace hf := hj_nm_y hf eρ17
        rw [← eρ17] at hP
        refine lv_goto (tgt := 124) hx hb dX2_carryOut_121 (by decide) ?_
        have hq := Option.some.inj hf
        obtain rfl := hq
        exact hj_retv C hP hK hS dX2_carryOut_124
      rw [if_neg c16] at hf
      refine lv_tableOut (tgt := 124) hx hb dX2_carryOut_12 (by have qc3 := lv_neT c3 (k := 0) (a := 0) (by decide); have qc6 := lv_neT c6 (k := 1) (a := 1) (by decide); have qc10 := lv_neT c10 (k := 2) (a := 2) (by decide); have qc13 := lv_neT c13 (k := 3) (a := 3) (by decide); have qc16 := lv_neT c16 (k := 4) (a := 4) (by decide); omega) (by decide) ?_
      have hq := Option.some.inj hf
      obtain rfl := hq
      exact hj_retv C hP hK hS dX2_carryOut_124
    · rw [if_neg c2] at hf
      have hq := Option.some.inj hf
      obtain rfl := hq
      exact hj_retv C hP hK hS dX2_carryOut_10
set_option maxHeartbeats 4000000 in
set_option maxRecDepth 100000 in
theorem ctX2_carryOut (l : Launch) (g : hj_G) {ad : Nat → Nat} (hI : hj_I 73 ad) {σ : Nat → hj_Ob} {bf : Nat → Nat} {sd : Int64} {o : Nat} (ho : wx_R o) {π : hj_Ob} (hπ : σ 3 = π) {ρ : hj_Ob} (hρ : σ o = ρ) {x1 : Int32} {x2 : Int32} {ρF : hj_Ob} (hf : fX2_carryOut π ρ x1 x2 = some ρF) :
    hj_MV l yX2_carryOut wsX2_carryOut rmX2_carryOut g 73 ad hj_X0 [.ref (ad o), .int x1, .int x2] (hj_wx g ad σ bf sd) (hj_wx g ad (va_up σ o ρF) bf sd) := by
  refine hj_ofV (cc := cX2_carryOut) (maxL := 3) (ret := none) (by decide) rfl (Nat.le_of_ble_eq_true rfl) ?_
  intro p e s m args below meth c ls C hP hK hX hl
  have hP : hj_P g 73 ad (hj_wx g ad (va_up σ o ρ) bf sd) s.heap := by rw [hj_ue σ _ hρ]; exact hP
  exact wX2_carryOut hI C hK ho hπ hf hP va_S.rf hl
