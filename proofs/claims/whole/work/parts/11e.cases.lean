/-! the law's cases 22 to 28 -/
set_option maxHeartbeats 4000000 in
set_option maxRecDepth 100000 in
theorem lw_c22 {p : Program} {e : Env} {s : State} {m : MethodId} {args : Array Value} {below : List Frame} {meth : Method} {c : Code} {H : Heap} {locs : List Loc} {cells slots : Nat} {Q : State → Prop} {l : Launch} {ls : Array Slot} {g : hj_G} {ad am : Nat → Nat} {σ : Nat → hj_Ob} {bf : Nat → Nat} {τ : hj_Ob} {sd : Int64} {b L : Nat} {xs : Nat → Int32} {i B : Nat} (C : lw_Cx p s m args meth c b L xs g ad am) (hi : i + 4 ≤ L) (h : lr B σ bf τ) (hB : B < 2 ^ 20) (hB0 : 0 < B) (hI : lw_I g ad am σ bf τ sd sd H) (hS : va_S (lw_A s) s.heap H locs) (hl : lv_has ls 4 [(3, .int (nI i)), (2, .ref (am 0)), (1, .ref (ad 0)), (0, .ref b)]) (hf : cells ≤ room_1.cells ∧ slots ≤ room_1.slots)
    (kk : ∀ (σ' : Nat → hj_Ob) (bf' : Nat → Nat) (τ' : hj_Ob) (sd' : Int64) (H1 : Heap) (locs1 : List Loc), lr (B + 1) σ' bf' τ' → lw_I g ad am σ' bf' τ' sd' sd' H1 → va_S (lw_A s) s.heap H1 locs1 → W p l e room_1 s m args below meth c H1 locs1 cells slots Q (F0 m 950 ls [])) :
    W p l e room_1 s m args below meth c H locs cells slots Q (F0 m 702 ls []) := by
  obtain ⟨hx, hb, hml, hown, hts, hX, hbl, hL, hK, hF, hZ⟩ := C
  obtain ⟨r, e1, e2⟩ := lr_rests (sd := sd) h  (xs (i + 1)) (xs (i + 2)) (xs (i + 3))
  refine lv_aload_n hx hb dL_law_702 rfl (lv_at hl 2 rfl) ?_
  refine lw_arg1 hx hb hX hbl hS hl hi hL dL_law_703 dL_law_704 dL_law_705 dL_law_706 dL_law_707 ?_
  refine lw_arg2 hx hb hX hbl hS hl hi hL dL_law_708 dL_law_709 dL_law_710 dL_law_711 dL_law_712 ?_
  refine lw_arg3 hx hb hX hbl hS hl hi hL dL_law_713 dL_law_714 dL_law_715 dL_law_716 dL_law_717 ?_
  refine lw_xi (nL := 4) (As := [.int (xs (i + 1)), .int (xs (i + 2)), .int (xs (i + 3))]) (rest := []) (C := RX5) (T := TX5) (N := 10) (ci := 5) ⟨hx, hb, hml, hown, hts⟩ (ctX5_rests l g hF.1 e1) (cwV 3 hts gL_law_X5_rests rfl rfl rfl (by decide +kernel) ⟨Nat.le_of_ble_eq_true rfl, Nat.le_of_ble_eq_true rfl⟩) hj_Xb0 (fun _ _ _ => trivial) hK hF hI hS rfl rfl rfl hl.1 rfl (Nat.le_of_ble_eq_true rfl) dL_law_718 hf (fun H locs hI hS => ?_)
  refine lv_aload_n hx hb dL_law_721 rfl (lv_at hl 1 rfl) ?_
  refine lw_arg1 hx hb hX hbl hS hl hi hL dL_law_722 dL_law_723 dL_law_724 dL_law_725 dL_law_726 ?_
  refine lw_arg2 hx hb hX hbl hS hl hi hL dL_law_727 dL_law_728 dL_law_729 dL_law_730 dL_law_731 ?_
  refine lw_arg3 hx hb hX hbl hS hl hi hL dL_law_732 dL_law_733 dL_law_734 dL_law_735 dL_law_736 ?_
  refine lw_mi (nL := 4) (As := [.int (xs (i + 1)), .int (xs (i + 2)), .int (xs (i + 3))]) (rest := [.int r]) (C := RX6) (T := TX6) (N := 24) (ci := 6) ⟨hx, hb, hml, hown, hts⟩ (ctX6_rests l g hF.2.1 e2) (cwV 3 hts gL_law_X6_rests rfl rfl rfl (by decide +kernel) ⟨Nat.le_of_ble_eq_true rfl, Nat.le_of_ble_eq_true rfl⟩) hj_Xb0 (fun _ _ _ => trivial) hK hF hI hS rfl rfl rfl hl.1 rfl (Nat.le_of_ble_eq_true rfl) dL_law_737 hf (fun H locs hI hS => ?_)
  refine lv_icmp_eq (tgt := 950) hx hb dL_law_740 (by decide) (fun _ => ?_) (fun q => absurd rfl q)
  exact kk σ bf τ sd H locs (lr_up h (Nat.le_succ B)) hI hS
set_option maxHeartbeats 4000000 in
set_option maxRecDepth 100000 in
theorem lw_c23 {p : Program} {e : Env} {s : State} {m : MethodId} {args : Array Value} {below : List Frame} {meth : Method} {c : Code} {H : Heap} {locs : List Loc} {cells slots : Nat} {Q : State → Prop} {l : Launch} {ls : Array Slot} {g : hj_G} {ad am : Nat → Nat} {σ : Nat → hj_Ob} {bf : Nat → Nat} {τ : hj_Ob} {sd : Int64} {b L : Nat} {xs : Nat → Int32} {i B : Nat} (C : lw_Cx p s m args meth c b L xs g ad am) (hi : i + 4 ≤ L) (h : lr B σ bf τ) (hB : B < 2 ^ 20) (hB0 : 0 < B) (hI : lw_I g ad am σ bf τ sd sd H) (hS : va_S (lw_A s) s.heap H locs) (hl : lv_has ls 4 [(3, .int (nI i)), (2, .ref (am 0)), (1, .ref (ad 0)), (0, .ref b)]) (hf : cells ≤ room_1.cells ∧ slots ≤ room_1.slots)
    (kk : ∀ (σ' : Nat → hj_Ob) (bf' : Nat → Nat) (τ' : hj_Ob) (sd' : Int64) (H1 : Heap) (locs1 : List Loc), lr (B + 1) σ' bf' τ' → lw_I g ad am σ' bf' τ' sd' sd' H1 → va_S (lw_A s) s.heap H1 locs1 → W p l e room_1 s m args below meth c H1 locs1 cells slots Q (F0 m 950 ls [])) :
    W p l e room_1 s m args below meth c H locs cells slots Q (F0 m 745 ls []) := by
  obtain ⟨hx, hb, hml, hown, hts, hX, hbl, hL, hK, hF, hZ⟩ := C
  obtain ⟨r, σ', τ', e1, e2, hr⟩ := lr_coins (sd := sd) h hB (xs (i + 1)) (xs (i + 2)) (if xs (i + 3) = 0 then 0 else 1)
  refine lv_aload_n hx hb dL_law_745 rfl (lv_at hl 2 rfl) ?_
  refine lw_arg1 hx hb hX hbl hS hl hi hL dL_law_746 dL_law_747 dL_law_748 dL_law_749 dL_law_750 ?_
  refine lw_arg2 hx hb hX hbl hS hl hi hL dL_law_751 dL_law_752 dL_law_753 dL_law_754 dL_law_755 ?_
  refine lw_bool3 hx hb hX hbl hS hl hi hL dL_law_756 dL_law_757 dL_law_758 dL_law_759 dL_law_760 dL_law_761 dL_law_764 dL_law_765 dL_law_768 ?_
  refine lw_xi (nL := 4) (As := [.int (xs (i + 1)), .int (xs (i + 2)), .int (if xs (i + 3) = 0 then 0 else 1)]) (rest := []) (C := RX5) (T := TX5) (N := 10) (ci := 5) ⟨hx, hb, hml, hown, hts⟩ (ctX5_coins l g hF.1 e1) (cwV 3 hts gL_law_X5_coins rfl rfl rfl (by decide +kernel) ⟨Nat.le_of_ble_eq_true rfl, Nat.le_of_ble_eq_true rfl⟩) hj_Xb0 (fun _ _ _ => trivial) hK hF hI hS rfl rfl rfl hl.1 rfl (Nat.le_of_ble_eq_true rfl) dL_law_769 hf (fun H locs hI hS => ?_)
  refine lv_aload_n hx hb dL_law_772 rfl (lv_at hl 1 rfl) ?_
  refine lw_arg1 hx hb hX hbl hS hl hi hL dL_law_773 dL_law_774 dL_law_775 dL_law_776 dL_law_777 ?_
  refine lw_arg2 hx hb hX hbl hS hl hi hL dL_law_778 dL_law_779 dL_law_780 dL_law_781 dL_law_782 ?_
  refine lw_bool3 hx hb hX hbl hS hl hi hL dL_law_783 dL_law_784 dL_law_785 dL_law_786 dL_law_787 dL_law_788 dL_law_791 dL_law_792 dL_law_795 ?_
  refine lw_mi (nL := 4) (As := [.int (xs (i + 1)), .int (xs (i + 2)), .int (if xs (i + 3) = 0 then 0 else 1)]) (rest := [.int r]) (C := RX6) (T := TX6) (N := 24) (ci := 6) ⟨hx, hb, hml, hown, hts⟩ (ctX6_coins l g hF.2.1 e2) (cwV 3 hts gL_law_X6_coins rfl rfl rfl (by decide +kernel) ⟨Nat.le_of_ble_eq_true rfl, Nat.le_of_ble_eq_true rfl⟩) hj_Xb0 (fun _ _ _ => trivial) hK hF hI hS rfl rfl rfl hl.1 rfl (Nat.le_of_ble_eq_true rfl) dL_law_796 hf (fun H locs hI hS => ?_)
  refine lv_icmp_eq (tgt := 950) hx hb dL_law_799 (by decide) (fun _ => ?_) (fun q => absurd rfl q)
  exact kk σ' bf τ' sd H locs (lr_up hr (Nat.le_succ B)) hI hS
set_option maxHeartbeats 4000000 in
set_option maxRecDepth 100000 in
theorem lw_c24 {p : Program} {e : Env} {s : State} {m : MethodId} {args : Array Value} {below : List Frame} {meth : Method} {c : Code} {H : Heap} {locs : List Loc} {cells slots : Nat} {Q : State → Prop} {l : Launch} {ls : Array Slot} {g : hj_G} {ad am : Nat → Nat} {σ : Nat → hj_Ob} {bf : Nat → Nat} {τ : hj_Ob} {sd : Int64} {b L : Nat} {xs : Nat → Int32} {i B : Nat} (C : lw_Cx p s m args meth c b L xs g ad am) (hi : i + 4 ≤ L) (h : lr B σ bf τ) (hB : B < 2 ^ 20) (hB0 : 0 < B) (hI : lw_I g ad am σ bf τ sd sd H) (hS : va_S (lw_A s) s.heap H locs) (hl : lv_has ls 4 [(3, .int (nI i)), (2, .ref (am 0)), (1, .ref (ad 0)), (0, .ref b)]) (hf : cells ≤ room_1.cells ∧ slots ≤ room_1.slots)
    (kk : ∀ (σ' : Nat → hj_Ob) (bf' : Nat → Nat) (τ' : hj_Ob) (sd' : Int64) (H1 : Heap) (locs1 : List Loc), lr (B + 1) σ' bf' τ' → lw_I g ad am σ' bf' τ' sd' sd' H1 → va_S (lw_A s) s.heap H1 locs1 → W p l e room_1 s m args below meth c H1 locs1 cells slots Q (F0 m 950 ls [])) :
    W p l e room_1 s m args below meth c H locs cells slots Q (F0 m 804 ls []) := by
  obtain ⟨hx, hb, hml, hown, hts, hX, hbl, hL, hK, hF, hZ⟩ := C
  obtain ⟨e1, e2⟩ := lr_seed (sd := sd) h  ((((xs (i + 1))).toInt64 <<< ((32 : Int32).toInt64 &&& 63)) ||| (((xs (i + 2))).toInt64 &&& 4294967295))
  refine lv_aload_n hx hb dL_law_804 rfl (lv_at hl 2 rfl) ?_
  refine lw_arg1 hx hb hX hbl hS hl hi hL dL_law_805 dL_law_806 dL_law_807 dL_law_808 dL_law_809 ?_
  refine lv_i2l hx hb dL_law_810 rfl ?_
  refine lv_bipush (v := 32) hx hb dL_law_811 (by decide) ?_
  refine lv_lshl hx hb dL_law_813 rfl ?_
  refine lw_arg2 hx hb hX hbl hS hl hi hL dL_law_814 dL_law_815 dL_law_816 dL_law_817 dL_law_818 ?_
  refine lv_i2l hx hb dL_law_819 rfl ?_
  refine lv_ldc2 (v := 4294967295) hx hb hown (hts (.constantLong RL 115 (4294967295)) (by decide +kernel)) dL_law_820 ?_
  refine lv_land hx hb dL_law_823 ?_
  refine lv_lor hx hb dL_law_824 ?_
  refine lw_xl (nL := 4) (As := [.long ((((xs (i + 1))).toInt64 <<< ((32 : Int32).toInt64 &&& 63)) ||| (((xs (i + 2))).toInt64 &&& 4294967295))]) (rest := []) (C := RX5) (T := TX5) (N := 10) (ci := 5) ⟨hx, hb, hml, hown, hts⟩ (ctX5_seed l g hF.1 e1) (cwV 1 hts gL_law_X5_seed rfl rfl rfl (by decide +kernel) ⟨Nat.le_of_ble_eq_true rfl, Nat.le_of_ble_eq_true rfl⟩) hj_Xb0 (fun _ _ _ => trivial) hK hF hI hS rfl rfl rfl hl.1 rfl (Nat.le_of_ble_eq_true rfl) dL_law_825 hf (fun H locs hI hS => ?_)
  refine lv_aload_n hx hb dL_law_828 rfl (lv_at hl 1 rfl) ?_
  refine lw_arg1 hx hb hX hbl hS hl hi hL dL_law_829 dL_law_830 dL_law_831 dL_law_832 dL_law_833 ?_
  refine lv_i2l hx hb dL_law_834 rfl ?_
  refine lv_bipush (v := 32) hx hb dL_law_835 (by decide) ?_
  refine lv_lshl hx hb dL_law_837 rfl ?_
  refine lw_arg2 hx hb hX hbl hS hl hi hL dL_law_838 dL_law_839 dL_law_840 dL_law_841 dL_law_842 ?_
  refine lv_i2l hx hb dL_law_843 rfl ?_
  refine lv_ldc2 (v := 4294967295) hx hb hown (hts (.constantLong RL 115 (4294967295)) (by decide +kernel)) dL_law_844 ?_
  refine lv_land hx hb dL_law_847 ?_
  refine lv_lor hx hb dL_law_848 ?_
  refine lw_ml (nL := 4) (As := [.long ((((xs (i + 1))).toInt64 <<< ((32 : Int32).toInt64 &&& 63)) ||| (((xs (i + 2))).toInt64 &&& 4294967295))]) (rest := [.long sd]) (C := RX6) (T := TX6) (N := 24) (ci := 6) ⟨hx, hb, hml, hown, hts⟩ (ctX6_seed l g hF.2.1 e2) (cwV 1 hts gL_law_X6_seed rfl rfl rfl (by decide +kernel) ⟨Nat.le_of_ble_eq_true rfl, Nat.le_of_ble_eq_true rfl⟩) hj_Xb0 (fun _ _ _ => trivial) hK hF hI hS rfl rfl rfl hl.1 rfl (Nat.le_of_ble_eq_true rfl) dL_law_849 hf (fun H locs hI hS => ?_)
  refine lw_cmp hx hb dL_law_852 ?_
  refine lv_if_eq (tgt := 950) hx hb dL_law_853 (by decide) (fun _ => ?_) (fun q => absurd rfl q)
  exact kk σ bf τ _ H locs (lr_up h (Nat.le_succ B)) hI hS
set_option maxHeartbeats 4000000 in
set_option maxRecDepth 100000 in
theorem lw_c25 {p : Program} {e : Env} {s : State} {m : MethodId} {args : Array Value} {below : List Frame} {meth : Method} {c : Code} {H : Heap} {locs : List Loc} {cells slots : Nat} {Q : State → Prop} {l : Launch} {ls : Array Slot} {g : hj_G} {ad am : Nat → Nat} {σ : Nat → hj_Ob} {bf : Nat → Nat} {τ : hj_Ob} {sd : Int64} {b L : Nat} {xs : Nat → Int32} {i B : Nat} (C : lw_Cx p s m args meth c b L xs g ad am) (hi : i + 4 ≤ L) (h : lr B σ bf τ) (hB : B < 2 ^ 20) (hB0 : 0 < B) (hI : lw_I g ad am σ bf τ sd sd H) (hS : va_S (lw_A s) s.heap H locs) (hl : lv_has ls 4 [(3, .int (nI i)), (2, .ref (am 0)), (1, .ref (ad 0)), (0, .ref b)]) (hf : cells ≤ room_1.cells ∧ slots ≤ room_1.slots)
    (kk : ∀ (σ' : Nat → hj_Ob) (bf' : Nat → Nat) (τ' : hj_Ob) (sd' : Int64) (H1 : Heap) (locs1 : List Loc), lr (B + 1) σ' bf' τ' → lw_I g ad am σ' bf' τ' sd' sd' H1 → va_S (lw_A s) s.heap H1 locs1 → W p l e room_1 s m args below meth c H1 locs1 cells slots Q (F0 m 950 ls [])) :
    W p l e room_1 s m args below meth c H locs cells slots Q (F0 m 858 ls []) := by
  obtain ⟨hx, hb, hml, hown, hts, hX, hbl, hL, hK, hF, hZ⟩ := C
  obtain ⟨r, σ', τ', sd', e1, e2, hr⟩ := lr_assizes (sd := sd) h hB (xs (i + 1))
  refine lv_aload_n hx hb dL_law_858 rfl (lv_at hl 2 rfl) ?_
  refine lw_arg1 hx hb hX hbl hS hl hi hL dL_law_859 dL_law_860 dL_law_861 dL_law_862 dL_law_863 ?_
  refine lw_xi (nL := 4) (As := [.int (xs (i + 1))]) (rest := []) (C := RX5) (T := TX5) (N := 10) (ci := 5) ⟨hx, hb, hml, hown, hts⟩ (ctX5_assizes l g hF.1 e1) (cwV 1 hts gL_law_X5_assizes rfl rfl rfl (by decide +kernel) ⟨Nat.le_of_ble_eq_true rfl, Nat.le_of_ble_eq_true rfl⟩) hj_Xb0 (fun _ _ _ => trivial) hK hF hI hS rfl rfl rfl hl.1 rfl (Nat.le_of_ble_eq_true rfl) dL_law_864 hf (fun H locs hI hS => ?_)
  refine lv_aload_n hx hb dL_law_867 rfl (lv_at hl 1 rfl) ?_
  refine lw_arg1 hx hb hX hbl hS hl hi hL dL_law_868 dL_law_869 dL_law_870 dL_law_871 dL_law_872 ?_
  refine lw_mi (nL := 4) (As := [.int (xs (i + 1))]) (rest := [.int r]) (C := RX6) (T := TX6) (N := 24) (ci := 6) ⟨hx, hb, hml, hown, hts⟩ (ctX6_assizes l g hF.2.1 e2) (cwV 1 hts gL_law_X6_assizes rfl rfl rfl (by decide +kernel) ⟨Nat.le_of_ble_eq_true rfl, Nat.le_of_ble_eq_true rfl⟩) hj_Xb0 (fun _ _ _ => trivial) hK hF hI hS rfl rfl rfl hl.1 rfl (Nat.le_of_ble_eq_true rfl) dL_law_873 hf (fun H locs hI hS => ?_)
  refine lv_icmp_eq (tgt := 950) hx hb dL_law_876 (by decide) (fun _ => ?_) (fun q => absurd rfl q)
  exact kk σ' bf τ' sd' H locs (lr_up hr (Nat.le_succ B)) hI hS
set_option maxHeartbeats 4000000 in
set_option maxRecDepth 100000 in
theorem lw_c26 {p : Program} {e : Env} {s : State} {m : MethodId} {args : Array Value} {below : List Frame} {meth : Method} {c : Code} {H : Heap} {locs : List Loc} {cells slots : Nat} {Q : State → Prop} {l : Launch} {ls : Array Slot} {g : hj_G} {ad am : Nat → Nat} {σ : Nat → hj_Ob} {bf : Nat → Nat} {τ : hj_Ob} {sd : Int64} {b L : Nat} {xs : Nat → Int32} {i B : Nat} (C : lw_Cx p s m args meth c b L xs g ad am) (hi : i + 4 ≤ L) (h : lr B σ bf τ) (hB : B < 2 ^ 20) (hB0 : 0 < B) (hI : lw_I g ad am σ bf τ sd sd H) (hS : va_S (lw_A s) s.heap H locs) (hl : lv_has ls 4 [(3, .int (nI i)), (2, .ref (am 0)), (1, .ref (ad 0)), (0, .ref b)]) (hf : cells ≤ room_1.cells ∧ slots ≤ room_1.slots)
    (kk : ∀ (σ' : Nat → hj_Ob) (bf' : Nat → Nat) (τ' : hj_Ob) (sd' : Int64) (H1 : Heap) (locs1 : List Loc), lr (B + 1) σ' bf' τ' → lw_I g ad am σ' bf' τ' sd' sd' H1 → va_S (lw_A s) s.heap H1 locs1 → W p l e room_1 s m args below meth c H1 locs1 cells slots Q (F0 m 950 ls [])) :
    W p l e room_1 s m args below meth c H locs cells slots Q (F0 m 881 ls []) := by
  obtain ⟨hx, hb, hml, hown, hts, hX, hbl, hL, hK, hF, hZ⟩ := C
  obtain ⟨r, σ', τ', e1, e2, hr⟩ := lr_keep (sd := sd) h  (xs (i + 1))
  refine lv_aload_n hx hb dL_law_881 rfl (lv_at hl 2 rfl) ?_
  refine lw_arg1 hx hb hX hbl hS hl hi hL dL_law_882 dL_law_883 dL_law_884 dL_law_885 dL_law_886 ?_
  refine lw_xi (nL := 4) (As := [.int (xs (i + 1))]) (rest := []) (C := RX5) (T := TX5) (N := 10) (ci := 5) ⟨hx, hb, hml, hown, hts⟩ (ctX5_keep l g hF.1 e1) (cwV 1 hts gL_law_X5_keep rfl rfl rfl (by decide +kernel) ⟨Nat.le_of_ble_eq_true rfl, Nat.le_of_ble_eq_true rfl⟩) hj_Xb0 (fun _ _ _ => trivial) hK hF hI hS rfl rfl rfl hl.1 rfl (Nat.le_of_ble_eq_true rfl) dL_law_887 hf (fun H locs hI hS => ?_)
  refine lv_aload_n hx hb dL_law_890 rfl (lv_at hl 1 rfl) ?_
  refine lw_arg1 hx hb hX hbl hS hl hi hL dL_law_891 dL_law_892 dL_law_893 dL_law_894 dL_law_895 ?_
  refine lw_mi (nL := 4) (As := [.int (xs (i + 1))]) (rest := [.int r]) (C := RX6) (T := TX6) (N := 24) (ci := 6) ⟨hx, hb, hml, hown, hts⟩ (ctX6_keep l g hF.2.1 e2) (cwV 1 hts gL_law_X6_keep rfl rfl rfl (by decide +kernel) ⟨Nat.le_of_ble_eq_true rfl, Nat.le_of_ble_eq_true rfl⟩) hj_Xb0 (fun _ _ _ => trivial) hK hF hI hS rfl rfl rfl hl.1 rfl (Nat.le_of_ble_eq_true rfl) dL_law_896 hf (fun H locs hI hS => ?_)
  refine lv_icmp_eq (tgt := 950) hx hb dL_law_899 (by decide) (fun _ => ?_) (fun q => absurd rfl q)
  exact kk σ' bf τ' sd H locs (lr_up hr (Nat.le_succ B)) hI hS
set_option maxHeartbeats 4000000 in
set_option maxRecDepth 100000 in
theorem lw_c27 {p : Program} {e : Env} {s : State} {m : MethodId} {args : Array Value} {below : List Frame} {meth : Method} {c : Code} {H : Heap} {locs : List Loc} {cells slots : Nat} {Q : State → Prop} {l : Launch} {ls : Array Slot} {g : hj_G} {ad am : Nat → Nat} {σ : Nat → hj_Ob} {bf : Nat → Nat} {τ : hj_Ob} {sd : Int64} {b L : Nat} {xs : Nat → Int32} {i B : Nat} (C : lw_Cx p s m args meth c b L xs g ad am) (hi : i + 4 ≤ L) (h : lr B σ bf τ) (hB : B < 2 ^ 20) (hB0 : 0 < B) (hI : lw_I g ad am σ bf τ sd sd H) (hS : va_S (lw_A s) s.heap H locs) (hl : lv_has ls 4 [(3, .int (nI i)), (2, .ref (am 0)), (1, .ref (ad 0)), (0, .ref b)]) (hf : cells ≤ room_1.cells ∧ slots ≤ room_1.slots)
    (kk : ∀ (σ' : Nat → hj_Ob) (bf' : Nat → Nat) (τ' : hj_Ob) (sd' : Int64) (H1 : Heap) (locs1 : List Loc), lr (B + 1) σ' bf' τ' → lw_I g ad am σ' bf' τ' sd' sd' H1 → va_S (lw_A s) s.heap H1 locs1 → W p l e room_1 s m args below meth c H1 locs1 cells slots Q (F0 m 950 ls [])) :
    W p l e room_1 s m args below meth c H locs cells slots Q (F0 m 904 ls []) := by
  obtain ⟨hx, hb, hml, hown, hts, hX, hbl, hL, hK, hF, hZ⟩ := C
  obtain ⟨r, σ', τ', e1, e2, hr⟩ := lr_again (sd := sd) h  (xs (i + 1))
  refine lv_aload_n hx hb dL_law_904 rfl (lv_at hl 2 rfl) ?_
  refine lw_arg1 hx hb hX hbl hS hl hi hL dL_law_905 dL_law_906 dL_law_907 dL_law_908 dL_law_909 ?_
  refine lw_xi (nL := 4) (As := [.int (xs (i + 1))]) (rest := []) (C := RX5) (T := TX5) (N := 10) (ci := 5) ⟨hx, hb, hml, hown, hts⟩ (ctX5_again l g hF.1 e1) (cwV 1 hts gL_law_X5_again rfl rfl rfl (by decide +kernel) ⟨Nat.le_of_ble_eq_true rfl, Nat.le_of_ble_eq_true rfl⟩) hj_Xb0 (fun _ _ _ => trivial) hK hF hI hS rfl rfl rfl hl.1 rfl (Nat.le_of_ble_eq_true rfl) dL_law_910 hf (fun H locs hI hS => ?_)
  refine lv_aload_n hx hb dL_law_913 rfl (lv_at hl 1 rfl) ?_
  refine lw_arg1 hx hb hX hbl hS hl hi hL dL_law_914 dL_law_915 dL_law_916 dL_law_917 dL_law_918 ?_
  refine lw_mi (nL := 4) (As := [.int (xs (i + 1))]) (rest := [.int r]) (C := RX6) (T := TX6) (N := 24) (ci := 6) ⟨hx, hb, hml, hown, hts⟩ (ctX6_again l g hF.2.1 e2) (cwV 1 hts gL_law_X6_again rfl rfl rfl (by decide +kernel) ⟨Nat.le_of_ble_eq_true rfl, Nat.le_of_ble_eq_true rfl⟩) hj_Xb0 (fun _ _ _ => trivial) hK hF hI hS rfl rfl rfl hl.1 rfl (Nat.le_of_ble_eq_true rfl) dL_law_919 hf (fun H locs hI hS => ?_)
  refine lv_icmp_eq (tgt := 950) hx hb dL_law_922 (by decide) (fun _ => ?_) (fun q => absurd rfl q)
  exact kk σ' bf τ' sd H locs (lr_up hr (Nat.le_succ B)) hI hS
set_option maxHeartbeats 4000000 in
set_option maxRecDepth 100000 in
theorem lw_c28 {p : Program} {e : Env} {s : State} {m : MethodId} {args : Array Value} {below : List Frame} {meth : Method} {c : Code} {H : Heap} {locs : List Loc} {cells slots : Nat} {Q : State → Prop} {l : Launch} {ls : Array Slot} {g : hj_G} {ad am : Nat → Nat} {σ : Nat → hj_Ob} {bf : Nat → Nat} {τ : hj_Ob} {sd : Int64} {b L : Nat} {xs : Nat → Int32} {i B : Nat} (C : lw_Cx p s m args meth c b L xs g ad am) (hi : i + 4 ≤ L) (h : lr B σ bf τ) (hB : B < 2 ^ 20) (hB0 : 0 < B) (hI : lw_I g ad am σ bf τ sd sd H) (hS : va_S (lw_A s) s.heap H locs) (hl : lv_has ls 4 [(3, .int (nI i)), (2, .ref (am 0)), (1, .ref (ad 0)), (0, .ref b)]) (hf : cells ≤ room_1.cells ∧ slots ≤ room_1.slots)
    (kk : ∀ (σ' : Nat → hj_Ob) (bf' : Nat → Nat) (τ' : hj_Ob) (sd' : Int64) (H1 : Heap) (locs1 : List Loc), lr (B + 1) σ' bf' τ' → lw_I g ad am σ' bf' τ' sd' sd' H1 → va_S (lw_A s) s.heap H1 locs1 → W p l e room_1 s m args below meth c H1 locs1 cells slots Q (F0 m 950 ls [])) :
    W p l e room_1 s m args below meth c H locs cells slots Q (F0 m 927 ls []) := by
  obtain ⟨hx, hb, hml, hown, hts, hX, hbl, hL, hK, hF, hZ⟩ := C
  obtain ⟨r, e1, e2⟩ := lr_count (sd := sd) h  (xs (i + 1))
  refine lv_aload_n hx hb dL_law_927 rfl (lv_at hl 2 rfl) ?_
  refine lw_arg1 hx hb hX hbl hS hl hi hL dL_law_928 dL_law_929 dL_law_930 dL_law_931 dL_law_932 ?_
  refine lw_xi (nL := 4) (As := [.int (xs (i + 1))]) (rest := []) (C := RX5) (T := TX5) (N := 10) (ci := 5) ⟨hx, hb, hml, hown, hts⟩ (ctX5_count l g hF.1 e1) (cwV 1 hts gL_law_X5_count rfl rfl rfl (by decide +kernel) ⟨Nat.le_of_ble_eq_true rfl, Nat.le_of_ble_eq_true rfl⟩) hj_Xb0 (fun _ _ _ => trivial) hK hF hI hS rfl rfl rfl hl.1 rfl (Nat.le_of_ble_eq_true rfl) dL_law_933 hf (fun H locs hI hS => ?_)
  refine lv_aload_n hx hb dL_law_936 rfl (lv_at hl 1 rfl) ?_
  refine lw_arg1 hx hb hX hbl hS hl hi hL dL_law_937 dL_law_938 dL_law_939 dL_law_940 dL_law_941 ?_
  refine lw_mi (nL := 4) (As := [.int (xs (i + 1))]) (rest := [.int r]) (C := RX6) (T := TX6) (N := 24) (ci := 6) ⟨hx, hb, hml, hown, hts⟩ (ctX6_count l g hF.2.1 e2) (cwV 1 hts gL_law_X6_count rfl rfl rfl (by decide +kernel) ⟨Nat.le_of_ble_eq_true rfl, Nat.le_of_ble_eq_true rfl⟩) hj_Xb0 (fun _ _ _ => trivial) hK hF hI hS rfl rfl rfl hl.1 rfl (Nat.le_of_ble_eq_true rfl) dL_law_942 hf (fun H locs hI hS => ?_)
  refine lv_icmp_eq (tgt := 950) hx hb dL_law_945 (by decide) (fun _ => ?_) (fun q => absurd rfl q)
  exact kk σ bf τ sd H locs (lr_up h (Nat.le_succ B)) hI hS
