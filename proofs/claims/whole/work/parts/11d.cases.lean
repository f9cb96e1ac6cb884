/-! the law's cases 14 to 21 -/
set_option maxHeartbeats 4000000 in
set_option maxRecDepth 100000 in
theorem lw_c14 {p : Program} {e : Env} {s : State} {m : MethodId} {args : Array Value} {below : List Frame} {meth : Method} {c : Code} {H : Heap} {locs : List Loc} {cells slots : Nat} {Q : State → Prop} {l : Launch} {ls : Array Slot} {g : hj_G} {ad am : Nat → Nat} {σ : Nat → hj_Ob} {bf : Nat → Nat} {τ : hj_Ob} {sd : Int64} {b L : Nat} {xs : Nat → Int32} {i B : Nat} (C : lw_Cx p s m args meth c b L xs g ad am) (hi : i + 4 ≤ L) (h : lr B σ bf τ) (hB : B < 2 ^ 20) (hB0 : 0 < B) (hI : lw_I g ad am σ bf τ sd sd H) (hS : va_S (lw_A s) s.heap H locs) (hl : lv_has ls 4 [(3, .int (nI i)), (2, .ref (am 0)), (1, .ref (ad 0)), (0, .ref b)]) (hf : cells ≤ room_1.cells ∧ slots ≤ room_1.slots)
    (kk : ∀ (σ' : Nat → hj_Ob) (bf' : Nat → Nat) (τ' : hj_Ob) (sd' : Int64) (H1 : Heap) (locs1 : List Loc), lr (B + 1) σ' bf' τ' → lw_I g ad am σ' bf' τ' sd' sd' H1 → va_S (lw_A s) s.heap H1 locs1 → W p l e room_1 s m args below meth c H1 locs1 cells slots Q (F0 m 950 ls [])) :
    W p l e room_1 s m args below meth c H locs cells slots Q (F0 m 446 ls []) := by
  obtain ⟨hx, hb, hml, hown, hts, hX, hbl, hL, hK, hF, hZ⟩ := C
  obtain ⟨r, σ', τ', e1, e2, hr⟩ := lr_toFeed (sd := sd) h hB (xs (i + 1))
  refine lv_aload_n hx hb dL_law_446 rfl (lv_at hl 2 rfl) ?_
  refine lw_arg1 hx hb hX hbl hS hl hi hL dL_law_447 dL_law_448 dL_law_449 dL_law_450 dL_law_451 ?_
  refine lw_xi (nL := 4) (As := [.int (xs (i + 1))]) (rest := []) (C := RX5) (T := TX5) (N := 10) (ci := 5) ⟨hx, hb, hml, hown, hts⟩ (ctX5_toFeed l g hF.1 e1) (cwV 1 hts gL_law_X5_toFeed rfl rfl rfl (by decide +kernel) ⟨Nat.le_of_ble_eq_true rfl, Nat.le_of_ble_eq_true rfl⟩) hj_Xb0 (fun _ _ _ => trivial) hK hF hI hS rfl rfl rfl hl.1 rfl (Nat.le_of_ble_eq_true rfl) dL_law_452 hf (fun H locs hI hS => ?_)
  refine lv_aload_n hx hb dL_law_455 rfl (lv_at hl 1 rfl) ?_
  refine lw_arg1 hx hb hX hbl hS hl hi hL dL_law_456 dL_law_457 dL_law_458 dL_law_459 dL_law_460 ?_
  refine lw_mi (nL := 4) (As := [.int (xs (i + 1))]) (rest := [.int r]) (C := RX6) (T := TX6) (N := 24) (ci := 6) ⟨hx, hb, hml, hown, hts⟩ (ctX6_toFeed l g hF.2.1 e2) (cwV 1 hts gL_law_X6_toFeed rfl rfl rfl (by decide +kernel) ⟨Nat.le_of_ble_eq_true rfl, Nat.le_of_ble_eq_true rfl⟩) hj_Xb0 (fun _ _ _ => trivial) hK hF hI hS rfl rfl rfl hl.1 rfl (Nat.le_of_ble_eq_true rfl) dL_law_461 hf (fun H locs hI hS => ?_)
  refine lv_icmp_eq (tgt := 950) hx hb dL_law_464 (by decide) (fun _ => ?_) (fun q => absurd rfl q)
  exact kk σ' bf τ' sd H locs (lr_up hr (Nat.le_succ B)) hI hS
set_option maxHeartbeats 4000000 in
set_option maxRecDepth 100000 in
theorem lw_c15 {p : Program} {e : Env} {s : State} {m : MethodId} {args : Array Value} {below : List Frame} {meth : Method} {c : Code} {H : Heap} {locs : List Loc} {cells slots : Nat} {Q : State → Prop} {l : Launch} {ls : Array Slot} {g : hj_G} {ad am : Nat → Nat} {σ : Nat → hj_Ob} {bf : Nat → Nat} {τ : hj_Ob} {sd : Int64} {b L : Nat} {xs : Nat → Int32} {i B : Nat} (C : lw_Cx p s m args meth c b L xs g ad am) (hi : i + 4 ≤ L) (h : lr B σ bf τ) (hB : B < 2 ^ 20) (hB0 : 0 < B) (hI : lw_I g ad am σ bf τ sd sd H) (hS : va_S (lw_A s) s.heap H locs) (hl : lv_has ls 4 [(3, .int (nI i)), (2, .ref (am 0)), (1, .ref (ad 0)), (0, .ref b)]) (hf : cells ≤ room_1.cells ∧ slots ≤ room_1.slots)
    (kk : ∀ (σ' : Nat → hj_Ob) (bf' : Nat → Nat) (τ' : hj_Ob) (sd' : Int64) (H1 : Heap) (locs1 : List Loc), lr (B + 1) σ' bf' τ' → lw_I g ad am σ' bf' τ' sd' sd' H1 → va_S (lw_A s) s.heap H1 locs1 → W p l e room_1 s m args below meth c H1 locs1 cells slots Q (F0 m 950 ls [])) :
    W p l e room_1 s m args below meth c H locs cells slots Q (F0 m 469 ls []) := by
  obtain ⟨hx, hb, hml, hown, hts, hX, hbl, hL, hK, hF, hZ⟩ := C
  obtain ⟨r, σ', τ', e1, e2, hr⟩ := lr_strike (sd := sd) h hB (xs (i + 1))
  refine lv_aload_n hx hb dL_law_469 rfl (lv_at hl 2 rfl) ?_
  refine lw_arg1 hx hb hX hbl hS hl hi hL dL_law_470 dL_law_471 dL_law_472 dL_law_473 dL_law_474 ?_
  refine lw_xi (nL := 4) (As := [.int (xs (i + 1))]) (rest := []) (C := RX5) (T := TX5) (N := 10) (ci := 5) ⟨hx, hb, hml, hown, hts⟩ (ctX5_strike l g hF.1 e1) (cwV 1 hts gL_law_X5_strike rfl rfl rfl (by decide +kernel) ⟨Nat.le_of_ble_eq_true rfl, Nat.le_of_ble_eq_true rfl⟩) hj_Xb0 (fun _ _ _ => trivial) hK hF hI hS rfl rfl rfl hl.1 rfl (Nat.le_of_ble_eq_true rfl) dL_law_475 hf (fun H locs hI hS => ?_)
  refine lv_aload_n hx hb dL_law_478 rfl (lv_at hl 1 rfl) ?_
  refine lw_arg1 hx hb hX hbl hS hl hi hL dL_law_479 dL_law_480 dL_law_481 dL_law_482 dL_law_483 ?_
  refine lw_mi (nL := 4) (As := [.int (xs (i + 1))]) (rest := [.int r]) (C := RX6) (T := TX6) (N := 24) (ci := 6) ⟨hx, hb, hml, hown, hts⟩ (ctX6_strike l g hF.2.1 e2) (cwV 1 hts gL_law_X6_strike rfl rfl rfl (by decide +kernel) ⟨Nat.le_of_ble_eq_true rfl, Nat.le_of_ble_eq_true rfl⟩) hj_Xb0 (fun _ _ _ => trivial) hK hF hI hS rfl rfl rfl hl.1 rfl (Nat.le_of_ble_eq_true rfl) dL_law_484 hf (fun H locs hI hS => ?_)
  refine lv_icmp_eq (tgt := 950) hx hb dL_law_487 (by decide) (fun _ => ?_) (fun q => absurd rfl q)
  exact kk σ' bf τ' sd H locs (lr_up hr (Nat.le_succ B)) hI hS
set_option maxHeartbeats 4000000 in
set_option maxRecDepth 100000 in
theorem lw_c16 {p : Program} {e : Env} {s : State} {m : MethodId} {args : Array Value} {below : List Frame} {meth : Method} {c : Code} {H : Heap} {locs : List Loc} {cells slots : Nat} {Q : State → Prop} {l : Launch} {ls : Array Slot} {g : hj_G} {ad am : Nat → Nat} {σ : Nat → hj_Ob} {bf : Nat → Nat} {τ : hj_Ob} {sd : Int64} {b L : Nat} {xs : Nat → Int32} {i B : Nat} (C : lw_Cx p s m args meth c b L xs g ad am) (hi : i + 4 ≤ L) (h : lr B σ bf τ) (hB : B < 2 ^ 20) (hB0 : 0 < B) (hI : lw_I g ad am σ bf τ sd sd H) (hS : va_S (lw_A s) s.heap H locs) (hl : lv_has ls 4 [(3, .int (nI i)), (2, .ref (am 0)), (1, .ref (ad 0)), (0, .ref b)]) (hf : cells ≤ room_1.cells ∧ slots ≤ room_1.slots)
    (kk : ∀ (σ' : Nat → hj_Ob) (bf' : Nat → Nat) (τ' : hj_Ob) (sd' : Int64) (H1 : Heap) (locs1 : List Loc), lr (B + 1) σ' bf' τ' → lw_I g ad am σ' bf' τ' sd' sd' H1 → va_S (lw_A s) s.heap H1 locs1 → W p l e room_1 s m args below meth c H1 locs1 cells slots Q (F0 m 950 ls [])) :
    W p l e room_1 s m args below meth c H locs cells slots Q (F0 m 492 ls []) := by
  obtain ⟨hx, hb, hml, hown, hts, hX, hbl, hL, hK, hF, hZ⟩ := C
  obtain ⟨r, σ', τ', e1, e2, hr⟩ := lr_toMove (sd := sd) h hB (xs (i + 1)) (if xs (i + 2) = 0 then 0 else 1)
  refine lv_aload_n hx hb dL_law_492 rfl (lv_at hl 2 rfl) ?_
  refine lw_arg1 hx hb hX hbl hS hl hi hL dL_law_493 dL_law_494 dL_law_495 dL_law_496 dL_law_497 ?_
  refine lw_bool2 hx hb hX hbl hS hl hi hL dL_law_498 dL_law_499 dL_law_500 dL_law_501 dL_law_502 dL_law_503 dL_law_506 dL_law_507 dL_law_510 ?_
  refine lw_xi (nL := 4) (As := [.int (xs (i + 1)), .int (if xs (i + 2) = 0 then 0 else 1)]) (rest := []) (C := RX5) (T := TX5) (N := 10) (ci := 5) ⟨hx, hb, hml, hown, hts⟩ (ctX5_toMove l g hF.1 e1) (cwV 2 hts gL_law_X5_toMove rfl rfl rfl (by decide +kernel) ⟨Nat.le_of_ble_eq_true rfl, Nat.le_of_ble_eq_true rfl⟩) hj_Xb0 (fun _ _ _ => trivial) hK hF hI hS rfl rfl rfl hl.1 rfl (Nat.le_of_ble_eq_true rfl) dL_law_511 hf (fun H locs hI hS => ?_)
  refine lv_aload_n hx hb dL_law_514 rfl (lv_at hl 1 rfl) ?_
  refine lw_arg1 hx hb hX hbl hS hl hi hL dL_law_515 dL_law_516 dL_law_517 dL_law_518 dL_law_519 ?_
  refine lw_bool2 hx hb hX hbl hS hl hi hL dL_law_520 dL_law_521 dL_law_522 dL_law_523 dL_law_524 dL_law_525 dL_law_528 dL_law_529 dL_law_532 ?_
  refine lw_mi (nL := 4) (As := [.int (xs (i + 1)), .int (if xs (i + 2) = 0 then 0 else 1)]) (rest := [.int r]) (C := RX6) (T := TX6) (N := 24) (ci := 6) ⟨hx, hb, hml, hown, hts⟩ (ctX6_toMove l g hF.2.1 e2) (cwV 2 hts gL_law_X6_toMove rfl rfl rfl (by decide +kernel) ⟨Nat.le_of_ble_eq_true rfl, Nat.le_of_ble_eq_true rfl⟩) hj_Xb0 (fun _ _ _ => trivial) hK hF hI hS rfl rfl rfl hl.1 rfl (Nat.le_of_ble_eq_true rfl) dL_law_533 hf (fun H locs hI hS => ?_)
  refine lv_icmp_eq (tgt := 950) hx hb dL_law_536 (by decide) (fun _ => ?_) (fun q => absurd rfl q)
  exact kk σ' bf τ' sd H locs (lr_up hr (Nat.le_succ B)) hI hS
set_option maxHeartbeats 4000000 in
set_option maxRecDepth 100000 in
theorem lw_c17 {p : Program} {e : Env} {s : State} {m : MethodId} {args : Array Value} {below : List Frame} {meth : Method} {c : Code} {H : Heap} {locs : List Loc} {cells slots : Nat} {Q : State → Prop} {l : Launch} {ls : Array Slot} {g : hj_G} {ad am : Nat → Nat} {σ : Nat → hj_Ob} {bf : Nat → Nat} {τ : hj_Ob} {sd : Int64} {b L : Nat} {xs : Nat → Int32} {i B : Nat} (C : lw_Cx p s m args meth c b L xs g ad am) (hi : i + 4 ≤ L) (h : lr B σ bf τ) (hB : B < 2 ^ 20) (hB0 : 0 < B) (hI : lw_I g ad am σ bf τ sd sd H) (hS : va_S (lw_A s) s.heap H locs) (hl : lv_has ls 4 [(3, .int (nI i)), (2, .ref (am 0)), (1, .ref (ad 0)), (0, .ref b)]) (hf : cells ≤ room_1.cells ∧ slots ≤ room_1.slots)
    (kk : ∀ (σ' : Nat → hj_Ob) (bf' : Nat → Nat) (τ' : hj_Ob) (sd' : Int64) (H1 : Heap) (locs1 : List Loc), lr (B + 1) σ' bf' τ' → lw_I g ad am σ' bf' τ' sd' sd' H1 → va_S (lw_A s) s.heap H1 locs1 → W p l e room_1 s m args below meth c H1 locs1 cells slots Q (F0 m 950 ls [])) :
    W p l e room_1 s m args below meth c H locs cells slots Q (F0 m 541 ls []) := by
  obtain ⟨hx, hb, hml, hown, hts, hX, hbl, hL, hK, hF, hZ⟩ := C
  obtain ⟨r, σ', τ', e1, e2, hr⟩ := lr_judge (sd := sd) h hB (xs (i + 1)) (xs (i + 2))
  refine lv_aload_n hx hb dL_law_541 rfl (lv_at hl 2 rfl) ?_
  refine lw_arg1 hx hb hX hbl hS hl hi hL dL_law_542 dL_law_543 dL_law_544 dL_law_545 dL_law_546 ?_
  refine lw_arg2 hx hb hX hbl hS hl hi hL dL_law_547 dL_law_548 dL_law_549 dL_law_550 dL_law_551 ?_
  refine lw_xi (nL := 4) (As := [.int (xs (i + 1)), .int (xs (i + 2))]) (rest := []) (C := RX5) (T := TX5) (N := 10) (ci := 5) ⟨hx, hb, hml, hown, hts⟩ (ctX5_judge l g hF.1 e1) (cwV 2 hts gL_law_X5_judge rfl rfl rfl (by decide +kernel) ⟨Nat.le_of_ble_eq_true rfl, Nat.le_of_ble_eq_true rfl⟩) hs_Xb (fun U hU hA => lwz_Z hZ hF.2.2.1 hS hU hA) hK hF hI hS rfl rfl rfl hl.1 rfl (Nat.le_of_ble_eq_true rfl) dL_law_552 hf (fun H locs hI hS => ?_)
  refine lv_aload_n hx hb dL_law_555 rfl (lv_at hl 1 rfl) ?_
  refine lw_arg1 hx hb hX hbl hS hl hi hL dL_law_556 dL_law_557 dL_law_558 dL_law_559 dL_law_560 ?_
  refine lw_arg2 hx hb hX hbl hS hl hi hL dL_law_561 dL_law_562 dL_law_563 dL_law_564 dL_law_565 ?_
  refine lw_mi (nL := 4) (As := [.int (xs (i + 1)), .int (xs (i + 2))]) (rest := [.int r]) (C := RX6) (T := TX6) (N := 24) (ci := 6) ⟨hx, hb, hml, hown, hts⟩ (ctX6_judge l g hF.2.1 e2) (cwV 2 hts gL_law_X6_judge rfl rfl rfl (by decide +kernel) ⟨Nat.le_of_ble_eq_true rfl, Nat.le_of_ble_eq_true rfl⟩) hj_Xb0 (fun _ _ _ => trivial) hK hF hI hS rfl rfl rfl hl.1 rfl (Nat.le_of_ble_eq_true rfl) dL_law_566 hf (fun H locs hI hS => ?_)
  refine lv_icmp_eq (tgt := 950) hx hb dL_law_569 (by decide) (fun _ => ?_) (fun q => absurd rfl q)
  exact kk σ' bf τ' sd H locs (lr_up hr (Nat.le_succ B)) hI hS
set_option maxHeartbeats 4000000 in
set_option maxRecDepth 100000 in
theorem lw_c18 {p : Program} {e : Env} {s : State} {m : MethodId} {args : Array Value} {below : List Frame} {meth : Method} {c : Code} {H : Heap} {locs : List Loc} {cells slots : Nat} {Q : State → Prop} {l : Launch} {ls : Array Slot} {g : hj_G} {ad am : Nat → Nat} {σ : Nat → hj_Ob} {bf : Nat → Nat} {τ : hj_Ob} {sd : Int64} {b L : Nat} {xs : Nat → Int32} {i B : Nat} (C : lw_Cx p s m args meth c b L xs g ad am) (hi : i + 4 ≤ L) (h : lr B σ bf τ) (hB : B < 2 ^ 20) (hB0 : 0 < B) (hI : lw_I g ad am σ bf τ sd sd H) (hS : va_S (lw_A s) s.heap H locs) (hl : lv_has ls 4 [(3, .int (nI i)), (2, .ref (am 0)), (1, .ref (ad 0)), (0, .ref b)]) (hf : cells ≤ room_1.cells ∧ slots ≤ room_1.slots)
    (kk : ∀ (σ' : Nat → hj_Ob) (bf' : Nat → Nat) (τ' : hj_Ob) (sd' : Int64) (H1 : Heap) (locs1 : List Loc), lr (B + 1) σ' bf' τ' → lw_I g ad am σ' bf' τ' sd' sd' H1 → va_S (lw_A s) s.heap H1 locs1 → W p l e room_1 s m args below meth c H1 locs1 cells slots Q (F0 m 950 ls [])) :
    W p l e room_1 s m args below meth c H locs cells slots Q (F0 m 574 ls []) := by
  obtain ⟨hx, hb, hml, hown, hts, hX, hbl, hL, hK, hF, hZ⟩ := C
  obtain ⟨r, σ', τ', e1, e2, hr⟩ := lr_see (sd := sd) h  (xs (i + 1)) (xs (i + 2)) (xs (i + 3))
  refine lv_aload_n hx hb dL_law_574 rfl (lv_at hl 2 rfl) ?_
  refine lw_arg1 hx hb hX hbl hS hl hi hL dL_law_575 dL_law_576 dL_law_577 dL_law_578 dL_law_579 ?_
  refine lw_arg2 hx hb hX hbl hS hl hi hL dL_law_580 dL_law_581 dL_law_582 dL_law_583 dL_law_584 ?_
  refine lw_arg3 hx hb hX hbl hS hl hi hL dL_law_585 dL_law_586 dL_law_587 dL_law_588 dL_law_589 ?_
  refine lw_xi (nL := 4) (As := [.int (xs (i + 1)), .int (xs (i + 2)), .int (xs (i + 3))]) (rest := []) (C := RX5) (T := TX5) (N := 10) (ci := 5) ⟨hx, hb, hml, hown, hts⟩ (ctX5_see l g hF.1 e1) (cwV 3 hts gL_law_X5_see rfl rfl rfl (by decide +kernel) ⟨Nat.le_of_ble_eq_true rfl, Nat.le_of_ble_eq_true rfl⟩) hj_Xb0 (fun _ _ _ => trivial) hK hF hI hS rfl rfl rfl hl.1 rfl (Nat.le_of_ble_eq_true rfl) dL_law_590 hf (fun H locs hI hS => ?_)
  refine lv_aload_n hx hb dL_law_593 rfl (lv_at hl 1 rfl) ?_
  refine lw_arg1 hx hb hX hbl hS hl hi hL dL_law_594 dL_law_595 dL_law_596 dL_law_597 dL_law_598 ?_
  refine lw_arg2 hx hb hX hbl hS hl hi hL dL_law_599 dL_law_600 dL_law_601 dL_law_602 dL_law_603 ?_
  refine lw_arg3 hx hb hX hbl hS hl hi hL dL_law_604 dL_law_605 dL_law_606 dL_law_607 dL_law_608 ?_
  refine lw_mi (nL := 4) (As := [.int (xs (i + 1)), .int (xs (i + 2)), .int (xs (i + 3))]) (rest := [.int r]) (C := RX6) (T := TX6) (N := 24) (ci := 6) ⟨hx, hb, hml, hown, hts⟩ (ctX6_see l g hF.2.1 e2) (cwV 3 hts gL_law_X6_see rfl rfl rfl (by decide +kernel) ⟨Nat.le_of_ble_eq_true rfl, Nat.le_of_ble_eq_true rfl⟩) hj_Xb0 (fun _ _ _ => trivial) hK hF hI hS rfl rfl rfl hl.1 rfl (Nat.le_of_ble_eq_true rfl) dL_law_609 hf (fun H locs hI hS => ?_)
  refine lv_icmp_eq (tgt := 950) hx hb dL_law_612 (by decide) (fun _ => ?_) (fun q => absurd rfl q)
  exact kk σ' bf τ' sd H locs (lr_up hr (Nat.le_succ B)) hI hS
set_option maxHeartbeats 4000000 in
set_option maxRecDepth 100000 in
theorem lw_c19 {p : Program} {e : Env} {s : State} {m : MethodId} {args : Array Value} {below : List Frame} {meth : Method} {c : Code} {H : Heap} {locs : List Loc} {cells slots : Nat} {Q : State → Prop} {l : Launch} {ls : Array Slot} {g : hj_G} {ad am : Nat → Nat} {σ : Nat → hj_Ob} {bf : Nat → Nat} {τ : hj_Ob} {sd : Int64} {b L : Nat} {xs : Nat → Int32} {i B : Nat} (C : lw_Cx p s m args meth c b L xs g ad am) (hi : i + 4 ≤ L) (h : lr B σ bf τ) (hB : B < 2 ^ 20) (hB0 : 0 < B) (hI : lw_I g ad am σ bf τ sd sd H) (hS : va_S (lw_A s) s.heap H locs) (hl : lv_has ls 4 [(3, .int (nI i)), (2, .ref (am 0)), (1, .ref (ad 0)), (0, .ref b)]) (hf : cells ≤ room_1.cells ∧ slots ≤ room_1.slots)
    (kk : ∀ (σ' : Nat → hj_Ob) (bf' : Nat → Nat) (τ' : hj_Ob) (sd' : Int64) (H1 : Heap) (locs1 : List Loc), lr (B + 1) σ' bf' τ' → lw_I g ad am σ' bf' τ' sd' sd' H1 → va_S (lw_A s) s.heap H1 locs1 → W p l e room_1 s m args below meth c H1 locs1 cells slots Q (F0 m 950 ls [])) :
    W p l e room_1 s m args below meth c H locs cells slots Q (F0 m 617 ls []) := by
  obtain ⟨hx, hb, hml, hown, hts, hX, hbl, hL, hK, hF, hZ⟩ := C
  obtain ⟨r, σ', τ', e1, e2, hr⟩ := lr_unsee (sd := sd) h  
  refine lv_aload_n hx hb dL_law_617 rfl (lv_at hl 2 rfl) ?_
  refine lw_xi (nL := 4) (As := []) (rest := []) (C := RX5) (T := TX5) (N := 10) (ci := 5) ⟨hx, hb, hml, hown, hts⟩ (ctX5_unsee l g hF.1 e1) (cwV 0 hts gL_law_X5_unsee rfl rfl rfl (by decide +kernel) ⟨Nat.le_of_ble_eq_true rfl, Nat.le_of_ble_eq_true rfl⟩) hj_Xb0 (fun _ _ _ => trivial) hK hF hI hS rfl rfl rfl hl.1 rfl (Nat.le_of_ble_eq_true rfl) dL_law_618 hf (fun H locs hI hS => ?_)
  refine lv_aload_n hx hb dL_law_621 rfl (lv_at hl 1 rfl) ?_
  refine lw_mi (nL := 4) (As := []) (rest := [.int r]) (C := RX6) (T := TX6) (N := 24) (ci := 6) ⟨hx, hb, hml, hown, hts⟩ (ctX6_unsee l g hF.2.1 e2) (cwV 0 hts gL_law_X6_unsee rfl rfl rfl (by decide +kernel) ⟨Nat.le_of_ble_eq_true rfl, Nat.le_of_ble_eq_true rfl⟩) hj_Xb0 (fun _ _ _ => trivial) hK hF hI hS rfl rfl rfl hl.1 rfl (Nat.le_of_ble_eq_true rfl) dL_law_622 hf (fun H locs hI hS => ?_)
  refine lv_icmp_eq (tgt := 950) hx hb dL_law_625 (by decide) (fun _ => ?_) (fun q => absurd rfl q)
  exact kk σ' bf τ' sd H locs (lr_up hr (Nat.le_succ B)) hI hS
set_option maxHeartbeats 4000000 in
set_option maxRecDepth 100000 in
theorem lw_c20 {p : Program} {e : Env} {s : State} {m : MethodId} {args : Array Value} {below : List Frame} {meth : Method} {c : Code} {H : Heap} {locs : List Loc} {cells slots : Nat} {Q : State → Prop} {l : Launch} {ls : Array Slot} {g : hj_G} {ad am : Nat → Nat} {σ : Nat → hj_Ob} {bf : Nat → Nat} {τ : hj_Ob} {sd : Int64} {b L : Nat} {xs : Nat → Int32} {i B : Nat} (C : lw_Cx p s m args meth c b L xs g ad am) (hi : i + 4 ≤ L) (h : lr B σ bf τ) (hB : B < 2 ^ 20) (hB0 : 0 < B) (hI : lw_I g ad am σ bf τ sd sd H) (hS : va_S (lw_A s) s.heap H locs) (hl : lv_has ls 4 [(3, .int (nI i)), (2, .ref (am 0)), (1, .ref (ad 0)), (0, .ref b)]) (hf : cells ≤ room_1.cells ∧ slots ≤ room_1.slots)
    (kk : ∀ (σ' : Nat → hj_Ob) (bf' : Nat → Nat) (τ' : hj_Ob) (sd' : Int64) (H1 : Heap) (locs1 : List Loc), lr (B + 1) σ' bf' τ' → lw_I g ad am σ' bf' τ' sd' sd' H1 → va_S (lw_A s) s.heap H1 locs1 → W p l e room_1 s m args below meth c H1 locs1 cells slots Q (F0 m 950 ls [])) :
    W p l e room_1 s m args below meth c H locs cells slots Q (F0 m 630 ls []) := by
  obtain ⟨hx, hb, hml, hown, hts, hX, hbl, hL, hK, hF, hZ⟩ := C
  obtain ⟨r, σ', τ', e1, e2, hr⟩ := lr_first (sd := sd) h hB (xs (i + 1))
  refine lv_aload_n hx hb dL_law_630 rfl (lv_at hl 2 rfl) ?_
  refine lw_arg1 hx hb hX hbl hS hl hi hL dL_law_631 dL_law_632 dL_law_633 dL_law_634 dL_law_635 ?_
  refine lw_xi (nL := 4) (As := [.int (xs (i + 1))]) (rest := []) (C := RX5) (T := TX5) (N := 10) (ci := 5) ⟨hx, hb, hml, hown, hts⟩ (ctX5_first l g hF.1 e1) (cwV 1 hts gL_law_X5_first rfl rfl rfl (by decide +kernel) ⟨Nat.le_of_ble_eq_true rfl, Nat.le_of_ble_eq_true rfl⟩) hj_Xb0 (fun _ _ _ => trivial) hK hF hI hS rfl rfl rfl hl.1 rfl (Nat.le_of_ble_eq_true rfl) dL_law_636 hf (fun H locs hI hS => ?_)
  refine lv_aload_n hx hb dL_law_639 rfl (lv_at hl 1 rfl) ?_
  refine lw_arg1 hx hb hX hbl hS hl hi hL dL_law_640 dL_law_641 dL_law_642 dL_law_643 dL_law_644 ?_
  refine lw_mi (nL := 4) (As := [.int (xs (i + 1))]) (rest := [.int r]) (C := RX6) (T := TX6) (N := 24) (ci := 6) ⟨hx, hb, hml, hown, hts⟩ (ctX6_first l g hF.2.1 e2) (cwV 1 hts gL_law_X6_first rfl rfl rfl (by decide +kernel) ⟨Nat.le_of_ble_eq_true rfl, Nat.le_of_ble_eq_true rfl⟩) hj_Xb0 (fun _ _ _ => trivial) hK hF hI hS rfl rfl rfl hl.1 rfl (Nat.le_of_ble_eq_true rfl) dL_law_645 hf (fun H locs hI hS => ?_)
  refine lv_icmp_eq (tgt := 950) hx hb dL_law_648 (by decide) (fun _ => ?_) (fun q => absurd rfl q)
  exact kk σ' bf τ' sd H locs (lr_up hr (Nat.le_succ B)) hI hS
set_option maxHeartbeats 4000000 in
set_option maxRecDepth 100000 in
theorem lw_c21 {p : Program} {e : Env} {s : State} {m : MethodId} {args : Array Value} {below : List Frame} {meth : Method} {c : Code} {H : Heap} {locs : List Loc} {cells slots : Nat} {Q : State → Prop} {l : Launch} {ls : Array Slot} {g : hj_G} {ad am : Nat → Nat} {σ : Nat → hj_Ob} {bf : Nat → Nat} {τ : hj_Ob} {sd : Int64} {b L : Nat} {xs : Nat → Int32} {i B : Nat} (C : lw_Cx p s m args meth c b L xs g ad am) (hi : i + 4 ≤ L) (h : lr B σ bf τ) (hB : B < 2 ^ 20) (hB0 : 0 < B) (hI : lw_I g ad am σ bf τ sd sd H) (hS : va_S (lw_A s) s.heap H locs) (hl : lv_has ls 4 [(3, .int (nI i)), (2, .ref (am 0)), (1, .ref (ad 0)), (0, .ref b)]) (hf : cells ≤ room_1.cells ∧ slots ≤ room_1.slots)
    (kk : ∀ (σ' : Nat → hj_Ob) (bf' : Nat → Nat) (τ' : hj_Ob) (sd' : Int64) (H1 : Heap) (locs1 : List Loc), lr (B + 1) σ' bf' τ' → lw_I g ad am σ' bf' τ' sd' sd' H1 → va_S (lw_A s) s.heap H1 locs1 → W p l e room_1 s m args below meth c H1 locs1 cells slots Q (F0 m 950 ls [])) :
    W p l e room_1 s m args below meth c H locs cells slots Q (F0 m 653 ls []) := by
  obtain ⟨hx, hb, hml, hown, hts, hX, hbl, hL, hK, hF, hZ⟩ := C
  obtain ⟨r, σ', τ', e1, e2, hr⟩ := lr_share (sd := sd) h hB (xs (i + 1)) (if xs (i + 2) = 0 then 0 else 1)
  refine lv_aload_n hx hb dL_law_653 rfl (lv_at hl 2 rfl) ?_
  refine lw_arg1 hx hb hX hbl hS hl hi hL dL_law_654 dL_law_655 dL_law_656 dL_law_657 dL_law_658 ?_
  refine lw_bool2 hx hb hX hbl hS hl hi hL dL_law_659 dL_law_660 dL_law_661 dL_law_662 dL_law_663 dL_law_664 dL_law_667 dL_law_668 dL_law_671 ?_
  refine lw_xi (nL := 4) (As := [.int (xs (i + 1)), .int (if xs (i + 2) = 0 then 0 else 1)]) (rest := []) (C := RX5) (T := TX5) (N := 10) (ci := 5) ⟨hx, hb, hml, hown, hts⟩ (ctX5_share l g hF.1 e1) (cwV 2 hts gL_law_X5_share rfl rfl rfl (by decide +kernel) ⟨Nat.le_of_ble_eq_true rfl, Nat.le_of_ble_eq_true rfl⟩) hs_Xb (fun U hU hA => lwz_Z hZ hF.2.2.1 hS hU hA) hK hF hI hS rfl rfl rfl hl.1 rfl (Nat.le_of_ble_eq_true rfl) dL_law_672 hf (fun H locs hI hS => ?_)
  refine lv_aload_n hx hb dL_law_675 rfl (lv_at hl 1 rfl) ?_
  refine lw_arg1 hx hb hX hbl hS hl hi hL dL_law_676 dL_law_677 dL_law_678 dL_law_679 dL_law_680 ?_
  refine lw_bool2 hx hb hX hbl hS hl hi hL dL_law_681 dL_law_682 dL_law_683 dL_law_684 dL_law_685 dL_law_686 dL_law_689 dL_law_690 dL_law_693 ?_
  refine lw_mi (nL := 4) (As := [.int (xs (i + 1)), .int (if xs (i + 2) = 0 then 0 else 1)]) (rest := [.int r]) (C := RX6) (T := TX6) (N := 24) (ci := 6) ⟨hx, hb, hml, hown, hts⟩ (ctX6_share l g hF.2.1 e2) (cwV 2 hts gL_law_X6_share rfl rfl rfl (by decide +kernel) ⟨Nat.le_of_ble_eq_true rfl, Nat.le_of_ble_eq_true rfl⟩) hj_Xb0 (fun _ _ _ => trivial) hK hF hI hS rfl rfl rfl hl.1 rfl (Nat.le_of_ble_eq_true rfl) dL_law_694 hf (fun H locs hI hS => ?_)
  refine lv_icmp_eq (tgt := 950) hx hb dL_law_697 (by decide) (fun _ => ?_) (fun q => absurd rfl q)
  exact kk σ' bf τ' sd H locs (lr_up hr (Nat.le_succ B)) hI hS
