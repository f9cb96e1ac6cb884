/-! the law's cases 7 to 13 -/
set_option maxHeartbeats 4000000 in
set_option maxRecDepth 100000 in
theorem lw_c7 {p : Program} {e : Env} {s : State} {m : MethodId} {args : Array Value} {below : List Frame} {meth : Method} {c : Code} {H : Heap} {locs : List Loc} {cells slots : Nat} {Q : State → Prop} {l : Launch} {ls : Array Slot} {g : hj_G} {ad am : Nat → Nat} {σ : Nat → hj_Ob} {bf : Nat → Nat} {τ : hj_Ob} {sd : Int64} {b L : Nat} {xs : Nat → Int32} {i B : Nat} (C : lw_Cx p s m args meth c b L xs g ad am) (hi : i + 4 ≤ L) (h : lr B σ bf τ) (hB : B < 2 ^ 20) (hB0 : 0 < B) (hI : lw_I g ad am σ bf τ sd sd H) (hS : va_S (lw_A s) s.heap H locs) (hl : lv_has ls 4 [(3, .int (nI i)), (2, .ref (am 0)), (1, .ref (ad 0)), (0, .ref b)]) (hf : cells ≤ room_1.cells ∧ slots ≤ room_1.slots)
    (kk : ∀ (σ' : Nat → hj_Ob) (bf' : Nat → Nat) (τ' : hj_Ob) (sd' : Int64) (H1 : Heap) (locs1 : List Loc), lr (B + 1) σ' bf' τ' → lw_I g ad am σ' bf' τ' sd' sd' H1 → va_S (lw_A s) s.heap H1 locs1 → W p l e room_1 s m args below meth c H1 locs1 cells slots Q (F0 m 950 ls [])) :
    W p l e room_1 s m args below meth c H locs cells slots Q (F0 m 295 ls []) := by
  obtain ⟨hx, hb, hml, hown, hts, hX, hbl, hL, hK, hF, hZ⟩ := C
  obtain ⟨r, σ', bf', τ', e1, e2, hr⟩ := lr_feed (sd := sd) h hB hB0 (xs (i + 1))
  refine lv_aload_n hx hb dL_law_295 rfl (lv_at hl 2 rfl) ?_
  refine lw_arg1 hx hb hX hbl hS hl hi hL dL_law_296 dL_law_297 dL_law_298 dL_law_299 dL_law_300 ?_
  refine lw_xi (nL := 4) (As := [.int (xs (i + 1))]) (rest := []) (C := RX5) (T := TX5) (N := 10) (ci := 5) ⟨hx, hb, hml, hown, hts⟩ (ctX5_feed l g hF.1 e1) (cwV 1 hts gL_law_X5_feed rfl rfl rfl (by decide +kernel) ⟨Nat.le_of_ble_eq_true rfl, Nat.le_of_ble_eq_true rfl⟩) hj_Xb0 (fun _ _ _ => trivial) hK hF hI hS rfl rfl rfl hl.1 rfl (Nat.le_of_ble_eq_true rfl) dL_law_301 hf (fun H locs hI hS => ?_)
  refine lv_aload_n hx hb dL_law_304 rfl (lv_at hl 1 rfl) ?_
  refine lw_arg1 hx hb hX hbl hS hl hi hL dL_law_305 dL_law_306 dL_law_307 dL_law_308 dL_law_309 ?_
  refine lw_mi (nL := 4) (As := [.int (xs (i + 1))]) (rest := [.int r]) (C := RX6) (T := TX6) (N := 24) (ci := 6) ⟨hx, hb, hml, hown, hts⟩ (ctX6_feed l g hF.2.1 e2) (cwV 1 hts gL_law_X6_feed rfl rfl rfl (by decide +kernel) ⟨Nat.le_of_ble_eq_true rfl, Nat.le_of_ble_eq_true rfl⟩) hj_Xb0 (fun _ _ _ => trivial) hK hF hI hS rfl rfl rfl hl.1 rfl (Nat.le_of_ble_eq_true rfl) dL_law_310 hf (fun H locs hI hS => ?_)
  refine lv_icmp_eq (tgt := 950) hx hb dL_law_313 (by decide) (fun _ => ?_) (fun q => absurd rfl q)
  exact kk σ' bf' τ' sd H locs hr hI hS
set_option maxHeartbeats 4000000 in
set_option maxRecDepth 100000 in
theorem lw_c8 {p : Program} {e : Env} {s : State} {m : MethodId} {args : Array Value} {below : List Frame} {meth : Method} {c : Code} {H : Heap} {locs : List Loc} {cells slots : Nat} {Q : State → Prop} {l : Launch} {ls : Array Slot} {g : hj_G} {ad am : Nat → Nat} {σ : Nat → hj_Ob} {bf : Nat → Nat} {τ : hj_Ob} {sd : Int64} {b L : Nat} {xs : Nat → Int32} {i B : Nat} (C : lw_Cx p s m args meth c b L xs g ad am) (hi : i + 4 ≤ L) (h : lr B σ bf τ) (hB : B < 2 ^ 20) (hB0 : 0 < B) (hI : lw_I g ad am σ bf τ sd sd H) (hS : va_S (lw_A s) s.heap H locs) (hl : lv_has ls 4 [(3, .int (nI i)), (2, .ref (am 0)), (1, .ref (ad 0)), (0, .ref b)]) (hf : cells ≤ room_1.cells ∧ slots ≤ room_1.slots)
    (kk : ∀ (σ' : Nat → hj_Ob) (bf' : Nat → Nat) (τ' : hj_Ob) (sd' : Int64) (H1 : Heap) (locs1 : List Loc), lr (B + 1) σ' bf' τ' → lw_I g ad am σ' bf' τ' sd' sd' H1 → va_S (lw_A s) s.heap H1 locs1 → W p l e room_1 s m args below meth c H1 locs1 cells slots Q (F0 m 950 ls [])) :
    W p l e room_1 s m args below meth c H locs cells slots Q (F0 m 318 ls []) := by
  obtain ⟨hx, hb, hml, hown, hts, hX, hbl, hL, hK, hF, hZ⟩ := C
  obtain ⟨r, σ', bf', τ', e1, e2, hr⟩ := lr_die (sd := sd) h hB hB0 (xs (i + 1))
  refine lv_aload_n hx hb dL_law_318 rfl (lv_at hl 2 rfl) ?_
  refine lw_arg1 hx hb hX hbl hS hl hi hL dL_law_319 dL_law_320 dL_law_321 dL_law_322 dL_law_323 ?_
  refine lw_xi (nL := 4) (As := [.int (xs (i + 1))]) (rest := []) (C := RX5) (T := TX5) (N := 10) (ci := 5) ⟨hx, hb, hml, hown, hts⟩ (ctX5_die l g hF.1 e1) (cwV 1 hts gL_law_X5_die rfl rfl rfl (by decide +kernel) ⟨Nat.le_of_ble_eq_true rfl, Nat.le_of_ble_eq_true rfl⟩) hj_Xb0 (fun _ _ _ => trivial) hK hF hI hS rfl rfl rfl hl.1 rfl (Nat.le_of_ble_eq_true rfl) dL_law_324 hf (fun H locs hI hS => ?_)
  refine lv_aload_n hx hb dL_law_327 rfl (lv_at hl 1 rfl) ?_
  refine lw_arg1 hx hb hX hbl hS hl hi hL dL_law_328 dL_law_329 dL_law_330 dL_law_331 dL_law_332 ?_
  refine lw_mi (nL := 4) (As := [.int (xs (i + 1))]) (rest := [.int r]) (C := RX6) (T := TX6) (N := 24) (ci := 6) ⟨hx, hb, hml, hown, hts⟩ (ctX6_die l g hF.2.1 e2) (cwV 1 hts gL_law_X6_die rfl rfl rfl (by decide +kernel) ⟨Nat.le_of_ble_eq_true rfl, Nat.le_of_ble_eq_true rfl⟩) hj_Xb0 (fun _ _ _ => trivial) hK hF hI hS rfl rfl rfl hl.1 rfl (Nat.le_of_ble_eq_true rfl) dL_law_333 hf (fun H locs hI hS => ?_)
  refine lv_icmp_eq (tgt := 950) hx hb dL_law_336 (by decide) (fun _ => ?_) (fun q => absurd rfl q)
  exact kk σ' bf' τ' sd H locs hr hI hS
set_option maxHeartbeats 4000000 in
set_option maxRecDepth 100000 in
theorem lw_c9 {p : Program} {e : Env} {s : State} {m : MethodId} {args : Array Value} {below : List Frame} {meth : Method} {c : Code} {H : Heap} {locs : List Loc} {cells slots : Nat} {Q : State → Prop} {l : Launch} {ls : Array Slot} {g : hj_G} {ad am : Nat → Nat} {σ : Nat → hj_Ob} {bf : Nat → Nat} {τ : hj_Ob} {sd : Int64} {b L : Nat} {xs : Nat → Int32} {i B : Nat} (C : lw_Cx p s m args meth c b L xs g ad am) (hi : i + 4 ≤ L) (h : lr B σ bf τ) (hB : B < 2 ^ 20) (hB0 : 0 < B) (hI : lw_I g ad am σ bf τ sd sd H) (hS : va_S (lw_A s) s.heap H locs) (hl : lv_has ls 4 [(3, .int (nI i)), (2, .ref (am 0)), (1, .ref (ad 0)), (0, .ref b)]) (hf : cells ≤ room_1.cells ∧ slots ≤ room_1.slots)
    (kk : ∀ (σ' : Nat → hj_Ob) (bf' : Nat → Nat) (τ' : hj_Ob) (sd' : Int64) (H1 : Heap) (locs1 : List Loc), lr (B + 1) σ' bf' τ' → lw_I g ad am σ' bf' τ' sd' sd' H1 → va_S (lw_A s) s.heap H1 locs1 → W p l e room_1 s m args below meth c H1 locs1 cells slots Q (F0 m 950 ls [])) :
    W p l e room_1 s m args below meth c H locs cells slots Q (F0 m 341 ls []) := by
  obtain ⟨hx, hb, hml, hown, hts, hX, hbl, hL, hK, hF, hZ⟩ := C
  obtain ⟨r, σ', bf', τ', e1, e2, hr⟩ := lr_toss (sd := sd) h hB hB0 (xs (i + 1))
  refine lv_aload_n hx hb dL_law_341 rfl (lv_at hl 2 rfl) ?_
  refine lw_arg1 hx hb hX hbl hS hl hi hL dL_law_342 dL_law_343 dL_law_344 dL_law_345 dL_law_346 ?_
  refine lw_xi (nL := 4) (As := [.int (xs (i + 1))]) (rest := []) (C := RX5) (T := TX5) (N := 10) (ci := 5) ⟨hx, hb, hml, hown, hts⟩ (ctX5_toss l g hF.1 e1) (cwV 1 hts gL_law_X5_toss rfl rfl rfl (by decide +kernel) ⟨Nat.le_of_ble_eq_true rfl, Nat.le_of_ble_eq_true rfl⟩) hj_Xb0 (fun _ _ _ => trivial) hK hF hI hS rfl rfl rfl hl.1 rfl (Nat.le_of_ble_eq_true rfl) dL_law_347 hf (fun H locs hI hS => ?_)
  refine lv_aload_n hx hb dL_law_350 rfl (lv_at hl 1 rfl) ?_
  refine lw_arg1 hx hb hX hbl hS hl hi hL dL_law_351 dL_law_352 dL_law_353 dL_law_354 dL_law_355 ?_
  refine lw_mi (nL := 4) (As := [.int (xs (i + 1))]) (rest := [.int r]) (C := RX6) (T := TX6) (N := 24) (ci := 6) ⟨hx, hb, hml, hown, hts⟩ (ctX6_toss l g hF.2.1 e2) (cwV 1 hts gL_law_X6_toss rfl rfl rfl (by decide +kernel) ⟨Nat.le_of_ble_eq_true rfl, Nat.le_of_ble_eq_true rfl⟩) hj_Xb0 (fun _ _ _ => trivial) hK hF hI hS rfl rfl rfl hl.1 rfl (Nat.le_of_ble_eq_true rfl) dL_law_356 hf (fun H locs hI hS => ?_)
  refine lv_icmp_eq (tgt := 950) hx hb dL_law_359 (by decide) (fun _ => ?_) (fun q => absurd rfl q)
  exact kk σ' bf' τ' sd H locs hr hI hS
set_option maxHeartbeats 4000000 in
set_option maxRecDepth 100000 in
theorem lw_c10 {p : Program} {e : Env} {s : State} {m : MethodId} {args : Array Value} {below : List Frame} {meth : Method} {c : Code} {H : Heap} {locs : List Loc} {cells slots : Nat} {Q : State → Prop} {l : Launch} {ls : Array Slot} {g : hj_G} {ad am : Nat → Nat} {σ : Nat → hj_Ob} {bf : Nat → Nat} {τ : hj_Ob} {sd : Int64} {b L : Nat} {xs : Nat → Int32} {i B : Nat} (C : lw_Cx p s m args meth c b L xs g ad am) (hi : i + 4 ≤ L) (h : lr B σ bf τ) (hB : B < 2 ^ 20) (hB0 : 0 < B) (hI : lw_I g ad am σ bf τ sd sd H) (hS : va_S (lw_A s) s.heap H locs) (hl : lv_has ls 4 [(3, .int (nI i)), (2, .ref (am 0)), (1, .ref (ad 0)), (0, .ref b)]) (hf : cells ≤ room_1.cells ∧ slots ≤ room_1.slots)
    (kk : ∀ (σ' : Nat → hj_Ob) (bf' : Nat → Nat) (τ' : hj_Ob) (sd' : Int64) (H1 : Heap) (locs1 : List Loc), lr (B + 1) σ' bf' τ' → lw_I g ad am σ' bf' τ' sd' sd' H1 → va_S (lw_A s) s.heap H1 locs1 → W p l e room_1 s m args below meth c H1 locs1 cells slots Q (F0 m 950 ls [])) :
    W p l e room_1 s m args below meth c H locs cells slots Q (F0 m 364 ls []) := by
  obtain ⟨hx, hb, hml, hown, hts, hX, hbl, hL, hK, hF, hZ⟩ := C
  obtain ⟨r, σ', τ', e1, e2, hr⟩ := lr_undo (sd := sd) h  
  refine lv_aload_n hx hb dL_law_364 rfl (lv_at hl 2 rfl) ?_
  refine lw_xi (nL := 4) (As := []) (rest := []) (C := RX5) (T := TX5) (N := 10) (ci := 5) ⟨hx, hb, hml, hown, hts⟩ (ctX5_undo l g hF.1 e1) (cwV 0 hts gL_law_X5_undo rfl rfl rfl (by decide +kernel) ⟨Nat.le_of_ble_eq_true rfl, Nat.le_of_ble_eq_true rfl⟩) hj_Xb0 (fun _ _ _ => trivial) hK hF hI hS rfl rfl rfl hl.1 rfl (Nat.le_of_ble_eq_true rfl) dL_law_365 hf (fun H locs hI hS => ?_)
  refine lv_aload_n hx hb dL_law_368 rfl (lv_at hl 1 rfl) ?_
  refine lw_mi (nL := 4) (As := []) (rest := [.int r]) (C := RX6) (T := TX6) (N := 24) (ci := 6) ⟨hx, hb, hml, hown, hts⟩ (ctX6_undo l g hF.2.1 e2) (cwV 0 hts gL_law_X6_undo rfl rfl rfl (by decide +kernel) ⟨Nat.le_of_ble_eq_true rfl, Nat.le_of_ble_eq_true rfl⟩) hj_Xb0 (fun _ _ _ => trivial) hK hF hI hS rfl rfl rfl hl.1 rfl (Nat.le_of_ble_eq_true rfl) dL_law_369 hf (fun H locs hI hS => ?_)
  refine lv_icmp_eq (tgt := 950) hx hb dL_law_372 (by decide) (fun _ => ?_) (fun q => absurd rfl q)
  exact kk σ' bf τ' sd H locs (lr_up hr (Nat.le_succ B)) hI hS
set_option maxHeartbeats 4000000 in
set_option maxRecDepth 100000 in
theorem lw_c11 {p : Program} {e : Env} {s : State} {m : MethodId} {args : Array Value} {below : List Frame} {meth : Method} {c : Code} {H : Heap} {locs : List Loc} {cells slots : Nat} {Q : State → Prop} {l : Launch} {ls : Array Slot} {g : hj_G} {ad am : Nat → Nat} {σ : Nat → hj_Ob} {bf : Nat → Nat} {τ : hj_Ob} {sd : Int64} {b L : Nat} {xs : Nat → Int32} {i B : Nat} (C : lw_Cx p s m args meth c b L xs g ad am) (hi : i + 4 ≤ L) (h : lr B σ bf τ) (hB : B < 2 ^ 20) (hB0 : 0 < B) (hI : lw_I g ad am σ bf τ sd sd H) (hS : va_S (lw_A s) s.heap H locs) (hl : lv_has ls 4 [(3, .int (nI i)), (2, .ref (am 0)), (1, .ref (ad 0)), (0, .ref b)]) (hf : cells ≤ room_1.cells ∧ slots ≤ room_1.slots)
    (kk : ∀ (σ' : Nat → hj_Ob) (bf' : Nat → Nat) (τ' : hj_Ob) (sd' : Int64) (H1 : Heap) (locs1 : List Loc), lr (B + 1) σ' bf' τ' → lw_I g ad am σ' bf' τ' sd' sd' H1 → va_S (lw_A s) s.heap H1 locs1 → W p l e room_1 s m args below meth c H1 locs1 cells slots Q (F0 m 950 ls [])) :
    W p l e room_1 s m args below meth c H locs cells slots Q (F0 m 377 ls []) := by
  obtain ⟨hx, hb, hml, hown, hts, hX, hbl, hL, hK, hF, hZ⟩ := C
  obtain ⟨r, σ', τ', e1, e2, hr⟩ := lr_ahead (sd := sd) h hB (xs (i + 1))
  refine lv_aload_n hx hb dL_law_377 rfl (lv_at hl 2 rfl) ?_
  refine lw_arg1 hx hb hX hbl hS hl hi hL dL_law_378 dL_law_379 dL_law_380 dL_law_381 dL_law_382 ?_
  refine lw_xi (nL := 4) (As := [.int (xs (i + 1))]) (rest := []) (C := RX5) (T := TX5) (N := 10) (ci := 5) ⟨hx, hb, hml, hown, hts⟩ (ctX5_ahead l g hF.1 e1) (cwV 1 hts gL_law_X5_ahead rfl rfl rfl (by decide +kernel) ⟨Nat.le_of_ble_eq_true rfl, Nat.le_of_ble_eq_true rfl⟩) hj_Xb0 (fun _ _ _ => trivial) hK hF hI hS rfl rfl rfl hl.1 rfl (Nat.le_of_ble_eq_true rfl) dL_law_383 hf (fun H locs hI hS => ?_)
  refine lv_aload_n hx hb dL_law_386 rfl (lv_at hl 1 rfl) ?_
  refine lw_arg1 hx hb hX hbl hS hl hi hL dL_law_387 dL_law_388 dL_law_389 dL_law_390 dL_law_391 ?_
  refine lw_mi (nL := 4) (As := [.int (xs (i + 1))]) (rest := [.int r]) (C := RX6) (T := TX6) (N := 24) (ci := 6) ⟨hx, hb, hml, hown, hts⟩ (ctX6_ahead l g hF.2.1 e2) (cwV 1 hts gL_law_X6_ahead rfl rfl rfl (by decide +kernel) ⟨Nat.le_of_ble_eq_true rfl, Nat.le_of_ble_eq_true rfl⟩) hj_Xb0 (fun _ _ _ => trivial) hK hF hI hS rfl rfl rfl hl.1 rfl (Nat.le_of_ble_eq_true rfl) dL_law_392 hf (fun H locs hI hS => ?_)
  refine lv_icmp_eq (tgt := 950) hx hb dL_law_395 (by decide) (fun _ => ?_) (fun q => absurd rfl q)
  exact kk σ' bf τ' sd H locs (lr_up hr (Nat.le_succ B)) hI hS
set_option maxHeartbeats 4000000 in
set_option maxRecDepth 100000 in
theorem lw_c12 {p : Program} {e : Env} {s : State} {m : MethodId} {args : Array Value} {below : List Frame} {meth : Method} {c : Code} {H : Heap} {locs : List Loc} {cells slots : Nat} {Q : State → Prop} {l : Launch} {ls : Array Slot} {g : hj_G} {ad am : Nat → Nat} {σ : Nat → hj_Ob} {bf : Nat → Nat} {τ : hj_Ob} {sd : Int64} {b L : Nat} {xs : Nat → Int32} {i B : Nat} (C : lw_Cx p s m args meth c b L xs g ad am) (hi : i + 4 ≤ L) (h : lr B σ bf τ) (hB : B < 2 ^ 20) (hB0 : 0 < B) (hI : lw_I g ad am σ bf τ sd sd H) (hS : va_S (lw_A s) s.heap H locs) (hl : lv_has ls 4 [(3, .int (nI i)), (2, .ref (am 0)), (1, .ref (ad 0)), (0, .ref b)]) (hf : cells ≤ room_1.cells ∧ slots ≤ room_1.slots)
    (kk : ∀ (σ' : Nat → hj_Ob) (bf' : Nat → Nat) (τ' : hj_Ob) (sd' : Int64) (H1 : Heap) (locs1 : List Loc), lr (B + 1) σ' bf' τ' → lw_I g ad am σ' bf' τ' sd' sd' H1 → va_S (lw_A s) s.heap H1 locs1 → W p l e room_1 s m args below meth c H1 locs1 cells slots Q (F0 m 950 ls [])) :
    W p l e room_1 s m args below meth c H locs cells slots Q (F0 m 400 ls []) := by
  obtain ⟨hx, hb, hml, hown, hts, hX, hbl, hL, hK, hF, hZ⟩ := C
  obtain ⟨r, σ', τ', e1, e2, hr⟩ := lr_end (sd := sd) h hB (xs (i + 1))
  refine lv_aload_n hx hb dL_law_400 rfl (lv_at hl 2 rfl) ?_
  refine lw_arg1 hx hb hX hbl hS hl hi hL dL_law_401 dL_law_402 dL_law_403 dL_law_404 dL_law_405 ?_
  refine lw_xi (nL := 4) (As := [.int (xs (i + 1))]) (rest := []) (C := RX5) (T := TX5) (N := 10) (ci := 5) ⟨hx, hb, hml, hown, hts⟩ (ctX5_end l g hF.1 e1) (cwV 1 hts gL_law_X5_end rfl rfl rfl (by decide +kernel) ⟨Nat.le_of_ble_eq_true rfl, Nat.le_of_ble_eq_true rfl⟩) hj_Xb0 (fun _ _ _ => trivial) hK hF hI hS rfl rfl rfl hl.1 rfl (Nat.le_of_ble_eq_true rfl) dL_law_406 hf (fun H locs hI hS => ?_)
  refine lv_aload_n hx hb dL_law_409 rfl (lv_at hl 1 rfl) ?_
  refine lw_arg1 hx hb hX hbl hS hl hi hL dL_law_410 dL_law_411 dL_law_412 dL_law_413 dL_law_414 ?_
  refine lw_mi (nL := 4) (As := [.int (xs (i + 1))]) (rest := [.int r]) (C := RX6) (T := TX6) (N := 24) (ci := 6) ⟨hx, hb, hml, hown, hts⟩ (ctX6_end l g hF.2.1 e2) (cwV 1 hts gL_law_X6_end rfl rfl rfl (by decide +kernel) ⟨Nat.le_of_ble_eq_true rfl, Nat.le_of_ble_eq_true rfl⟩) hj_Xb0 (fun _ _ _ => trivial) hK hF hI hS rfl rfl rfl hl.1 rfl (Nat.le_of_ble_eq_true rfl) dL_law_415 hf (fun H locs hI hS => ?_)
  refine lv_icmp_eq (tgt := 950) hx hb dL_law_418 (by decide) (fun _ => ?_) (fun q => absurd rfl q)
  exact kk σ' bf τ' sd H locs (lr_up hr (Nat.le_succ B)) hI hS
set_option maxHeartbeats 4000000 in
set_option maxRecDepth 100000 in
theorem lw_c13 {p : Program} {e : Env} {s : State} {m : MethodId} {args : Array Value} {below : List Frame} {meth : Method} {c : Code} {H : Heap} {locs : List Loc} {cells slots : Nat} {Q : State → Prop} {l : Launch} {ls : Array Slot} {g : hj_G} {ad am : Nat → Nat} {σ : Nat → hj_Ob} {bf : Nat → Nat} {τ : hj_Ob} {sd : Int64} {b L : Nat} {xs : Nat → Int32} {i B : Nat} (C : lw_Cx p s m args meth c b L xs g ad am) (hi : i + 4 ≤ L) (h : lr B σ bf τ) (hB : B < 2 ^ 20) (hB0 : 0 < B) (hI : lw_I g ad am σ bf τ sd sd H) (hS : va_S (lw_A s) s.heap H locs) (hl : lv_has ls 4 [(3, .int (nI i)), (2, .ref (am 0)), (1, .ref (ad 0)), (0, .ref b)]) (hf : cells ≤ room_1.cells ∧ slots ≤ room_1.slots)
    (kk : ∀ (σ' : Nat → hj_Ob) (bf' : Nat → Nat) (τ' : hj_Ob) (sd' : Int64) (H1 : Heap) (locs1 : List Loc), lr (B + 1) σ' bf' τ' → lw_I g ad am σ' bf' τ' sd' sd' H1 → va_S (lw_A s) s.heap H1 locs1 → W p l e room_1 s m args below meth c H1 locs1 cells slots Q (F0 m 950 ls [])) :
    W p l e room_1 s m args below meth c H locs cells slots Q (F0 m 423 ls []) := by
  obtain ⟨hx, hb, hml, hown, hts, hX, hbl, hL, hK, hF, hZ⟩ := C
  obtain ⟨r, σ', τ', e1, e2, hr⟩ := lr_gives (sd := sd) h hB (xs (i + 1))
  refine lv_aload_n hx hb dL_law_423 rfl (lv_at hl 2 rfl) ?_
  refine lw_arg1 hx hb hX hbl hS hl hi hL dL_law_424 dL_law_425 dL_law_426 dL_law_427 dL_law_428 ?_
  refine lw_xi (nL := 4) (As := [.int (xs (i + 1))]) (rest := []) (C := RX5) (T := TX5) (N := 10) (ci := 5) ⟨hx, hb, hml, hown, hts⟩ (ctX5_gives l g hF.1 e1) (cwV 1 hts gL_law_X5_gives rfl rfl rfl (by decide +kernel) ⟨Nat.le_of_ble_eq_true rfl, Nat.le_of_ble_eq_true rfl⟩) hj_Xb0 (fun _ _ _ => trivial) hK hF hI hS rfl rfl rfl hl.1 rfl (Nat.le_of_ble_eq_true rfl) dL_law_429 hf (fun H locs hI hS => ?_)
  refine lv_aload_n hx hb dL_law_432 rfl (lv_at hl 1 rfl) ?_
  refine lw_arg1 hx hb hX hbl hS hl hi hL dL_law_433 dL_law_434 dL_law_435 dL_law_436 dL_law_437 ?_
  refine lw_mi (nL := 4) (As := [.int (xs (i + 1))]) (rest := [.int r]) (C := RX6) (T := TX6) (N := 24) (ci := 6) ⟨hx, hb, hml, hown, hts⟩ (ctX6_gives l g hF.2.1 e2) (cwV 1 hts gL_law_X6_gives rfl rfl rfl (by decide +kernel) ⟨Nat.le_of_ble_eq_true rfl, Nat.le_of_ble_eq_true rfl⟩) hj_Xb0 (fun _ _ _ => trivial) hK hF hI hS rfl rfl rfl hl.1 rfl (Nat.le_of_ble_eq_true rfl) dL_law_438 hf (fun H locs hI hS => ?_)
  refine lv_icmp_eq (tgt := 950) hx hb dL_law_441 (by decide) (fun _ => ?_) (fun q => absurd rfl q)
  exact kk σ' bf τ' sd H locs (lr_up hr (Nat.le_succ B)) hI hS
