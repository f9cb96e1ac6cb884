/-! the law's cases 0 to 6 -/
set_option maxHeartbeats 4000000 in
set_option maxRecDepth 100000 in
theorem lw_c0 {p : Program} {e : Env} {s : State} {m : MethodId} {args : Array Value} {below : List Frame} {meth : Method} {c : Code} {H : Heap} {locs : List Loc} {cells slots : Nat} {Q : State → Prop} {l : Launch} {ls : Array Slot} {g : hj_G} {ad am : Nat → Nat} {σ : Nat → hj_Ob} {bf : Nat → Nat} {τ : hj_Ob} {sd : Int64} {b L : Nat} {xs : Nat → Int32} {i B : Nat} (C : lw_Cx p s m args meth c b L xs g ad am) (hi : i + 4 ≤ L) (h : lr B σ bf τ) (hB : B < 2 ^ 20) (hB0 : 0 < B) (hI : lw_I g ad am σ bf τ sd sd H) (hS : va_S (lw_A s) s.heap H locs) (hl : lv_has ls 4 [(3, .int (nI i)), (2, .ref (am 0)), (1, .ref (ad 0)), (0, .ref b)]) (hf : cells ≤ room_1.cells ∧ slots ≤ room_1.slots)
    (kk : ∀ (σ' : Nat → hj_Ob) (bf' : Nat → Nat) (τ' : hj_Ob) (sd' : Int64) (H1 : Heap) (locs1 : List Loc), lr (B + 1) σ' bf' τ' → lw_I g ad am σ' bf' τ' sd' sd' H1 → va_S (lw_A s) s.heap H1 locs1 → W p l e room_1 s m args below meth c H1 locs1 cells slots Q (F0 m 950 ls [])) :
    W p l e room_1 s m args below meth c H locs cells slots Q (F0 m 164 ls []) := by
  obtain ⟨hx, hb, hml, hown, hts, hX, hbl, hL, hK, hF, hZ⟩ := C
  obtain ⟨r, σ', τ', e1, e2, hr⟩ := lr_write (sd := sd) h  (xs (i + 1))
  refine lv_aload_n hx hb dL_law_164 rfl (lv_at hl 2 rfl) ?_
  refine lw_arg1 hx hb hX hbl hS hl hi hL dL_law_165 dL_law_166 dL_law_167 dL_law_168 dL_law_169 ?_
  refine lw_xi (nL := 4) (As := [.int (xs (i + 1))]) (rest := []) (C := RX5) (T := TX5) (N := 10) (ci := 5) ⟨hx, hb, hml, hown, hts⟩ (ctX5_write l g hF.1 e1) (cwV 1 hts gL_law_X5_write rfl rfl rfl (by decide +kernel) ⟨Nat.le_of_ble_eq_true rfl, Nat.le_of_ble_eq_true rfl⟩) hj_Xb0 (fun _ _ _ => trivial) hK hF hI hS rfl rfl rfl hl.1 rfl (Nat.le_of_ble_eq_true rfl) dL_law_170 hf (fun H locs hI hS => ?_)
  refine lv_aload_n hx hb dL_law_173 rfl (lv_at hl 1 rfl) ?_
  refine lw_arg1 hx hb hX hbl hS hl hi hL dL_law_174 dL_law_175 dL_law_176 dL_law_177 dL_law_178 ?_
  refine lw_mi (nL := 4) (As := [.int (xs (i + 1))]) (rest := [.int r]) (C := RX6) (T := TX6) (N := 24) (ci := 6) ⟨hx, hb, hml, hown, hts⟩ (ctX6_write l g hF.2.1 e2) (cwV 1 hts gL_law_X6_write rfl rfl rfl (by decide +kernel) ⟨Nat.le_of_ble_eq_true rfl, Nat.le_of_ble_eq_true rfl⟩) hj_Xb0 (fun _ _ _ => trivial) hK hF hI hS rfl rfl rfl hl.1 rfl (Nat.le_of_ble_eq_true rfl) dL_law_179 hf (fun H locs hI hS => ?_)
  refine lv_icmp_eq (tgt := 950) hx hb dL_law_182 (by decide) (fun _ => ?_) (fun q => absurd rfl q)
  exact kk σ' bf τ' sd H locs (lr_up hr (Nat.le_succ B)) hI hS
set_option maxHeartbeats 4000000 in
set_option maxRecDepth 100000 in
theorem lw_c1 {p : Program} {e : Env} {s : State} {m : MethodId} {args : Array Value} {below : List Frame} {meth : Method} {c : Code} {H : Heap} {locs : List Loc} {cells slots : Nat} {Q : State → Prop} {l : Launch} {ls : Array Slot} {g : hj_G} {ad am : Nat → Nat} {σ : Nat → hj_Ob} {bf : Nat → Nat} {τ : hj_Ob} {sd : Int64} {b L : Nat} {xs : Nat → Int32} {i B : Nat} (C : lw_Cx p s m args meth c b L xs g ad am) (hi : i + 4 ≤ L) (h : lr B σ bf τ) (hB : B < 2 ^ 20) (hB0 : 0 < B) (hI : lw_I g ad am σ bf τ sd sd H) (hS : va_S (lw_A s) s.heap H locs) (hl : lv_has ls 4 [(3, .int (nI i)), (2, .ref (am 0)), (1, .ref (ad 0)), (0, .ref b)]) (hf : cells ≤ room_1.cells ∧ slots ≤ room_1.slots)
    (kk : ∀ (σ' : Nat → hj_Ob) (bf' : Nat → Nat) (τ' : hj_Ob) (sd' : Int64) (H1 : Heap) (locs1 : List Loc), lr (B + 1) σ' bf' τ' → lw_I g ad am σ' bf' τ' sd' sd' H1 → va_S (lw_A s) s.heap H1 locs1 → W p l e room_1 s m args below meth c H1 locs1 cells slots Q (F0 m 950 ls [])) :
    W p l e room_1 s m args below meth c H locs cells slots Q (F0 m 187 ls []) := by
  obtain ⟨hx, hb, hml, hown, hts, hX, hbl, hL, hK, hF, hZ⟩ := C
  obtain ⟨r, σ', τ', e1, e2, hr⟩ := lr_wipe (sd := sd) h  
  refine lv_aload_n hx hb dL_law_187 rfl (lv_at hl 2 rfl) ?_
  refine lw_xi (nL := 4) (As := []) (rest := []) (C := RX5) (T := TX5) (N := 10) (ci := 5) ⟨hx, hb, hml, hown, hts⟩ (ctX5_wipe l g hF.1 e1) (cwV 0 hts gL_law_X5_wipe rfl rfl rfl (by decide +kernel) ⟨Nat.le_of_ble_eq_true rfl, Nat.le_of_ble_eq_true rfl⟩) hj_Xb0 (fun _ _ _ => trivial) hK hF hI hS rfl rfl rfl hl.1 rfl (Nat.le_of_ble_eq_true rfl) dL_law_188 hf (fun H locs hI hS => ?_)
  refine lv_aload_n hx hb dL_law_191 rfl (lv_at hl 1 rfl) ?_
  refine lw_mi (nL := 4) (As := []) (rest := [.int r]) (C := RX6) (T := TX6) (N := 24) (ci := 6) ⟨hx, hb, hml, hown, hts⟩ (ctX6_wipe l g hF.2.1 e2) (cwV 0 hts gL_law_X6_wipe rfl rfl rfl (by decide +kernel) ⟨Nat.le_of_ble_eq_true rfl, Nat.le_of_ble_eq_true rfl⟩) hj_Xb0 (fun _ _ _ => trivial) hK hF hI hS rfl rfl rfl hl.1 rfl (Nat.le_of_ble_eq_true rfl) dL_law_192 hf (fun H locs hI hS => ?_)
  refine lv_icmp_eq (tgt := 950) hx hb dL_law_195 (by decide) (fun _ => ?_) (fun q => absurd rfl q)
  exact kk σ' bf τ' sd H locs (lr_up hr (Nat.le_succ B)) hI hS
set_option maxHeartbeats 4000000 in
set_option maxRecDepth 100000 in
theorem lw_c2 {p : Program} {e : Env} {s : State} {m : MethodId} {args : Array Value} {below : List Frame} {meth : Method} {c : Code} {H : Heap} {locs : List Loc} {cells slots : Nat} {Q : State → Prop} {l : Launch} {ls : Array Slot} {g : hj_G} {ad am : Nat → Nat} {σ : Nat → hj_Ob} {bf : Nat → Nat} {τ : hj_Ob} {sd : Int64} {b L : Nat} {xs : Nat → Int32} {i B : Nat} (C : lw_Cx p s m args meth c b L xs g ad am) (hi : i + 4 ≤ L) (h : lr B σ bf τ) (hB : B < 2 ^ 20) (hB0 : 0 < B) (hI : lw_I g ad am σ bf τ sd sd H) (hS : va_S (lw_A s) s.heap H locs) (hl : lv_has ls 4 [(3, .int (nI i)), (2, .ref (am 0)), (1, .ref (ad 0)), (0, .ref b)]) (hf : cells ≤ room_1.cells ∧ slots ≤ room_1.slots)
    (kk : ∀ (σ' : Nat → hj_Ob) (bf' : Nat → Nat) (τ' : hj_Ob) (sd' : Int64) (H1 : Heap) (locs1 : List Loc), lr (B + 1) σ' bf' τ' → lw_I g ad am σ' bf' τ' sd' sd' H1 → va_S (lw_A s) s.heap H1 locs1 → W p l e room_1 s m args below meth c H1 locs1 cells slots Q (F0 m 950 ls [])) :
    W p l e room_1 s m args below meth c H locs cells slots Q (F0 m 200 ls []) := by
  obtain ⟨hx, hb, hml, hown, hts, hX, hbl, hL, hK, hF, hZ⟩ := C
  obtain ⟨r, σ', τ', e1, e2, hr⟩ := lr_fault (sd := sd) h  
  refine lv_aload_n hx hb dL_law_200 rfl (lv_at hl 2 rfl) ?_
  refine lw_xi (nL := 4) (As := []) (rest := []) (C := RX5) (T := TX5) (N := 10) (ci := 5) ⟨hx, hb, hml, hown, hts⟩ (ctX5_fault l g hF.1 e1) (cwV 0 hts gL_law_X5_fault rfl rfl rfl (by decide +kernel) ⟨Nat.le_of_ble_eq_true rfl, Nat.le_of_ble_eq_true rfl⟩) hj_Xb0 (fun _ _ _ => trivial) hK hF hI hS rfl rfl rfl hl.1 rfl (Nat.le_of_ble_eq_true rfl) dL_law_201 hf (fun H locs hI hS => ?_)
  refine lv_aload_n hx hb dL_law_204 rfl (lv_at hl 1 rfl) ?_
  refine lw_mi (nL := 4) (As := []) (rest := [.int r]) (C := RX6) (T := TX6) (N := 24) (ci := 6) ⟨hx, hb, hml, hown, hts⟩ (ctX6_fault l g hF.2.1 e2) (cwV 0 hts gL_law_X6_fault rfl rfl rfl (by decide +kernel) ⟨Nat.le_of_ble_eq_true rfl, Nat.le_of_ble_eq_true rfl⟩) hj_Xb0 (fun _ _ _ => trivial) hK hF hI hS rfl rfl rfl hl.1 rfl (Nat.le_of_ble_eq_true rfl) dL_law_205 hf (fun H locs hI hS => ?_)
  refine lv_icmp_eq (tgt := 950) hx hb dL_law_208 (by decide) (fun _ => ?_) (fun q => absurd rfl q)
  exact kk σ' bf τ' sd H locs (lr_up hr (Nat.le_succ B)) hI hS
set_option maxHeartbeats 4000000 in
set_option maxRecDepth 100000 in
theorem lw_c3 {p : Program} {e : Env} {s : State} {m : MethodId} {args : Array Value} {below : List Frame} {meth : Method} {c : Code} {H : Heap} {locs : List Loc} {cells slots : Nat} {Q : State → Prop} {l : Launch} {ls : Array Slot} {g : hj_G} {ad am : Nat → Nat} {σ : Nat → hj_Ob} {bf : Nat → Nat} {τ : hj_Ob} {sd : Int64} {b L : Nat} {xs : Nat → Int32} {i B : Nat} (C : lw_Cx p s m args meth c b L xs g ad am) (hi : i + 4 ≤ L) (h : lr B σ bf τ) (hB : B < 2 ^ 20) (hB0 : 0 < B) (hI : lw_I g ad am σ bf τ sd sd H) (hS : va_S (lw_A s) s.heap H locs) (hl : lv_has ls 4 [(3, .int (nI i)), (2, .ref (am 0)), (1, .ref (ad 0)), (0, .ref b)]) (hf : cells ≤ room_1.cells ∧ slots ≤ room_1.slots)
    (kk : ∀ (σ' : Nat → hj_Ob) (bf' : Nat → Nat) (τ' : hj_Ob) (sd' : Int64) (H1 : Heap) (locs1 : List Loc), lr (B + 1) σ' bf' τ' → lw_I g ad am σ' bf' τ' sd' sd' H1 → va_S (lw_A s) s.heap H1 locs1 → W p l e room_1 s m args below meth c H1 locs1 cells slots Q (F0 m 950 ls [])) :
    W p l e room_1 s m args below meth c H locs cells slots Q (F0 m 213 ls []) := by
  obtain ⟨hx, hb, hml, hown, hts, hX, hbl, hL, hK, hF, hZ⟩ := C
  obtain ⟨r, σ', τ', e1, e2, hr⟩ := lr_jury (sd := sd) h hB0 
  refine lv_aload_n hx hb dL_law_213 rfl (lv_at hl 2 rfl) ?_
  refine lw_xi (nL := 4) (As := []) (rest := []) (C := RX5) (T := TX5) (N := 10) (ci := 5) ⟨hx, hb, hml, hown, hts⟩ (ctX5_jury l g hF.1 e1) (cwV 0 hts gL_law_X5_jury rfl rfl rfl (by decide +kernel) ⟨Nat.le_of_ble_eq_true rfl, Nat.le_of_ble_eq_true rfl⟩) hj_Xb0 (fun _ _ _ => trivial) hK hF hI hS rfl rfl rfl hl.1 rfl (Nat.le_of_ble_eq_true rfl) dL_law_214 hf (fun H locs hI hS => ?_)
  refine lv_aload_n hx hb dL_law_217 rfl (lv_at hl 1 rfl) ?_
  refine lw_mi (nL := 4) (As := []) (rest := [.int r]) (C := RX6) (T := TX6) (N := 24) (ci := 6) ⟨hx, hb, hml, hown, hts⟩ (ctX6_jury l g hF.2.1 e2) (cwV 0 hts gL_law_X6_jury rfl rfl rfl (by decide +kernel) ⟨Nat.le_of_ble_eq_true rfl, Nat.le_of_ble_eq_true rfl⟩) hj_Xb0 (fun _ _ _ => trivial) hK hF hI hS rfl rfl rfl hl.1 rfl (Nat.le_of_ble_eq_true rfl) dL_law_218 hf (fun H locs hI hS => ?_)
  refine lv_icmp_eq (tgt := 950) hx hb dL_law_221 (by decide) (fun _ => ?_) (fun q => absurd rfl q)
  exact kk σ' bf τ' sd H locs (lr_up hr (Nat.le_succ B)) hI hS
set_option maxHeartbeats 4000000 in
set_option maxRecDepth 100000 in
theorem lw_c4 {p : Program} {e : Env} {s : State} {m : MethodId} {args : Array Value} {below : List Frame} {meth : Method} {c : Code} {H : Heap} {locs : List Loc} {cells slots : Nat} {Q : State → Prop} {l : Launch} {ls : Array Slot} {g : hj_G} {ad am : Nat → Nat} {σ : Nat → hj_Ob} {bf : Nat → Nat} {τ : hj_Ob} {sd : Int64} {b L : Nat} {xs : Nat → Int32} {i B : Nat} (C : lw_Cx p s m args meth c b L xs g ad am) (hi : i + 4 ≤ L) (h : lr B σ bf τ) (hB : B < 2 ^ 20) (hB0 : 0 < B) (hI : lw_I g ad am σ bf τ sd sd H) (hS : va_S (lw_A s) s.heap H locs) (hl : lv_has ls 4 [(3, .int (nI i)), (2, .ref (am 0)), (1, .ref (ad 0)), (0, .ref b)]) (hf : cells ≤ room_1.cells ∧ slots ≤ room_1.slots)
    (kk : ∀ (σ' : Nat → hj_Ob) (bf' : Nat → Nat) (τ' : hj_Ob) (sd' : Int64) (H1 : Heap) (locs1 : List Loc), lr (B + 1) σ' bf' τ' → lw_I g ad am σ' bf' τ' sd' sd' H1 → va_S (lw_A s) s.heap H1 locs1 → W p l e room_1 s m args below meth c H1 locs1 cells slots Q (F0 m 950 ls [])) :
    W p l e room_1 s m args below meth c H locs cells slots Q (F0 m 226 ls []) := by
  obtain ⟨hx, hb, hml, hown, hts, hX, hbl, hL, hK, hF, hZ⟩ := C
  obtain ⟨r, e1, e2⟩ := lr_juror (sd := sd) h  (xs (i + 1)) (xs (i + 2))
  refine lv_aload_n hx hb dL_law_226 rfl (lv_at hl 2 rfl) ?_
  refine lw_arg1 hx hb hX hbl hS hl hi hL dL_law_227 dL_law_228 dL_law_229 dL_law_230 dL_law_231 ?_
  refine lw_arg2 hx hb hX hbl hS hl hi hL dL_law_232 dL_law_233 dL_law_234 dL_law_235 dL_law_236 ?_
  refine lw_xi (nL := 4) (As := [.int (xs (i + 1)), .int (xs (i + 2))]) (rest := []) (C := RX5) (T := TX5) (N := 10) (ci := 5) ⟨hx, hb, hml, hown, hts⟩ (ctX5_juror l g hF.1 e1) (cwV 2 hts gL_law_X5_juror rfl rfl rfl (by decide +kernel) ⟨Nat.le_of_ble_eq_true rfl, Nat.le_of_ble_eq_true rfl⟩) hj_Xb0 (fun _ _ _ => trivial) hK hF hI hS rfl rfl rfl hl.1 rfl (Nat.le_of_ble_eq_true rfl) dL_law_237 hf (fun H locs hI hS => ?_)
  refine lv_aload_n hx hb dL_law_240 rfl (lv_at hl 1 rfl) ?_
  refine lw_arg1 hx hb hX hbl hS hl hi hL dL_law_241 dL_law_242 dL_law_243 dL_law_244 dL_law_245 ?_
  refine lw_arg2 hx hb hX hbl hS hl hi hL dL_law_246 dL_law_247 dL_law_248 dL_law_249 dL_law_250 ?_
  refine lw_mi (nL := 4) (As := [.int (xs (i + 1)), .int (xs (i + 2))]) (rest := [.int r]) (C := RX6) (T := TX6) (N := 24) (ci := 6) ⟨hx, hb, hml, hown, hts⟩ (ctX6_juror l g hF.2.1 e2) (cwV 2 hts gL_law_X6_juror rfl rfl rfl (by decide +kernel) ⟨Nat.le_of_ble_eq_true rfl, Nat.le_of_ble_eq_true rfl⟩) hj_Xb0 (fun _ _ _ => trivial) hK hF hI hS rfl rfl rfl hl.1 rfl (Nat.le_of_ble_eq_true rfl) dL_law_251 hf (fun H locs hI hS => ?_)
  refine lv_icmp_eq (tgt := 950) hx hb dL_law_254 (by decide) (fun _ => ?_) (fun q => absurd rfl q)
  exact kk σ bf τ sd H locs (lr_up h (Nat.le_succ B)) hI hS
set_option maxHeartbeats 4000000 in
set_option maxRecDepth 100000 in
theorem lw_c5 {p : Program} {e : Env} {s : State} {m : MethodId} {args : Array Value} {below : List Frame} {meth : Method} {c : Code} {H : Heap} {locs : List Loc} {cells slots : Nat} {Q : State → Prop} {l : Launch} {ls : Array Slot} {g : hj_G} {ad am : Nat → Nat} {σ : Nat → hj_Ob} {bf : Nat → Nat} {τ : hj_Ob} {sd : Int64} {b L : Nat} {xs : Nat → Int32} {i B : Nat} (C : lw_Cx p s m args meth c b L xs g ad am) (hi : i + 4 ≤ L) (h : lr B σ bf τ) (hB : B < 2 ^ 20) (hB0 : 0 < B) (hI : lw_I g ad am σ bf τ sd sd H) (hS : va_S (lw_A s) s.heap H locs) (hl : lv_has ls 4 [(3, .int (nI i)), (2, .ref (am 0)), (1, .ref (ad 0)), (0, .ref b)]) (hf : cells ≤ room_1.cells ∧ slots ≤ room_1.slots)
    (kk : ∀ (σ' : Nat → hj_Ob) (bf' : Nat → Nat) (τ' : hj_Ob) (sd' : Int64) (H1 : Heap) (locs1 : List Loc), lr (B + 1) σ' bf' τ' → lw_I g ad am σ' bf' τ' sd' sd' H1 → va_S (lw_A s) s.heap H1 locs1 → W p l e room_1 s m args below meth c H1 locs1 cells slots Q (F0 m 950 ls [])) :
    W p l e room_1 s m args below meth c H locs cells slots Q (F0 m 259 ls []) := by
  obtain ⟨hx, hb, hml, hown, hts, hX, hbl, hL, hK, hF, hZ⟩ := C
  obtain ⟨r, σ', bf', τ', e1, e2, hr⟩ := lr_hour (sd := sd) h hB 
  refine lv_aload_n hx hb dL_law_259 rfl (lv_at hl 2 rfl) ?_
  refine lw_xi (nL := 4) (As := []) (rest := []) (C := RX5) (T := TX5) (N := 10) (ci := 5) ⟨hx, hb, hml, hown, hts⟩ (ctX5_hour l g hF.1 e1) (cwV 0 hts gL_law_X5_hour rfl rfl rfl (by decide +kernel) ⟨Nat.le_of_ble_eq_true rfl, Nat.le_of_ble_eq_true rfl⟩) hj_Xb0 (fun _ _ _ => trivial) hK hF hI hS rfl rfl rfl hl.1 rfl (Nat.le_of_ble_eq_true rfl) dL_law_260 hf (fun H locs hI hS => ?_)
  refine lv_aload_n hx hb dL_law_263 rfl (lv_at hl 1 rfl) ?_
  refine lw_mi (nL := 4) (As := []) (rest := [.int r]) (C := RX6) (T := TX6) (N := 24) (ci := 6) ⟨hx, hb, hml, hown, hts⟩ (ctX6_hour l g hF.2.1 e2) (cwV 0 hts gL_law_X6_hour rfl rfl rfl (by decide +kernel) ⟨Nat.le_of_ble_eq_true rfl, Nat.le_of_ble_eq_true rfl⟩) hj_Xb0 (fun _ _ _ => trivial) hK hF hI hS rfl rfl rfl hl.1 rfl (Nat.le_of_ble_eq_true rfl) dL_law_264 hf (fun H locs hI hS => ?_)
  refine lv_icmp_eq (tgt := 950) hx hb dL_law_267 (by decide) (fun _ => ?_) (fun q => absurd rfl q)
  exact kk σ' bf' τ' sd H locs hr hI hS
set_option maxHeartbeats 4000000 in
set_option maxRecDepth 100000 in
theorem lw_c6 {p : Program} {e : Env} {s : State} {m : MethodId} {args : Array Value} {below : List Frame} {meth : Method} {c : Code} {H : Heap} {locs : List Loc} {cells slots : Nat} {Q : State → Prop} {l : Launch} {ls : Array Slot} {g : hj_G} {ad am : Nat → Nat} {σ : Nat → hj_Ob} {bf : Nat → Nat} {τ : hj_Ob} {sd : Int64} {b L : Nat} {xs : Nat → Int32} {i B : Nat} (C : lw_Cx p s m args meth c b L xs g ad am) (hi : i + 4 ≤ L) (h : lr B σ bf τ) (hB : B < 2 ^ 20) (hB0 : 0 < B) (hI : lw_I g ad am σ bf τ sd sd H) (hS : va_S (lw_A s) s.heap H locs) (hl : lv_has ls 4 [(3, .int (nI i)), (2, .ref (am 0)), (1, .ref (ad 0)), (0, .ref b)]) (hf : cells ≤ room_1.cells ∧ slots ≤ room_1.slots)
    (kk : ∀ (σ' : Nat → hj_Ob) (bf' : Nat → Nat) (τ' : hj_Ob) (sd' : Int64) (H1 : Heap) (locs1 : List Loc), lr (B + 1) σ' bf' τ' → lw_I g ad am σ' bf' τ' sd' sd' H1 → va_S (lw_A s) s.heap H1 locs1 → W p l e room_1 s m args below meth c H1 locs1 cells slots Q (F0 m 950 ls [])) :
    W p l e room_1 s m args below meth c H locs cells slots Q (F0 m 272 ls []) := by
  obtain ⟨hx, hb, hml, hown, hts, hX, hbl, hL, hK, hF, hZ⟩ := C
  obtain ⟨r, σ', bf', τ', e1, e2, hr⟩ := lr_argue (sd := sd) h hB hB0 (xs (i + 1))
  refine lv_aload_n hx hb dL_law_272 rfl (lv_at hl 2 rfl) ?_
  refine lw_arg1 hx hb hX hbl hS hl hi hL dL_law_273 dL_law_274 dL_law_275 dL_law_276 dL_law_277 ?_
  refine lw_xi (nL := 4) (As := [.int (xs (i + 1))]) (rest := []) (C := RX5) (T := TX5) (N := 10) (ci := 5) ⟨hx, hb, hml, hown, hts⟩ (ctX5_argue l g hF.1 e1) (cwV 1 hts gL_law_X5_argue rfl rfl rfl (by decide +kernel) ⟨Nat.le_of_ble_eq_true rfl, Nat.le_of_ble_eq_true rfl⟩) hj_Xb0 (fun _ _ _ => trivial) hK hF hI hS rfl rfl rfl hl.1 rfl (Nat.le_of_ble_eq_true rfl) dL_law_278 hf (fun H locs hI hS => ?_)
  refine lv_aload_n hx hb dL_law_281 rfl (lv_at hl 1 rfl) ?_
  refine lw_arg1 hx hb hX hbl hS hl hi hL dL_law_282 dL_law_283 dL_law_284 dL_law_285 dL_law_286 ?_
  refine lw_mi (nL := 4) (As := [.int (xs (i + 1))]) (rest := [.int r]) (C := RX6) (T := TX6) (N := 24) (ci := 6) ⟨hx, hb, hml, hown, hts⟩ (ctX6_argue l g hF.2.1 e2) (cwV 1 hts gL_law_X6_argue rfl rfl rfl (by decide +kernel) ⟨Nat.le_of_ble_eq_true rfl, Nat.le_of_ble_eq_true rfl⟩) hj_Xb0 (fun _ _ _ => trivial) hK hF hI hS rfl rfl rfl hl.1 rfl (Nat.le_of_ble_eq_true rfl) dL_law_287 hf (fun H locs hI hS => ?_)
  refine lv_icmp_eq (tgt := 950) hx hb dL_law_290 (by decide) (fun _ => ?_) (fun q => absurd rfl q)
  exact kk σ' bf' τ' sd H locs hr hI hS
