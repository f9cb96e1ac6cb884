/-! the law: its loop -/
theorem lw_31 (x : Int32) : ∃ k, k < 32 ∧ x &&& 31 = nI k := by
  have h : (x &&& 31).toBitVec.toNat ≤ 31 := by
    rw [show (x &&& 31).toBitVec = x.toBitVec &&& (31 : Int32).toBitVec from rfl, BitVec.toNat_and]
    exact Nat.and_le_right
  refine ⟨(x &&& 31).toBitVec.toNat, by omega, Int32.toInt_inj.mp ?_⟩
  rw [nI_toInt (by omega)]
  show (x &&& 31).toBitVec.toInt = _
  exact BitVec.toInt_eq_toNat_of_lt (by omega)
set_option maxHeartbeats 4000000 in
set_option maxRecDepth 100000 in
theorem lw_sw {p : Program} {e : Env} {s : State} {m : MethodId} {below : List Frame} {meth : Method} {c : Code} {l : Launch} {g : hj_G} {ad am : Nat → Nat} {b L : Nat} {xs : Nat → Int32} {H : Heap} {locs : List Loc} {cells slots : Nat} {Q : State → Prop} {ls : Array Slot} {σ : Nat → hj_Ob} {bf : Nat → Nat} {τ : hj_Ob} {sd : Int64} {i B : Nat} (C : lw_Cx p s m #[.ref b] meth c b L xs g ad am) (hi : i + 4 ≤ L) (h : lr B σ bf τ) (hB : B < 2 ^ 20) (hB0 : 0 < B) (hI : lw_I g ad am σ bf τ sd sd H) (hS : va_S (lw_A s) s.heap H locs) (hl : lv_has ls 4 [(3, .int (nI i)), (2, .ref (am 0)), (1, .ref (ad 0)), (0, .ref b)]) (hf : cells ≤ room_1.cells ∧ slots ≤ room_1.slots)
    (kk : ∀ (σ' : Nat → hj_Ob) (bf' : Nat → Nat) (τ' : hj_Ob) (sd' : Int64) (H1 : Heap) (locs1 : List Loc), lr (B + 1) σ' bf' τ' → lw_I g ad am σ' bf' τ' sd' sd' H1 → va_S (lw_A s) s.heap H1 locs1 → W p l e room_1 s m #[.ref b] below meth c H1 locs1 cells slots Q (F0 m 950 ls [])) :
    W p l e room_1 s m #[.ref b] below meth c H locs cells slots Q (F0 m 26 ls []) := by
  obtain ⟨hx, hb, hml, hown, hts, hX, hbl, hL, hK, hF, hZ⟩ := id C
  refine lv_aload_n hx hb dL_law_26 rfl (lv_at hl 3 rfl) ?_
  refine lv_iload_n hx hb dL_law_27 rfl (lv_at hl 0 rfl) ?_
  refine va_sld hx hb hX hbl (Nat.not_le.mpr hbl) hS (show vp_in (nI i) L from fun q => by rcases q with q | q; exact ev_neg (by omega) q; rw [ev_cl (by omega)] at q; omega) dL_law_28 ?_
  refine lv_bipush (v := 31) hx hb dL_law_29 (by decide) ?_
  refine lv_iand hx hb dL_law_31 ?_
  obtain ⟨k, hk, ek⟩ := lw_31 (xs (nI i).toNatClampNeg)
  rw [ek]
  by_cases hk2 : 28 < k
  · refine lv_tableOut (tgt := 950) hx hb dL_law_32 (Or.inr (by rw [nI_toInt (by omega)]; omega)) (by decide) ?_
    exact kk σ bf τ sd H locs (lr_up h (Nat.le_succ B)) hI hS
  · rcases (show k = 0 ∨ k = 1 ∨ k = 2 ∨ k = 3 ∨ k = 4 ∨ k = 5 ∨ k = 6 ∨ k = 7 ∨ k = 8 ∨ k = 9 ∨ k = 10 ∨ k = 11 ∨ k = 12 ∨ k = 13 ∨ k = 14 ∨ k = 15 ∨ k = 16 ∨ k = 17 ∨ k = 18 ∨ k = 19 ∨ k = 20 ∨ k = 21 ∨ k = 22 ∨ k = 23 ∨ k = 24 ∨ k = 25 ∨ k = 26 ∨ k = 27 ∨ k = 28 by omega) with rfl | rfl | rfl | rfl | rfl | rfl | rfl | rfl | rfl | rfl | rfl | rfl | rfl | rfl | rfl | rfl | rfl | rfl | rfl | rfl | rfl | rfl | rfl | rfl | rfl | rfl | rfl | rfl | rfl
    · exact lv_tableIn (off := 132) (tgt := 164) hx hb dL_law_32 (by decide) (by decide) rfl (by decide) (lw_c0 C hi h hB hB0 hI hS hl hf kk)
    · exact lv_tableIn (off := 155) (tgt := 187) hx hb dL_law_32 (by decide) (by decide) rfl (by decide) (lw_c1 C hi h hB hB0 hI hS hl hf kk)
    · exact lv_tableIn (off := 168) (tgt := 200) hx hb dL_law_32 (by decide) (by decide) rfl (by decide) (lw_c2 C hi h hB hB0 hI hS hl hf kk)
    · exact lv_tableIn (off := 181) (tgt := 213) hx hb dL_law_32 (by decide) (by decide) rfl (by decide) (lw_c3 C hi h hB hB0 hI hS hl hf kk)
    · exact lv_tableIn (off := 194) (tgt := 226) hx hb dL_law_32 (by decide) (by decide) rfl (by decide) (lw_c4 C hi h hB hB0 hI hS hl hf kk)
    · exact lv_tableIn (off := 227) (tgt := 259) hx hb dL_law_32 (by decide) (by decide) rfl (by decide) (lw_c5 C hi h hB hB0 hI hS hl hf kk)
    · exact lv_tableIn (off := 240) (tgt := 272) hx hb dL_law_32 (by decide) (by decide) rfl (by decide) (lw_c6 C hi h hB hB0 hI hS hl hf kk)
    · exact lv_tableIn (off := 263) (tgt := 295) hx hb dL_law_32 (by decide) (by decide) rfl (by decide) (lw_c7 C hi h hB hB0 hI hS hl hf kk)
    · exact lv_tableIn (off := 286) (tgt := 318) hx hb dL_law_32 (by decide) (by decide) rfl (by decide) (lw_c8 C hi h hB hB0 hI hS hl hf kk)
    · exact lv_tableIn (off := 309) (tgt := 341) hx hb dL_law_32 (by decide) (by decide) rfl (by decide) (lw_c9 C hi h hB hB0 hI hS hl hf kk)
    · exact lv_tableIn (off := 332) (tgt := 364) hx hb dL_law_32 (by decide) (by decide) rfl (by decide) (lw_c10 C hi h hB hB0 hI hS hl hf kk)
    · exact lv_tableIn (off := 345) (tgt := 377) hx hb dL_law_32 (by decide) (by decide) rfl (by decide) (lw_c11 C hi h hB hB0 hI hS hl hf kk)
    · exact lv_tableIn (off := 368) (tgt := 400) hx hb dL_law_32 (by decide) (by decide) rfl (by decide) (lw_c12 C hi h hB hB0 hI hS hl hf kk)
    · exact lv_tableIn (off := 391) (tgt := 423) hx hb dL_law_32 (by decide) (by decide) rfl (by decide) (lw_c13 C hi h hB hB0 hI hS hl hf kk)
    · exact lv_tableIn (off := 414) (tgt := 446) hx hb dL_law_32 (by decide) (by decide) rfl (by decide) (lw_c14 C hi h hB hB0 hI hS hl hf kk)
    · exact lv_tableIn (off := 437) (tgt := 469) hx hb dL_law_32 (by decide) (by decide) rfl (by decide) (lw_c15 C hi h hB hB0 hI hS hl hf kk)
    · exact lv_tableIn (off := 460) (tgt := 492) hx hb dL_law_32 (by decide) (by decide) rfl (by decide) (lw_c16 C hi h hB hB0 hI hS hl hf kk)
    · exact lv_tableIn (off := 509) (tgt := 541) hx hb dL_law_32 (by decide) (by decide) rfl (by decide) (lw_c17 C hi h hB hB0 hI hS hl hf kk)
    · exact lv_tableIn (off := 542) (tgt := 574) hx hb dL_law_32 (by decide) (by decide) rfl (by decide) (lw_c18 C hi h hB hB0 hI hS hl hf kk)
    · exact lv_tableIn (off := 585) (tgt := 617) hx hb dL_law_32 (by decide) (by decide) rfl (by decide) (lw_c19 C hi h hB hB0 hI hS hl hf kk)
    · exact lv_tableIn (off := 598) (tgt := 630) hx hb dL_law_32 (by decide) (by decide) rfl (by decide) (lw_c20 C hi h hB hB0 hI hS hl hf kk)
    · exact lv_tableIn (off := 621) (tgt := 653) hx hb dL_law_32 (by decide) (by decide) rfl (by decide) (lw_c21 C hi h hB hB0 hI hS hl hf kk)
    · exact lv_tableIn (off := 670) (tgt := 702) hx hb dL_law_32 (by decide) (by decide) rfl (by decide) (lw_c22 C hi h hB hB0 hI hS hl hf kk)
    · exact lv_tableIn (off := 713) (tgt := 745) hx hb dL_law_32 (by decide) (by decide) rfl (by decide) (lw_c23 C hi h hB hB0 hI hS hl hf kk)
    · exact lv_tableIn (off := 772) (tgt := 804) hx hb dL_law_32 (by decide) (by decide) rfl (by decide) (lw_c24 C hi h hB hB0 hI hS hl hf kk)
    · exact lv_tableIn (off := 826) (tgt := 858) hx hb dL_law_32 (by decide) (by decide) rfl (by decide) (lw_c25 C hi h hB hB0 hI hS hl hf kk)
    · exact lv_tableIn (off := 849) (tgt := 881) hx hb dL_law_32 (by decide) (by decide) rfl (by decide) (lw_c26 C hi h hB hB0 hI hS hl hf kk)
    · exact lv_tableIn (off := 872) (tgt := 904) hx hb dL_law_32 (by decide) (by decide) rfl (by decide) (lw_c27 C hi h hB hB0 hI hS hl hf kk)
    · exact lv_tableIn (off := 895) (tgt := 927) hx hb dL_law_32 (by decide) (by decide) rfl (by decide) (lw_c28 C hi h hB hB0 hI hS hl hf kk)
theorem lw_le {L i : Nat} (hL : L ≤ 2048) (hi : i ≤ 4096) : (Int32.ofNat L - 4 < nI i) = (L < i + 4) := by
  rw [Int32.lt_iff_toInt_lt, nI_toInt (by omega), show (Int32.ofNat L - 4).toInt = (L : Int) - 4 from pk_sub_toInt (a := L) (b := 4) (by omega) (by omega)]
  apply propext
  omega
set_option maxHeartbeats 4000000 in
set_option maxRecDepth 100000 in
theorem lw_loop {p : Program} {e : Env} {s : State} {m : MethodId} {below : List Frame} {meth : Method} {c : Code} {l : Launch} {g : hj_G} {ad am : Nat → Nat} {b L : Nat} {xs : Nat → Int32} {cells slots : Nat} (C : lw_Cx p s m #[.ref b] meth c b L xs g ad am) (hr : meth.sig.returnType = ret) (hlocks : meth.locks = false) (hf : cells ≤ room_1.cells ∧ slots ≤ room_1.slots) :
    ∀ (d i B : Nat) (σ : Nat → hj_Ob) (bf : Nat → Nat) (τ : hj_Ob) (sd : Int64) (H : Heap) (locs : List Loc) (ls : Array Slot), i ≤ L + 4 → L < i + 4 * (d + 1) → B + d < 2 ^ 20 → 0 < B → lr B σ bf τ → lw_I g ad am σ bf τ sd sd H → va_S (lw_A s) s.heap H locs → lv_has ls 4 [(3, .int (nI i)), (2, .ref (am 0)), (1, .ref (ad 0)), (0, .ref b)] →
      W p l e room_1 s m #[.ref b] below meth c H locs cells slots (lw_Z below #[Value.ref b] s) (F0 m 18 ls []) := by
  obtain ⟨hx, hb, hml, hown, hts, hX, hbl, hL, hK, hF, hZ⟩ := id C
  intro d
  induction d with
  | zero =>
    intro i B σ bf τ sd H locs ls hi hd hB hB0 h hI hS hl
    refine lv_iload_n hx hb dL_law_18 rfl (lv_at hl 0 rfl) ?_
    refine lv_aload_n hx hb dL_law_19 rfl (lv_at hl 3 rfl) ?_
    refine va_slen hx hb hX hbl (Nat.not_le.mpr hbl) hS dL_law_20 ?_
    refine lv_iconst (v := 4) hx hb dL_law_21 (by decide) ?_
    refine lv_isub hx hb dL_law_22 ?_
    refine lv_icmp_gt (tgt := 956) hx hb dL_law_23 (by decide) (fun c2 => ?_) (fun c2 => ?_)
    · refine lv_iconst (v := 1) hx hb dL_law_956 (by decide) ?_
      refine va_forget (fun q hq => hS.2.2 q hq) ?_
      refine W.widen (k := 600000) (n := 7302250) hf.1 hf.2 ?_
      exact lw_ret hx hb hr hlocks dL_law_957
    · exact absurd (show L < i + 4 by omega) (by rw [lw_le hL (by omega)] at c2; exact c2)
  | succ d ih =>
    intro i B σ bf τ sd H locs ls hi hd hB hB0 h hI hS hl
    refine lv_iload_n hx hb dL_law_18 rfl (lv_at hl 0 rfl) ?_
    refine lv_aload_n hx hb dL_law_19 rfl (lv_at hl 3 rfl) ?_
    refine va_slen hx hb hX hbl (Nat.not_le.mpr hbl) hS dL_law_20 ?_
    refine lv_iconst (v := 4) hx hb dL_law_21 (by decide) ?_
    refine lv_isub hx hb dL_law_22 ?_
    refine lv_icmp_gt (tgt := 956) hx hb dL_law_23 (by decide) (fun c2 => ?_) (fun c2 => ?_)
    · refine lv_iconst (v := 1) hx hb dL_law_956 (by decide) ?_
      refine va_forget (fun q hq => hS.2.2 q hq) ?_
      refine W.widen (k := 600000) (n := 7302250) hf.1 hf.2 ?_
      exact lw_ret hx hb hr hlocks dL_law_957
    · rw [lw_le hL (by omega)] at c2
      refine lw_sw C (by omega) h (by omega) hB0 hI hS hl hf (fun σ' bf' τ' sd' H1 locs1 hr1 hI1 hS1 => ?_)
      refine lv_iinc (v := nI (i + 4)) (lv' := [(3, .int (nI (i + 4))), (2, .ref (am 0)), (1, .ref (ad 0)), (0, .ref b)]) hx hb dL_law_950 hl (k := 0) rfl (nI_add i 4) (by decide) rfl (fun ls hl => ?_)
      refine lv_goto (tgt := 18) hx hb dL_law_953 (by decide) ?_
      exact ih (i + 4) (B + 1) σ' bf' τ' sd' H1 locs1 ls (by omega) (by omega) (by omega) (by omega) hr1 hI1 hS1 hl
