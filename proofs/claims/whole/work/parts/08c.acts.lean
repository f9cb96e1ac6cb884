/-! the constructor of the row of acts -/
theorem nw_last {Y : va_W} {x : Nat × va_E} : (Y ++ [x])[Y.length]? = some x := by simp
theorem nw_setlast {Y : va_W} {x y : Nat × va_E} : (Y ++ [x]).set Y.length y = Y ++ [y] := by simp
def nw_rm (hp a b : Nat) : va_E := .inr (2, [.ref hp, .ref a, .ref b, .int 0, .int 0, .int 0])
def nw_T (g : hj_G) (hp : Nat) (u : Nat → Nat) : Nat → va_W
  | 0 => []
  | k + 1 => nw_T g hp u k ++ [(u (3 * k + 1), nw_rm hp (u (3 * k + 2)) (u (3 * k + 3))), (u (3 * k + 2), hj_aI g 6 (fun _ => 0)), (u (3 * k + 3), hj_aI g 6 (fun _ => 0))]
def nw_f (u : Nat → Nat) (i : Nat) : Nat → Option Nat := fun k => if k < i then some (u (3 * k + 1)) else none
theorem nw_T_c {g : hj_G} {hp : Nat} {u u' : Nat → Nat} : ∀ k, (∀ j, j ≤ 3 * k → u' j = u j) → nw_T g hp u' k = nw_T g hp u k
  | 0, _ => rfl
  | k + 1, h => by
    unfold nw_T
    rw [nw_T_c k (fun j hj => h j (by omega)), h (3 * k + 1) (by omega), h (3 * k + 2) (by omega), h (3 * k + 3) (by omega)]
theorem nw_f_c {u u' : Nat → Nat} {i : Nat} (h : ∀ j, j ≤ 3 * i → u' j = u j) : nw_f u' i = nw_f u i := by
  funext k
  unfold nw_f
  by_cases c : k < i
  · rw [if_pos c, if_pos c, h (3 * k + 1) (by omega)]
  · rw [if_neg c, if_neg c]
theorem nw_f_s {u : Nat → Nat} {i : Nat} : va_up (nw_f u i) i (some (u (3 * i + 1))) = nw_f u (i + 1) := by
  funext k
  unfold nw_f
  by_cases c : k = i
  · rw [c, va_up_self, if_pos (by omega)]
  · rw [va_up_ne _ _ c]
    by_cases d : k < i
    · rw [if_pos d, if_pos (by omega)]
    · rw [if_neg d, if_neg (by omega)]
theorem nw_f0 {u : Nat → Nat} : nw_f u 0 = fun _ => none := by
  funext k
  unfold nw_f
  rw [if_neg (Nat.not_lt_zero k)]
set_option maxHeartbeats 4000000 in
set_option maxRecDepth 100000 in
theorem ctX0_init (l : Launch) (g : hj_G) (h0 k0 hp : Nat) (w0 : va_W) (hw : w0[k0]? = some (h0, .inr (0, [.null, .int 0]))) : nw_M l yX0_init wsX0_init ({ frames := 2, cells := 43, slots := 266, locals := 34 }) g [.ref h0, .ref hp] w0 (fun u => w0.set k0 (h0, .inr (0, [.ref (u 0), .int 0])) ++ [(u 0, hj_aR g 14 (nw_f u 14))] ++ nw_T g hp u 14) 43 266 := by
  refine nw_of (cc := cX0_init) (maxL := 3) (by decide) rfl rfl (Nat.le_of_ble_eq_true rfl) ?_
  intro p e s m args below meth c ls A C hin hA hP hK hD hO hl
  obtain ⟨hx, hb, hr, hml, hown, hts, hlocks⟩ := id C
  have hS : va_S A s.heap s.heap [] := va_S.rf
  have hl : lv_has ls 3 [(0, .ref h0), (1, .ref hp)] := hl
  refine lv_aload_n hx hb dX0_init_0 rfl (lv_at hl 0 rfl) ?_
  refine W.objInit hx hb hown (hts (.methodLink RX0 3 objectInit) (by decide +kernel)) (hts (.instanceMethod objectInit) (by decide +kernel)) (hts _ (List.mem_cons_of_mem _ (List.mem_append_left _ (List.mem_append_left _ (List.mem_of_getElem? (i := 2) rfl))))) rfl (by rw [hml]; exact hl.1) rfl dX0_init_1 (Nat.le_of_ble_eq_true rfl) (Nat.le_of_ble_eq_true rfl) ?_
  refine W.eq (g2 := F0 m 4 ls []) rfl ?_
  refine lv_aload_n hx hb dX0_init_4 rfl (lv_at hl 0 rfl) ?_
  refine lv_bipush (v := 14) hx hb dX0_init_5 (by decide) ?_
  refine nw_ar hx hb hown (hts (.classLink RX0 9 RX2) (by decide +kernel)) hO.1 hK hP hD hS hA (N := 14) (by decide) rfl (by decide) (Nat.le_of_ble_eq_true rfl) (Nat.le_of_ble_eq_true rfl) dX0_init_7 (fun q1 H hP hD hS => ?_)
  refine va_putF (D := g.1) (ci := 0) (v := .ref q1) (ty := tyX0 0) (C := RX0) (T := TX0) (N := 2) hx hb hts (by decide +kernel) tyX0 tyX0_ok nmX0 hown hK hP hD hS k0 (nw_getl hw) rfl 0 (by decide) (hts (.fieldLink RX0 11 "HungryJury$Acts" "before" "[LHungryJury$Room;") (by decide +kernel)) (fun _ h9 => h9) rfl hin rfl (by decide +kernel) rfl rfl (Nat.le_of_ble_eq_true rfl) dX0_init_10 (fun H locs hP hD hS => ?_)
  rw [nw_set (nw_lt hw)] at hP hD
  have hP : va_P g.1 vwCl (w0.set k0 (h0, .inr (0, [.ref q1, .int 0])) ++ [(q1, hj_aR g 14 (fun _ => none))]) H := hP
  have hD : va_D A (w0.set k0 (h0, .inr (0, [.ref q1, .int 0])) ++ [(q1, hj_aR g 14 (fun _ => none))]) := hD
  generalize hX : w0.set k0 (h0, .inr (0, [.ref q1, .int 0])) = X at hP hD
  have hX0 : X[k0]? = some (h0, .inr (0, [.ref q1, .int 0])) := by rw [← hX]; exact nw_gets hw
  refine lv_iconst (v := 0) hx hb dX0_init_13 (by decide) ?_
  refine lv_istore_n (lv' := [(2, .int (nI 0)), (0, .ref h0), (1, .ref hp)]) hx hb dX0_init_14 rfl hl (by decide) rfl (fun ls hl => ?_)
  have loop : ∀ (d i : Nat) (u : Nat → Nat) (H : Heap) (locs : List Loc) (ls : Array Slot), i + d = 14 → u 0 = q1 → va_P g.1 vwCl (X ++ [(q1, hj_aR g 14 (nw_f u i))] ++ nw_T g hp u i) H → va_D A (X ++ [(q1, hj_aR g 14 (nw_f u i))] ++ nw_T g hp u i) → va_S A s.heap H locs → lv_has ls 3 [(2, .int (nI i)), (0, .ref h0), (1, .ref hp)] →
      W p l e ({ frames := 2, cells := 43, slots := 266, locals := 34 } : Room) s m args below meth c H locs (1 + 3 * i) (14 + 18 * i) (MQ below (va_Qv (fun _ : Nat → Nat => True) (fun u t => va_P g.1 vwCl (w0.set k0 (h0, .inr (0, [.ref (u 0), .int 0])) ++ [(u 0, hj_aR g 14 (nw_f u 14))] ++ nw_T g hp u 14) t.heap ∧ hj_K g t ∧ va_D A (w0.set k0 (h0, .inr (0, [.ref (u 0), .int 0])) ++ [(u 0, hj_aR g 14 (nw_f u 14))] ++ nw_T g hp u 14)) A) args s 43 266 A) (F0 m 15 ls []) := by
    intro d
    induction d with
    | zero =>
      intro i u H locs ls hi hu hP hD hS hl
      have : i = 14 := by omega
      subst this
      refine lv_iload_n hx hb dX0_init_15 rfl (lv_at hl 0 rfl) ?_
      refine lv_bipush (v := 14) hx hb dX0_init_16 (by decide) ?_
      refine lv_icmp_ge (tgt := 41) hx hb dX0_init_18 (by decide) (fun c2 => ?_) (fun c2 => ?_)
      · rw [← hX, ← hu] at hP hD
        exact nw_ret (w1 := fun u => w0.set k0 (h0, .inr (0, [.ref (u 0), .int 0])) ++ [(u 0, hj_aR g 14 (nw_f u 14))] ++ nw_T g hp u 14) u C hP hK hD hS dX0_init_41
      · exact absurd c2 (by decide)
    | succ d ih =>
      intro i u H locs ls hi hu hP hD hS hl
      refine lv_iload_n hx hb dX0_init_15 rfl (lv_at hl 0 rfl) ?_
      refine lv_bipush (v := 14) hx hb dX0_init_16 (by decide) ?_
      refine lv_icmp_ge (tgt := 41) hx hb dX0_init_18 (by decide) (fun c2 => ?_) (fun c2 => ?_)
      · exfalso
        rw [show (14 : Int32) = nI 14 from rfl, ev_le (by omega) (by omega)] at c2
        omega
      · clear c2
        have hXi : (X ++ [(q1, hj_aR g 14 (nw_f u i))] ++ nw_T g hp u i)[X.length]? = some (q1, hj_aR g 14 (nw_f u i)) := nw_getl nw_last
        have hX1 : (X ++ [(q1, hj_aR g 14 (nw_f u i))] ++ nw_T g hp u i)[k0]? = some (h0, .inr (0, [.ref q1, .int 0])) := nw_getl (nw_getl hX0)
        refine lv_aload_n hx hb dX0_init_21 rfl (lv_at hl 1 rfl) ?_
        refine va_get (D := g.1) (C := RX0) (T := TX0) (N := 2) hx hb hts (by decide +kernel) hown hK hP k0 hX1 rfl 0 (by decide) (hts (.fieldLink RX0 11 "HungryJury$Acts" "before" "[LHungryJury$Room;") (by decide +kernel)) (fun _ h => h) rfl dX0_init_22 ?_
        refine lv_iload_n hx hb dX0_init_25 rfl (lv_at hl 0 rfl) ?_
        refine va_new (ci := 2) (fs := [.null, .null, .null, .int 0, .int 0, .int 0]) (C := RX2) (T := TX2) (N := 6) hx hb hts (by decide +kernel) tyX2 tyX2_ok hown (hts (.classLink RX0 9 RX2) (by decide +kernel)) (hts (.instantiable RX2 6) (by decide +kernel)) (hts (.initialized RX2) (by decide +kernel)) hK hP hD hS hA rfl (fun j hj => by rcases (show j = 0 ∨ j = 1 ∨ j = 2 ∨ j = 3 ∨ j = 4 ∨ j = 5 by omega) with rfl | rfl | rfl | rfl | rfl | rfl <;> rfl) (by show 1 + 3 * i + 1 ≤ 43; omega) (by show 14 + 18 * i + 6 ≤ 266; omega) dX0_init_26 (fun r H hP hD hS => ?_)
        refine lv_dup hx hb dX0_init_29 rfl ?_
        refine lv_aload_n hx hb dX0_init_30 rfl (lv_at hl 2 rfl) ?_
        refine nw_call (As := [.ref hp]) (rest := [.ref r, .int (nI i), .ref q1]) ⟨hx, hb, hml, hown, hts⟩ (ctX2_init l g r _ hp _ nw_last) (cwI 1 hts gX0_init_X2_init rfl rfl rfl (hts (.initialized RX2) (by decide +kernel)) (hts (.methodLink RX0 17 yX2_init) (by decide +kernel)) (hts (.instanceMethod yX2_init) (by decide +kernel)) rfl (by decide +kernel) ⟨Nat.le_of_ble_eq_true rfl, Nat.le_of_ble_eq_true rfl⟩) hK hP hD hO hS hA rfl hl.1 rfl (Nat.le_of_ble_eq_true rfl) dX0_init_31 ⟨by show 1 + 3 * i + 1 + 2 ≤ 43; omega, by show 14 + 18 * i + 6 + 12 ≤ 266; omega⟩ (fun v H locs hP hD hS => ?_)
        rw [nw_setlast] at hP hD
        refine va_astq (D := g.1) (r := (RX2, TX2, 6)) hx hb hK hP hD hS X.length 2 (X ++ [(q1, hj_aR g 14 (nw_f u i))] ++ nw_T g hp u i).length 2 (nw_getl (nw_getl hXi)) rfl (nw_getl nw_last) rfl (show vp_in (nI i) 14 from fun q => by rcases q with q | q; exact ev_neg (by omega) q; rw [ev_cl (by omega)] at q; omega) dX0_init_34 (fun H locs hP hD hS => ?_)
        rw [nw_set (nw_lt (nw_getl hXi)), nw_set (nw_lt hXi), nw_set (nw_lt nw_last), nw_setlast, ev_cl (by omega), List.append_assoc, List.append_assoc] at hP hD
        refine lv_iinc (v := nI (i + 1)) (lv' := [(2, .int (nI (i + 1))), (0, .ref h0), (1, .ref hp)]) hx hb dX0_init_35 hl (k := 0) rfl (by rw [← nI_1]; rfl) (by decide) rfl (fun ls hl => ?_)
        refine lv_goto (tgt := 15) hx hb dX0_init_38 (by decide) ?_
        generalize hu' : va_up (va_up (va_up u (3 * i + 1) r) (3 * i + 2) (v 0)) (3 * i + 3) (v 1) = u'
        have uc : ∀ j, j ≤ 3 * i → u' j = u j := fun j hj => by rw [← hu', va_up_ne _ _ (by omega), va_up_ne _ _ (by omega), va_up_ne _ _ (by omega)]
        have u1 : u' (3 * i + 1) = r := by rw [← hu', va_up_ne _ _ (by omega), va_up_ne _ _ (by omega), va_up_self]
        have u2 : u' (3 * i + 2) = v 0 := by rw [← hu', va_up_ne _ _ (by omega), va_up_self]
        have u3 : u' (3 * i + 3) = v 1 := by rw [← hu', va_up_self]
        have eT : nw_T g hp u' (i + 1) = nw_T g hp u i ++ ([(r, nw_rm hp (v 0) (v 1))] ++ [(v 0, hj_aI g 6 (fun _ => 0)), (v 1, hj_aI g 6 (fun _ => 0))]) := by
          show nw_T g hp u' i ++ [_, _, _] = _
          rw [nw_T_c i uc, u1, u2, u3]
          rfl
        have ef : va_up (nw_f u i) i (some r) = nw_f u' (i + 1) := by rw [← nw_f_s, nw_f_c uc, u1]
        have := ih (i + 1) u' H locs ls (by omega) (by rw [uc 0 (by omega)]; exact hu) (by rw [eT, ← ef]; exact hP) (by rw [eT, ← ef]; exact hD) hS hl
        rw [show 1 + 3 * i + 1 + 2 = 1 + 3 * (i + 1) by omega, show 14 + 18 * i + 6 + 12 = 14 + 18 * (i + 1) by omega]
        exact this
  have := loop 14 0 (fun _ => q1) H locs ls rfl rfl (by show va_P g.1 vwCl (X ++ [(q1, hj_aR g 14 (nw_f (fun _ => q1) 0))] ++ []) H; rw [List.append_nil, nw_f0]; exact hP) (by show va_D A (X ++ [(q1, hj_aR g 14 (nw_f (fun _ => q1) 0))] ++ []); rw [List.append_nil, nw_f0]; exact hD) hS hl
  exact this
