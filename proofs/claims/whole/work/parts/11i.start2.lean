/-! the law from its entry -/
theorem lw_g {s : State} {b : Addr} (hts : ∀ w ∈ lw_tbl, w.before #[Value.ref b] s = true) : ∃ g : hj_G, hj_K g s := by
  obtain ⟨c0, i0, k0⟩ := u_known (C := RX0) (T := TX0) (N := 2) (n := 2) hts inX0 (hts (.instantiable RX0 2) (by decide +kernel))
  obtain ⟨c1, i1, k1⟩ := u_known (C := RX1) (T := TX1) (N := 6) (n := 6) hts inX1 (hts (.instantiable RX1 6) (by decide +kernel))
  obtain ⟨c2, i2, k2⟩ := u_known (C := RX2) (T := TX2) (N := 6) (n := 6) hts inX2 (hts (.instantiable RX2 6) (by decide +kernel))
  obtain ⟨c3, i3, k3⟩ := u_known (C := RX3) (T := TX3) (N := 4) (n := 4) hts inX3 (hts (.instantiable RX3 4) (by decide +kernel))
  obtain ⟨c4, i4, k4⟩ := u_known (C := RX4) (T := TX4) (N := 2) (n := 2) hts inX4 (hts (.instantiable RX4 2) (by decide +kernel))
  obtain ⟨c5, i5, k5⟩ := u_known (C := RX5) (T := TX5) (N := 10) (n := 10) hts inX5 (hts (.instantiable RX5 10) (by decide +kernel))
  obtain ⟨c6, i6, k6⟩ := u_known (C := RX6) (T := TX6) (N := 24) (n := 24) hts inX6 (hts (.instantiable RX6 24) (by decide +kernel))
  obtain ⟨cA, kA, comp, f1, f2, f3⟩ := Cond.arrayClass_spec (hts (.arrayClass .int) (by decide +kernel))
  obtain ⟨cB, kB, compB, g1, g2, g3⟩ := Cond.arrayClass_spec (hts (.arrayClass .boolean) (by decide +kernel))
  obtain ⟨compR, cR, kR, r1, r2, r3, r4, r5⟩ := Cond.arrayOver_spec (hts (.arrayOver (.object RX2)) (by decide +kernel))
  refine ⟨((fun k => match k with | 0 => c0 | 1 => c1 | 2 => c2 | 3 => c3 | 4 => c4 | 5 => c5 | _ => c6, fun k => match k with | 0 => i0 | 1 => i1 | 2 => i2 | 3 => i3 | 4 => i4 | 5 => i5 | _ => i6), cA, cB, cR), ?_, ?_⟩
  · intro k q hq
    match k, hq with
    | 0, hq => cases hq; exact k0
    | 1, hq => cases hq; exact k1
    | 2, hq => cases hq; exact k2
    | 3, hq => cases hq; exact k3
    | 4, hq => cases hq; exact k4
    | 5, hq => cases hq; exact k5
    | 6, hq => cases hq; exact k6
    | k + 7, hq => simp [vwCl] at hq
  · intro k q hq
    match k, hq with
    | 0, hq => cases hq; exact ⟨fun n z => ⟨fun k h => (by cases h), kA, f2, comp, f3⟩, f1⟩
    | 1, hq => cases hq; exact ⟨fun n z => ⟨fun k h => (by cases h), kB, g2, compB, g3⟩, g1⟩
    | 2, hq => cases hq; exact ⟨fun n z => ⟨fun k h => (by cases h), kR, r3, compR, r4⟩, kR, compR, r3, r4, r1, r5⟩
    | k + 3, hq => simp at hq
theorem lw_hs {s : State} {b : Addr} (hts : ∀ w ∈ lw_tbl, w.before #[Value.ref b] s = true) (hgv : (Jvm.Cond.and given_1 narrow_1).before #[Value.ref b] s = true) : hs_Z (lw_A s) s := by
  have hs := flat_of_before _ hgv
  have hA : ∀ a : Nat, a < s.heap.size → ¬ lw_A s a := fun a h q => absurd h (Nat.not_lt.mpr q)
  obtain ⟨t1, e1, h1⟩ := va_Tof (tm := .static "HungryJury" "HUNDREDS" "[I") (ty := .int) (N := 5) (f := fun j => .int (hs_H j)) (A := lw_A s) (by decide) (hs (.arrayOf (.static "HungryJury" "HUNDREDS" "[I") .int) (by decide +kernel)) (va_eqt (hs (.eq (.length (.static "HungryJury" "HUNDREDS" "[I")) (.int 5)) (by decide +kernel)))
    (fun j hj => by
      rcases (show j = 0 ∨ j = 1 ∨ j = 2 ∨ j = 3 ∨ j = 4 by omega) with rfl | rfl | rfl | rfl | rfl
      · exact va_eqt (hs (.eq (.elem (.static "HungryJury" "HUNDREDS" "[I") (.int 0)) (.int 1)) (by decide +kernel))
      · exact va_eqt (hs (.eq (.elem (.static "HungryJury" "HUNDREDS" "[I") (.int 1)) (.int 100)) (by decide +kernel))
      · exact va_eqt (hs (.eq (.elem (.static "HungryJury" "HUNDREDS" "[I") (.int 2)) (.int 10000)) (by decide +kernel))
      · exact va_eqt (hs (.eq (.elem (.static "HungryJury" "HUNDREDS" "[I") (.int 3)) (.int 1000000)) (by decide +kernel))
      · exact va_eqt (hs (.eq (.elem (.static "HungryJury" "HUNDREDS" "[I") (.int 4)) (.int 100000000)) (by decide +kernel))) hA
  obtain ⟨t2, e2, h2⟩ := va_Tof (tm := .static "HungryJury" "FACTORIALS" "[I") (ty := .int) (N := 7) (f := fun j => .int (hs_F j)) (A := lw_A s) (by decide) (hs (.arrayOf (.static "HungryJury" "FACTORIALS" "[I") .int) (by decide +kernel)) (va_eqt (hs (.eq (.length (.static "HungryJury" "FACTORIALS" "[I")) (.int 7)) (by decide +kernel)))
    (fun j hj => by
      rcases (show j = 0 ∨ j = 1 ∨ j = 2 ∨ j = 3 ∨ j = 4 ∨ j = 5 ∨ j = 6 by omega) with rfl | rfl | rfl | rfl | rfl | rfl | rfl
      · exact va_eqt (hs (.eq (.elem (.static "HungryJury" "FACTORIALS" "[I") (.int 0)) (.int 1)) (by decide +kernel))
      · exact va_eqt (hs (.eq (.elem (.static "HungryJury" "FACTORIALS" "[I") (.int 1)) (.int 1)) (by decide +kernel))
      · exact va_eqt (hs (.eq (.elem (.static "HungryJury" "FACTORIALS" "[I") (.int 2)) (.int 2)) (by decide +kernel))
      · exact va_eqt (hs (.eq (.elem (.static "HungryJury" "FACTORIALS" "[I") (.int 3)) (.int 6)) (by decide +kernel))
      · exact va_eqt (hs (.eq (.elem (.static "HungryJury" "FACTORIALS" "[I") (.int 4)) (.int 24)) (by decide +kernel))
      · exact va_eqt (hs (.eq (.elem (.static "HungryJury" "FACTORIALS" "[I") (.int 5)) (.int 120)) (by decide +kernel))
      · exact va_eqt (hs (.eq (.elem (.static "HungryJury" "FACTORIALS" "[I") (.int 6)) (.int 720)) (by decide +kernel))) hA
  exact ⟨t1, t2, va_Zof (hts (.laysStatic "HungryJury" "HUNDREDS" "[I") (by decide +kernel)) (hts (.initialized "HungryJury") (by decide +kernel)) e1 hA, h1, va_Zof (hts (.laysStatic "HungryJury" "FACTORIALS" "[I") (by decide +kernel)) (hts (.initialized "HungryJury") (by decide +kernel)) e2 hA, h2⟩
theorem lw_O {s : State} {b : Addr} (hts : ∀ w ∈ lw_tbl, w.before #[Value.ref b] s = true) : nw_O s :=
  ⟨va_AO.of (hts (.arrayOver (.object RX2)) (by decide +kernel)), va_tabs (A := #[Value.ref b]) (A' := #[]) (u := s) (U := s) rfl rfl (hts (.methodLinkNest RX5 11 yX4_init RX5) (by decide +kernel)), va_tabs (A := #[Value.ref b]) (A' := #[]) (u := s) (U := s) rfl rfl (hts (.methodLinkNest RX5 18 yX1_init RX5) (by decide +kernel)), va_tabs (A := #[Value.ref b]) (A' := #[]) (u := s) (U := s) rfl rfl (hts (.methodLinkNest RX5 55 yX3_init RX5) (by decide +kernel))⟩
set_option maxHeartbeats 4000000 in
set_option maxRecDepth 100000 in
theorem whole_start {p : Program} {e : Env} {s : State} {m : MethodId} {below : List Frame} {meth : Method} {c : Code} (l : Launch) (hflags : l.flags = flags0) {b L : Nat} {xs : Nat → Int32} (hL : L ≤ 2048) (C0 : lw_At p s m meth c b L xs) : W p l e room_1 s m #[Value.ref b] below meth c s.heap [] 0 0 (lw_Z below #[Value.ref b] s) (entryFrame m ([Value.ref b] : List Value).toArray 4) := by
  obtain ⟨hx, hb, hr, hml, hown, hts, hX, hbl, hlocks, hgv⟩ := id C0
  obtain ⟨g, hK⟩ := lw_g hts
  have hZ := lw_hs hts hgv
  have hO := lw_O hts
  have htl : ∀ w ∈ wsL_law, w.before #[Value.ref b] s = true := fun w h => hts w (wsL_law_in w h)
  have hA : ∀ q : Nat, s.heap.size ≤ q → lw_A s q := fun _ h => h
  have hS : va_S (lw_A s) s.heap s.heap [] := va_S.rf
  have hP : va_P g.1 vwCl [] s.heap := fun k q h => by simp at h
  have hD : va_D (lw_A s) [] := ⟨fun i j p q h => by simp at h, fun k q h => by simp at h⟩
  have hl := lv_entry ([.ref b]) (n := 4) (Nat.le_of_ble_eq_true rfl)
  rw [lg_entry_eq]
  generalize (lg_sl ([.ref b]) ++ List.replicate (4 - (lg_sl ([.ref b])).length) Slot.unset).toArray = ls at hl ⊢
  have hl : lv_has ls 4 [(0, .ref b)] := hl
  refine va_new (ci := 5) (fs := [.null, .null, .null, .null, .null, .null, .null, .null, .null, .long 0]) (C := RX5) (T := TX5) (N := 10) hx hb hts inX5 tyX5 tyX5_ok hown (hts (.classLink RL 7 RX5) (by decide +kernel)) (hts (.instantiable RX5 10) (by decide +kernel)) (hts (.initialized RX5) (by decide +kernel)) hK hP hD hS hA rfl (fun j hj => by rcases (show j = 0 ∨ j = 1 ∨ j = 2 ∨ j = 3 ∨ j = 4 ∨ j = 5 ∨ j = 6 ∨ j = 7 ∨ j = 8 ∨ j = 9 by omega) with rfl | rfl | rfl | rfl | rfl | rfl | rfl | rfl | rfl | rfl <;> rfl) (Nat.le_of_ble_eq_true rfl) (Nat.le_of_ble_eq_true rfl) dL_law_0 (fun q1 H hP hD hS => ?_)
  refine lv_dup hx hb dL_law_3 rfl ?_
  refine nw_call (As := []) (rest := [.ref q1]) ⟨hx, hb, hml, hown, htl⟩ (ctX5_init l g q1) (cwI 0 htl gL_law_X5_init rfl rfl rfl (hts (.initialized RX5) (by decide +kernel)) (hts (.methodLink RL 9 yX5_init) (by decide +kernel)) (hts (.instanceMethod yX5_init) (by decide +kernel)) rfl (by decide +kernel) ⟨Nat.le_of_ble_eq_true rfl, Nat.le_of_ble_eq_true rfl⟩) hK hP hD hO hS hA rfl hl.1 rfl (Nat.le_of_ble_eq_true rfl) dL_law_4 ⟨Nat.le_of_ble_eq_true rfl, Nat.le_of_ble_eq_true rfl⟩ (fun u H locs hP hD hS => ?_)
  refine lv_astore_n (lv' := [(1, .ref q1), (0, .ref b)]) hx hb dL_law_7 rfl hl (by decide) rfl (fun ls hl => ?_)
  refine va_new (ci := 6) (fs := [.int 0, .int 0, .null, .null, .null, .null, .null, .int 0, .int 0, .null, .int 0, .int 0, .int 0, .int 0, .int 0, .null, .int 0, .int 0, .null, .null, .null, .long 0, .null, .null]) (C := RX6) (T := TX6) (N := 24) hx hb hts inX6 tyX6 tyX6_ok hown (hts (.classLink RL 10 RX6) (by decide +kernel)) (hts (.instantiable RX6 24) (by decide +kernel)) (hts (.initialized RX6) (by decide +kernel)) hK hP hD hS hA rfl (fun j hj => by rcases (show j = 0 ∨ j = 1 ∨ j = 2 ∨ j = 3 ∨ j = 4 ∨ j = 5 ∨ j = 6 ∨ j = 7 ∨ j = 8 ∨ j = 9 ∨ j = 10 ∨ j = 11 ∨ j = 12 ∨ j = 13 ∨ j = 14 ∨ j = 15 ∨ j = 16 ∨ j = 17 ∨ j = 18 ∨ j = 19 ∨ j = 20 ∨ j = 21 ∨ j = 22 ∨ j = 23 by omega) with rfl | rfl | rfl | rfl | rfl | rfl | rfl | rfl | rfl | rfl | rfl | rfl | rfl | rfl | rfl | rfl | rfl | rfl | rfl | rfl | rfl | rfl | rfl | rfl <;> rfl) (Nat.le_of_ble_eq_true rfl) (Nat.le_of_ble_eq_true rfl) dL_law_8 (fun q2 H hP hD hS => ?_)
  refine lv_dup hx hb dL_law_11 rfl ?_
  refine nw_call (As := []) (rest := [.ref q2]) ⟨hx, hb, hml, hown, htl⟩ (ctX6_init l g q2 _ _ nw_last) (cwI 0 htl gL_law_X6_init rfl rfl rfl (hts (.initialized RX6) (by decide +kernel)) (hts (.methodLink RL 12 yX6_init) (by decide +kernel)) (hts (.instanceMethod yX6_init) (by decide +kernel)) rfl (by decide +kernel) ⟨Nat.le_of_ble_eq_true rfl, Nat.le_of_ble_eq_true rfl⟩) hK hP hD hO hS hA rfl hl.1 rfl (Nat.le_of_ble_eq_true rfl) dL_law_12 ⟨Nat.le_of_ble_eq_true rfl, Nat.le_of_ble_eq_true rfl⟩ (fun v H locs hP hD hS => ?_)
  rw [nw_setlast, List.append_assoc] at hP hD
  obtain ⟨hF, hI⟩ := st_both (s := s) (hx := q1) (hm := q2) (u := u) (v := v) hP hD
  refine lv_astore_n (lv' := [(2, .ref q2), (1, .ref q1), (0, .ref b)]) hx hb dL_law_15 rfl hl (by decide) rfl (fun ls hl => ?_)
  refine lv_iconst (v := 0) hx hb dL_law_16 (by decide) ?_
  refine lv_istore_n (lv' := [(3, .int (nI 0)), (2, .ref q2), (1, .ref q1), (0, .ref b)]) hx hb dL_law_17 rfl hl (by decide) rfl (fun ls hl => ?_)
  exact lw_loop ⟨hx, hb, hml, hown, htl, hX, hbl, hL, hK, hF, hZ⟩ hr hlocks ⟨Nat.le_of_ble_eq_true rfl, Nat.le_of_ble_eq_true rfl⟩ 600 0 1 st_x st_b st_m 0 H locs ls (by omega) (by omega) (by omega) (by omega) st_lr hI hS hl
