/-! constructors: a world that grows at its end -/
def nw_O (U : State) : Prop := va_AO RX2 U ∧ va_Nw (.methodLinkNest RX5 11 yX4_init RX5) U ∧ va_Nw (.methodLinkNest RX5 18 yX1_init RX5) U ∧ va_Nw (.methodLinkNest RX5 55 yX3_init RX5) U
theorem nw_Ow {s U : State} (hW : s.WarmedH U.vm) (h : nw_O s) : nw_O U := ⟨va_AO.moved hW.alike h.1, va_Nw.warmM hW h.2.1, va_Nw.warmM hW h.2.2.1, va_Nw.warmM hW h.2.2.2⟩
theorem nw_Oc {U : State} {f : JFrame} {mk : MethodId} {a : Array Value} (h : nw_O U) : nw_O (U.calling f mk a) := ⟨va_AO.moved (u := U) (U := U.calling f mk a) (Vm.Alike.refl U.vm) h.1, va_tabs (A := #[]) (A' := #[]) (u := U) (U := U.calling f mk a) rfl rfl h.2.1, va_tabs (A := #[]) (A' := #[]) (u := U) (U := U.calling f mk a) rfl rfl h.2.2.1, va_tabs (A := #[]) (A' := #[]) (u := U) (U := U.calling f mk a) rfl rfl h.2.2.2⟩
section NWA
variable {p : Program} {l : Launch} {e : Env} {R : Room} {s : State} {m : MethodId} {args : Array Value} {below : List Frame} {meth : Method} {c : Code} {H : Heap} {locs : List Loc} {cells slots : Nat} {Q : State → Prop}
variable {cc : ByteArray} {pc : Nat} {ls : Array Slot} {rest : List Value} {g : hj_G} {A : Nat → Prop} {ws0 : va_W}
def nw_M (l : Launch) (y : MethodName) (ws : List Cond) (rm : Room) (g : hj_G) (av : List Value) (w0 : va_W) (w1 : (Nat → Nat) → va_W) (mc ms : Nat) : Prop :=
  ∀ sz, Met l y ws rm (va_Pc av (fun U => U.heap.size = sz ∧ va_P g.1 vwCl w0 U.heap ∧ hj_K g U ∧ va_D (fun _ => True) w0 ∧ nw_O U)) (va_Qv (fun _ : Nat → Nat => True) (fun u t => va_P g.1 vwCl (w1 u) t.heap ∧ hj_K g t ∧ va_D (va_A w0 sz) (w1 u)) (va_A w0 sz)) mc ms (va_A w0 sz)
theorem nw_of {y : MethodName} {ws ws' : List Cond} {rm : Room} {av : List Value} {w0 : va_W} {w1 : (Nat → Nat) → va_W} {mc ms maxL : Nat}
    (hy : plainName y.cls = true) (hn : y.name = "<init>") (hw : ws = Cond.code y cc maxL none :: ws') (hav : (lg_sl av).length ≤ maxL)
    (body : ∀ p e s m args below meth c ls A, hj_C p s m args meth c cc y.cls ws maxL none → meth.name = "<init>" → (∀ q, s.heap.size ≤ q → A q) → va_P g.1 vwCl w0 s.heap → hj_K g s → va_D A w0 → nw_O s → lv_has ls maxL (lv_args 0 av) →
      W p l e rm s m args below meth c s.heap [] 0 0 (MQ below (va_Qv (fun _ : Nat → Nat => True) (fun u t => va_P g.1 vwCl (w1 u) t.heap ∧ hj_K g t ∧ va_D A (w1 u)) A) args s mc ms A) (F0 m 0 ls [])) : nw_M l y ws rm g av w0 w1 mc ms := by
  intro sz
  refine Met.ofW (cc := cc) (maxL := maxL) (ret := none) hy hw ?_
  intro p e s m args below meth c s₁ B hml hv
  obtain ⟨rfl, rfl, hP, hK, hD0, hO⟩ := hv
  rw [lg_entry_eq]
  exact body p e s m _ below meth c _ (va_A w0 s.heap.size) ⟨B.exec, B.bytes, B.returns, hml, findClass_of_methodNamed B.named, atoms_spec (ws := ws) B.pre, B.notSynchronized⟩ ((name_of_methodNamed B.named B.method).1.trans hn) (fun q h => Or.inr h) hP hK (hD0.self (sz := s.heap.size)) hO (lv_entry av hav)
theorem nw_ret {ws : List Cond} {own : String} {maxL mc ms : Nat} {w1 : (Nat → Nat) → va_W} (u : Nat → Nat) (C : hj_C p s m args meth c cc own ws maxL none) (hP : va_P g.1 vwCl (w1 u) H) (hK : hj_K g s) (hD : va_D A (w1 u)) (hS : va_S A s.heap H locs) (hdg : decode cc pc = .ok (.return_, 1)) :
    W p l e R s m args below meth c H locs mc ms (MQ below (va_Qv (fun _ : Nat → Nat => True) (fun u t => va_P g.1 vwCl (w1 u) t.heap ∧ hj_K g t ∧ va_D A (w1 u)) A) args s mc ms A) (F0 m pc ls []) := by
  obtain ⟨hx, hb, hr, -, -, -, hlocks⟩ := C
  exact W.vret hx hb hr (fun t ht hW => ⟨⟨u, rfl, trivial, by rw [ht]; exact hP, va_K.moved hW.alike hK, hD⟩, hS.F ht⟩) hS.2.2 hdg
theorem nw_ai (hx : p.tables.exec = Jvm.exec) (hb : c.code = cc) (harr : (Cond.arrayClass .int).before args s = true) (hK : hj_K g s) (hP : va_P g.1 vwCl ws0 H) (hD : va_D A ws0) (hS : va_S A s.heap H locs) (hA : ∀ q, s.heap.size ≤ q → A q) {n : Int32} {N : Nat} (hn : ¬ n < 0) (hN : n.toNatClampNeg = N) (hbytes : N * 4 ≤ 536870912) (hc : cells + 1 ≤ R.cells) (hs : slots + N ≤ R.slots) (hdg : decode cc pc = .ok (.newarray .int, 2))
    (kk : ∀ (q : Nat) (H1 : Heap), va_P g.1 vwCl (ws0 ++ [(q, hj_aI g N (fun _ => 0))]) H1 → va_D A (ws0 ++ [(q, hj_aI g N (fun _ => 0))]) → va_S A s.heap H1 locs → W p l e R s m args below meth c H1 locs (cells + 1) (slots + N) Q (F0 m (pc + 2) ls (.ref q :: rest))) :
    W p l e R s m args below meth c H locs cells slots Q (F0 m pc ls (.int n :: rest)) := by
  refine va_newa (atype := .int) (ty := .int) hx hb harr rfl hK hP hD hS hA (a0 := (N, .inl fun _ => 0)) (fun _ => rfl) hn hN hbytes hc hs hdg (fun q cA H1 hK1 hP1 hD1 hS1 => ?_)
  have r1 : s.vm.findClass ("[" ++ FieldType.int.toString) = some cA := (hK1.2 3 (cA, .int) rfl).2
  have r2 : s.vm.findClass ("[" ++ FieldType.int.toString) = some g.2.1 := (hK.2 0 (g.2.1, .int) rfl).2
  have e : cA = g.2.1 := Option.some.inj (r1.symm.trans r2)
  subst e
  exact kk q H1 hP1 hD1 hS1
theorem nw_az (hx : p.tables.exec = Jvm.exec) (hb : c.code = cc) (harr : (Cond.arrayClass .boolean).before args s = true) (hK : hj_K g s) (hP : va_P g.1 vwCl ws0 H) (hD : va_D A ws0) (hS : va_S A s.heap H locs) (hA : ∀ q, s.heap.size ≤ q → A q) {n : Int32} {N : Nat} (hn : ¬ n < 0) (hN : n.toNatClampNeg = N) (hbytes : N * 1 ≤ 536870912) (hc : cells + 1 ≤ R.cells) (hs : slots + N ≤ R.slots) (hdg : decode cc pc = .ok (.newarray .boolean, 2))
    (kk : ∀ (q : Nat) (H1 : Heap), va_P g.1 vwCl (ws0 ++ [(q, hj_aZ g N (fun _ => 0))]) H1 → va_D A (ws0 ++ [(q, hj_aZ g N (fun _ => 0))]) → va_S A s.heap H1 locs → W p l e R s m args below meth c H1 locs (cells + 1) (slots + N) Q (F0 m (pc + 2) ls (.ref q :: rest))) :
    W p l e R s m args below meth c H locs cells slots Q (F0 m pc ls (.int n :: rest)) := by
  refine va_newa (atype := .boolean) (ty := .boolean) hx hb harr rfl hK hP hD hS hA (a0 := (N, .inl fun _ => 0)) (fun _ => rfl) hn hN hbytes hc hs hdg (fun q cA H1 hK1 hP1 hD1 hS1 => ?_)
  have r1 : s.vm.findClass ("[" ++ FieldType.boolean.toString) = some cA := (hK1.2 3 (cA, .boolean) rfl).2
  have r2 : s.vm.findClass ("[" ++ FieldType.boolean.toString) = some g.2.2.1 := (hK.2 1 (g.2.2.1, .boolean) rfl).2
  have e : cA = g.2.2.1 := Option.some.inj (r1.symm.trans r2)
  subst e
  exact kk q H1 hP1 hD1 hS1
theorem nw_ar (hx : p.tables.exec = Jvm.exec) (hb : c.code = cc) {own : String} {index : Nat} (hown : s.vm.findClass own = some m.cls) (hclink : (Cond.classLink own index RX2).before args s = true) (hover : va_AO RX2 s) (hK : hj_K g s) (hP : va_P g.1 vwCl ws0 H) (hD : va_D A ws0) (hS : va_S A s.heap H locs) (hA : ∀ q, s.heap.size ≤ q → A q) {n : Int32} {N : Nat} (hn : ¬ n < 0) (hN : n.toNatClampNeg = N) (hbytes : N * 4 ≤ 536870912) (hc : cells + 1 ≤ R.cells) (hs : slots + N ≤ R.slots) (hdg : decode cc pc = .ok (.anewarray index, 3))
    (kk : ∀ (q : Nat) (H1 : Heap), va_P g.1 vwCl (ws0 ++ [(q, hj_aR g N (fun _ => none))]) H1 → va_D A (ws0 ++ [(q, hj_aR g N (fun _ => none))]) → va_S A s.heap H1 locs → W p l e R s m args below meth c H1 locs (cells + 1) (slots + N) Q (F0 m (pc + 3) ls (.ref q :: rest))) :
    W p l e R s m args below meth c H locs cells slots Q (F0 m pc ls (.int n :: rest)) := by
  refine va_newq hx hb hown hclink hover hK hP hD hS hA hn hN hbytes hc hs hdg (fun q cA H1 hK1 hP1 hD1 hS1 => ?_)
  obtain ⟨kA, comp, f1, f2, f3, r1⟩ : va_RA s cA (.object RX2) := (hK1.2 3 (cA, .object RX2) rfl).2
  obtain ⟨kA', comp', f1', f2', f3', r2⟩ : va_RA s g.2.2.2 (.object RX2) := (hK.2 2 (g.2.2.2, .object RX2) rfl).2
  have e : cA = g.2.2.2 := Option.some.inj (r1.symm.trans r2)
  subst e
  exact kk q H1 hP1 hD1 hS1
end NWA
section NWB
variable {p : Program} {l : Launch} {e : Env} {R : Room} {s : State} {m : MethodId} {args : Array Value} {below : List Frame} {meth : Method} {c : Code} {H : Heap} {locs : List Loc} {cells slots : Nat} {Q : State → Prop}
variable {cc : ByteArray} {pc : Nat} {ls : Array Slot} {rest : List Value} {g : hj_G} {A : Nat → Prop} {ws0 : va_W}
variable {y : MethodName} {bytes : ByteArray} {maxL nL mcount index mc ms b : Nat} {ws : List Cond} {rm : Room} {Ts : List Cond} {own : String} {As st0 : List Value}
theorem nw_call {w1 : (Nat → Nat) → va_W} (S : CallFix p m c cc nL s args Ts own) (hM : nw_M l y ws rm g (.ref b :: As) ws0 w1 mc ms) (cw : CallB R s args own index y bytes maxL none ws rm mc ms mcount ∧ y.name = "<init>" ∧ (Cond.instanceMethod y).before args s = true)
    (hK : hj_K g s) (hP : va_P g.1 vwCl ws0 H) (hD : va_D A ws0) (hO : nw_O s) (hS : va_S A s.heap H locs) (hA : ∀ q, s.heap.size ≤ q → A q)
    (hn : As.length = mcount) (hsz : ls.size = nL) (hst : st0 = As.reverse ++ .ref b :: rest) (hR : (rest.map fun v => v.category).sum ≤ 8) (hdg : decode cc pc = .ok (.invokespecial index, 3)) (hf : cells + mc ≤ R.cells ∧ slots + ms ≤ R.slots)
    (kk : ∀ (u : Nat → Nat) (H1 : Heap) (locs1 : List Loc), va_P g.1 vwCl (w1 u) H1 → va_D A (w1 u) → va_S A s.heap H1 locs1 → W p l e R s m args below meth c H1 locs1 (cells + mc) (slots + ms) Q (F0 m (pc + 3) ls rest)) :
    W p l e R s m args below meth c H locs cells slots Q (F0 m pc ls st0) := by
  subst hst
  have sub : ∀ q, va_A ws0 H.size q → A q := by
    rintro q (⟨k, e0, h⟩ | h)
    · exact hD.2 k _ h
    · exact hA q (Nat.le_trans hS.1 h)
  refine va_callv (A0 := A) (H0 := s.heap) (va_runI (mc := mc) (ms := ms) (As := As) (rest := rest) S (hM H.size) cw ⟨fun a U f mk q => by obtain ⟨q0, q1, qP, qK, qD, qO⟩ := q; exact ⟨q0, q1, qP, va_K.moved (u := U) (U := U.calling f mk a) (Vm.Alike.refl U.vm) qK, qD, nw_Oc qO⟩, fun U hU hW => ⟨rfl, by rw [hU], by rw [hU]; exact hP, va_K.moved hW.alike hK, hD.weaken (fun _ _ _ _ => trivial), nw_Ow hW hO⟩⟩ rfl hn hsz rfl (lv_room hR) hdg hf) hS (fun q _ h => sub q h) sub ?_
  intro u t H1 locs1 ht _ _ hB _ _ hS1
  obtain ⟨hP1, -, hD1⟩ := hB
  rw [ht] at hP1
  exact kk u H1 locs1 hP1 ⟨hD1.1, fun k q h => sub q.1 (hD1.2 k q h)⟩ hS1
theorem nw_callN {host : String} {w1 : (Nat → Nat) → va_W} (S : CallFix p m c cc nL s args Ts own) (hM : nw_M l y ws rm g (.ref b :: As) ws0 w1 mc ms) (cw : va_CN R s args own index y host bytes maxL none ws rm mc ms mcount ∧ y.name = "<init>" ∧ (Cond.instanceMethod y).before args s = true)
    (hK : hj_K g s) (hP : va_P g.1 vwCl ws0 H) (hD : va_D A ws0) (hO : nw_O s) (hS : va_S A s.heap H locs) (hA : ∀ q, s.heap.size ≤ q → A q)
    (hn : As.length = mcount) (hsz : ls.size = nL) (hst : st0 = As.reverse ++ .ref b :: rest) (hR : (rest.map fun v => v.category).sum ≤ 8) (hdg : decode cc pc = .ok (.invokespecial index, 3)) (hf : cells + mc ≤ R.cells ∧ slots + ms ≤ R.slots)
    (kk : ∀ (u : Nat → Nat) (H1 : Heap) (locs1 : List Loc), va_P g.1 vwCl (w1 u) H1 → va_D A (w1 u) → va_S A s.heap H1 locs1 → W p l e R s m args below meth c H1 locs1 (cells + mc) (slots + ms) Q (F0 m (pc + 3) ls rest)) :
    W p l e R s m args below meth c H locs cells slots Q (F0 m pc ls st0) := by
  subst hst
  have sub : ∀ q, va_A ws0 H.size q → A q := by
    rintro q (⟨k, e0, h⟩ | h)
    · exact hD.2 k _ h
    · exact hA q (Nat.le_trans hS.1 h)
  refine va_callv (A0 := A) (H0 := s.heap) (va_runIN (mc := mc) (ms := ms) (As := As) (rest := rest) S (hM H.size) cw ⟨fun a U f mk q => by obtain ⟨q0, q1, qP, qK, qD, qO⟩ := q; exact ⟨q0, q1, qP, va_K.moved (u := U) (U := U.calling f mk a) (Vm.Alike.refl U.vm) qK, qD, nw_Oc qO⟩, fun U hU hW => ⟨rfl, by rw [hU], by rw [hU]; exact hP, va_K.moved hW.alike hK, hD.weaken (fun _ _ _ _ => trivial), nw_Ow hW hO⟩⟩ rfl hn hsz rfl (lv_room hR) hdg hf) hS (fun q _ h => sub q h) sub ?_
  intro u t H1 locs1 ht _ _ hB _ _ hS1
  obtain ⟨hP1, -, hD1⟩ := hB
  rw [ht] at hP1
  exact kk u H1 locs1 hP1 ⟨hD1.1, fun k q h => sub q.1 (hD1.2 k q h)⟩ hS1
end NWB
theorem nw_set {X Y : va_W} {k : Nat} {x : Nat × va_E} (h : k < X.length) : (X ++ Y).set k x = X.set k x ++ Y := List.set_append_left _ _ h
theorem nw_getl {X Y : va_W} {k : Nat} {x : Nat × va_E} (h : X[k]? = some x) : (X ++ Y)[k]? = some x := by
  rw [List.getElem?_append_left (List.getElem?_eq_some_iff.mp h).1, h]
theorem nw_lt {X : va_W} {k : Nat} {x : Nat × va_E} (h : X[k]? = some x) : k < X.length := (List.getElem?_eq_some_iff.mp h).1
theorem nw_gets {X : va_W} {k : Nat} {x y : Nat × va_E} (h : X[k]? = some x) : (X.set k y)[k]? = some y := List.getElem?_set_self (nw_lt h)
theorem nw_set2 {X : va_W} {k : Nat} {x y : Nat × va_E} : (X.set k x).set k y = X.set k y := List.set_set _
set_option maxHeartbeats 4000000 in
set_option maxRecDepth 100000 in
theorem ctX4_init (l : Launch) (g : hj_G) (h0 k0 : Nat) (w0 : va_W) (hw : w0[k0]? = some (h0, .inr (4, [.null, .int 0]))) : nw_M l yX4_init wsX4_init ({ frames := 1, cells := 1, slots := 56, locals := 12 }) g [.ref h0] w0 (fun u => w0.set k0 (h0, .inr (4, [.ref (u 0), .int 0])) ++ [(u 0, hj_aI g 56 (fun _ => 0))]) 1 56 := by
  refine nw_of (cc := cX4_init) (maxL := 1) (by decide) rfl rfl (Nat.le_of_ble_eq_true rfl) ?_
  intro p e s m args below meth c ls A C hin hA hP hK hD hO hl
  obtain ⟨hx, hb, hr, hml, hown, hts, hlocks⟩ := id C
  have hS : va_S A s.heap s.heap [] := va_S.rf
  have hl : lv_has ls 1 [(0, .ref h0)] := hl
  refine lv_aload_n hx hb dX4_init_0 rfl (lv_at hl 0 rfl) ?_
  refine W.objInit hx hb hown (hts (.methodLink RX4 3 objectInit) (by decide +kernel)) (hts (.instanceMethod objectInit) (by decide +kernel)) (hts _ (List.mem_cons_of_mem _ (List.mem_append_left _ (List.mem_of_getElem? (i := 2) rfl)))) rfl (by rw [hml]; exact hl.1) rfl dX4_init_1 (Nat.le_of_ble_eq_true rfl) (Nat.le_of_ble_eq_true rfl) ?_
  refine W.eq (g2 := F0 m 4 ls []) rfl ?_
  refine lv_aload_n hx hb dX4_init_4 rfl (lv_at hl 0 rfl) ?_
  refine lv_bipush (v := 56) hx hb dX4_init_5 (by decide) ?_
  refine nw_ai hx hb (hts (.arrayClass .int) (by decide +kernel)) hK hP hD hS hA (N := 56) (by decide) rfl (by decide) (by decide) (by decide) dX4_init_7 (fun q H hP hD hS => ?_)
  refine va_putF (D := g.1) (ci := 4) (v := .ref q) (ty := tyX4 0) (C := RX4) (T := TX4) (N := 2) hx hb hts (by decide +kernel) tyX4 tyX4_ok nmX4 hown hK hP hD hS k0 (nw_getl hw) rfl 0 (by decide) (hts (.fieldLink RX4 9 "HungryJury$Text" "letters" "[I") (by decide +kernel)) (fun _ h9 => h9) rfl hin rfl (by decide +kernel) rfl rfl (Nat.le_of_ble_eq_true rfl) dX4_init_9 (fun H locs hP hD hS => ?_)
  rw [nw_set (nw_lt hw)] at hP hD
  exact nw_ret (w1 := fun u => w0.set k0 (h0, .inr (4, [.ref (u 0), .int 0])) ++ [(u 0, hj_aI g 56 (fun _ => 0))]) (fun _ => q) C hP hK hD hS dX4_init_12
