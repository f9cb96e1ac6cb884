/-! base: worlds by cell numbers: cell i (i < n) lies at ad i and holds w i -/
abbrev hj_G : Type := va_G × ClassId × ClassId × ClassId
abbrev hj_ty (g : hj_G) : List (ClassId × FieldType) := [(g.2.1, .int), (g.2.2.1, .boolean), (g.2.2.2, .object RX2)]
def hj_wl (n : Nat) (ad : Nat → Nat) (w : Nat → va_E) : va_W := (List.range n).map (fun i => (ad i, w i))
abbrev hj_P (g : hj_G) (n : Nat) (ad : Nat → Nat) (w : Nat → va_E) (H : Heap) : Prop := va_P g.1 vwCl (hj_wl n ad w) H
abbrev hj_K (g : hj_G) (U : State) : Prop := va_K g.1 vwCl (hj_ty g) U
def hj_I (n : Nat) (ad : Nat → Nat) : Prop := ∀ i j, i < n → j < n → ad i = ad j → i = j
def hj_A (n : Nat) (ad : Nat → Nat) (sz : Nat) : Nat → Prop := fun q => (∃ i, i < n ∧ q = ad i) ∨ sz ≤ q
abbrev hj_S (n : Nat) (ad : Nat → Nat) (s : State) (H : Heap) (locs : List Loc) : Prop := va_S (hj_A n ad s.heap.size) s.heap H locs
theorem hj_at {n i : Nat} {ad : Nat → Nat} {w : Nat → va_E} {e : va_E} (hi : i < n) (he : w i = e) : (hj_wl n ad w)[i]? = some (ad i, e) := by
  subst he
  simp [hj_wl, List.getElem?_map, List.getElem?_range hi]
theorem hj_len {n : Nat} {ad : Nat → Nat} {w : Nat → va_E} : (hj_wl n ad w).length = n := by simp [hj_wl]
theorem hj_of {n k : Nat} {ad : Nat → Nat} {w : Nat → va_E} {q : Nat × va_E} (h : (hj_wl n ad w)[k]? = some q) : k < n ∧ q = (ad k, w k) := by
  have hk : k < n := by
    have h1 := (List.getElem?_eq_some_iff.mp h).1
    rw [hj_len] at h1
    exact h1
  rw [hj_at hk rfl] at h
  exact ⟨hk, (Option.some.inj h).symm⟩
theorem hj_set {n i : Nat} {ad : Nat → Nat} {w : Nat → va_E} (hi : i < n) (e : va_E) : (hj_wl n ad w).set i (ad i, e) = hj_wl n ad (va_up w i e) := by
  apply List.ext_getElem?
  intro j
  by_cases hj : j = i
  · subst hj
    rw [List.getElem?_set_self (by rw [hj_len]; exact hi), hj_at hi (va_up_self _ _ _)]
  · rw [List.getElem?_set_ne (Ne.symm hj)]
    by_cases hl : j < n
    · rw [hj_at hl rfl, hj_at hl (va_up_ne _ _ hj)]
    · rw [List.getElem?_eq_none (by rw [hj_len]; omega), List.getElem?_eq_none (by rw [hj_len]; omega)]
theorem hj_D {n sz : Nat} {ad : Nat → Nat} {w : Nat → va_E} (hI : hj_I n ad) : va_D (hj_A n ad sz) (hj_wl n ad w) := by
  refine ⟨fun i j x y hx hy hxy => ?_, fun k q hk => ?_⟩
  · obtain ⟨h1, rfl⟩ := hj_of hx
    obtain ⟨h2, rfl⟩ := hj_of hy
    exact hI i j h1 h2 hxy
  · obtain ⟨h1, rfl⟩ := hj_of hk
    exact Or.inl ⟨k, h1, rfl⟩
theorem hj_A_sub {n sz sz' : Nat} {ad : Nat → Nat} (h : sz ≤ sz') {q : Nat} (hq : hj_A n ad sz' q) : hj_A n ad sz q := by
  rcases hq with h1 | h1
  · exact Or.inl h1
  · exact Or.inr (Nat.le_trans h h1)
theorem hj_P_eq {g : hj_G} {n : Nat} {ad : Nat → Nat} {w w' : Nat → va_E} {H : Heap} (h : hj_P g n ad w H) (e : w = w') : hj_P g n ad w' H := e ▸ h
/-- what holds in a method's body from its entry on -/
def hj_C (p : Program) (s : State) (m : MethodId) (args : Array Value) (meth : Method) (c : Code) (bytes : ByteArray) (own : String) (ws : List Cond) (maxL : Nat) (ret : Option FieldType) : Prop :=
  p.tables.exec = Jvm.exec ∧ c.code = bytes ∧ meth.sig.returnType = ret ∧ c.maxLocals = maxL ∧ s.vm.findClass own = some m.cls ∧ (∀ w ∈ ws, w.before args s = true) ∧ meth.locks = false
abbrev hj_X : Type := (Nat → Prop) → State → Prop
def hj_X0 : hj_X := fun _ _ => True
def hj_pre (g : hj_G) (n : Nat) (ad : Nat → Nat) (w : Nat → va_E) (X : hj_X) (sz : Nat) : State → Prop := fun U => U.heap.size = sz ∧ hj_P g n ad w U.heap ∧ hj_K g U ∧ X (hj_A n ad sz) U
def hj_post (g : hj_G) (n : Nat) (ad : Nat → Nat) (w : Nat → va_E) : Unit → State → Prop := fun _ t => hj_P g n ad w t.heap ∧ hj_K g t
/-- contracts: an int, nothing, a long -/
def hj_QI (g : hj_G) (n : Nat) (ad : Nat → Nat) (w : Nat → va_E) (r : Int32) (sz : Nat) : Array Value → State → Outcome → State → Prop := va_Qi (fun (r' : Int32) (_ : Unit) => r' = r) (hj_post g n ad w) (hj_A n ad sz)
def hj_QV (g : hj_G) (n : Nat) (ad : Nat → Nat) (w : Nat → va_E) (sz : Nat) : Array Value → State → Outcome → State → Prop := va_Qv (fun (_ : Unit) => True) (hj_post g n ad w) (hj_A n ad sz)
def hj_QL (g : hj_G) (n : Nat) (ad : Nat → Nat) (w : Nat → va_E) (r : Int64) (sz : Nat) : Array Value → State → Outcome → State → Prop := va_Ql (fun (r' : Int64) (_ : Unit) => r' = r) (hj_post g n ad w) (hj_A n ad sz)
def hj_MI (l : Launch) (y : MethodName) (ws : List Cond) (rm : Room) (g : hj_G) (n : Nat) (ad : Nat → Nat) (X : hj_X) (av : List Value) (w : Nat → va_E) (r : Int32) (w' : Nat → va_E) : Prop :=
  ∀ sz, Met l y ws rm (va_Pc av (hj_pre g n ad w X sz)) (hj_QI g n ad w' r sz) 0 0 (hj_A n ad sz)
def hj_MV (l : Launch) (y : MethodName) (ws : List Cond) (rm : Room) (g : hj_G) (n : Nat) (ad : Nat → Nat) (X : hj_X) (av : List Value) (w : Nat → va_E) (w' : Nat → va_E) : Prop :=
  ∀ sz, Met l y ws rm (va_Pc av (hj_pre g n ad w X sz)) (hj_QV g n ad w' sz) 0 0 (hj_A n ad sz)
def hj_ML (l : Launch) (y : MethodName) (ws : List Cond) (rm : Room) (g : hj_G) (n : Nat) (ad : Nat → Nat) (X : hj_X) (av : List Value) (w : Nat → va_E) (r : Int64) (w' : Nat → va_E) : Prop :=
  ∀ sz, Met l y ws rm (va_Pc av (hj_pre g n ad w X sz)) (hj_QL g n ad w' r sz) 0 0 (hj_A n ad sz)
/-- a contract out of a walk of the body -/
theorem hj_ofI {l : Launch} {y : MethodName} {ws ws' : List Cond} {rm : Room} {g : hj_G} {n : Nat} {ad : Nat → Nat} {X : hj_X} {av : List Value} {w w' : Nat → va_E} {r : Int32} {cc : ByteArray} {maxL : Nat} {ret : Option FieldType}
    (hy : plainName y.cls = true) (hw : ws = Cond.code y cc maxL ret :: ws') (hav : (lg_sl av).length ≤ maxL)
    (body : ∀ p e s m args below meth c ls, hj_C p s m args meth c cc y.cls ws maxL ret → hj_P g n ad w s.heap → hj_K g s → X (hj_A n ad s.heap.size) s → lv_has ls maxL (lv_args 0 av) →
      W p l e rm s m args below meth c s.heap [] 0 0 (MQ below (hj_QI g n ad w' r s.heap.size) args s 0 0 (hj_A n ad s.heap.size)) (F0 m 0 ls [])) : hj_MI l y ws rm g n ad X av w r w' := by
  intro sz
  refine Met.ofW (cc := cc) (maxL := maxL) (ret := ret) hy hw ?_
  intro p e s m args below meth c s₁ B hml hv
  obtain ⟨rfl, rfl, hP, hK, hX⟩ := hv
  rw [lg_entry_eq]
  exact body p e s m _ below meth c _ ⟨B.exec, B.bytes, B.returns, hml, findClass_of_methodNamed B.named, atoms_spec (ws := ws) B.pre, B.notSynchronized⟩ hP hK hX (lv_entry av hav)
theorem hj_ofV {l : Launch} {y : MethodName} {ws ws' : List Cond} {rm : Room} {g : hj_G} {n : Nat} {ad : Nat → Nat} {X : hj_X} {av : List Value} {w w' : Nat → va_E} {cc : ByteArray} {maxL : Nat} {ret : Option FieldType}
    (hy : plainName y.cls = true) (hw : ws = Cond.code y cc maxL ret :: ws') (hav : (lg_sl av).length ≤ maxL)
    (body : ∀ p e s m args below meth c ls, hj_C p s m args meth c cc y.cls ws maxL ret → hj_P g n ad w s.heap → hj_K g s → X (hj_A n ad s.heap.size) s → lv_has ls maxL (lv_args 0 av) →
      W p l e rm s m args below meth c s.heap [] 0 0 (MQ below (hj_QV g n ad w' s.heap.size) args s 0 0 (hj_A n ad s.heap.size)) (F0 m 0 ls [])) : hj_MV l y ws rm g n ad X av w w' := by
  intro sz
  refine Met.ofW (cc := cc) (maxL := maxL) (ret := ret) hy hw ?_
  intro p e s m args below meth c s₁ B hml hv
  obtain ⟨rfl, rfl, hP, hK, hX⟩ := hv
  rw [lg_entry_eq]
  exact body p e s m _ below meth c _ ⟨B.exec, B.bytes, B.returns, hml, findClass_of_methodNamed B.named, atoms_spec (ws := ws) B.pre, B.notSynchronized⟩ hP hK hX (lv_entry av hav)
theorem hj_ofL {l : Launch} {y : MethodName} {ws ws' : List Cond} {rm : Room} {g : hj_G} {n : Nat} {ad : Nat → Nat} {X : hj_X} {av : List Value} {w w' : Nat → va_E} {r : Int64} {cc : ByteArray} {maxL : Nat} {ret : Option FieldType}
    (hy : plainName y.cls = true) (hw : ws = Cond.code y cc maxL ret :: ws') (hav : (lg_sl av).length ≤ maxL)
    (body : ∀ p e s m args below meth c ls, hj_C p s m args meth c cc y.cls ws maxL ret → hj_P g n ad w s.heap → hj_K g s → X (hj_A n ad s.heap.size) s → lv_has ls maxL (lv_args 0 av) →
      W p l e rm s m args below meth c s.heap [] 0 0 (MQ below (hj_QL g n ad w' r s.heap.size) args s 0 0 (hj_A n ad s.heap.size)) (F0 m 0 ls [])) : hj_ML l y ws rm g n ad X av w r w' := by
  intro sz
  refine Met.ofW (cc := cc) (maxL := maxL) (ret := ret) hy hw ?_
  intro p e s m args below meth c s₁ B hml hv
  obtain ⟨rfl, rfl, hP, hK, hX⟩ := hv
  rw [lg_entry_eq]
  exact body p e s m _ below meth c _ ⟨B.exec, B.bytes, B.returns, hml, findClass_of_methodNamed B.named, atoms_spec (ws := ws) B.pre, B.notSynchronized⟩ hP hK hX (lv_entry av hav)
section HJA
variable {p : Program} {l : Launch} {e : Env} {R : Room} {s : State} {m : MethodId} {args : Array Value} {below : List Frame} {meth : Method} {c : Code} {H : Heap} {locs : List Loc} {cells slots : Nat} {Q : State → Prop}
variable {cc : ByteArray} {pc : Nat} {ls : Array Slot} {rest : List Value} {g : hj_G} {n : Nat} {ad : Nat → Nat} {w : Nat → va_E}
theorem hj_reti {ws : List Cond} {own : String} {maxL : Nat} {r : Int32} (C : hj_C p s m args meth c cc own ws maxL (some .int)) (hP : hj_P g n ad w H) (hK : hj_K g s) (hS : hj_S n ad s H locs) (hdg : decode cc pc = .ok (.ireturn, 1)) :
    W p l e R s m args below meth c H locs 0 0 (MQ below (hj_QI g n ad w r s.heap.size) args s 0 0 (hj_A n ad s.heap.size)) (F0 m pc ls [.int r]) := by
  obtain ⟨hx, hb, hr, -, -, -, hlocks⟩ := C
  exact W.iret hx hb hr (fun t ht hW => ⟨⟨r, (), rfl, rfl, by rw [ht]; exact hP, va_K.moved hW.alike hK⟩, hS.F ht⟩) hS.2.2 hdg
theorem hj_retz {ws : List Cond} {own : String} {maxL : Nat} {r : Int32} (hz : r = 0 ∨ r = 1) (C : hj_C p s m args meth c cc own ws maxL (some .boolean)) (hP : hj_P g n ad w H) (hK : hj_K g s) (hS : hj_S n ad s H locs) (hdg : decode cc pc = .ok (.ireturn, 1)) :
    W p l e R s m args below meth c H locs 0 0 (MQ below (hj_QI g n ad w r s.heap.size) args s 0 0 (hj_A n ad s.heap.size)) (F0 m pc ls [.int r]) := by
  obtain ⟨hx, hb, hr, -, -, -, hlocks⟩ := C
  exact W.zret hx hb hr (by rcases hz with rfl | rfl <;> rfl) (fun t ht hW => ⟨⟨r, (), rfl, rfl, by rw [ht]; exact hP, va_K.moved hW.alike hK⟩, hS.F ht⟩) hS.2.2 hdg
theorem hj_retv {ws : List Cond} {own : String} {maxL : Nat} (C : hj_C p s m args meth c cc own ws maxL none) (hP : hj_P g n ad w H) (hK : hj_K g s) (hS : hj_S n ad s H locs) (hdg : decode cc pc = .ok (.return_, 1)) :
    W p l e R s m args below meth c H locs 0 0 (MQ below (hj_QV g n ad w s.heap.size) args s 0 0 (hj_A n ad s.heap.size)) (F0 m pc ls []) := by
  obtain ⟨hx, hb, hr, -, -, -, hlocks⟩ := C
  exact W.vret hx hb hr (fun t ht hW => ⟨⟨(), rfl, trivial, by rw [ht]; exact hP, va_K.moved hW.alike hK⟩, hS.F ht⟩) hS.2.2 hdg
theorem hj_retl {ws : List Cond} {own : String} {maxL : Nat} {r : Int64} (C : hj_C p s m args meth c cc own ws maxL (some .long)) (hP : hj_P g n ad w H) (hK : hj_K g s) (hS : hj_S n ad s H locs) (hdg : decode cc pc = .ok (.lreturn, 1)) :
    W p l e R s m args below meth c H locs 0 0 (MQ below (hj_QL g n ad w r s.heap.size) args s 0 0 (hj_A n ad s.heap.size)) (F0 m pc ls [.long r]) := by
  obtain ⟨hx, hb, hr, -, -, -, hlocks⟩ := C
  exact W.lret hx hb hr (fun t ht hW => ⟨⟨r, (), rfl, rfl, by rw [ht]; exact hP, va_K.moved hW.alike hK⟩, hS.F ht⟩) hS.2.2 hdg
theorem hj_get (hx : p.tables.exec = Jvm.exec) (hb : c.code = cc) {own C : String} {T : u_T} {N ci index : Nat} {Ts : List Cond} (hts : ∀ w ∈ Ts, w.before args s = true) (hin : ∀ w ∈ u_ws C T N, w ∈ Ts) (hown : s.vm.findClass own = some m.cls) (hK : hj_K g s) (hP : hj_P g n ad w H) {i : Nat} {fs : List Value} (hi : i < n) (hw : w i = .inr (ci, fs)) (hc : vwCl[ci]? = some (C, T, N)) (k : Nat) (hk : k < N) (hlink : Cond.fieldLink own index (T k).1 (T k).2.1 (T k).2.2.1 ∈ Ts) {v : Value} (hv : fs[k]? = some v) (hdg : decode cc pc = .ok (.getfield index, 3))
    (kk : W p l e R s m args below meth c H locs cells slots Q (F0 m (pc + 3) ls (v :: rest))) : W p l e R s m args below meth c H locs cells slots Q (F0 m pc ls (.ref (ad i) :: rest)) :=
  va_get (D := g.1) hx hb hts hin hown hK hP i (hj_at hi hw) hc k hk (hts _ hlink) (fun _ h => h) hv hdg kk
theorem hj_put (hx : p.tables.exec = Jvm.exec) (hb : c.code = cc) {own C : String} {T : u_T} {N ci index : Nat} {Ts : List Cond} (hts : ∀ w ∈ Ts, w.before args s = true) (hin : ∀ w ∈ u_ws C T N, w ∈ Ts) (ty0 : Nat → FieldType) (hty : ∀ k, k < N → parseFieldDescriptor (T k).2.2.1 = some (ty0 k)) (hnm : ∀ a, a < N → ∀ b, b < N → a ≠ b → (T a).2.1 ≠ (T b).2.1) (hown : s.vm.findClass own = some m.cls) (hK : hj_K g s) (hI : hj_I n ad) (hP : hj_P g n ad w H) (hS : hj_S n ad s H locs) {i : Nat} {fs : List Value} (hi : i < n) (hw : w i = .inr (ci, fs)) (hc : vwCl[ci]? = some (C, T, N)) (k : Nat) (hk : k < N) (hlink : Cond.fieldLink own index (T k).1 (T k).2.1 (T k).2.2.1 ∈ Ts) (hfin : (T k).2.2.2 = false) {v : Value} (hn : narrow (ty0 k) v = v) (hfit : fits (ty0 k) v = true) (hl : k < fs.length) (hdg : decode cc pc = .ok (.putfield index, 3))
    {w' : Nat → va_E} (hw' : va_up w i (.inr (ci, fs.set k v)) = w')
    (kk : ∀ (H1 : Heap) (locs1 : List Loc), hj_P g n ad w' H1 → hj_S n ad s H1 locs1 → W p l e R s m args below meth c H1 locs1 cells slots Q (F0 m (pc + 3) ls rest)) : W p l e R s m args below meth c H locs cells slots Q (F0 m pc ls (v :: .ref (ad i) :: rest)) :=
  va_put (D := g.1) hx hb hts hin ty0 hty hnm hown hK hP (hj_D hI) hS i (hj_at hi hw) hc k hk (hts _ hlink) (fun _ h => h) hfin (hty k hk) hn hfit hl hdg (fun H1 locs1 h1 _ h3 => kk H1 locs1 (by rw [hj_set hi, hw'] at h1; exact h1) h3)
theorem hj_ial (hx : p.tables.exec = Jvm.exec) (hb : c.code = cc) (hK : hj_K g s) (hP : hj_P g n ad w H) {i N : Nat} {f : Nat → Int32} (hi : i < n) (hw : w i = .inl (g.2.1, N, .inl f)) {x : Int32} (hin : vp_in x N) (hdg : decode cc pc = .ok (.iaload, 1))
    (kk : W p l e R s m args below meth c H locs cells slots Q (F0 m (pc + 1) ls (.int (f x.toNatClampNeg) :: rest))) : W p l e R s m args below meth c H locs cells slots Q (F0 m pc ls (.int x :: .ref (ad i) :: rest)) :=
  va_iald (D := g.1) hx hb hK hP i 0 (hj_at hi hw) rfl hin hdg kk
theorem hj_zal (hx : p.tables.exec = Jvm.exec) (hb : c.code = cc) (hK : hj_K g s) (hP : hj_P g n ad w H) {i N : Nat} {f : Nat → Int32} (hi : i < n) (hw : w i = .inl (g.2.2.1, N, .inl f)) {x : Int32} (hin : vp_in x N) (hdg : decode cc pc = .ok (.baload, 1))
    (kk : W p l e R s m args below meth c H locs cells slots Q (F0 m (pc + 1) ls (.int (f x.toNatClampNeg) :: rest))) : W p l e R s m args below meth c H locs cells slots Q (F0 m pc ls (.int x :: .ref (ad i) :: rest)) :=
  va_zald (D := g.1) hx hb hK hP i 1 (hj_at hi hw) rfl hin hdg kk
theorem hj_ral (hx : p.tables.exec = Jvm.exec) (hb : c.code = cc) (hK : hj_K g s) (hP : hj_P g n ad w H) {i N : Nat} {f : Nat → Option Nat} (hi : i < n) (hw : w i = .inl (g.2.2.2, N, .inr (.inr (.inr (.inr f))))) {x : Int32} (hin : vp_in x N) {b : Nat} (hf : f x.toNatClampNeg = some b) (hdg : decode cc pc = .ok (.aaload, 1))
    (kk : W p l e R s m args below meth c H locs cells slots Q (F0 m (pc + 1) ls (.ref b :: rest))) : W p l e R s m args below meth c H locs cells slots Q (F0 m pc ls (.int x :: .ref (ad i) :: rest)) :=
  va_aldq (D := g.1) (C := RX2) hx hb hK hP i 2 (hj_at hi hw) rfl hin hdg (by rw [hf]; exact kk)
theorem hj_ias (hx : p.tables.exec = Jvm.exec) (hb : c.code = cc) (hK : hj_K g s) (hI : hj_I n ad) (hP : hj_P g n ad w H) (hS : hj_S n ad s H locs) {i N : Nat} {f : Nat → Int32} (hi : i < n) (hw : w i = .inl (g.2.1, N, .inl f)) {x v : Int32} (hin : vp_in x N) (hdg : decode cc pc = .ok (.iastore, 1))
    {w' : Nat → va_E} (hw' : va_up w i (.inl (g.2.1, N, .inl (upd f x.toNatClampNeg v))) = w')
    (kk : ∀ (H1 : Heap) (locs1 : List Loc), hj_P g n ad w' H1 → hj_S n ad s H1 locs1 → W p l e R s m args below meth c H1 locs1 cells slots Q (F0 m (pc + 1) ls rest)) : W p l e R s m args below meth c H locs cells slots Q (F0 m pc ls (.int v :: .int x :: .ref (ad i) :: rest)) :=
  va_iast (D := g.1) hx hb hK hP (hj_D hI) hS i 0 (hj_at hi hw) rfl hin hdg (fun H1 locs1 h1 _ h3 => kk H1 locs1 (by rw [hj_set hi, hw'] at h1; exact h1) h3)
theorem hj_zas (hx : p.tables.exec = Jvm.exec) (hb : c.code = cc) (hK : hj_K g s) (hI : hj_I n ad) (hP : hj_P g n ad w H) (hS : hj_S n ad s H locs) {i N : Nat} {f : Nat → Int32} (hi : i < n) (hw : w i = .inl (g.2.2.1, N, .inl f)) {x v : Int32} (hin : vp_in x N) (hdg : decode cc pc = .ok (.bastore, 1))
    {w' : Nat → va_E} (hw' : va_up w i (.inl (g.2.2.1, N, .inl (upd f x.toNatClampNeg (vp_nar .boolean v)))) = w')
    (kk : ∀ (H1 : Heap) (locs1 : List Loc), hj_P g n ad w' H1 → hj_S n ad s H1 locs1 → W p l e R s m args below meth c H1 locs1 cells slots Q (F0 m (pc + 1) ls rest)) : W p l e R s m args below meth c H locs cells slots Q (F0 m pc ls (.int v :: .int x :: .ref (ad i) :: rest)) :=
  va_zast (D := g.1) hx hb hK hP (hj_D hI) hS i 1 (hj_at hi hw) rfl hin hdg (fun H1 locs1 h1 _ h3 => kk H1 locs1 (by rw [hj_set hi, hw'] at h1; exact h1) h3)
theorem hj_ras (hx : p.tables.exec = Jvm.exec) (hb : c.code = cc) (hK : hj_K g s) (hI : hj_I n ad) (hP : hj_P g n ad w H) (hS : hj_S n ad s H locs) {i j N : Nat} {f : Nat → Option Nat} {vs : List Value} (hi : i < n) (hw : w i = .inl (g.2.2.2, N, .inr (.inr (.inr (.inr f))))) (hj : j < n) (hwj : w j = .inr (2, vs)) {x : Int32} (hin : vp_in x N) (hdg : decode cc pc = .ok (.aastore, 1))
    {w' : Nat → va_E} (hw' : va_up w i (.inl (g.2.2.2, N, .inr (.inr (.inr (.inr (va_up f x.toNatClampNeg (some (ad j)))))))) = w')
    (kk : ∀ (H1 : Heap) (locs1 : List Loc), hj_P g n ad w' H1 → hj_S n ad s H1 locs1 → W p l e R s m args below meth c H1 locs1 cells slots Q (F0 m (pc + 1) ls rest)) : W p l e R s m args below meth c H locs cells slots Q (F0 m pc ls (.ref (ad j) :: .int x :: .ref (ad i) :: rest)) :=
  va_astq (D := g.1) (r := (RX2, TX2, 6)) hx hb hK hP (hj_D hI) hS i 2 j 2 (hj_at hi hw) rfl (hj_at hj hwj) rfl hin hdg (fun H1 locs1 h1 _ h3 => kk H1 locs1 (by rw [hj_set hi, hw'] at h1; exact h1) h3)
end HJA
section HJB
variable {p : Program} {l : Launch} {e : Env} {R : Room} {s : State} {m : MethodId} {args : Array Value} {below : List Frame} {meth : Method} {c : Code} {H : Heap} {locs : List Loc} {Q : State → Prop}
variable {cc : ByteArray} {pc : Nat} {ls : Array Slot} {rest : List Value} {g : hj_G} {n : Nat} {ad : Nat → Nat} {w w' : Nat → va_E} {X : hj_X}
/-- what a callee is given of the state, by the caller's world -/
theorem hj_cpre {av : List Value} (hP : hj_P g n ad w H) (hK : hj_K g s) (hX : ∀ U : State, U.heap = H → s.vm.Alike U.vm → X (hj_A n ad H.size) U) (U : State) (hU : U.heap = H) (hW : s.WarmedH U.vm) : va_Pc av (hj_pre g n ad w X H.size) av.toArray U :=
  ⟨rfl, by rw [hU], by rw [hU]; exact hP, va_K.moved hW.alike hK, hX U hU hW.alike⟩
def hj_Xb (X : hj_X) : Prop := ∀ (A : Nat → Prop) (U : State) (f : JFrame) (mk : MethodId) (a : Array Value), X A U → X A (U.calling f mk a)
theorem hj_Xb0 : hj_Xb hj_X0 := fun _ _ _ _ _ _ => trivial
theorem hj_blind {av : List Value} {sz : Nat} (hb : hj_Xb X) : FrameBlind (va_Pc av (hj_pre g n ad w X sz)) := fun a U f mk q => by
  obtain ⟨q0, q1, qP, qK, qX⟩ := q
  exact ⟨q0, q1, qP, va_K.moved (u := U) (U := U.calling f mk a) (Vm.Alike.refl U.vm) qK, hb _ _ _ _ _ qX⟩
variable {y : MethodName} {bytes : ByteArray} {maxL nL mcount index : Nat} {ret : Option FieldType} {ws : List Cond} {rm : Room} {Ts : List Cond} {own C : String} {As st0 : List Value} {i0 : Nat}
theorem hj_callVi {r : Int32} (S : CallFix p m c cc nL s args Ts own) (hM : hj_MI l y ws rm g n ad X (.ref (ad i0) :: As) w r w') (cw : CallW R s args own C index y bytes maxL ret ws rm 0 0 mcount)
    (hXb : hj_Xb X) (hX : ∀ U : State, U.heap = H → s.vm.Alike U.vm → X (hj_A n ad H.size) U) (hK : hj_K g s) (hP : hj_P g n ad w H) (hS : hj_S n ad s H locs) {ci : Nat} {fs : List Value} {T : u_T} {N : Nat} (hi : i0 < n) (hw : w i0 = .inr (ci, fs)) (hc : vwCl[ci]? = some (C, T, N))
    (hn : As.length = mcount) (hsz : ls.size = nL) (hst : st0 = As.reverse ++ .ref (ad i0) :: rest) (hR : (rest.map fun v => v.category).sum ≤ 8) (hdg : decode cc pc = .ok (.invokevirtual index, 3))
    (kk : ∀ (H1 : Heap) (locs1 : List Loc), hj_P g n ad w' H1 → hj_S n ad s H1 locs1 → W p l e R s m args below meth c H1 locs1 0 0 Q (F0 m (pc + 3) ls (.int r :: rest))) : W p l e R s m args below meth c H locs 0 0 Q (F0 m pc ls st0) := by
  subst hst
  refine va_calli (A0 := hj_A n ad s.heap.size) (H0 := s.heap) (va_runV (mc := 0) (ms := 0) (As := As) (rest := rest) S (hM H.size) cw ⟨hj_blind hXb, va_recv hK hP (q0 := i0) hc (hj_at hi hw), fun U hU hW => hj_cpre hP hK hX U hU hW⟩ rfl hn hsz rfl (lv_room hR) hdg ⟨Nat.zero_le _, Nat.zero_le _⟩) hS (fun q _ h => hj_A_sub hS.1 h) (fun q h => hj_A_sub hS.1 h) ?_
  intro r' u t H1 locs1 ht _ hr hB _ _ hS1
  obtain ⟨hP1, -⟩ := hB
  rw [ht] at hP1
  have hr : r' = r := hr
  subst hr
  exact kk H1 locs1 hP1 hS1
theorem hj_callVv (S : CallFix p m c cc nL s args Ts own) (hM : hj_MV l y ws rm g n ad X (.ref (ad i0) :: As) w w') (cw : CallW R s args own C index y bytes maxL ret ws rm 0 0 mcount)
    (hXb : hj_Xb X) (hX : ∀ U : State, U.heap = H → s.vm.Alike U.vm → X (hj_A n ad H.size) U) (hK : hj_K g s) (hP : hj_P g n ad w H) (hS : hj_S n ad s H locs) {ci : Nat} {fs : List Value} {T : u_T} {N : Nat} (hi : i0 < n) (hw : w i0 = .inr (ci, fs)) (hc : vwCl[ci]? = some (C, T, N))
    (hn : As.length = mcount) (hsz : ls.size = nL) (hst : st0 = As.reverse ++ .ref (ad i0) :: rest) (hR : (rest.map fun v => v.category).sum ≤ 8) (hdg : decode cc pc = .ok (.invokevirtual index, 3))
    (kk : ∀ (H1 : Heap) (locs1 : List Loc), hj_P g n ad w' H1 → hj_S n ad s H1 locs1 → W p l e R s m args below meth c H1 locs1 0 0 Q (F0 m (pc + 3) ls rest)) : W p l e R s m args below meth c H locs 0 0 Q (F0 m pc ls st0) := by
  subst hst
  refine va_callv (A0 := hj_A n ad s.heap.size) (H0 := s.heap) (va_runV (mc := 0) (ms := 0) (As := As) (rest := rest) S (hM H.size) cw ⟨hj_blind hXb, va_recv hK hP (q0 := i0) hc (hj_at hi hw), fun U hU hW => hj_cpre hP hK hX U hU hW⟩ rfl hn hsz rfl (lv_room hR) hdg ⟨Nat.zero_le _, Nat.zero_le _⟩) hS (fun q _ h => hj_A_sub hS.1 h) (fun q h => hj_A_sub hS.1 h) ?_
  intro u t H1 locs1 ht _ _ hB _ _ hS1
  obtain ⟨hP1, -⟩ := hB
  rw [ht] at hP1
  exact kk H1 locs1 hP1 hS1
theorem hj_callSi {r : Int32} (S : CallFix p m c cc nL s args Ts own) (hM : hj_MI l y ws rm g n ad X As w r w') (cw : CallB R s args own index y bytes maxL ret ws rm 0 0 mcount ∧ (Cond.static y).before args s = true)
    (hXb : hj_Xb X) (hX : ∀ U : State, U.heap = H → s.vm.Alike U.vm → X (hj_A n ad H.size) U) (hK : hj_K g s) (hP : hj_P g n ad w H) (hS : hj_S n ad s H locs)
    (hn : As.length = mcount) (hsz : ls.size = nL) (hst : st0 = As.reverse ++ rest) (hR : (rest.map fun v => v.category).sum ≤ 8) (hdg : decode cc pc = .ok (.invokestatic index, 3))
    (kk : ∀ (H1 : Heap) (locs1 : List Loc), hj_P g n ad w' H1 → hj_S n ad s H1 locs1 → W p l e R s m args below meth c H1 locs1 0 0 Q (F0 m (pc + 3) ls (.int r :: rest))) : W p l e R s m args below meth c H locs 0 0 Q (F0 m pc ls st0) := by
  subst hst
  refine va_calli (A0 := hj_A n ad s.heap.size) (H0 := s.heap) (va_runS (mc := 0) (ms := 0) (As := As) (rest := rest) S (hM H.size) cw ⟨hj_blind hXb, fun U hU hW => hj_cpre hP hK hX U hU hW⟩ rfl hn hsz rfl (lv_room hR) hdg ⟨Nat.zero_le _, Nat.zero_le _⟩) hS (fun q _ h => hj_A_sub hS.1 h) (fun q h => hj_A_sub hS.1 h) ?_
  intro r' u t H1 locs1 ht _ hr hB _ _ hS1
  obtain ⟨hP1, -⟩ := hB
  rw [ht] at hP1
  have hr : r' = r := hr
  subst hr
  exact kk H1 locs1 hP1 hS1
end HJB
/-! the mirrored programs: what a step asks, and how a chain of steps is opened -/
def hj_ck {α : Type} (x : Int32) (n : Nat) (k : Option α) : Option α := if x < 0 ∨ n ≤ x.toNatClampNeg then none else k
theorem hj_ck_s {α : Type} {x : Int32} {n : Nat} {k : Option α} {r : α} (h : hj_ck x n k = some r) : vp_in x n ∧ k = some r := by
  unfold hj_ck at h
  split at h
  · cases h
  · exact ⟨by assumption, h⟩
def hj_nz {α : Type} (x : Int32) (k : Option α) : Option α := if x = 0 then none else k
theorem hj_nz_s {α : Type} {x : Int32} {k : Option α} {r : α} (h : hj_nz x k = some r) : ¬ x = 0 ∧ k = some r := by
  unfold hj_nz at h
  split at h
  · cases h
  · exact ⟨by assumption, h⟩
def hj_bz {α : Type} (x : Int32) (k : Option α) : Option α := if x = 0 ∨ x = 1 then k else none
theorem hj_bz_s {α : Type} {x : Int32} {k : Option α} {r : α} (h : hj_bz x k = some r) : (x = 0 ∨ x = 1) ∧ k = some r := by
  unfold hj_bz at h
  split at h
  · exact ⟨by assumption, h⟩
  · cases h
def hj_nm {α β : Type} (x : α) (k : α → Option β) : Option β := k x
theorem hj_nm_s {α β : Type} {x : α} {k : α → Option β} {r : β} (h : hj_nm x k = some r) : ∃ y, y = x ∧ k y = some r := ⟨x, rfl, h⟩
theorem hj_nm_y {α β : Type} {x y : α} {k : α → Option β} {r : β} (h : hj_nm x k = some r) (e : y = x) : k y = some r := by subst e; exact h
def hj_o1 {α β : Type} (o : Option α) (k : α → Option β) : Option β := match o with | none => none | some x => k x
theorem hj_o1_s {α β : Type} {o : Option α} {k : α → Option β} {r : β} (h : hj_o1 o k = some r) : ∃ x, o = some x ∧ k x = some r := by
  cases o with
  | none => cases h
  | some x => exact ⟨x, rfl, h⟩
def hj_o2 {α β γ : Type} (o : Option (α × β)) (k : α → β → Option γ) : Option γ := match o with | none => none | some x => k x.1 x.2
theorem hj_o2_s {α β γ : Type} {o : Option (α × β)} {k : α → β → Option γ} {r : γ} (h : hj_o2 o k = some r) : ∃ x y, o = some (x, y) ∧ k x y = some r := by
  cases o with
  | none => cases h
  | some x => exact ⟨x.1, x.2, rfl, h⟩
def hj_o3 {α β γ δ : Type} (o : Option (α × β × γ)) (k : α → β → γ → Option δ) : Option δ := match o with | none => none | some x => k x.1 x.2.1 x.2.2
theorem hj_o3_s {α β γ δ : Type} {o : Option (α × β × γ)} {k : α → β → γ → Option δ} {r : δ} (h : hj_o3 o k = some r) : ∃ x y z, o = some (x, y, z) ∧ k x y z = some r := by
  cases o with
  | none => cases h
  | some x => exact ⟨x.1, x.2.1, x.2.2, rfl, h⟩
def hj_o4 {α β γ δ ε : Type} (o : Option (α × β × γ × δ)) (k : α → β → γ → δ → Option ε) : Option ε := match o with | none => none | some x => k x.1 x.2.1 x.2.2.1 x.2.2.2
theorem hj_o4_s {α β γ δ ε : Type} {o : Option (α × β × γ × δ)} {k : α → β → γ → δ → Option ε} {r : ε} (h : hj_o4 o k = some r) : ∃ x y z t, o = some (x, y, z, t) ∧ k x y z t = some r := by
  cases o with
  | none => cases h
  | some x => exact ⟨x.1, x.2.1, x.2.2.1, x.2.2.2, rfl, h⟩
/-- a loop: its body goes on (inr) or leaves (inl) -/
def hj_lp {S E : Type} (b : S → Option (E ⊕ S)) : Nat → S → Option E
  | 0, _ => none
  | n + 1, s => match b s with
    | none => none
    | some (.inl e) => some e
    | some (.inr s') => hj_lp b n s'
theorem hj_lp_s {S E : Type} {b : S → Option (E ⊕ S)} {n : Nat} {s : S} {e : E} (h : hj_lp b (n + 1) s = some e) : ∃ x, b s = some x ∧ (∀ e', x = .inl e' → e' = e) ∧ (∀ s', x = .inr s' → hj_lp b n s' = some e) := by
  unfold hj_lp at h
  cases hb : b s with
  | none => rw [hb] at h; cases h
  | some x =>
    rw [hb] at h
    refine ⟨x, rfl, fun e' he => ?_, fun s' hs => ?_⟩
    · subst he; exact Option.some.inj h
    · subst hs; exact h
/-- behind a loop that may also return -/
def hj_oe {R E T : Type} (f : R → T) (o : Option (R ⊕ E)) (k : E → Option T) : Option T := match o with
  | none => none
  | some (.inl r) => some (f r)
  | some (.inr e) => k e
theorem hj_oe_s {R E T : Type} {f : R → T} {o : Option (R ⊕ E)} {k : E → Option T} {t : T} (h : hj_oe f o k = some t) : ∃ x, o = some x ∧ (∀ r, x = .inl r → f r = t) ∧ (∀ e, x = .inr e → k e = some t) := by
  cases o with
  | none => cases h
  | some x =>
    refine ⟨x, rfl, fun r hr => ?_, fun e he => ?_⟩
    · subst hr; exact Option.some.inj h
    · subst he; exact h
abbrev hj_Ob : Type := (Nat → Int32) × (Nat → Nat → Int32)
/-- a number, a row's place, set -/
def hj_s (o : hj_Ob) (k : Nat) (v : Int32) : hj_Ob := (va_up o.1 k v, o.2)
def hj_a (o : hj_Ob) (k : Nat) (x : Int32) (v : Int32) : hj_Ob := (o.1, va_up o.2 k (upd (o.2 k) x.toNatClampNeg v))
theorem hj_uu {α : Type} (f : Nat → α) (k : Nat) (v v' : α) : va_up (va_up f k v) k v' = va_up f k v' := by
  funext j
  unfold va_up
  split <;> rfl
theorem hj_ue {α : Type} (f : Nat → α) (k : Nat) {v : α} (h : f k = v) : va_up f k v = f := by
  funext j
  unfold va_up
  split
  · subst_vars; rfl
  · rfl
