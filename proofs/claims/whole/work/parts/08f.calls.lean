/-! the law's two objects side by side in one heap; a call of either -/
abbrev lw_A (s : State) : Nat → Prop := fun q => s.heap.size ≤ q
def lw_F (s : State) (ad am : Nat → Nat) : Prop := hj_I 73 ad ∧ hj_I 13 am ∧ (∀ i, i < 73 → s.heap.size ≤ ad i) ∧ (∀ i, i < 13 → s.heap.size ≤ am i) ∧ ∀ i j, i < 73 → j < 13 → ad i ≠ am j
def lw_I (g : hj_G) (ad am : Nat → Nat) (σ : Nat → hj_Ob) (bf : Nat → Nat) (τ : hj_Ob) (sx sm : Int64) (H : Heap) : Prop := hj_P g 73 ad (hj_wx g ad σ bf sx) H ∧ hj_P g 13 am (hj_wm g am τ sm) H
theorem lw_kept {g : hj_G} {n k : Nat} {ad am : Nat → Nat} {w : Nat → va_E} {H H1 : Heap} (hP : hj_P g k am w H) (hap : ∀ i j, i < n → j < k → ad i ≠ am j) (hq : ∀ q : Nat, q < H.size → ¬ hj_A n ad H.size q → H1[q]? = H[q]?) : hj_P g k am w H1 := by
  refine va_P.kept hP (fun j x hx => ?_)
  have hlt := (hP j x hx).lt
  refine hq x.1 hlt ?_
  obtain ⟨hj, rfl⟩ := hj_of hx
  rintro (⟨i, hi, e⟩ | h)
  · exact hap i j hi hj e.symm
  · exact absurd hlt (Nat.not_lt.mpr h)
section LWC
variable {p : Program} {l : Launch} {e : Env} {R : Room} {s : State} {m : MethodId} {args : Array Value} {below : List Frame} {meth : Method} {c : Code} {H : Heap} {locs : List Loc} {cells slots : Nat} {Q : State → Prop}
variable {cc : ByteArray} {pc : Nat} {ls : Array Slot} {rest : List Value} {g : hj_G} {ad am : Nat → Nat} {σ σ' : Nat → hj_Ob} {bf bf' : Nat → Nat} {τ τ' : hj_Ob} {sx sx' sm sm' : Int64} {X : hj_X}
variable {y : MethodName} {bytes : ByteArray} {maxL nL mcount index : Nat} {ret : Option FieldType} {ws : List Cond} {rm : Room} {Ts : List Cond} {own C : String} {As st0 : List Value}
theorem lw_xi {r : Int32} (S : CallFix p m c cc nL s args Ts own) (hM : hj_MI l y ws rm g 73 ad X (.ref (ad 0) :: As) (hj_wx g ad σ bf sx) r (hj_wx g ad σ' bf' sx')) (cw : CallW R s args own C index y bytes maxL ret ws rm 0 0 mcount)
    (hXb : hj_Xb X) (hX : ∀ U : State, U.heap = H → s.vm.Alike U.vm → X (hj_A 73 ad H.size) U) (hK : hj_K g s) (hF : lw_F s ad am) (hI : lw_I g ad am σ bf τ sx sm H) (hS : va_S (lw_A s) s.heap H locs) {ci : Nat} {fs : List Value} {T : u_T} {N : Nat} (hw : (hj_wx g ad σ bf sx) 0 = .inr (ci, fs)) (hc : vwCl[ci]? = some (C, T, N))
    (hn : As.length = mcount) (hsz : ls.size = nL) (hst : st0 = As.reverse ++ .ref (ad 0) :: rest) (hR : (rest.map fun v => v.category).sum ≤ 8) (hdg : decode cc pc = .ok (.invokevirtual index, 3)) (hf : cells ≤ R.cells ∧ slots ≤ R.slots)
    (kk : ∀ (H1 : Heap) (locs1 : List Loc), lw_I g ad am σ' bf' τ sx' sm H1 → va_S (lw_A s) s.heap H1 locs1 → W p l e R s m args below meth c H1 locs1 cells slots Q (F0 m (pc + 3) ls (.int r :: rest))) : W p l e R s m args below meth c H locs cells slots Q (F0 m pc ls st0) := by
  subst hst
  obtain ⟨hP, hP2⟩ := hI
  obtain ⟨hI1, hI2, hs1, hs2, hap⟩ := hF
  have sub : ∀ q, hj_A 73 ad H.size q → lw_A s q := by
    rintro q (⟨i, hi, rfl⟩ | h)
    · exact hs1 i hi
    · exact Nat.le_trans hS.1 h
  refine va_calli (A0 := lw_A s) (H0 := s.heap) (va_runV (mc := 0) (ms := 0) (As := As) (rest := rest) S (hM H.size) cw ⟨hj_blind hXb, va_recv hK hP (q0 := 0) hc (hj_at (by decide) hw), fun U hU hW => hj_cpre hP hK hX U hU hW⟩ rfl hn hsz rfl (lv_room hR) hdg hf) hS (fun q _ h => sub q h) sub ?_
  intro r' u t H1 locs1 ht _ hr hB _ hk1 hS1
  obtain ⟨hP1, -⟩ := hB
  rw [ht] at hP1
  have hr : r' = r := hr
  subst hr
  exact kk H1 locs1 ⟨hP1, lw_kept hP2 hap hk1⟩ hS1
theorem lw_mi {r : Int32} (S : CallFix p m c cc nL s args Ts own) (hM : hj_MI l y ws rm g 13 am X (.ref (am 0) :: As) (hj_wm g am τ sm) r (hj_wm g am τ' sm')) (cw : CallW R s args own C index y bytes maxL ret ws rm 0 0 mcount)
    (hXb : hj_Xb X) (hX : ∀ U : State, U.heap = H → s.vm.Alike U.vm → X (hj_A 13 am H.size) U) (hK : hj_K g s) (hF : lw_F s ad am) (hI : lw_I g ad am σ bf τ sx sm H) (hS : va_S (lw_A s) s.heap H locs) {ci : Nat} {fs : List Value} {T : u_T} {N : Nat} (hw : (hj_wm g am τ sm) 0 = .inr (ci, fs)) (hc : vwCl[ci]? = some (C, T, N))
    (hn : As.length = mcount) (hsz : ls.size = nL) (hst : st0 = As.reverse ++ .ref (am 0) :: rest) (hR : (rest.map fun v => v.category).sum ≤ 8) (hdg : decode cc pc = .ok (.invokevirtual index, 3)) (hf : cells ≤ R.cells ∧ slots ≤ R.slots)
    (kk : ∀ (H1 : Heap) (locs1 : List Loc), lw_I g ad am σ bf τ' sx sm' H1 → va_S (lw_A s) s.heap H1 locs1 → W p l e R s m args below meth c H1 locs1 cells slots Q (F0 m (pc + 3) ls (.int r :: rest))) : W p l e R s m args below meth c H locs cells slots Q (F0 m pc ls st0) := by
  subst hst
  obtain ⟨hP, hP2⟩ := hI
  obtain ⟨hI1, hI2, hs1, hs2, hap⟩ := hF
  have sub : ∀ q, hj_A 13 am H.size q → lw_A s q := by
    rintro q (⟨i, hi, rfl⟩ | h)
    · exact hs2 i hi
    · exact Nat.le_trans hS.1 h
  refine va_calli (A0 := lw_A s) (H0 := s.heap) (va_runV (mc := 0) (ms := 0) (As := As) (rest := rest) S (hM H.size) cw ⟨hj_blind hXb, va_recv hK hP2 (q0 := 0) hc (hj_at (by decide) hw), fun U hU hW => hj_cpre hP2 hK hX U hU hW⟩ rfl hn hsz rfl (lv_room hR) hdg hf) hS (fun q _ h => sub q h) sub ?_
  intro r' u t H1 locs1 ht _ hr hB _ hk1 hS1
  obtain ⟨hP1, -⟩ := hB
  rw [ht] at hP1
  have hr : r' = r := hr
  subst hr
  exact kk H1 locs1 ⟨lw_kept hP (fun i j hi hj q => hap j i hj hi q.symm) hk1, hP1⟩ hS1
theorem lw_xl {r : Int64} (S : CallFix p m c cc nL s args Ts own) (hM : hj_ML l y ws rm g 73 ad X (.ref (ad 0) :: As) (hj_wx g ad σ bf sx) r (hj_wx g ad σ' bf' sx')) (cw : CallW R s args own C index y bytes maxL ret ws rm 0 0 mcount)
    (hXb : hj_Xb X) (hX : ∀ U : State, U.heap = H → s.vm.Alike U.vm → X (hj_A 73 ad H.size) U) (hK : hj_K g s) (hF : lw_F s ad am) (hI : lw_I g ad am σ bf τ sx sm H) (hS : va_S (lw_A s) s.heap H locs) {ci : Nat} {fs : List Value} {T : u_T} {N : Nat} (hw : (hj_wx g ad σ bf sx) 0 = .inr (ci, fs)) (hc : vwCl[ci]? = some (C, T, N))
    (hn : As.length = mcount) (hsz : ls.size = nL) (hst : st0 = As.reverse ++ .ref (ad 0) :: rest) (hR : (rest.map fun v => v.category).sum ≤ 8) (hdg : decode cc pc = .ok (.invokevirtual index, 3)) (hf : cells ≤ R.cells ∧ slots ≤ R.slots)
    (kk : ∀ (H1 : Heap) (locs1 : List Loc), lw_I g ad am σ' bf' τ sx' sm H1 → va_S (lw_A s) s.heap H1 locs1 → W p l e R s m args below meth c H1 locs1 cells slots Q (F0 m (pc + 3) ls (.long r :: rest))) : W p l e R s m args below meth c H locs cells slots Q (F0 m pc ls st0) := by
  subst hst
  obtain ⟨hP, hP2⟩ := hI
  obtain ⟨hI1, hI2, hs1, hs2, hap⟩ := hF
  have sub : ∀ q, hj_A 73 ad H.size q → lw_A s q := by
    rintro q (⟨i, hi, rfl⟩ | h)
    · exact hs1 i hi
    · exact Nat.le_trans hS.1 h
  refine va_calll (A0 := lw_A s) (H0 := s.heap) (va_runV (mc := 0) (ms := 0) (As := As) (rest := rest) S (hM H.size) cw ⟨hj_blind hXb, va_recv hK hP (q0 := 0) hc (hj_at (by decide) hw), fun U hU hW => hj_cpre hP hK hX U hU hW⟩ rfl hn hsz rfl (lv_room hR) hdg hf) hS (fun q _ h => sub q h) sub ?_
  intro r' u t H1 locs1 ht _ hr hB _ hk1 hS1
  obtain ⟨hP1, -⟩ := hB
  rw [ht] at hP1
  have hr : r' = r := hr
  subst hr
  exact kk H1 locs1 ⟨hP1, lw_kept hP2 hap hk1⟩ hS1
theorem lw_ml {r : Int64} (S : CallFix p m c cc nL s args Ts own) (hM : hj_ML l y ws rm g 13 am X (.ref (am 0) :: As) (hj_wm g am τ sm) r (hj_wm g am τ' sm')) (cw : CallW R s args own C index y bytes maxL ret ws rm 0 0 mcount)
    (hXb : hj_Xb X) (hX : ∀ U : State, U.heap = H → s.vm.Alike U.vm → X (hj_A 13 am H.size) U) (hK : hj_K g s) (hF : lw_F s ad am) (hI : lw_I g ad am σ bf τ sx sm H) (hS : va_S (lw_A s) s.heap H locs) {ci : Nat} {fs : List Value} {T : u_T} {N : Nat} (hw : (hj_wm g am τ sm) 0 = .inr (ci, fs)) (hc : vwCl[ci]? = some (C, T, N))
    (hn : As.length = mcount) (hsz : ls.size = nL) (hst : st0 = As.reverse ++ .ref (am 0) :: rest) (hR : (rest.map fun v => v.category).sum ≤ 8) (hdg : decode cc pc = .ok (.invokevirtual index, 3)) (hf : cells ≤ R.cells ∧ slots ≤ R.slots)
    (kk : ∀ (H1 : Heap) (locs1 : List Loc), lw_I g ad am σ bf τ' sx sm' H1 → va_S (lw_A s) s.heap H1 locs1 → W p l e R s m args below meth c H1 locs1 cells slots Q (F0 m (pc + 3) ls (.long r :: rest))) : W p l e R s m args below meth c H locs cells slots Q (F0 m pc ls st0) := by
  subst hst
  obtain ⟨hP, hP2⟩ := hI
  obtain ⟨hI1, hI2, hs1, hs2, hap⟩ := hF
  have sub : ∀ q, hj_A 13 am H.size q → lw_A s q := by
    rintro q (⟨i, hi, rfl⟩ | h)
    · exact hs2 i hi
    · exact Nat.le_trans hS.1 h
  refine va_calll (A0 := lw_A s) (H0 := s.heap) (va_runV (mc := 0) (ms := 0) (As := As) (rest := rest) S (hM H.size) cw ⟨hj_blind hXb, va_recv hK hP2 (q0 := 0) hc (hj_at (by decide) hw), fun U hU hW => hj_cpre hP2 hK hX U hU hW⟩ rfl hn hsz rfl (lv_room hR) hdg hf) hS (fun q _ h => sub q h) sub ?_
  intro r' u t H1 locs1 ht _ hr hB _ hk1 hS1
  obtain ⟨hP1, -⟩ := hB
  rw [ht] at hP1
  have hr : r' = r := hr
  subst hr
  exact kk H1 locs1 ⟨lw_kept hP (fun i j hi hj q => hap j i hj hi q.symm) hk1, hP1⟩ hS1
end LWC
