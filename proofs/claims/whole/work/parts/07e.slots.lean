/-! fifteen numbers copied: to the present level, out of a row's block; and back -/
theorem B_of_M {n : Nat} {τ : hj_Ob} {a : hp_R} {f : Nat → Int32} {b : Nat} (h : ∀ k, k < 15 → f (b + k) = τ.2 4 k) (hn : n ≤ 6) (hM : hr_M n 0 τ a) : hr_B n f b a := by
  refine ⟨(h 0 (by omega)).trans hM.1, (h 1 (by omega)).trans hM.2.1, (h 2 (by omega)).trans hM.2.2.1, fun j hj => ⟨?_, ?_⟩⟩
  · rw [show b + 3 + j = b + (3 + j) by omega, h (3 + j) (by omega)]
    exact (congrArg (τ.2 4) (by omega)).trans (hM.2.2.2 j hj).1
  · rw [show b + 9 + j = b + (9 + j) by omega, h (9 + j) (by omega)]
    exact (congrArg (τ.2 4) (by omega)).trans (hM.2.2.2 j hj).2
theorem M_of_B {n : Nat} {τ : hj_Ob} {a : hp_R} {f : Nat → Int32} {b : Nat} (h : ∀ k, k < 15 → τ.2 4 k = f (b + k)) (hn : n ≤ 6) (hB : hr_B n f b a) : hr_M n 0 τ a := by
  refine ⟨(h 0 (by omega)).trans hB.1, (h 1 (by omega)).trans hB.2.1, (h 2 (by omega)).trans hB.2.2.1, fun j hj => ⟨?_, ?_⟩⟩
  · rw [show 15 * 0 + 3 + j = 3 + j by omega, h (3 + j) (by omega), show b + (3 + j) = b + 3 + j by omega]
    exact (hB.2.2.2 j hj).1
  · rw [show 15 * 0 + 9 + j = 9 + j by omega, h (9 + j) (by omega), show b + (9 + j) = b + 9 + j by omega]
    exact (hB.2.2.2 j hj).2
/-- the loops of undo and again: now[k] is row[base + k] -/
theorem m_back {A : Nat} {f : hj_Ob → Int32 → Option (hj_Ob ⊕ (Int32 × hj_Ob))} {b N : Nat} {τ : hj_Ob} (hA : A ≠ 4) (hb : b + 15 ≤ N) (hN : N < 2 ^ 31)
    (hf : ∀ (r : hj_Ob) (i : Nat), i ≤ 15 → r.1 = τ.1 → f r (nI i) = (if 15 ≤ nI i then some (.inl r) else hj_ck (nI (b + i)) N (hj_ck (nI i) 30 (hj_nm (hj_a r 4 (nI i) (r.2 A (nI (b + i)).toNatClampNeg)) fun τ7 => hj_nm (nI i + 1) fun y8 => some (.inr (y8, τ7)))))) :
    ∃ τ', hj_lp (fun q : (Int32 × hj_Ob) => f q.2 q.1) 100 (0, τ) = some τ' ∧ hr_F 0 τ τ' ∧ ∀ k, k < 15 → τ'.2 4 k = τ.2 A (b + k) := by
  obtain ⟨e, he, h1, h2⟩ := lp_h (b := fun q : (Int32 × hj_Ob) => f q.2 q.1) (fun i q => q.1 = nI i ∧ hr_F 0 τ q.2 ∧ ∀ k, k < i → q.2.2 4 k = τ.2 A (b + k))
    (fun e => hr_F 0 τ e ∧ ∀ k, k < 15 → e.2 4 k = τ.2 A (b + k)) 15
    (fun i q hi hI => by
      obtain ⟨x, r⟩ := q
      obtain ⟨h1, h2, h3⟩ := hI
      dsimp only at h1 h2 h3 ⊢
      subst h1
      rw [hf r i hi h2.1]
      by_cases h6 : i < 15
      · rw [if_neg (by rw [show (15 : Int32) = nI 15 from rfl, ev_le (by omega) (by omega)]; omega), ck_k (by omega) hN, ck_k (by omega) (by decide), ev_nm, ev_nm, nI_1, ev_cl (by omega), h2.2.1 A hA]
        refine Or.inr ⟨h6, _, rfl, rfl, hr_F_tr h2 (hr_F_a (L := 0) (by omega) (by omega) (by omega)), fun k hk => ?_⟩
        rw [m_a4 (by omega)]
        by_cases e : k = i
        · rw [e, if_pos rfl]
        · rw [if_neg e]; exact h3 k (by omega)
      · have : i = 15 := by omega
        subst this
        rw [if_pos (by decide)]
        exact Or.inl ⟨r, rfl, h2, h3⟩)
    100 0 (0, τ) (by omega) (by omega) ⟨rfl, hr_F_rf, fun k hk => by omega⟩
  exact ⟨e, he, h1, h2⟩
theorem lr_undo {B : Nat} {σ : Nat → hj_Ob} {bf : Nat → Nat} {τ : hj_Ob} {sd : Int64} (h : lr B σ bf τ) : ∃ r σ' τ', fX5_undo σ bf sd = some (r, σ') ∧ fX6_undo τ sd = some (r, τ') ∧ lr B σ' bf τ' := by
  obtain ⟨tx, P, a, hi, sl, se, hx, hm, ho⟩ := h
  have hlr : lr B σ bf τ := ⟨tx, P, a, hi, sl, se, hx, hm, ho⟩
  have h14 := ho.2.2.2.1.1
  have h6 := ho.2.1.1
  have hx0 := hx
  obtain ⟨x1, x2, x3, x4, x5, x6⟩ := hx
  obtain ⟨m1, m2, m3, ⟨m4, nx, hnx, m4n, m4r⟩, m5, m6⟩ := hm
  unfold fX5_undo fX0_takeBack fX6_undo
  rw [x4.1, m4]
  simp only [show (nI hi.1 < 1) = (hi.1 < 1) from ev_lt (b := 1) (by omega) (by omega), show (nI hi.1 ≤ 14) = (hi.1 ≤ 14) from ev_le (b := 14) (by omega) (by omega), show (nI hi.1 = 0) = (hi.1 = 0) from ev_eq (b := 0) (by omega) (by omega)]
  by_cases hc : hi.1 = 0
  · rw [if_pos (by omega), if_pos hc, ev_o2, if_pos i00]
    exact ⟨_, _, _, rfl, rfl, hlr⟩
  · rw [if_neg (by omega), if_pos h14, if_neg hc, show nI hi.1 - 1 = nI (hi.1 - 1) from pk_sub (b := 1) (by omega), ev_nm, ev_nm, ev_nm]
    have hb := x4.2.1 (hi.1 - 1) (by omega)
    rw [show (va_up σ 17 (hj_s (σ 17) 1 (nI (hi.1 - 1))) 17).1 1 = nI (hi.1 - 1) by rw [va_up_self]; rfl, ck_k (by omega) (by decide), ev_cl (by omega), ev_rg hb]
    obtain ⟨ρ', k1, k2⟩ := x_copy (π := va_up σ 17 (hj_s (σ 17) 1 (nI (hi.1 - 1))) 3) (ρo := va_up σ 17 (hj_s (σ 17) 1 (nI (hi.1 - 1))) (bf (hi.1 - 1))) (ρ := va_up σ 17 (hj_s (σ 17) 1 (nI (hi.1 - 1))) 11) h6 (by rw [va_up_ne _ _ (by omega)]; exact x4.2.2.2 (hi.1 - 1) (by omega))
    rw [k1, ev_o1, ev_nm, ev_o2, if_neg i10]
    have hxs : lx (va_up σ 17 (hj_s (σ 17) 1 (nI (hi.1 - 1)))) bf tx P a (hi.1 - 1, hi.2) sl se := by
      refine ⟨x1, x2, x3, ⟨by rw [va_up_self]; rfl, x4.2.1, x4.2.2.1, fun k hk => ?_⟩, fun k hk => ⟨(x5 k hk).1, fun q => ?_⟩, x6⟩
      · have hk : k < hi.1 - 1 := hk
        have := x4.2.1 k (by omega)
        rw [va_up_ne _ _ (by omega)]
        exact x4.2.2.2 k (by omega)
      · rw [va_up_ne _ _ (by omega)]
        exact (x5 k hk).2 q
    rw [show (hj_s τ 13 (nI (hi.1 - 1))).1 14 = nI nx by rw [ev_s1, if_neg (by decide), m4n], show nI nx + 13 = nI (nx + 13) by rw [show (13 : Int32) = nI 13 from rfl, nI_add], show (14 : Int32) = nI 14 from rfl, pk_rem (by omega) (by omega) (by omega)]
    have hd : (hj_s (hj_s τ 13 (nI (hi.1 - 1))) 14 (nI ((nx + 13) % 14))).1 14 = nI ((nx + 13) % 14) := by rw [ev_s1, if_pos rfl]
    obtain ⟨τ', k3, k4, k5⟩ := m_back (A := 15) (f := fun r x => fX6_undo_36 r sd x) (b := 15 * ((nx + 13) % 14)) (N := 210) (τ := hj_s (hj_s τ 13 (nI (hi.1 - 1))) 14 (nI ((nx + 13) % 14))) (by decide) (by omega) (by decide) (fun r i _ hr => by
      show fX6_undo_36 r sd (nI i) = _
      unfold fX6_undo_36
      rw [hr, hd, m_i0, nI_add])
    rw [k3, ev_o1]
    have hM : hr_M P.1 0 τ' (hi.2 (hi.1 - 1)) := M_of_B (f := τ.2 15) k5 h6 (by
      have := m4r (hi.1 - 1) (by omega)
      rw [show (nx + 14 - hi.1 + (hi.1 - 1)) % 14 = (nx + 13) % 14 by omega] at this
      exact this)
    have hms : lm (hj_s (hj_s τ 13 (nI (hi.1 - 1))) 14 (nI ((nx + 13) % 14))) tx P a (hi.1 - 1, hi.2) sl se := by
      refine ⟨m1, m2, m3, ⟨by rw [ev_s1, if_neg (by decide), ev_s1, if_pos rfl], (nx + 13) % 14, Nat.mod_lt _ (by omega), hd, fun k hk => ?_⟩, m5, m6⟩
      have hk : k < hi.1 - 1 := hk
      show hr_B P.1 (τ.2 15) (15 * (((nx + 13) % 14 + 14 - (hi.1 - 1) + k) % 14)) (hi.2 k)
      rw [show ((nx + 13) % 14 + 14 - (hi.1 - 1) + k) % 14 = (nx + 14 - hi.1 + k) % 14 by omega]
      exact m4r k (by omega)
    have hl1 := lx_now hxs (by show hi.1 - 1 ≤ 14; omega) k2
    refine ⟨nI (hi.1 - 1), _, _, ?_, ?_, tx, P, hi.2 (hi.1 - 1), (hi.1 - 1, hi.2), sl, se, hl1, lm_now hms k4 hM, ⟨ho.1, ho.2.1, ho.2.2.2.1.2 _ (by omega), ⟨by show hi.1 - 1 ≤ 14; omega, fun k hk => ho.2.2.2.1.2 k (by have hk : k < hi.1 - 1 := hk; omega)⟩, ho.2.2.2.2⟩⟩
    · rw [hl1.2.2.2.1.1]
    · rw [k4.1]
      rw [show (hj_s (hj_s τ 13 (nI (hi.1 - 1))) 14 (nI ((nx + 13) % 14))).1 13 = nI (hi.1 - 1) by rw [ev_s1, if_neg (by decide), ev_s1, if_pos rfl]]
theorem sl01 {x : Int32} : (x < 0 ∨ 2 ≤ x) ∨ ∃ k : Nat, k < 2 ∧ x = nI k := by
  rcases pk_ix x (n := 2) (by omega) with q | q | q
  · exact Or.inl (Or.inl q)
  · exact Or.inl (Or.inr q)
  · exact Or.inr q
theorem m_sl_f {x : Int32} (h : x < 0 ∨ 2 ≤ x) : fX6_in x.toInt64 0 1 = some 0 := in_f (l := 0) (h := 1) rfl rfl (by
  rcases h with h | h
  · exact Or.inl (ti_neg h)
  · exact Or.inr (by have := ti_ge (n := 2) (by omega) h; omega))
theorem lr_keep {B : Nat} {σ : Nat → hj_Ob} {bf : Nat → Nat} {τ : hj_Ob} {sd : Int64} (h : lr B σ bf τ) (x : Int32) : ∃ r σ' τ', fX5_keep σ bf sd x = some (r, σ') ∧ fX6_keep τ sd x = some (r, τ') ∧ lr B σ' bf τ' := by
  obtain ⟨tx, P, a, hi, sl, se, hx, hm, ho⟩ := h
  have hlr : lr B σ bf τ := ⟨tx, P, a, hi, sl, se, hx, hm, ho⟩
  have h14 := ho.2.2.2.1.1
  have h6 := ho.2.1.1
  obtain ⟨x1, x2, x3, x4, x5, x6⟩ := hx
  obtain ⟨m1, m2, m3, m4, m5, m6⟩ := hm
  unfold fX5_keep fX6_keep
  rcases sl01 (x := x) with q | ⟨s, hs, rfl⟩
  · rw [m_sl_f q, ev_o1, if_pos i00]
    rcases q with q | q
    · rw [if_pos q]; exact ⟨_, _, _, rfl, rfl, hlr⟩
    · rw [if_neg (show ¬ x < 2 from Int32.not_lt.mpr q)]
      by_cases c : x < 0
      · rw [if_pos c]; exact ⟨_, _, _, rfl, rfl, hlr⟩
      · rw [if_neg c]; exact ⟨_, _, _, rfl, rfl, hlr⟩
  · rw [in_t (l := 0) (h := 1) (by omega) rfl rfl (by omega) (by omega), ev_o1, if_neg i10, if_neg (ev_neg (by omega)), if_pos (by rw [show (2 : Int32) = nI 2 from rfl, ev_lt (by omega) (by omega)]; exact hs), ck_k hs (by decide), ck_k hs (by decide), ev_nm, ev_cl (by omega)]
    obtain ⟨ρ', k1, k2⟩ := x_copy (π := σ 3) (ρ := σ (67 + 3 * s)) h6 x3
    rw [k1, ev_o1, ev_nm, ck_k hs (by decide), ev_nm, ev_nm]
    have e11 : va_up (va_up σ (67 + 3 * s) ρ') 0 (hj_a (va_up σ (67 + 3 * s) ρ' 0) 7 (nI s) (vp_nar .boolean 1)) 11 = σ 11 := by rw [va_up_ne _ _ (by omega), va_up_ne _ _ (by omega)]
    rw [e11, x3.2.2.1]
    have hnar : vp_nar .boolean 1 = 1 := by decide
    rw [hnar]
    obtain ⟨e, he, e1, e2, e3, e4⟩ := lp_h (b := fun q : (Int32 × hj_Ob) => fX6_keep_21 q.2 sd (nI s) q.1) (fun i q => q.1 = nI i ∧ q.2.1 = τ.1 ∧ (∀ k, k ≠ 23 → q.2.2 k = (hj_a τ 22 (nI s) 1).2 k) ∧ (∀ k, k < i → q.2.2 23 (15 * s + k) = τ.2 4 k) ∧ ∀ j, (j < 15 * s ∨ 15 * s + 15 ≤ j) → q.2.2 23 j = τ.2 23 j)
      (fun e => e.1 = τ.1 ∧ (∀ k, k ≠ 23 → e.2 k = (hj_a τ 22 (nI s) 1).2 k) ∧ (∀ k, k < 15 → e.2 23 (15 * s + k) = τ.2 4 k) ∧ ∀ j, (j < 15 * s ∨ 15 * s + 15 ≤ j) → e.2 23 j = τ.2 23 j) 15
      (fun i q hi hI => by
        obtain ⟨x, r⟩ := q
        obtain ⟨h1, h2, h3, h4, h5⟩ := hI
        dsimp only at h1 h2 h3 h4 h5 ⊢
        subst h1
        unfold fX6_keep_21
        by_cases h6 : i < 15
        · rw [m_i0, nI_add, if_neg (by rw [show (15 : Int32) = nI 15 from rfl, ev_le (by omega) (by omega)]; omega), ck_k (by omega) (by decide), ck_k (by omega) (by decide), ev_nm, ev_nm, nI_1, ev_cl (by omega), h3 4 (by decide), wx_a_ne (by decide : (4 : Nat) ≠ 22)]
          refine Or.inr ⟨h6, _, rfl, rfl, h2, fun k hk => by rw [wx_a_ne hk]; exact h3 k hk, fun k hk => ?_, fun j hj => ?_⟩
          · rw [wx_a_se, ev_upd, ev_cl (by omega)]
            by_cases e : k = i
            · rw [e, if_pos rfl]
            · rw [if_neg (by omega)]; exact h4 k (by omega)
          · rw [wx_a_se, ev_upd, ev_cl (by omega), if_neg (by omega)]
            exact h5 j hj
        · have : i = 15 := by omega
          subst this
          rw [if_pos (by decide)]
          exact Or.inl ⟨r, rfl, h2, h3, h4, h5⟩)
      100 0 (0, hj_a τ 22 (nI s) 1) (by omega) (by omega) ⟨rfl, rfl, fun _ _ => rfl, fun k hk => by omega, fun j _ => by rw [wx_a_ne (by decide : (23 : Nat) ≠ 22)]⟩
    rw [he, ev_o1, ck_02, e2 4 (by decide), wx_a_ne (by decide : (4 : Nat) ≠ 22), show τ.2 4 (2 : Int32).toNatClampNeg = nI a.2.2.1 from m3.2.2.1]
    have u1 : ∀ k, k ≠ 22 → k ≠ 23 → e.2 k = τ.2 k := fun k q1 q2 => by rw [e2 k q2, wx_a_ne q1]
    refine ⟨_, _, _, rfl, rfl, tx, P, a, hi, (fun k => if k = s then true else sl.1 k, fun k => if k = s then a else sl.2 k), se, ⟨?_, ?_, ?_, ⟨?_, x4.2.1, x4.2.2.1, fun k hk => ?_⟩, fun k hk => ⟨?_, fun q => ?_⟩, ?_⟩, ⟨?_, ?_, ?_, ?_, fun k hk => ⟨?_, fun q => ?_⟩, ?_⟩, ⟨ho.1, ho.2.1, ho.2.2.1, ho.2.2.2.1, fun k hk q => ?_, ho.2.2.2.2.2⟩⟩
    · unfold lx_t; rw [va_up_ne _ _ (by omega), va_up_ne _ _ (by omega)]; exact x1
    · rw [va_up_ne _ _ (by omega), va_up_ne _ _ (by omega)]; exact x2
    · rw [va_up_ne _ _ (by omega), va_up_ne _ _ (by omega)]; exact x3
    · rw [va_up_ne _ _ (by omega), va_up_ne _ _ (by omega)]; exact x4.1
    · have := x4.2.1 k (by omega)
      rw [va_up_ne _ _ (by omega), va_up_ne _ _ (by omega)]
      exact x4.2.2.2 k hk
    · rw [va_up_self, wx_a_se, ev_upd, ev_cl (by omega), va_up_ne _ _ (by omega)]
      show _ = (if (if k = s then true else sl.1 k) = true then 1 else 0)
      by_cases e : k = s
      · rw [if_pos e, if_pos e, if_pos rfl]
      · rw [if_neg e, if_neg e]; exact (x5 k hk).1
    · have q : (if k = s then true else sl.1 k) = true := q
      rw [va_up_ne _ _ (by omega)]
      show hr_X P.1 _ (if k = s then a else sl.2 k)
      by_cases e : k = s
      · rw [if_pos e, e, va_up_self]; exact k2
      · rw [if_neg e, va_up_ne _ _ (by omega)]
        rw [if_neg e] at q
        exact (x5 k hk).2 q
    · unfold lx_s; rw [va_up_ne _ _ (by omega), va_up_ne _ _ (by omega)]; exact x6
    · unfold lm_t; rw [e1, u1 9 (by decide) (by decide)]; exact m1
    · unfold hr_MP; rw [e1, u1 2 (by decide) (by decide), u1 3 (by decide) (by decide)]; exact m2
    · unfold hr_M; rw [u1 4 (by decide) (by decide)]; exact m3
    · unfold lm_h; rw [e1, u1 15 (by decide) (by decide)]; exact m4
    · rw [e2 22 (by decide), wx_a_se, ev_upd, ev_cl (by omega)]
      show _ = (if (if k = s then true else sl.1 k) = true then 1 else 0)
      by_cases e : k = s
      · rw [if_pos e, if_pos e, if_pos rfl]
      · rw [if_neg e, if_neg e]; exact (m5 k hk).1
    · have q : (if k = s then true else sl.1 k) = true := q
      show hr_B P.1 _ _ (if k = s then a else sl.2 k)
      by_cases e : k = s
      · rw [if_pos e, e]; exact B_of_M e3 h6 m3
      · rw [if_neg e]
        rw [if_neg e] at q
        have hb := (m5 k hk).2 q
        refine ⟨(e4 _ (by omega)).trans hb.1, (e4 _ (by omega)).trans hb.2.1, (e4 _ (by omega)).trans hb.2.2.1, fun j hj => ⟨(e4 _ (by omega)).trans (hb.2.2.2 j hj).1, (e4 _ (by omega)).trans (hb.2.2.2 j hj).2⟩⟩
    · unfold lm_s; rw [e1, u1 18 (by decide) (by decide), u1 19 (by decide) (by decide), u1 20 (by decide) (by decide)]; exact m6
    · have q : (if k = s then true else sl.1 k) = true := q
      show hp_okR P.1 B (if k = s then a else sl.2 k)
      by_cases e : k = s
      · rw [if_pos e]; exact ho.2.2.1
      · rw [if_neg e]
        rw [if_neg e] at q
        exact ho.2.2.2.2.1 k hk q
theorem lr_again {B : Nat} {σ : Nat → hj_Ob} {bf : Nat → Nat} {τ : hj_Ob} {sd : Int64} (h : lr B σ bf τ) (x : Int32) : ∃ r σ' τ', fX5_again σ bf sd x = some (r, σ') ∧ fX6_again τ sd x = some (r, τ') ∧ lr B σ' bf τ' := by
  obtain ⟨tx, P, a, hi, sl, se, hx, hm, ho⟩ := h
  have hlr : lr B σ bf τ := ⟨tx, P, a, hi, sl, se, hx, hm, ho⟩
  have h14 := ho.2.2.2.1.1
  have h6 := ho.2.1.1
  have hx0 := hx
  have hm0 := hm
  obtain ⟨x1, x2, x3, x4, x5, x6⟩ := hx
  obtain ⟨m1, m2, m3, m4, m5, m6⟩ := hm
  unfold fX5_again fX6_again
  rcases sl01 (x := x) with q | ⟨s, hs, rfl⟩
  · rw [m_sl_f q, ev_o1, if_pos i00]
    rcases q with q | q
    · rw [if_pos q]; exact ⟨_, _, _, rfl, rfl, hlr⟩
    · rw [if_neg (show ¬ x < 2 from Int32.not_lt.mpr q)]
      by_cases c : x < 0
      · rw [if_pos c]; exact ⟨_, _, _, rfl, rfl, hlr⟩
      · rw [if_neg c]; exact ⟨_, _, _, rfl, rfl, hlr⟩
  · rw [in_t (l := 0) (h := 1) (by omega) rfl rfl (by omega) (by omega), ev_o1, if_neg i10, if_neg (ev_neg (by omega)), if_pos (by rw [show (2 : Int32) = nI 2 from rfl, ev_lt (by omega) (by omega)]; exact hs), ck_k hs (by decide), ck_k hs (by decide), ck_k hs (by decide), ev_cl (by omega), (x5 s hs).1, (m5 s hs).1]
    cases hk : sl.1 s with
    | false =>
      rw [if_neg (show ¬ false = true by decide), if_pos i00, if_pos i00]
      exact ⟨_, _, _, rfl, rfl, hlr⟩
    | true =>
      rw [if_pos rfl, if_neg i10, if_neg i10, ev_nm]
      obtain ⟨ρ', k1, k2⟩ := x_copy (π := σ 3) (ρ := σ 11) h6 ((x5 s hs).2 hk)
      obtain ⟨τ', k3, k4, k5⟩ := m_back (A := 23) (f := fun r x => fX6_again_26 r sd (nI s) x) (b := 15 * s) (N := 30) (τ := τ) (by decide) (by omega) (by decide) (fun r i _ hr => by
        show fX6_again_26 r sd (nI s) (nI i) = _
        unfold fX6_again_26
        rw [m_i0, nI_add])
      rw [k1, ev_o1, ev_nm, k3, ev_o1, ev_nm, ck_02]
      unfold fX0_forgetAll
      rw [ev_nm, ev_o1]
      have hM : hr_M P.1 0 τ' (sl.2 s) := M_of_B (f := τ.2 23) k5 h6 ((m5 s hs).2 hk)
      have hl1 := lx_now hx0 h14 k2
      have hm1 := lm_now hm0 k4 hM
      have e1 : (va_up (va_up σ 11 ρ') 17 (hj_s (va_up σ 11 ρ' 17) 1 0) 11).1 5 = nI (sl.2 s).2.2.1 := by rw [va_up_ne _ _ (by omega), va_up_self]; exact k2.2.2.1
      have e2 : (hj_s τ' 13 0).2 4 (2 : Int32).toNatClampNeg = nI (sl.2 s).2.2.1 := hM.2.2.1
      rw [e1, e2]
      obtain ⟨nx, hnx, hn1, -⟩ := hm1.2.2.2.1.2
      refine ⟨_, _, _, rfl, rfl, tx, P, sl.2 s, (0, hi.2), sl, se, ⟨hl1.1, hl1.2.1, hl1.2.2.1, ⟨by rw [va_up_self]; rfl, hl1.2.2.2.1.2.1, hl1.2.2.2.1.2.2.1, fun k hk => absurd hk (Nat.not_lt_zero k)⟩, fun k hk => ⟨(hl1.2.2.2.2.1 k hk).1, fun q => ?_⟩, hl1.2.2.2.2.2⟩, ⟨hm1.1, hm1.2.1, hM, ⟨by rw [ev_s1, if_pos rfl]; rfl, nx, hnx, hn1, fun k hk => absurd hk (Nat.not_lt_zero k)⟩, hm1.2.2.2.2.1, hm1.2.2.2.2.2⟩, ⟨ho.1, ho.2.1, ho.2.2.2.2.1 s hs hk, ⟨Nat.zero_le _, fun k hk => absurd hk (Nat.not_lt_zero k)⟩, ho.2.2.2.2⟩⟩
      rw [va_up_ne _ _ (by omega)]
      exact (hl1.2.2.2.2.1 k hk).2 q
