/-! first, its sets -/
set_option maxRecDepth 100000 in
theorem hp_nt_all : hp_all 64 (fun y => hp_all 64 (fun t => decide (t &&& hp_n y t = 0))) = true := by decide +kernel
theorem hp_q_lay {a : hp_R} {s : Nat} (h1 : a.1 < 64) (h2 : a.2.1 < 64) (hs : s < 64) : hp_q (s, a.2) (hp_n a.1 a.2.1 ||| s, a.2) := by
  refine ⟨rfl, ?_, hs, hp_or_lt (hp_n_lt h1) hs, h2⟩
  show a.2.1 &&& s = a.2.1 &&& (hp_n a.1 a.2.1 ||| s)
  rw [Nat.and_or_distrib_left, of_decide_eq_true (hp_all_s (hp_all_s hp_nt_all h1) h2), Nat.zero_or]
theorem m_layYes {τ : hj_Ob} {sd : Int64} {n C s : Nat} {a : hp_R} (hn : n ≤ 6) (hM : hr_M n 0 τ a) (ho : hp_okR n C a) (hs : s < 64) :
    ∃ τ', fX6_layYes τ sd (nI s) = some τ' ∧ hr_M n 1 τ' (hp_n a.1 a.2.1 ||| s, a.2) ∧ hr_T τ τ' := by
  have ht := hp_t64 hn ho.2.1
  obtain ⟨τ1, k1, k2, k3⟩ := m_lay (sd := sd) hn hM
  have h0 := hr_T_M k3 hn hM
  unfold fX6_layYes
  rw [k1, ev_o1, show ∀ k : Option hj_Ob, hj_ck (0 : Int32) 30 k = k from fun k => rfl, show ∀ k : Option hj_Ob, hj_ck (1 : Int32) 30 k = k from fun k => rfl, show ∀ k : Option hj_Ob, hj_ck (15 : Int32) 30 k = k from fun k => rfl, ev_nm, show τ1.2 4 (0 : Int32).toNatClampNeg = nI a.1 from h0.1, show τ1.2 4 (1 : Int32).toNatClampNeg = nI a.2.1 from h0.2.1, hp_not ho.1 ht, hp_or]
  exact ⟨_, rfl, m_setY k2 (by omega) hn, hr_T_tr k3 (hr_T_F (hr_F_a (L := 1) (i := 15) (v := nI (hp_n a.1 a.2.1 ||| s)) (by omega) (by omega) (by omega)))⟩
theorem hp_okR_y {n C s : Nat} {a : hp_R} (ho : hp_okR n C a) (hs : s < 64) : hp_okR n C (s, a.2) := ⟨hs, ho.2⟩
theorem x_layYes {σ : Nat → hj_Ob} {n s : Nat} {a : hp_R} (hn : n ≤ 6) (hX : hr_X n (σ 11) a) :
    ∃ ρ, fX2_copyFrom (σ 3) (σ 11) (σ 14) = some ρ ∧ hr_X n (hj_s (va_up σ 14 ρ 14) 3 (nI s)) (s, a.2) := by
  obtain ⟨ρ', k1, k2⟩ := x_copy (π := σ 3) (ρ := σ 14) hn hX
  exact ⟨ρ', k1, by rw [va_up_self]; exact ⟨by rw [ev_s1, if_pos rfl], k2.2⟩⟩
theorem va_up2 {σ : Nat → hj_Ob} {k : Nat} {ρ ρ' : hj_Ob} : va_up (va_up σ k ρ) k ρ' = va_up σ k ρ' := by
  funext j
  by_cases q : j = k
  · rw [q, va_up_self, va_up_self]
  · rw [va_up_ne _ _ q, va_up_ne _ _ q, va_up_ne _ _ q]
theorem x_fits {σ : Nat → hj_Ob} {bf : Nat → Nat} {sd : Int64} {P : hp_P} {a : hp_R} {B s : Nat} {se : hp_S} (hP : hr_P (σ 3) P) (hoP : hp_okP P) (hX : hr_X P.1 (σ 11) a) (ho : hp_okR P.1 B a) (hB : B < 2 ^ 20) (hS : hr_S (σ 63) se) (hs : hp_okS se) (h64 : s < 64) :
    ∃ σ', fX5_fitsWhatIsSeen σ bf sd (nI s) = some ((if hp_ft P se 10 0 (s, a.2) = true then 1 else 0), σ') ∧ ∀ k, k ≠ 14 → σ' k = σ k := by
  obtain ⟨ρ1, k1, k2⟩ := x_layYes (s := s) hoP.1 hX
  unfold fX5_fitsWhatIsSeen
  rw [k1, ev_o1, ev_nm, ev_nm]
  obtain ⟨e, he, hQ⟩ := lp_h (b := fun q : (Int32 × (Nat → hj_Ob)) => fX5_fitsWhatIsSeen_21 q.2 bf sd q.1)
    (fun i q => q.1 = nI i ∧ (∀ k, k ≠ 14 → q.2 k = σ k) ∧ ∃ b, hr_X P.1 (q.2 14) b ∧ hp_okR P.1 (B + i) b ∧ hp_ft P se 10 0 (s, a.2) = hp_ft P se (10 - i) i b)
    (fun e => (∃ t, e = .inl (0, t) ∧ hp_ft P se 10 0 (s, a.2) = false ∧ ∀ k, k ≠ 14 → t k = σ k) ∨ (∃ t, e = .inr t ∧ hp_ft P se 10 0 (s, a.2) = true ∧ ∀ k, k ≠ 14 → t k = σ k)) 10
    (fun i q hi hI => by
      obtain ⟨y, t⟩ := q
      obtain ⟨e1, e2, b, e3, e4, e5⟩ := hI
      dsimp only at e1 e2 e3 ⊢
      subst e1
      unfold fX5_fitsWhatIsSeen_21
      by_cases c : i < 10
      · have eft : hp_ft P se (10 - i) i b = (hp_ff se b i se.1 && hp_ft P se (10 - (i + 1)) (i + 1) (hp_h P b).2) := by
          rw [show 10 - i = (10 - (i + 1)) + 1 by omega]
          rfl
        rw [if_neg (by rw [show (9 : Int32) = nI 9 from rfl, ev_lt (by omega) (by omega)]; omega), x_fit hoP.1 e3 e4 (by rw [e2 63 (by decide)]; exact hS) hs (by omega), ev_o1]
        cases g : hp_ff se b i se.1 with
        | false =>
          rw [g] at eft
          rw [if_pos (show (if false = true then (1 : Int32) else 0) = 0 from rfl)]
          exact Or.inl ⟨_, rfl, Or.inl ⟨_, rfl, by rw [e5, eft]; rfl, e2⟩⟩
        | true =>
          rw [g] at eft
          obtain ⟨ρ2, j1, j2⟩ := x_hour (ρ := t 14) (π := t 3) (by rw [e2 3 (by decide)]; exact hP) hoP e4 (by omega) e3
          rw [if_neg (show ¬ (if true = true then (1 : Int32) else 0) = 0 from by decide), j1, ev_o2, ev_nm, ev_nm, nI_1]
          exact Or.inr ⟨by omega, _, rfl, rfl, fun k hk => by show va_up t 14 ρ2 k = _; rw [va_up_ne _ _ hk]; exact e2 k hk, _, by show hr_X P.1 (va_up t 14 ρ2 14) _; rw [va_up_self]; exact j2, hp_okR_h e4, by rw [e5, eft]; rfl⟩
      · have : i = 10 := by omega
        subst this
        rw [if_pos (by decide)]
        exact Or.inl ⟨_, rfl, Or.inr ⟨_, rfl, by rw [e5]; rfl, e2⟩⟩)
    100 0 (0, va_up (va_up σ 14 ρ1) 14 (hj_s (va_up σ 14 ρ1 14) 3 (nI s))) (by omega) (by omega) ⟨rfl, fun k hk => by show va_up (va_up σ 14 ρ1) 14 _ k = _; rw [va_up_ne _ _ hk, va_up_ne _ _ hk], _, by show hr_X P.1 (va_up (va_up σ 14 ρ1) 14 _ 14) _; rw [va_up_self]; exact k2, hp_okR_y ho h64, rfl⟩
  rw [he]
  rcases hQ with ⟨t, rfl, q1, q2⟩ | ⟨t, rfl, q1, q2⟩
  · rw [ev_oel, q1]; exact ⟨_, rfl, q2⟩
  · rw [ev_oei, ev_nm, q1]; exact ⟨_, rfl, q2⟩
theorem hr_T_S {τ τ' : hj_Ob} {se : hp_S} (h : hr_T τ τ') (hS : lm_s τ se) : lm_s τ' se := by
  unfold lm_s
  rw [h.1 17 (by decide), h.2.1 18 (by decide), h.2.1 19 (by decide), h.2.1 20 (by decide)]
  exact hS
theorem bz_if {α : Type} {c : Bool} {k : Option α} : hj_bz (if c = true then (1 : Int32) else 0) k = k := by
  cases c <;> rfl
theorem m_mayBe {τ : hj_Ob} {sd : Int64} {P : hp_P} {a : hp_R} {B s : Nat} {se : hp_S} (hP : hr_MP τ P) (hoP : hp_okP P) (hM : hr_M P.1 0 τ a) (ho : hp_okR P.1 B a) (hB : B < 2 ^ 20) (hS : lm_s τ se) (hs : hp_okS se) (h64 : s < 64) :
    ∃ τ', fX6_mayBe τ sd (nI s) = some ((if hp_ft P se 10 0 (s, a.2) = true then 1 else 0), τ') ∧ hr_T τ τ' := by
  have ht := hp_t64 hoP.1 ho.2.1
  obtain ⟨τ1, k1, k2, k3⟩ := m_layYes (sd := sd) hoP.1 hM ho h64
  have o1 : hp_okR P.1 B (hp_n a.1 a.2.1 ||| s, a.2) := hp_okR_y ho (hp_or_lt (hp_n_lt ho.1) h64)
  rw [hp_q_ft 10 0 (hp_q_lay ho.1 ht h64)]
  generalize (hp_n a.1 a.2.1 ||| s, a.2) = c at k2 o1 ⊢
  unfold fX6_mayBe
  rw [k1, ev_o1, show fX6_isSeen τ1 sd 0 = _ from m_isSeen (i := 0) (hr_T_P k3 hP) hoP.1 k2 o1 (hr_T_S k3 hS) hs (by omega), ev_o1]
  obtain ⟨e, he, t, rfl, hT⟩ := lp_h (b := fun q : (Int32 × Int32 × hj_Ob) => fX6_mayBe_13 q.2.2 sd q.1 q.2.1)
    (fun i q => q.2.1 = nI (i + 1) ∧ hr_T τ q.2.2 ∧ i < 10 ∧ ∃ b, hr_M P.1 1 q.2.2 b ∧ hp_okR P.1 (B + i) b ∧ hp_ft P se 10 0 c = hp_ft P se (10 - i) i b ∧ q.1 = (if hp_ff se b i se.1 = true then 1 else 0))
    (fun e => ∃ t, e = ((if hp_ft P se 10 0 c = true then 1 else 0), t) ∧ hr_T τ t) 10
    (fun i q hi hI => by
      obtain ⟨x, y, t⟩ := q
      obtain ⟨e1, e2, e0, b, e3, e4, e5, e6⟩ := hI
      dsimp only at e1 e2 e3 e6 ⊢
      subst e1
      have eft : hp_ft P se (10 - i) i b = (hp_ff se b i se.1 && hp_ft P se (10 - (i + 1)) (i + 1) (hp_h P b).2) := by
        rw [show 10 - i = (10 - (i + 1)) + 1 by omega]
        rfl
      unfold fX6_mayBe_13
      by_cases d : i = 9
      · subst d
        rw [if_pos (by decide)]
        refine Or.inl ⟨_, rfl, _, ?_, e2⟩
        rw [e5, eft, e6]
        show _ = ((if (hp_ff se b 9 se.1 && true) = true then 1 else 0), t)
        rw [Bool.and_true]
      · rw [if_neg (by rw [show (10 : Int32) = nI 10 from rfl, ev_le (by omega) (by omega)]; omega)]
        cases g : hp_ff se b i se.1 with
        | false =>
          rw [g] at e6 eft
          rw [if_pos (show x = 0 from e6), e6]
          refine Or.inl ⟨_, rfl, _, ?_, e2⟩
          rw [e5, eft]
          rfl
        | true =>
          rw [g] at e6 eft
          obtain ⟨τ2, j1, j2, j3⟩ := m_hour (sd := sd) (L := 1) (by omega) (hr_T_P e2 hP) hoP e4 (by omega) e3
          have hT2 : hr_T τ τ2 := hr_T_tr e2 (hr_T_F j3)
          rw [if_neg (by rw [show x = 1 from e6]; decide), show fX6_passOn t sd 1 = _ from j1, ev_o2, m_isSeen (hr_T_P hT2 hP) hoP.1 j2 (hp_okR_h e4) (hr_T_S hT2 hS) hs (by omega), ev_o1, ev_nm, nI_1]
          exact Or.inr ⟨by omega, _, rfl, rfl, hT2, by omega, _, j2, hp_okR_h e4, by rw [e5, eft]; rfl, rfl⟩)
    100 0 ((if hp_ff se c 0 se.1 = true then 1 else 0), 1, τ1) (by omega) (by omega) ⟨rfl, k3, by omega, c, k2, o1, rfl, rfl⟩
  rw [he, ev_o2, bz_if]
  exact ⟨_, rfl, hT⟩
theorem hp_sub {s t : Nat} (hs : s < 64) (ht : t < 64) : (nI s &&& (nI t ^^^ (-1)) = 0) = (hp_n s t = 0) := by
  rw [hp_not hs ht]
  exact ev_eq (b := 0) (by have := hp_n_lt (b := t) hs; omega) (by omega)
theorem lr_first {B : Nat} {σ : Nat → hj_Ob} {bf : Nat → Nat} {τ : hj_Ob} {sd : Int64} (h : lr B σ bf τ) (hB : B < 2 ^ 20) (x : Int32) : ∃ r σ' τ', fX5_first σ bf sd x = some (r, σ') ∧ fX6_first τ sd x = some (r, τ') ∧ lr B σ' bf τ' := by
  have hlr := h
  obtain ⟨tx, P, a, hi, sl, se, hx, hm, ho⟩ := h
  obtain ⟨x1, x2, x3, x4, x5, x6⟩ := hx
  obtain ⟨m1, m2, m3, m4, m5, m6⟩ := hm
  have ht := hp_t64 ho.2.1.1 ho.2.2.1.2.1
  unfold fX5_first fX6_first
  by_cases c0 : x < 0
  · rw [if_pos c0, in_f (l := 0) (h := 2) rfl rfl (Or.inl (ti_neg c0)), ev_o1, if_pos rfl]
    exact ⟨_, _, _, rfl, rfl, hlr⟩
  · rw [if_neg c0]
    by_cases c1 : x ≤ 2
    · obtain ⟨n, hn, rfl⟩ := nI_of2 (x := x) (M := 2) (n := 2) rfl c0 c1
      rw [if_pos c1, in_t (l := 0) (h := 2) (by omega) rfl rfl (by omega) (by omega), ev_o1, if_neg i10, ev_nm, show ∀ k : Option (Int32 × hj_Ob), hj_ck (1 : Int32) 30 k = k from fun k => rfl, ev_nm, x3.2.1, show τ.2 4 (1 : Int32).toNatClampNeg = nI a.2.1 from m3.2.1]
      obtain ⟨e, e', he, he', r1, r2, r3, s', t', rfl, rfl, hs', ht'⟩ := lp_2 (b := fun q : (Int32 × Int32 × Int32 × Int32 × (Nat → hj_Ob)) => fX5_first_28 q.2.2.2.2 bf sd (nI n) q.1 q.2.1 q.2.2.1 q.2.2.2.1) (b' := fun q : (Int32 × Int32 × Int32 × Int32 × hj_Ob) => fX6_first_30 q.2.2.2.2 sd (nI n) q.1 q.2.1 q.2.2.1 q.2.2.2.1)
        (fun i q q' => q.2.2.2.1 = nI i ∧ q'.2.2.2.1 = nI i ∧ q.1 = q'.1 ∧ q.2.1 = q'.2.1 ∧ q.2.2.1 = q'.2.2.1 ∧ (∀ k, k ≠ 14 → q.2.2.2.2 k = σ k) ∧ hr_T τ q'.2.2.2.2)
        (fun e e' => ∃ r1 r2 r3 s' t', e = (r1, r2, r3, s') ∧ e' = (r1, r2, r3, t') ∧ (∀ k, k ≠ 14 → s' k = σ k) ∧ hr_T τ t') 64
        (fun i q q' hi hI => by
          obtain ⟨y1, y2, y3, y4, s⟩ := q
          obtain ⟨z1, z2, z3, z4, t⟩ := q'
          obtain ⟨e1, e2, e3, e4, e5, e6, e7⟩ := hI
          dsimp only at e1 e2 e3 e4 e5 e6 e7 ⊢
          subst e1
          subst e2
          subst e3
          subst e4
          subst e5
          unfold fX5_first_28 fX6_first_30
          by_cases c : 64 ≤ i
          · rw [if_pos (by rw [show (64 : Int32) = nI 64 from rfl, ev_le (by omega) (by omega)]; exact c), if_pos (by rw [show (64 : Int32) = nI 64 from rfl, ev_le (by omega) (by omega)]; exact c)]
            exact Or.inl ⟨_, _, rfl, rfl, _, _, _, _, _, rfl, rfl, e6, e7⟩
          · have hi64 : i < 64 := by omega
            have g0 := hr_T_M e7 ho.2.1.1 m3
            have c64 : ¬ (64 : Int32) ≤ nI i := by rw [show (64 : Int32) = nI 64 from rfl, ev_le (by omega) (by omega)]; exact c
            rw [if_neg c64, if_neg c64, show ∀ k : Option ((Int32 × Int32 × Int32 × hj_Ob) ⊕ (Int32 × Int32 × Int32 × Int32 × hj_Ob)), hj_ck (1 : Int32) 30 k = k from fun k => rfl, e6 11 (by decide), x3.2.1, show t.2 4 (1 : Int32).toNatClampNeg = nI a.2.1 from g0.2.1]
            simp only [hp_sub hi64 ht]
            by_cases c2 : hp_n i a.2.1 = 0
            · obtain ⟨s2, j1, j2⟩ := x_fits (bf := bf) (sd := sd) (σ := s) (by rw [e6 3 (by decide)]; exact x2) ho.2.1 (by rw [e6 11 (by decide)]; exact x3) ho.2.2.1 hB (by rw [e6 63 (by decide)]; exact x6) ho.2.2.2.2.2 hi64
              obtain ⟨t2, j3, j4⟩ := m_mayBe (sd := sd) (hr_T_P e7 m2) ho.2.1 g0 ho.2.2.1 hB (hr_T_S e7 m6) ho.2.2.2.2.2 hi64
              rw [if_pos c2, if_pos c2, j1, j3, ev_o2, ev_o2]
              have fr : ∀ k, k ≠ 14 → s2 k = σ k := fun k hk => (j2 k hk).trans (e6 k hk)
              by_cases c3 : (if hp_ft P se 10 0 (i, a.2) = true then (1 : Int32) else 0) = 0
              · rw [if_pos c3, if_pos c3, ev_nm, ev_nm]
                exact Or.inr ⟨hi64, _, _, rfl, rfl, nI_1 i, nI_1 i, rfl, rfl, rfl, fr, hr_T_tr e7 j4⟩
              · rw [if_neg c3, if_neg c3, ev_nm, ev_nm, ev_nm, ev_nm, ev_nm, ev_nm, ev_nm, ev_nm]
                exact Or.inr ⟨hi64, _, _, rfl, rfl, nI_1 i, nI_1 i, rfl, rfl, rfl, fr, hr_T_tr e7 j4⟩
            · rw [if_neg c2, if_neg c2, ev_nm, ev_nm]
              exact Or.inr ⟨hi64, _, _, rfl, rfl, nI_1 i, nI_1 i, rfl, rfl, rfl, e6, e7⟩)
        100 100 0 (0, nI a.2.1, 0, 0, σ) (0, nI a.2.1, 0, 0, τ) (by omega) (by omega) (by omega) ⟨rfl, rfl, rfl, rfl, rfl, fun _ _ => rfl, hr_T_rf⟩
      have g1 := hr_T_M ht' ho.2.1.1 m3
      rw [he, he', ev_o4, ev_o4, hs' 11 (by decide), x3.2.1, show ∀ k : Option (Int32 × hj_Ob), hj_ck (1 : Int32) 30 k = k from fun k => rfl, show t'.2 4 (1 : Int32).toNatClampNeg = nI a.2.1 from g1.2.1]
      have fin : lr B s' bf t' := ⟨tx, P, a, hi, sl, se, lx_fr ⟨x1, x2, x3, x4, x5, x6⟩ ho.2.2.2.1.1 (fun k _ hk => hs' k hk), lm_T ⟨m1, m2, m3, m4, m5, m6⟩ ho.2.1.1 ht', ho⟩
      repeat' split
      all_goals exact ⟨_, _, _, rfl, rfl, fin⟩
    · rw [if_neg c1, in_f (l := 0) (h := 2) rfl rfl (Or.inr (ti_out (n := 2) (by omega) (Int32.not_le.mp c1))), ev_o1, if_pos rfl]
      exact ⟨_, _, _, rfl, rfl, hlr⟩
