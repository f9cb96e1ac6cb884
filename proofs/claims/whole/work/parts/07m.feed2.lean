/-! toFeed and strike, their sets -/
theorem lr_toFeed {B : Nat} {σ : Nat → hj_Ob} {bf : Nat → Nat} {τ : hj_Ob} {sd : Int64} (h : lr B σ bf τ) (hB : B < 2 ^ 20) (x : Int32) : ∃ r σ' τ', fX5_toFeed σ bf sd x = some (r, σ') ∧ fX6_toFeed τ sd x = some (r, τ') ∧ lr B σ' bf τ' := by
  have hlr := h
  obtain ⟨tx, P, a, hi, sl, se, hx, hm, ho⟩ := h
  have x1 := hx
  have ht := hp_t64 ho.2.1.1 ho.2.2.1.2.1
  unfold fX5_toFeed fX6_toFeed
  rw [x_side, m_side, ev_o1, ev_o1]
  by_cases c0 : x = 0 ∨ x = 1
  · rw [if_pos c0, if_neg i10, if_neg i10]
    unfold fX5_fewestFor
    obtain ⟨e, e', he, he', r, s', t', rfl, rfl, hs', ht'⟩ := lp_2 (b := fun q : (Int32 × Int32 × Int32 × (Nat → hj_Ob)) => fX5_fewestFor_10 q.2.2.2 bf sd 2 x q.1 q.2.1 q.2.2.1) (b' := fun q : (Int32 × Int32 × hj_Ob) => fX6_toFeed_18 q.2.2 sd x q.1 q.2.1)
      (fun i q q' => q.2.2.1 = nI i ∧ q'.2.1 = nI i ∧ q.1 = q'.1 ∧ ((q.1 = -9 ∧ q.2.1 = 7) ∨ ∃ k, k < 64 ∧ q.1 = nI k ∧ q.2.1 = nI (hp_c k)) ∧ (∀ k, k ≠ 14 → q.2.2.2 k = σ k) ∧ hr_T τ q'.2.2)
      (fun e e' => ∃ r s' t', e = (r, s') ∧ e' = (r, t') ∧ (∀ k, k ≠ 14 → s' k = σ k) ∧ hr_T τ t') 64
      (fun i q q' hi hI => by
        obtain ⟨y1, y2, y3, s⟩ := q
        obtain ⟨z1, z2, t⟩ := q'
        obtain ⟨e1, e2, e3, e4, e6, e7⟩ := hI
        dsimp only at e1 e2 e3 e4 e6 e7 ⊢
        subst e1
        subst e2
        subst e3
        unfold fX6_toFeed_18
        by_cases c : 64 ≤ i
        · have c64 : (64 : Int32) ≤ nI i := by rw [show (64 : Int32) = nI 64 from rfl, ev_le (by omega) (by omega)]; exact c
          unfold fX5_fewestFor_10
          rw [if_pos c64, if_pos c64]
          exact Or.inl ⟨_, _, rfl, rfl, _, _, _, rfl, rfl, e6, e7⟩
        · have hi64 : i < 64 := by omega
          have c64 : ¬ (64 : Int32) ≤ nI i := by rw [show (64 : Int32) = nI 64 from rfl, ev_le (by omega) (by omega)]; exact c
          have g0 := hr_T_M e7 ho.2.1.1 hm.2.2.1
          obtain ⟨s2, j1, j2⟩ := x_few (bf := bf) (sd := sd) (σ := s) (d := 2) (x2 := x) (x3 := y1) (x4 := y2) (by rw [e6 3 (by decide)]; exact hx.2.1) ho.2.1 (by rw [e6 11 (by decide)]; exact hx.2.2.1) ho.2.2.1 hB hi64 (by omega)
          obtain ⟨t2, j3, j4⟩ := m_feed (sd := sd) (x1 := x) (x2 := y1) (hr_T_P e7 hm.2.1) ho.2.1 g0 ho.2.2.1 hB hi64
          have fr : ∀ k, k ≠ 14 → s2 k = σ k := fun k hk => (j2 k hk).trans (e6 k hk)
          rw [show fX5_fewestFor_10 s bf sd 2 x y1 y2 (nI i) = _ from j1, if_neg c64]
          have go : ¬ y2 ≤ nI (hp_c i) → ((y1 = -9 ∧ y2 = 7) ∨ ∃ k, k < 64 ∧ y1 = nI k ∧ y2 = nI (hp_c k)) → ∃ q q', (if hp_n i a.2.1 = 0 ∧ ¬ (2 = 3 ∧ i = a.2.1) ∧ ¬ y2 ≤ nI (hp_c i) ∧ nI (hp_ev (hp_e P 20 (hp_dos P 2 i a P.1))) = x then (some (.inr (nI i, nI (hp_c i), nI (i + 1), s2)) : Option ((Int32 × (Nat → hj_Ob)) ⊕ (Int32 × Int32 × Int32 × (Nat → hj_Ob)))) else some (.inr (y1, y2, nI (i + 1), s2))) = some (.inr q) ∧ fX6_toFeed_46 t sd x y1 (nI i) 1 = some (.inr q') ∧ (q.2.2.1 = nI (i + 1) ∧ q'.2.1 = nI (i + 1) ∧ q.1 = q'.1 ∧ ((q.1 = -9 ∧ q.2.1 = 7) ∨ ∃ k, k < 64 ∧ q.1 = nI k ∧ q.2.1 = nI (hp_c k)) ∧ (∀ k, k ≠ 14 → q.2.2.2 k = σ k) ∧ hr_T τ q'.2.2) := by
            intro g ge
            rw [j3]
            by_cases w : hp_n i a.2.1 = 0 ∧ nI (hp_ev (hp_e P 20 (hp_dos P 2 i a P.1))) = x
            · rw [if_pos w, if_pos (show hp_n i a.2.1 = 0 ∧ ¬ (2 = 3 ∧ i = a.2.1) ∧ ¬ y2 ≤ nI (hp_c i) ∧ nI (hp_ev (hp_e P 20 (hp_dos P 2 i a P.1))) = x from ⟨w.1, fun q => absurd q.1 (by decide), g, w.2⟩)]
              exact ⟨_, _, rfl, rfl, rfl, rfl, rfl, Or.inr ⟨i, hi64, rfl, rfl⟩, fr, hr_T_tr e7 j4⟩
            · rw [if_neg w, if_neg (show ¬ (hp_n i a.2.1 = 0 ∧ ¬ (2 = 3 ∧ i = a.2.1) ∧ ¬ y2 ≤ nI (hp_c i) ∧ nI (hp_ev (hp_e P 20 (hp_dos P 2 i a P.1))) = x) from fun q => w ⟨q.1, q.2.2.2⟩)]
              exact ⟨_, _, rfl, rfl, rfl, rfl, rfl, ge, fr, hr_T_tr e7 j4⟩
          refine Or.inr ⟨hi64, ?_⟩
          rcases e4 with ⟨rfl, rfl⟩ | ⟨k, hk, rfl, rfl⟩
          · rw [if_pos (show (-9 : Int32) = -9 from rfl)]
            exact go (by have := hp_c_le i; rw [show (7 : Int32) = nI 7 from rfl, ev_le (by omega) (by omega)]; omega) (Or.inl ⟨rfl, rfl⟩)
          · have n9 : ¬ nI k = -9 := by
              intro q
              have k2 := ev_neg (a := k) (by omega)
              rw [q] at k2
              exact absurd (by decide) k2
            rw [if_neg n9, hp_on hi64, ev_o1, hp_on hk, ev_o1]
            by_cases g : nI (hp_c k) ≤ nI (hp_c i)
            · rw [if_neg (show ¬ (hp_n i a.2.1 = 0 ∧ ¬ (2 = 3 ∧ i = a.2.1) ∧ ¬ nI (hp_c k) ≤ nI (hp_c i) ∧ nI (hp_ev (hp_e P 20 (hp_dos P 2 i a P.1))) = x) from fun q => q.2.2.1 g), if_pos g]
              unfold fX6_toFeed_46
              rw [if_pos i00, ev_nm, nI_1]
              exact ⟨_, _, rfl, rfl, rfl, rfl, rfl, Or.inr ⟨k, hk, rfl, rfl⟩, fr, e7⟩
            · rw [if_neg g]
              exact go g (Or.inr ⟨k, hk, rfl, rfl⟩))
      100 100 0 (-9, 7, 0, σ) (-9, 0, τ) (by omega) (by omega) (by omega) ⟨rfl, rfl, rfl, Or.inl ⟨rfl, rfl⟩, fun _ _ => rfl, hr_T_rf⟩
    rw [he, he', ev_o2, ev_o2, ev_o2]
    exact ⟨_, _, _, rfl, rfl, tx, P, a, hi, sl, se, lx_fr hx ho.2.2.2.1.1 (fun k _ hk => hs' k hk), lm_T hm ho.2.1.1 ht', ho⟩
  · rw [if_neg c0, if_pos i00, if_pos i00]
    exact ⟨_, _, _, rfl, rfl, hlr⟩
theorem lr_strike {B : Nat} {σ : Nat → hj_Ob} {bf : Nat → Nat} {τ : hj_Ob} {sd : Int64} (h : lr B σ bf τ) (hB : B < 2 ^ 20) (x : Int32) : ∃ r σ' τ', fX5_strike σ bf sd x = some (r, σ') ∧ fX6_strike τ sd x = some (r, τ') ∧ lr B σ' bf τ' := by
  have hlr := h
  obtain ⟨tx, P, a, hi, sl, se, hx, hm, ho⟩ := h
  have x1 := hx
  have ht := hp_t64 ho.2.1.1 ho.2.2.1.2.1
  unfold fX5_strike fX6_strike
  rw [x_side, m_side, ev_o1, ev_o1]
  by_cases c0 : x = 0 ∨ x = 1
  · rw [if_pos c0, if_neg i10, if_neg i10]
    unfold fX5_fewestFor
    obtain ⟨e, e', he, he', r, s', t', rfl, rfl, hs', ht'⟩ := lp_2 (b := fun q : (Int32 × Int32 × Int32 × (Nat → hj_Ob)) => fX5_fewestFor_10 q.2.2.2 bf sd 3 x q.1 q.2.1 q.2.2.1) (b' := fun q : (Int32 × Int32 × hj_Ob) => fX6_strike_18 q.2.2 sd x q.1 q.2.1)
      (fun i q q' => q.2.2.1 = nI i ∧ q'.2.1 = nI i ∧ q.1 = q'.1 ∧ ((q.1 = -9 ∧ q.2.1 = 7) ∨ ∃ k, k < 64 ∧ q.1 = nI k ∧ q.2.1 = nI (hp_c k)) ∧ (∀ k, k ≠ 14 → q.2.2.2 k = σ k) ∧ hr_T τ q'.2.2)
      (fun e e' => ∃ r s' t', e = (r, s') ∧ e' = (r, t') ∧ (∀ k, k ≠ 14 → s' k = σ k) ∧ hr_T τ t') 64
      (fun i q q' hi hI => by
        obtain ⟨y1, y2, y3, s⟩ := q
        obtain ⟨z1, z2, t⟩ := q'
        obtain ⟨e1, e2, e3, e4, e6, e7⟩ := hI
        dsimp only at e1 e2 e3 e4 e6 e7 ⊢
        subst e1
        subst e2
        subst e3
        unfold fX6_strike_18
        by_cases c : 64 ≤ i
        · have c64 : (64 : Int32) ≤ nI i := by rw [show (64 : Int32) = nI 64 from rfl, ev_le (by omega) (by omega)]; exact c
          unfold fX5_fewestFor_10
          rw [if_pos c64, if_pos c64]
          exact Or.inl ⟨_, _, rfl, rfl, _, _, _, rfl, rfl, e6, e7⟩
        · have hi64 : i < 64 := by omega
          have c64 : ¬ (64 : Int32) ≤ nI i := by rw [show (64 : Int32) = nI 64 from rfl, ev_le (by omega) (by omega)]; exact c
          have g0 := hr_T_M e7 ho.2.1.1 hm.2.2.1
          obtain ⟨s2, j1, j2⟩ := x_few (bf := bf) (sd := sd) (σ := s) (d := 3) (x2 := x) (x3 := y1) (x4 := y2) (by rw [e6 3 (by decide)]; exact hx.2.1) ho.2.1 (by rw [e6 11 (by decide)]; exact hx.2.2.1) ho.2.2.1 hB hi64 (by omega)
          obtain ⟨t2, j3, j4⟩ := m_strike (sd := sd) (x1 := x) (x2 := y1) (hr_T_P e7 hm.2.1) ho.2.1 g0 ho.2.2.1 hB hi64
          have fr : ∀ k, k ≠ 14 → s2 k = σ k := fun k hk => (j2 k hk).trans (e6 k hk)
          rw [show fX5_fewestFor_10 s bf sd 3 x y1 y2 (nI i) = _ from j1, if_neg c64]
          have go : ¬ y2 ≤ nI (hp_c i) → ((y1 = -9 ∧ y2 = 7) ∨ ∃ k, k < 64 ∧ y1 = nI k ∧ y2 = nI (hp_c k)) → ∃ q q', (if hp_n i a.2.1 = 0 ∧ ¬ (3 = 3 ∧ i = a.2.1) ∧ ¬ y2 ≤ nI (hp_c i) ∧ nI (hp_ev (hp_e P 20 (hp_dos P 3 i a P.1))) = x then (some (.inr (nI i, nI (hp_c i), nI (i + 1), s2)) : Option ((Int32 × (Nat → hj_Ob)) ⊕ (Int32 × Int32 × Int32 × (Nat → hj_Ob)))) else some (.inr (y1, y2, nI (i + 1), s2))) = some (.inr q) ∧ fX6_strike_46 t sd x y1 (nI i) 1 = some (.inr q') ∧ (q.2.2.1 = nI (i + 1) ∧ q'.2.1 = nI (i + 1) ∧ q.1 = q'.1 ∧ ((q.1 = -9 ∧ q.2.1 = 7) ∨ ∃ k, k < 64 ∧ q.1 = nI k ∧ q.2.1 = nI (hp_c k)) ∧ (∀ k, k ≠ 14 → q.2.2.2 k = σ k) ∧ hr_T τ q'.2.2) := by
            intro g ge
            rw [j3]
            by_cases w : hp_n i a.2.1 = 0 ∧ ¬ i = a.2.1 ∧ nI (hp_ev (hp_e P 20 (hp_dos P 3 i a P.1))) = x
            · rw [if_pos w, if_pos (show hp_n i a.2.1 = 0 ∧ ¬ (3 = 3 ∧ i = a.2.1) ∧ ¬ y2 ≤ nI (hp_c i) ∧ nI (hp_ev (hp_e P 20 (hp_dos P 3 i a P.1))) = x from ⟨w.1, fun q => w.2.1 q.2, g, w.2.2⟩)]
              exact ⟨_, _, rfl, rfl, rfl, rfl, rfl, Or.inr ⟨i, hi64, rfl, rfl⟩, fr, hr_T_tr e7 j4⟩
            · rw [if_neg w, if_neg (show ¬ (hp_n i a.2.1 = 0 ∧ ¬ (3 = 3 ∧ i = a.2.1) ∧ ¬ y2 ≤ nI (hp_c i) ∧ nI (hp_ev (hp_e P 20 (hp_dos P 3 i a P.1))) = x) from fun q => w ⟨q.1, fun z => q.2.1 ⟨rfl, z⟩, q.2.2.2⟩)]
              exact ⟨_, _, rfl, rfl, rfl, rfl, rfl, ge, fr, hr_T_tr e7 j4⟩
          refine Or.inr ⟨hi64, ?_⟩
          rcases e4 with ⟨rfl, rfl⟩ | ⟨k, hk, rfl, rfl⟩
          · rw [if_pos (show (-9 : Int32) = -9 from rfl)]
            exact go (by have := hp_c_le i; rw [show (7 : Int32) = nI 7 from rfl, ev_le (by omega) (by omega)]; omega) (Or.inl ⟨rfl, rfl⟩)
          · have n9 : ¬ nI k = -9 := by
              intro q
              have k2 := ev_neg (a := k) (by omega)
              rw [q] at k2
              exact absurd (by decide) k2
            rw [if_neg n9, hp_on hi64, ev_o1, hp_on hk, ev_o1]
            by_cases g : nI (hp_c k) ≤ nI (hp_c i)
            · rw [if_neg (show ¬ (hp_n i a.2.1 = 0 ∧ ¬ (3 = 3 ∧ i = a.2.1) ∧ ¬ nI (hp_c k) ≤ nI (hp_c i) ∧ nI (hp_ev (hp_e P 20 (hp_dos P 3 i a P.1))) = x) from fun q => q.2.2.1 g), if_pos g]
              unfold fX6_strike_46
              rw [if_pos i00, ev_nm, nI_1]
              exact ⟨_, _, rfl, rfl, rfl, rfl, rfl, Or.inr ⟨k, hk, rfl, rfl⟩, fr, e7⟩
            · rw [if_neg g]
              exact go g (Or.inr ⟨k, hk, rfl, rfl⟩))
      100 100 0 (-9, 7, 0, σ) (-9, 0, τ) (by omega) (by omega) (by omega) ⟨rfl, rfl, rfl, Or.inl ⟨rfl, rfl⟩, fun _ _ => rfl, hr_T_rf⟩
    rw [he, he', ev_o2, ev_o2, ev_o2]
    exact ⟨_, _, _, rfl, rfl, tx, P, a, hi, sl, se, lx_fr hx ho.2.2.2.1.1 (fun k _ hk => hs' k hk), lm_T hm ho.2.1.1 ht', ho⟩
  · rw [if_neg c0, if_pos i00, if_pos i00]
    exact ⟨_, _, _, rfl, rfl, hlr⟩
