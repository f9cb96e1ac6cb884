/-! the row of acts -/
def hp_pu (hi : hp_H) (a : hp_R) : hp_H := if hi.1 < 14 then (hi.1 + 1, va_up hi.2 hi.1 a) else (14, va_up (fun k => hi.2 (k + 1)) 13 a)
theorem ev_rg {α : Type} {b : Nat} {k : Nat → Option α} (h : 19 ≤ b ∧ b < 61 ∧ b % 3 = 1) : hj_rg b k = k b := by
  unfold hj_rg
  rw [if_pos h]
theorem lx_now {σ : Nat → hj_Ob} {ρ : hj_Ob} {bf : Nat → Nat} {tx : hp_T} {P : hp_P} {a a' : hp_R} {hi : hp_H} {sl : hp_L} {se : hp_S} (h : lx σ bf tx P a hi sl se) (h14 : hi.1 ≤ 14) (hρ : hr_X P.1 ρ a') : lx (va_up σ 11 ρ) bf tx P a' hi sl se := by
  obtain ⟨x1, x2, x3, x4, x5, x6⟩ := h
  refine ⟨x1, x2, by rw [va_up_self]; exact hρ, ⟨x4.1, x4.2.1, x4.2.2.1, fun k hk => ?_⟩, fun k hk => ⟨(x5 k hk).1, fun q => ?_⟩, x6⟩
  · have := x4.2.1 k (by omega)
    rw [va_up_ne _ _ (by omega)]
    exact x4.2.2.2 k hk
  · rw [va_up_ne _ _ (by omega)]
    exact (x5 k hk).2 q
theorem lm_now {τ τ' : hj_Ob} {tx : hp_T} {P : hp_P} {a a' : hp_R} {hi : hp_H} {sl : hp_L} {se : hp_S} (h : lm τ tx P a hi sl se) (hF : hr_F 0 τ τ') (hM : hr_M P.1 0 τ' a') : lm τ' tx P a' hi sl se := by
  obtain ⟨m1, m2, m3, m4, m5, m6⟩ := h
  refine ⟨?_, hr_F_P hF m2, hM, ?_, ?_, ?_⟩
  · unfold lm_t; rw [hF.1, hF.2.1 9 (by decide)]; exact m1
  · unfold lm_h; rw [hF.1, hF.2.1 15 (by decide)]; exact m4
  · unfold lm_l; rw [hF.2.1 22 (by decide), hF.2.1 23 (by decide)]; exact m5
  · unfold lm_s; rw [hF.1, hF.2.1 18 (by decide), hF.2.1 19 (by decide), hF.2.1 20 (by decide)]; exact m6
theorem x_forget {σ : Nat → hj_Ob} {bf : Nat → Nat} (hb : ∀ k, k < 14 → 19 ≤ bf k ∧ bf k < 61 ∧ bf k % 3 = 1) : ∃ bf', fX0_forgetOldest σ bf = some (va_up σ 17 (hj_s (σ 17) 1 13), bf') ∧ (∀ k, k < 13 → bf' k = bf (k + 1)) ∧ bf' 13 = bf 0 := by
  unfold fX0_forgetOldest
  rw [show ∀ k : Option ((Nat → hj_Ob) × (Nat → Nat)), hj_ck (0 : Int32) 14 k = k from fun k => rfl, show bf (0 : Int32).toNatClampNeg = bf 0 from rfl, ev_rg (hb 0 (by omega))]
  obtain ⟨e, he, h1⟩ := lp_h (b := fun q : (Int32 × (Nat → Nat)) => fX0_forgetOldest_9 σ q.2 (bf 0) q.1) (fun i q => q.1 = nI (i + 1) ∧ ∀ k, k < 14 → q.2 k = (if k < i then bf (k + 1) else bf k))
    (fun e => ∀ k, k < 14 → e k = (if k < 13 then bf (k + 1) else bf k)) 13
    (fun i q hi hI => by
      obtain ⟨x, r⟩ := q
      obtain ⟨h1, h2⟩ := hI
      dsimp only at h1 h2 ⊢
      subst h1
      unfold fX0_forgetOldest_9
      by_cases h6 : i < 13
      · have hr : r (i + 1) = bf (i + 1) := by rw [h2 (i + 1) (by omega), if_neg (by omega)]
        rw [if_neg (by rw [show (14 : Int32) = nI 14 from rfl, ev_le (by omega) (by omega)]; omega), ck_k (by omega) (by decide), ev_cl (by omega), hr, ev_rg (hb (i + 1) (by omega)), show nI (i + 1) - 1 = nI i from nI_pred i, ck_k (by omega) (by decide), ev_nm, ev_nm, nI_1, ev_cl (by omega)]
        refine Or.inr ⟨h6, _, rfl, rfl, fun k hk => ?_⟩
        show va_up r i (bf (i + 1)) k = _
        by_cases e : k = i
        · rw [e, va_up_self, if_pos (by omega)]
        · rw [va_up_ne _ _ e, h2 k hk]
          by_cases e2 : k < i
          · rw [if_pos e2, if_pos (by omega)]
          · rw [if_neg e2, if_neg (by omega)]
      · have : i = 13 := by omega
        subst this
        rw [if_pos (by decide)]
        exact Or.inl ⟨r, rfl, h2⟩)
    100 0 (1, bf) (by omega) (by omega) ⟨rfl, fun k hk => by rw [if_neg (by omega)]⟩
  rw [he, ev_o1, show ∀ k : Option ((Nat → hj_Ob) × (Nat → Nat)), hj_ck (13 : Int32) 14 k = k from fun k => rfl, ev_nm, ev_nm]
  refine ⟨_, rfl, fun k hk => ?_, va_up_self _ _ _⟩
  show va_up e 13 (bf 0) k = _
  rw [va_up_ne _ _ (by omega), h1 k (by omega), if_pos hk]
theorem x_rem13 {σ : Nat → hj_Ob} {bf : Nat → Nat} {tx : hp_T} {P : hp_P} {a : hp_R} {hi : hp_H} {sl : hp_L} {se : hp_S} (h : lx σ bf tx P a hi sl se) (hc : hi.1 < 14) (hn : P.1 ≤ 6) :
    ∃ σ', fX0_remember_13 σ bf = some (σ', bf) ∧ lx σ' bf tx P a (hi.1 + 1, va_up hi.2 hi.1 a) sl se := by
  obtain ⟨x1, x2, x3, x4, x5, x6⟩ := h
  have hb := x4.2.1 hi.1 hc
  obtain ⟨ρ', k1, k2⟩ := x_copy (π := σ 3) (ρ := σ (bf hi.1)) hn x3
  unfold fX0_remember_13
  rw [x4.1, if_neg (ev_neg (by omega)), if_neg (by rw [show (14 : Int32) = nI 14 from rfl, ev_le (by omega) (by omega)]; omega), ck_k hc (by decide), ev_cl (by omega), ev_rg hb, k1, ev_o1, ev_nm, ev_nm]
  refine ⟨_, rfl, ?_⟩
  generalize hσ1 : va_up σ (bf hi.1) ρ' = σ1
  have g1 : ∀ k, k ≠ bf hi.1 → σ1 k = σ k := fun k hk => by rw [← hσ1, va_up_ne _ _ hk]
  have g2 : σ1 (bf hi.1) = ρ' := by rw [← hσ1, va_up_self]
  have e17 : (σ1 17).1 1 + 1 = nI (hi.1 + 1) := by rw [g1 17 (by omega), x4.1, nI_1]
  rw [e17]
  have g3 : ∀ k, k ≠ 17 → va_up σ1 17 (hj_s (σ1 17) 1 (nI (hi.1 + 1))) k = σ1 k := fun k hk => va_up_ne _ _ hk
  refine ⟨?_, ?_, ?_, ⟨?_, x4.2.1, x4.2.2.1, fun k hk => ?_⟩, fun k hk => ⟨?_, fun q => ?_⟩, ?_⟩
  · unfold lx_t; rw [g3 1 (by omega), g1 1 (by omega)]; exact x1
  · rw [g3 3 (by omega), g1 3 (by omega)]; exact x2
  · rw [g3 11 (by omega), g1 11 (by omega)]; exact x3
  · rw [va_up_self]; rfl
  · have hk : k < hi.1 + 1 := hk
    have hbk := x4.2.1 k (by omega)
    rw [g3 _ (by omega)]
    show hr_X P.1 _ (va_up hi.2 hi.1 a k)
    by_cases e : k = hi.1
    · rw [e, va_up_self, g2]; exact k2
    · rw [va_up_ne _ _ e, g1 _ (fun z => e (x4.2.2.1 k hi.1 (by omega) hc z))]
      exact x4.2.2.2 k (by omega)
  · rw [g3 0 (by omega), g1 0 (by omega)]; exact (x5 k hk).1
  · rw [g3 _ (by omega), g1 _ (by omega)]; exact (x5 k hk).2 q
  · unfold lx_s; rw [g3 63 (by omega), g1 63 (by omega)]; exact x6
theorem x_remember {σ : Nat → hj_Ob} {bf : Nat → Nat} {tx : hp_T} {P : hp_P} {a : hp_R} {hi : hp_H} {sl : hp_L} {se : hp_S} (h : lx σ bf tx P a hi sl se) (hc : hi.1 ≤ 14) (hn : P.1 ≤ 6) :
    ∃ σ' bf', fX0_remember σ bf = some (σ', bf') ∧ lx σ' bf' tx P a (hp_pu hi a) sl se := by
  unfold fX0_remember hp_pu
  by_cases h1 : hi.1 < 14
  · obtain ⟨σ', k1, k2⟩ := x_rem13 h h1 hn
    rw [h.2.2.2.1.1, if_pos (by rw [show (14 : Int32) = nI 14 from rfl, ev_lt (by omega) (by omega)]; exact h1), if_pos h1]
    exact ⟨σ', bf, k1, k2⟩
  · have h14 : hi.1 = 14 := by omega
    obtain ⟨x1, x2, x3, x4, x5, x6⟩ := h
    rw [x4.1, if_neg (by rw [show (14 : Int32) = nI 14 from rfl, ev_lt (by omega) (by omega)]; exact h1), if_neg h1]
    obtain ⟨bf', f1, f2, f3⟩ := x_forget (σ := σ) x4.2.1
    rw [f1, ev_o2]
    have hb' : ∀ k, k < 14 → ∃ j, j < 14 ∧ bf' k = bf j ∧ j = (if k < 13 then k + 1 else 0) := fun k hk => by
      by_cases e : k < 13
      · exact ⟨k + 1, by omega, f2 k e, by rw [if_pos e]⟩
      · have : k = 13 := by omega
        subst this
        exact ⟨0, by omega, f3, rfl⟩
    have hl : lx (va_up σ 17 (hj_s (σ 17) 1 13)) bf' tx P a (13, fun k => hi.2 (k + 1)) sl se := by
      refine ⟨x1, x2, x3, ⟨?_, fun k hk => ?_, fun k j hk hj e => ?_, fun k hk => ?_⟩, fun k hk => ⟨(x5 k hk).1, fun q => ?_⟩, x6⟩
      · rw [va_up_self]; rfl
      · obtain ⟨j, j1, j2, -⟩ := hb' k hk
        rw [j2]; exact x4.2.1 j j1
      · obtain ⟨u, u1, u2, u3⟩ := hb' k hk
        obtain ⟨v, v1, v2, v3⟩ := hb' j hj
        have huv := x4.2.2.1 u v u1 v1 (by rw [← u2, ← v2]; exact e)
        rw [u3, v3] at huv
        by_cases c1 : k < 13
        · rw [if_pos c1] at huv
          by_cases c2 : j < 13
          · rw [if_pos c2] at huv; omega
          · rw [if_neg c2] at huv; omega
        · rw [if_neg c1] at huv
          by_cases c2 : j < 13
          · rw [if_pos c2] at huv; omega
          · omega
      · have hk : k < 13 := hk
        have := x4.2.1 (k + 1) (by omega)
        rw [f2 k hk, va_up_ne _ _ (by omega)]
        exact x4.2.2.2 (k + 1) (by omega)
      · rw [va_up_ne _ _ (by omega)]
        exact (x5 k hk).2 q
    obtain ⟨σ', k1, k2⟩ := x_rem13 hl (by show 13 < 14; omega) hn
    exact ⟨σ', bf', k1, k2⟩
theorem m_keep {τ : hj_Ob} {sd : Int64} {tx : hp_T} {P : hp_P} {a : hp_R} {hi : hp_H} {sl : hp_L} {se : hp_S} (h : lm τ tx P a hi sl se) (hc : hi.1 ≤ 14) (hn : P.1 ≤ 6) :
    ∃ τ', fX6_keepAct τ sd = some τ' ∧ lm τ' tx P a (hp_pu hi a) sl se := by
  obtain ⟨m1, m2, m3, ⟨m4, nx, hnx, m4n, m4r⟩, m5, m6⟩ := h
  unfold fX6_keepAct
  obtain ⟨e, he, e1, e2, e3, e4⟩ := lp_h (b := fun q : (Int32 × hj_Ob) => fX6_keepAct_2 q.2 sd q.1) (fun i q => q.1 = nI i ∧ q.2.1 = τ.1 ∧ (∀ k, k ≠ 15 → q.2.2 k = τ.2 k) ∧ (∀ k, k < i → q.2.2 15 (15 * nx + k) = τ.2 4 k) ∧ ∀ j, (j < 15 * nx ∨ 15 * nx + 15 ≤ j) → q.2.2 15 j = τ.2 15 j)
    (fun e => e.1 = τ.1 ∧ (∀ k, k ≠ 15 → e.2 k = τ.2 k) ∧ (∀ k, k < 15 → e.2 15 (15 * nx + k) = τ.2 4 k) ∧ ∀ j, (j < 15 * nx ∨ 15 * nx + 15 ≤ j) → e.2 15 j = τ.2 15 j) 15
    (fun i q hi hI => by
      obtain ⟨x, r⟩ := q
      obtain ⟨h1, h2, h3, h4, h5⟩ := hI
      dsimp only at h1 h2 h3 h4 h5 ⊢
      subst h1
      unfold fX6_keepAct_2
      by_cases h6 : i < 15
      · rw [h2, m4n, m_i0, nI_add, if_neg (by rw [show (15 : Int32) = nI 15 from rfl, ev_le (by omega) (by omega)]; omega), ck_k (by omega) (by decide), ck_k (by omega) (by decide), ev_nm, ev_nm, nI_1, ev_cl (by omega), h3 4 (by decide)]
        refine Or.inr ⟨h6, _, rfl, rfl, h2, fun k hk => by rw [wx_a_ne hk]; exact h3 k hk, fun k hk => ?_, fun j hj => ?_⟩
        · rw [wx_a_se, ev_upd, ev_cl (by omega)]
          by_cases e : k = i
          · rw [e, if_pos rfl]
          · rw [if_neg (by omega)]; exact h4 k (by omega)
        · rw [wx_a_se, ev_upd, ev_cl (by omega), if_neg (by omega)]
          exact h5 j hj
      · have : i = 15 := by omega
        subst this
        rw [if_pos (by decide)]
        exact Or.inl ⟨r, rfl, h2, h3, h4, h5⟩)
    100 0 (0, τ) (by omega) (by omega) ⟨rfl, rfl, fun _ _ => rfl, fun k hk => by omega, fun _ _ => rfl⟩
  rw [he, ev_o1, ev_nm, e1, m4n, nI_1, show (14 : Int32) = nI 14 from rfl, pk_rem (by omega) (by omega) (by omega)]
  rw [show (hj_s e 14 (nI ((nx + 1) % 14))).1 13 = nI hi.1 by rw [ev_s1, if_neg (by decide), e1, m4]]
  have hblk : ∀ (τ2 : hj_Ob) (c' : Nat) (H' : Nat → hp_R), τ2.2 = e.2 → τ2.1 13 = nI c' → τ2.1 14 = nI ((nx + 1) % 14) → c' ≤ 14 → (∀ k, k < c' → (((nx + 1) % 14 + 14 - c' + k) % 14 = nx ∧ H' k = a) ∨ ∃ k0, k0 < hi.1 ∧ ((nx + 1) % 14 + 14 - c' + k) % 14 = (nx + 14 - hi.1 + k0) % 14 ∧ (nx + 14 - hi.1 + k0) % 14 ≠ nx ∧ H' k = hi.2 k0) → lm_h P.1 τ2 (c', H') := by
    intro τ2 c' H' q1 q2 q3 _ q4
    refine ⟨q2, (nx + 1) % 14, Nat.mod_lt _ (by omega), q3, fun k hk => ?_⟩
    rw [q1]
    rcases q4 k hk with ⟨w1, w2⟩ | ⟨k0, w1, w2, w3, w4⟩
    · show hr_B P.1 (e.2 15) (15 * (((nx + 1) % 14 + 14 - c' + k) % 14)) (H' k)
      rw [w1, w2]
      refine ⟨(e3 0 (by omega)).trans m3.1, (e3 1 (by omega)).trans m3.2.1, (e3 2 (by omega)).trans m3.2.2.1, fun j hj => ⟨?_, ?_⟩⟩
      · rw [show 15 * nx + 3 + j = 15 * nx + (3 + j) by omega, e3 (3 + j) (by omega)]
        exact (congrArg (τ.2 4) (by omega)).trans (m3.2.2.2 j hj).1
      · rw [show 15 * nx + 9 + j = 15 * nx + (9 + j) by omega, e3 (9 + j) (by omega)]
        exact (congrArg (τ.2 4) (by omega)).trans (m3.2.2.2 j hj).2
    · show hr_B P.1 (e.2 15) (15 * (((nx + 1) % 14 + 14 - c' + k) % 14)) (H' k)
      rw [w2, w4]
      have hb := m4r k0 w1
      revert hb
      generalize (nx + 14 - hi.1 + k0) % 14 = b at w3 ⊢
      intro hb
      refine ⟨(e4 _ (by omega)).trans hb.1, (e4 _ (by omega)).trans hb.2.1, (e4 _ (by omega)).trans hb.2.2.1, fun j hj => ⟨(e4 _ (by omega)).trans (hb.2.2.2 j hj).1, (e4 _ (by omega)).trans (hb.2.2.2 j hj).2⟩⟩
  have hrest : ∀ τ2 : hj_Ob, τ2.2 = e.2 → (∀ k, k ≠ 13 → k ≠ 14 → τ2.1 k = τ.1 k) → ∀ hi', lm_h P.1 τ2 hi' → lm τ2 tx P a hi' sl se := by
    intro τ2 q1 q2 hi' q3
    refine ⟨?_, ?_, ?_, q3, ?_, ?_⟩
    · unfold lm_t; rw [q2 10 (by decide) (by decide), q1, e2 9 (by decide)]; exact m1
    · unfold hr_MP; rw [q2 0 (by decide) (by decide), q2 1 (by decide) (by decide), q1, e2 2 (by decide), e2 3 (by decide)]; exact m2
    · unfold hr_M; rw [q1, e2 4 (by decide)]; exact m3
    · unfold lm_l; rw [q1, e2 22 (by decide), e2 23 (by decide)]; exact m5
    · unfold lm_s; rw [q2 17 (by decide) (by decide), q1, e2 18 (by decide), e2 19 (by decide), e2 20 (by decide)]; exact m6
  unfold hp_pu
  by_cases h1 : hi.1 < 14
  · rw [if_neg (by rw [ev_le (by omega) (by omega)]; omega), ev_nm, nI_1, if_pos h1]
    refine ⟨_, rfl, hrest (hj_s (hj_s e 14 (nI ((nx + 1) % 14))) 13 (nI (hi.1 + 1))) rfl (fun k k1 k2 => by rw [ev_s1, if_neg k1, ev_s1, if_neg k2, e1]) _ (hblk (hj_s (hj_s e 14 (nI ((nx + 1) % 14))) 13 (nI (hi.1 + 1))) _ _ rfl (by rw [ev_s1, if_pos rfl]) (by rw [ev_s1, if_neg (by decide), ev_s1, if_pos rfl]) (by omega) (fun k hk => ?_))⟩
    by_cases e : k = hi.1
    · exact Or.inl ⟨by omega, by rw [e, va_up_self]⟩
    · exact Or.inr ⟨k, by omega, by omega, by omega, va_up_ne _ _ e⟩
  · rw [if_pos (by rw [ev_le (by omega) (by omega)]; omega), ev_nm, if_neg h1]
    refine ⟨_, rfl, hrest (hj_s (hj_s e 14 (nI ((nx + 1) % 14))) 13 (nI 14)) rfl (fun k k1 k2 => by rw [ev_s1, if_neg k1, ev_s1, if_neg k2, e1]) _ (hblk (hj_s (hj_s e 14 (nI ((nx + 1) % 14))) 13 (nI 14)) _ _ rfl (by rw [ev_s1, if_pos rfl]) (by rw [ev_s1, if_neg (by decide), ev_s1, if_pos rfl]) (by omega) (fun k hk => ?_))⟩
    by_cases e : k = 13
    · exact Or.inl ⟨by omega, by rw [e, va_up_self]⟩
    · exact Or.inr ⟨k + 1, by omega, by omega, by omega, va_up_ne _ _ e⟩
