theorem i10 : ¬ (1 : Int32) = 0 := by decide
theorem i00 : (0 : Int32) = 0 := rfl
theorem ck_k {α : Type} {k n : Nat} {z : Option α} (h : k < n) (hn : n < 2 ^ 31) : hj_ck (nI k) n z = z := ev_ck h hn
theorem lr_juror {B : Nat} {σ : Nat → hj_Ob} {bf : Nat → Nat} {τ : hj_Ob} {sd : Int64} (h : lr B σ bf τ) (x z : Int32) : ∃ r, fX5_juror σ bf sd x z = some r ∧ fX6_juror τ sd x z = some r := by
  obtain ⟨tx, P, a, hi, sl, se, hx, hm, ho⟩ := h
  obtain ⟨x1, x2, x3, x4, x5, x6⟩ := hx
  obtain ⟨m1, m2, m3, m4, m5, m6⟩ := hm
  have ht := hp_t64 ho.2.1.1 ho.2.2.1.2.1
  have h6 := ho.2.1.1
  unfold fX5_juror fX6_juror
  rcases pk_ix x (n := P.1) (by omega) with q | q | ⟨j, hj, rfl⟩
  · rw [x_njur x2.1 (Or.inl q), m_njur m2.1 h6 (Or.inl q), ev_o1, ev_o1, if_pos rfl, if_pos rfl]
    exact ⟨_, rfl, rfl⟩
  · rw [x_njur x2.1 (Or.inr q), m_njur m2.1 h6 (Or.inr q), ev_o1, ev_o1, if_pos rfl, if_pos rfl]
    exact ⟨_, rfl, rfl⟩
  · have hj6 : j < 6 := by omega
    rw [x_jur x2.1 h6 hj, m_jur m2.1 h6 hj, ev_o1, ev_o1, if_neg i10, if_neg i10]
    rw [x_yes x3.1 ho.2.2.1.1 hj6, x_there x3.2.1 ht hj6, ck_k hj6 (by decide), ck_k hj6 (by decide), ck_k hj6 (by decide), ck_k hj6 (by decide), ev_cl (by omega), (x3.2.2.2 j hj).1, (x3.2.2.2 j hj).2, (x2.2.2 j hj).1, (x2.2.2 j hj).2]
    rw [m_3x, m_9x, ck_k (by omega) (by decide), ck_k hj6 (by decide), ck_k (by omega) (by decide), ck_k hj6 (by decide), ev_cl (by omega), ev_cl (by omega), (m2.2.2 j hj).1, (m2.2.2 j hj).2]
    rw [show τ.2 4 (3 + j) = nI (a.2.2.2.1 j) from (congrArg (τ.2 4) (by omega)).trans (m3.2.2.2 j hj).1, show τ.2 4 (9 + j) = nI (a.2.2.2.2 j) from (congrArg (τ.2 4) (by omega)).trans (m3.2.2.2 j hj).2]
    rw [show τ.2 4 (1 : Int32).toNatClampNeg = nI a.2.1 from m3.2.1, show τ.2 4 (0 : Int32).toNatClampNeg = nI a.1 from m3.1, hp_has ho.2.2.1.1 (by omega), hp_has ht (by omega)]
    rw [show ∀ k : Option Int32, hj_ck (1 : Int32) 30 k = k from fun k => rfl, show ∀ k : Option Int32, hj_ck (0 : Int32) 30 k = k from fun k => rfl, ev_o1, ev_o1]
    have e1 : (if nI (hp_b a.1 j) = 0 then some (0 : Int32) else some 1) = some (nI (hp_b a.1 j)) := by rcases hp_b2 a.1 j with e | e <;> rw [e] <;> rfl
    have e2 : (if nI (hp_b a.2.1 j) = 0 then some (0 : Int32) else some 1) = some (nI (hp_b a.2.1 j)) := by rcases hp_b2 a.2.1 j with e | e <;> rw [e] <;> rfl
    rw [e1, e2]
    repeat' split
    all_goals exact ⟨_, rfl, rfl⟩
theorem lr_unsee {B : Nat} {σ : Nat → hj_Ob} {bf : Nat → Nat} {τ : hj_Ob} {sd : Int64} (h : lr B σ bf τ) : ∃ r σ' τ', fX5_unsee σ bf sd = some (r, σ') ∧ fX6_unsee τ sd = some (r, τ') ∧ lr B σ' bf τ' := by
  obtain ⟨tx, P, a, hi, sl, se, hx, hm, ho⟩ := h
  obtain ⟨x1, x2, x3, x4, x5, x6⟩ := hx
  obtain ⟨m1, m2, m3, m4, m5, m6⟩ := hm
  have h14 := ho.2.2.2.1.1
  refine ⟨nI se.1, va_up σ 63 (hj_s (σ 63) 3 0), hj_s τ 17 0, ?_, ?_, tx, P, a, hi, sl, (0, se.2), ⟨x1, x2, x3, ⟨x4.1, x4.2.1, x4.2.2.1, fun k hk => ?_⟩, fun k hk => ⟨(x5 k hk).1, fun q => ?_⟩, ⟨rfl, fun i hi => absurd hi (Nat.not_lt_zero i)⟩⟩, ⟨m1, m2, m3, m4, m5, ⟨rfl, fun i hi => absurd hi (Nat.not_lt_zero i)⟩⟩, ⟨ho.1, ho.2.1, ho.2.2.1, ho.2.2.2.1, ho.2.2.2.2.1, Nat.zero_le _, fun i hi => absurd hi (Nat.not_lt_zero i)⟩⟩
  · unfold fX5_unsee; rw [x6.1]; rfl
  · unfold fX6_unsee; rw [m6.1]; rfl
  · have := x4.2.1 k (by omega)
    rw [va_up_ne _ _ (by omega)]
    exact x4.2.2.2 k hk
  · rw [va_up_ne _ _ (by omega)]
    exact (x5 k hk).2 q
theorem lr_wipe {B : Nat} {σ : Nat → hj_Ob} {bf : Nat → Nat} {τ : hj_Ob} {sd : Int64} (h : lr B σ bf τ) : ∃ r σ' τ', fX5_wipe σ bf sd = some (r, σ') ∧ fX6_wipe τ sd = some (r, τ') ∧ lr B σ' bf τ' := by
  obtain ⟨tx, P, a, hi, sl, se, hx, hm, ho⟩ := h
  obtain ⟨x1, x2, x3, x4, x5, x6⟩ := hx
  obtain ⟨m1, m2, m3, m4, m5, m6⟩ := hm
  have h14 := ho.2.2.2.1.1
  refine ⟨nI tx.1, va_up σ 1 (hj_s (σ 1) 1 0), hj_s τ 10 0, ?_, ?_, (0, tx.2), P, a, hi, sl, se, ⟨⟨rfl, fun i hi => absurd hi (Nat.not_lt_zero i)⟩, x2, x3, ⟨x4.1, x4.2.1, x4.2.2.1, fun k hk => ?_⟩, fun k hk => ⟨(x5 k hk).1, fun q => ?_⟩, x6⟩, ⟨⟨rfl, fun i hi => absurd hi (Nat.not_lt_zero i)⟩, m2, m3, m4, m5, m6⟩, ⟨⟨Nat.zero_le _, fun i hi => absurd hi (Nat.not_lt_zero i)⟩, ho.2⟩⟩
  · unfold fX5_wipe; rw [x1.1]; rfl
  · unfold fX6_wipe; rw [m1.1]; rfl
  · have := x4.2.1 k (by omega)
    rw [va_up_ne _ _ (by omega)]
    exact x4.2.2.2 k hk
  · rw [va_up_ne _ _ (by omega)]
    exact (x5 k hk).2 q
theorem lr_write {B : Nat} {σ : Nat → hj_Ob} {bf : Nat → Nat} {τ : hj_Ob} {sd : Int64} (h : lr B σ bf τ) (x : Int32) : ∃ r σ' τ', fX5_write σ bf sd x = some (r, σ') ∧ fX6_write τ sd x = some (r, τ') ∧ lr B σ' bf τ' := by
  obtain ⟨tx, P, a, hi, sl, se, hx, hm, ho⟩ := h
  have hlr : lr B σ bf τ := ⟨tx, P, a, hi, sl, se, hx, hm, ho⟩
  obtain ⟨x1, x2, x3, x4, x5, x6⟩ := hx
  obtain ⟨m1, m2, m3, m4, m5, m6⟩ := hm
  have h14 := ho.2.2.2.1.1
  have h56 := ho.1.1
  unfold fX5_write fX6_write
  by_cases c0 : x < 0
  · rw [if_pos c0, in_f (l := 0) (h := 255) rfl rfl (Or.inl (ti_neg c0)), ev_o1, if_pos rfl]
    exact ⟨_, _, _, rfl, rfl, hlr⟩
  · rw [if_neg c0]
    by_cases c1 : x ≤ 255
    · obtain ⟨j, hj, rfl⟩ := nI_of2 (x := x) (M := 255) (n := 255) rfl c0 c1
      rw [if_pos c1, in_t (l := 0) (h := 255) (by omega) rfl rfl (by omega) (by omega), ev_o1, if_neg (by decide), m1.1]
      unfold fX4_add
      rw [x1.1, if_neg (ev_neg (by omega))]
      simp only [show (nI tx.1 = 56) = (tx.1 = 56) from ev_eq (b := 56) (by omega) (by omega), show (nI tx.1 < 56) = (tx.1 < 56) from ev_lt (b := 56) (by omega) (by omega)]
      by_cases c2 : tx.1 = 56
      · rw [if_neg (by omega), if_pos c2, ev_o2, ev_nm, if_pos rfl, hj_ue σ 1 rfl]
        exact ⟨_, _, _, rfl, rfl, hlr⟩
      · rw [if_pos (by omega), if_neg c2, ck_k (by omega) (by decide), ck_k (by omega) (by decide), ev_nm, ev_nm, ev_nm, ev_nm, ev_o2, ev_nm, if_neg (by decide)]
        have e1 : (hj_a (σ 1) 0 (nI tx.1) (nI j)).1 1 + 1 = nI (tx.1 + 1) := by rw [ev_a1, x1.1, nI_1]
        have e2 : (hj_a τ 9 (nI tx.1) (nI j)).1 10 + 1 = nI (tx.1 + 1) := by rw [ev_a1, m1.1, nI_1]
        rw [e1, e2]
        refine ⟨nI (tx.1 + 1), _, _, rfl, rfl, (tx.1 + 1, va_up tx.2 tx.1 j), P, a, hi, sl, se, ⟨⟨rfl, fun i hi => ?_⟩, x2, x3, ⟨x4.1, x4.2.1, x4.2.2.1, fun k hk => ?_⟩, fun k hk => ⟨(x5 k hk).1, fun q => ?_⟩, x6⟩, ⟨⟨rfl, fun i hi => ?_⟩, m2, m3, m4, m5, m6⟩, ⟨⟨by show tx.1 + 1 ≤ 56; omega, fun i hi => ?_⟩, ho.2⟩⟩
        · rw [va_up_self]
          show (hj_a (σ 1) 0 (nI tx.1) (nI j)).2 0 i = nI (va_up tx.2 tx.1 j i)
          rw [wx_a_se, ev_upd, ev_cl (by omega)]
          by_cases e : i = tx.1
          · rw [if_pos e, e, va_up_self]
          · rw [if_neg e, va_up_ne _ _ e]
            have hi : i < tx.1 + 1 := hi
            exact x1.2 i (by omega)
        · have := x4.2.1 k (by omega)
          rw [va_up_ne _ _ (by omega)]
          exact x4.2.2.2 k hk
        · rw [va_up_ne _ _ (by omega)]
          exact (x5 k hk).2 q
        · show (hj_a τ 9 (nI tx.1) (nI j)).2 9 i = nI (va_up tx.2 tx.1 j i)
          rw [wx_a_se, ev_upd, ev_cl (by omega)]
          by_cases e : i = tx.1
          · rw [if_pos e, e, va_up_self]
          · rw [if_neg e, va_up_ne _ _ e]
            have hi : i < tx.1 + 1 := hi
            exact m1.2 i (by omega)
        · show va_up tx.2 tx.1 j i < 256
          by_cases e : i = tx.1
          · rw [e, va_up_self]; omega
          · rw [va_up_ne _ _ e]
            have hi : i < tx.1 + 1 := hi
            exact ho.1.2 i (by omega)
    · rw [if_neg c1, in_f (l := 0) (h := 255) rfl rfl (Or.inr (ti_out (n := 255) (by omega) (Int32.not_le.mp c1))), ev_o1, if_pos rfl]
      exact ⟨_, _, _, rfl, rfl, hlr⟩
theorem x_side {x : Int32} : fX5_isSide x = some (if x = 0 ∨ x = 1 then 1 else 0) := by
  unfold fX5_isSide
  by_cases h0 : x = 0
  · rw [if_pos h0, if_pos (Or.inl h0)]
  · rw [if_neg h0]
    by_cases h1 : x = 1
    · rw [if_pos h1, if_pos (Or.inr h1)]
    · rw [if_neg h1, if_neg (by rintro (q | q); exact h0 q; exact h1 q)]
theorem m_side {x : Int32} : fX6_in x.toInt64 0 1 = some (if x = 0 ∨ x = 1 then 1 else 0) := by
  rw [in_i (l := 0) (h := 1) rfl rfl]
  have e0 : (x = 0) ↔ x.toInt = 0 := ⟨fun q => by rw [q]; rfl, fun q => Int32.toInt_inj.mp q⟩
  have e1 : (x = 1) ↔ x.toInt = 1 := ⟨fun q => by rw [q]; rfl, fun q => Int32.toInt_inj.mp q⟩
  by_cases h : x = 0 ∨ x = 1
  · rw [if_pos h, if_pos (by rw [e0, e1] at h; omega)]
  · rw [if_neg h, if_neg (by rw [e0, e1] at h; omega)]
theorem lr_see {B : Nat} {σ : Nat → hj_Ob} {bf : Nat → Nat} {τ : hj_Ob} {sd : Int64} (h : lr B σ bf τ) (x z v : Int32) : ∃ r σ' τ', fX5_see σ bf sd x z v = some (r, σ') ∧ fX6_see τ sd x z v = some (r, τ') ∧ lr B σ' bf τ' := by
  obtain ⟨tx, P, a, hi, sl, se, hx, hm, ho⟩ := h
  have hlr : lr B σ bf τ := ⟨tx, P, a, hi, sl, se, hx, hm, ho⟩
  obtain ⟨x1, x2, x3, x4, x5, x6⟩ := hx
  obtain ⟨m1, m2, m3, m4, m5, m6⟩ := hm
  have h14 := ho.2.2.2.1.1
  have h6 := ho.2.1.1
  have hs6 := ho.2.2.2.2.2.1
  unfold fX5_see fX6_see
  rcases pk_ix x (n := P.1) (by omega) with q | q | ⟨j, hj, rfl⟩
  · rw [x_njur x2.1 (Or.inl q), m_njur m2.1 h6 (Or.inl q), ev_o1, ev_o1, if_pos rfl, if_pos rfl]
    exact ⟨_, _, _, rfl, rfl, hlr⟩
  · rw [x_njur x2.1 (Or.inr q), m_njur m2.1 h6 (Or.inr q), ev_o1, ev_o1, if_pos rfl, if_pos rfl]
    exact ⟨_, _, _, rfl, rfl, hlr⟩
  · rw [x_jur x2.1 h6 hj, m_jur m2.1 h6 hj, ev_o1, ev_o1, if_neg i10, if_neg i10, x_side, m_side]
    by_cases c0 : z < 0
    · rw [if_pos c0, in_f (l := 0) (h := 9) rfl rfl (Or.inl (ti_neg c0)), ev_o1, if_pos rfl]
      exact ⟨_, _, _, rfl, rfl, hlr⟩
    · rw [if_neg c0]
      by_cases c1 : 9 < z
      · rw [if_pos c1, in_f (l := 0) (h := 9) rfl rfl (Or.inr (ti_out (n := 9) (by omega) c1)), ev_o1, if_pos rfl]
        exact ⟨_, _, _, rfl, rfl, hlr⟩
      · obtain ⟨n, hn, rfl⟩ := ti_in (n := 9) (by omega) c0 c1
        rw [if_neg c1, in_t (l := 0) (h := 9) (by omega) rfl rfl (by omega) (by omega), ev_o1, ev_o1, ev_o1, if_neg i10]
        by_cases c2 : v = 0 ∨ v = 1
        · obtain ⟨w, hw, rfl⟩ : ∃ w : Nat, w ≤ 1 ∧ v = nI w := by
            rcases c2 with q | q
            · exact ⟨0, by omega, q⟩
            · exact ⟨1, by omega, q⟩
          rw [if_pos c2, if_neg i10, if_neg i10, m6.1]
          unfold fX3_add
          rw [x6.1, if_neg (ev_neg (by omega))]
          simp only [show (nI se.1 = 6) = (se.1 = 6) from ev_eq (b := 6) (by omega) (by omega), show (nI se.1 < 6) = (se.1 < 6) from ev_lt (b := 6) (by omega) (by omega)]
          by_cases c3 : se.1 = 6
          · rw [if_neg (by omega), if_pos c3, ev_o2, ev_nm, if_pos rfl, hj_ue σ 63 rfl]
            exact ⟨_, _, _, rfl, rfl, hlr⟩
          · have s6 : se.1 < 6 := by omega
            rw [if_pos s6, if_neg c3, ck_k s6 (by decide), ck_k s6 (by decide)]
            simp only [ev_nm, ev_a1, x6.1, m6.1, ck_k s6 (show 6 < 2 ^ 31 by decide), nI_1, ev_o2]
            rw [if_neg (by decide)]
            have upd3 : ∀ (o : hj_Ob) (k1 k2 k3 : Nat) (i : Nat) (f : Nat → Nat → Nat), k1 ≠ k2 → k1 ≠ k3 → k2 ≠ k3 → (i < se.1 → o.2 k1 i = nI (se.2.1 i) ∧ o.2 k2 i = nI (se.2.2.1 i) ∧ o.2 k3 i = nI (se.2.2.2 i)) → i < se.1 + 1 →
                (hj_a (hj_a (hj_a o k1 (nI se.1) (nI j)) k2 (nI se.1) (nI n)) k3 (nI se.1) (nI w)).2 k1 i = nI (va_up se.2.1 se.1 j i) ∧ (hj_a (hj_a (hj_a o k1 (nI se.1) (nI j)) k2 (nI se.1) (nI n)) k3 (nI se.1) (nI w)).2 k2 i = nI (va_up se.2.2.1 se.1 n i) ∧ (hj_a (hj_a (hj_a o k1 (nI se.1) (nI j)) k2 (nI se.1) (nI n)) k3 (nI se.1) (nI w)).2 k3 i = nI (va_up se.2.2.2 se.1 w i) := by
              intro o k1 k2 k3 i f e12 e13 e23 hold hi
              rw [wx_a_ne e13, wx_a_ne e12, wx_a_se, wx_a_ne e23, wx_a_se, wx_a_ne (Ne.symm e12), wx_a_se, wx_a_ne (Ne.symm e23), wx_a_ne (Ne.symm e13), ev_upd, ev_upd, ev_upd, ev_cl (by omega)]
              by_cases e : i = se.1
              · rw [if_pos e, if_pos e, if_pos e, e, va_up_self, va_up_self, va_up_self]
                exact ⟨rfl, rfl, rfl⟩
              · rw [if_neg e, if_neg e, if_neg e, va_up_ne _ _ e, va_up_ne _ _ e, va_up_ne _ _ e]
                exact hold (by omega)
            refine ⟨nI (se.1 + 1), _, _, rfl, rfl, tx, P, a, hi, sl, (se.1 + 1, va_up se.2.1 se.1 j, va_up se.2.2.1 se.1 n, va_up se.2.2.2 se.1 w), ⟨x1, x2, x3, ⟨x4.1, x4.2.1, x4.2.2.1, fun k hk => ?_⟩, fun k hk => ⟨(x5 k hk).1, fun q => ?_⟩, ⟨rfl, fun i hi => ?_⟩⟩, ⟨m1, m2, m3, m4, m5, ⟨rfl, fun i hi => ?_⟩⟩, ⟨ho.1, ho.2.1, ho.2.2.1, ho.2.2.2.1, ho.2.2.2.2.1, by show se.1 + 1 ≤ 6; omega, fun i hi => ?_⟩⟩
            · have := x4.2.1 k (by omega)
              rw [va_up_ne _ _ (by omega)]
              exact x4.2.2.2 k hk
            · rw [va_up_ne _ _ (by omega)]
              exact (x5 k hk).2 q
            · exact upd3 (σ 63) 0 1 2 i (fun _ _ => 0) (by decide) (by decide) (by decide) (x6.2 i) hi
            · exact upd3 τ 18 19 20 i (fun _ _ => 0) (by decide) (by decide) (by decide) (m6.2 i) hi
            · show va_up se.2.1 se.1 j i < 6 ∧ va_up se.2.2.1 se.1 n i ≤ 9 ∧ va_up se.2.2.2 se.1 w i ≤ 1
              by_cases e : i = se.1
              · rw [e, va_up_self, va_up_self, va_up_self]; omega
              · rw [va_up_ne _ _ e, va_up_ne _ _ e, va_up_ne _ _ e]
                have hi : i < se.1 + 1 := hi
                exact ho.2.2.2.2.2.2 i (by omega)
        · rw [if_neg c2, if_pos i00, if_pos i00]
          exact ⟨_, _, _, rfl, rfl, hlr⟩
