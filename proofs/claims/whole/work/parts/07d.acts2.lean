theorem lo_now {B : Nat} {tx : hp_T} {P : hp_P} {a a' : hp_R} {hi : hp_H} {sl : hp_L} {se : hp_S} (h : lo B tx P a hi sl se) (h' : hp_okR P.1 B a') : lo B tx P a' hi sl se := ⟨h.1, h.2.1, h', h.2.2.2⟩
theorem lo_pu {B : Nat} {tx : hp_T} {P : hp_P} {a : hp_R} {hi : hp_H} {sl : hp_L} {se : hp_S} (h : lo B tx P a hi sl se) : lo B tx P a (hp_pu hi a) sl se := by
  refine ⟨h.1, h.2.1, h.2.2.1, ?_, h.2.2.2.2⟩
  unfold hp_pu
  have h4 := h.2.2.2.1
  by_cases h1 : hi.1 < 14
  · rw [if_pos h1]
    refine ⟨by show hi.1 + 1 ≤ 14; omega, fun k hk => ?_⟩
    have hk : k < hi.1 + 1 := hk
    show hp_okR P.1 B (va_up hi.2 hi.1 a k)
    by_cases e : k = hi.1
    · rw [e, va_up_self]; exact h.2.2.1
    · rw [va_up_ne _ _ e]; exact h4.2 k (by omega)
  · rw [if_neg h1]
    refine ⟨Nat.le_refl _, fun k hk => ?_⟩
    have hk : k < 14 := hk
    show hp_okR P.1 B (va_up (fun k => hi.2 (k + 1)) 13 a k)
    by_cases e : k = 13
    · rw [e, va_up_self]; exact h.2.2.1
    · rw [va_up_ne _ _ e]; exact h4.2 (k + 1) (by omega)
theorem lr_hour {B : Nat} {σ : Nat → hj_Ob} {bf : Nat → Nat} {τ : hj_Ob} {sd : Int64} (h : lr B σ bf τ) (hB : B < 2 ^ 20) : ∃ r σ' bf' τ', fX5_hour σ bf sd = some (r, σ', bf') ∧ fX6_hour τ sd = some (r, τ') ∧ lr (B + 1) σ' bf' τ' := by
  obtain ⟨tx, P, a, hi, sl, se, hx, hm, ho⟩ := h
  have h14 := ho.2.2.2.1.1
  have h6 := ho.2.1.1
  obtain ⟨σ1, bf1, k1, hx1⟩ := x_remember hx h14 h6
  obtain ⟨τ1, k2, hm1⟩ := m_keep (sd := sd) hm h14 h6
  obtain ⟨ρ', k3, hX⟩ := x_hour hx1.2.1 ho.2.1 ho.2.2.1 (by omega) hx1.2.2.1
  obtain ⟨τ2, k4, hM, hF⟩ := m_hour (sd := sd) (L := 0) (by omega) hm1.2.1 ho.2.1 ho.2.2.1 (by omega) hm1.2.2.1
  have ho1 := lo_pu ho
  refine ⟨nI (hp_c (hp_h P a).1), va_up σ1 11 ρ', bf1, τ2, ?_, ?_, tx, P, (hp_h P a).2, hp_pu hi a, sl, se, lx_now hx1 ho1.2.2.2.1.1 hX, lm_now hm1 hF hM, lo_now (lo_up ho1 (Nat.le_succ B)) (hp_okR_h ho.2.2.1)⟩
  · unfold fX5_hour
    rw [k1, ev_o2, k3, ev_o2, ev_nm, hp_bc (hp_h_m ho.2.2.1.1), ev_o1]
  · unfold fX6_hour
    rw [k2, ev_o1, show (0 : Int32) = nI 0 from rfl, k4, ev_o2]
theorem x_act {σ : Nat → hj_Ob} {bf : Nat → Nat} {sd : Int64} {B d j : Nat} {tx : hp_T} {P : hp_P} {a : hp_R} {hi : hp_H} {sl : hp_L} {se : hp_S} (hx : lx σ bf tx P a hi sl se) (ho : lo B tx P a hi sl se) (hB : B < 2 ^ 20) (hd : d < 5) (hj : j < P.1) :
    (hp_cd a d j = true → ∃ σ' bf', fX5_doAct σ bf sd (nI d) (nI j) = some (-9, σ', bf') ∧ lx σ' bf' tx P (hp_do P d j a) (hp_pu hi a) sl se) ∧ (hp_cd a d j = false → fX5_doAct σ bf sd (nI d) (nI j) = some (-3, σ, bf)) := by
  have h14 := ho.2.2.2.1.1
  have h6 := ho.2.1.1
  unfold fX5_doAct
  rw [x_jur hx.2.1.1 h6 hj, ev_o1, if_neg i10, x_can ho.2.1 ho.2.2.1 hx.2.2.1 (by omega) (by omega), ev_o1]
  refine ⟨fun hc => ?_, fun hc => by rw [hc]; rfl⟩
  obtain ⟨σ1, bf1, k1, hx1⟩ := x_remember hx h14 h6
  obtain ⟨ρ', k3, hX⟩ := x_do (d := d) hx1.2.1 ho.2.1 ho.2.2.1 (by omega) hx1.2.2.1 (by omega) (show j < 6 by omega) (fun _ => hj)
  rw [hc, if_neg (by decide), k1, ev_o2, k3, ev_o1, ev_nm]
  exact ⟨_, _, rfl, lx_now hx1 (lo_pu ho).2.2.2.1.1 hX⟩
theorem x_act_n {σ : Nat → hj_Ob} {bf : Nat → Nat} {sd : Int64} {P : hp_P} {x d : Int32} (hP : hr_P (σ 3) P) (hx : x < 0 ∨ nI P.1 ≤ x) : fX5_doAct σ bf sd d x = some (-1, σ, bf) := by
  unfold fX5_doAct
  rw [x_njur hP.1 hx, ev_o1, if_pos i00]
theorem lr_argue {B : Nat} {σ : Nat → hj_Ob} {bf : Nat → Nat} {τ : hj_Ob} {sd : Int64} (h : lr B σ bf τ) (hB : B < 2 ^ 20) (hB0 : 0 < B) (x : Int32) : ∃ r σ' bf' τ', fX5_argue σ bf sd x = some (r, σ', bf') ∧ fX6_argue τ sd x = some (r, τ') ∧ lr (B + 1) σ' bf' τ' := by
  obtain ⟨tx, P, a, hi, sl, se, hx, hm, ho⟩ := h
  have hlr : lr (B + 1) σ bf τ := lr_up ⟨tx, P, a, hi, sl, se, hx, hm, ho⟩ (Nat.le_succ B)
  have h14 := ho.2.2.2.1.1
  have h6 := ho.2.1.1
  unfold fX5_argue fX6_argue
  rcases pk_ix x (n := P.1) (by omega) with q | q | ⟨j, hj, rfl⟩
  · rw [x_act_n hx.2.1 (Or.inl q), m_njur hm.2.1.1 h6 (Or.inl q), ev_o3, ev_o1, if_pos i00, if_neg (show ¬ (-1 : Int32) = -9 by decide)]
    exact ⟨_, _, _, _, rfl, rfl, hlr⟩
  · rw [x_act_n hx.2.1 (Or.inr q), m_njur hm.2.1.1 h6 (Or.inr q), ev_o3, ev_o1, if_pos i00, if_neg (show ¬ (-1 : Int32) = -9 by decide)]
    exact ⟨_, _, _, _, rfl, rfl, hlr⟩
  · have hj6 : j < 6 := by omega
    obtain ⟨q1, q2⟩ := x_act (sd := sd) (d := 1) hx ho hB (by omega) hj
    rw [m_jur hm.2.1.1 h6 hj, ev_o1, if_neg i10, show fX6_canArgue τ sd 0 (nI j) = _ from m_canA (L := 0) (by omega) ho.2.1 ho.2.2.1 hm.2.2.1 hj6, ev_o1]
    cases hc : hp_cd a 1 j with
    | false =>
      rw [show fX5_doAct σ bf sd 1 (nI j) = _ from q2 hc, ev_o3, if_neg (show ¬ (-3 : Int32) = -9 by decide)]
      exact ⟨_, _, _, _, rfl, rfl, hlr⟩
    | true =>
      obtain ⟨σ1, bf1, k1, hx1⟩ := q1 hc
      obtain ⟨τ1, k2, hm1⟩ := m_keep (sd := sd) hm h14 h6
      have hS : 1 < a.2.2.2.1 j := by rw [hp_cd1] at hc; simp at hc; exact hc.2
      have hSv : max 1 (a.2.2.2.1 j - 1) = a.2.2.2.1 j - 1 := by omega
      have hdo : hp_do P 1 j a = (a.1, a.2.1, a.2.2.1, va_up a.2.2.2.1 j (a.2.2.2.1 j - 1), a.2.2.2.2) := by
        show (a.1, a.2.1, a.2.2.1, va_up a.2.2.2.1 j (max 1 (a.2.2.2.1 j - 1)), a.2.2.2.2) = _
        rw [hSv]
      have h3 : τ1.2 4 (3 + j) = nI (a.2.2.2.1 j) := (congrArg (τ1.2 4) (by omega)).trans (hm1.2.2.1.2.2.2 j hj).1
      rw [show fX5_doAct σ bf sd 1 (nI j) = _ from k1, ev_o3, if_pos rfl, x_jur hx1.2.1.1 h6 hj, ev_o1, if_neg i10, ck_k hj6 (by decide), ev_cl (by omega), (hx1.2.2.1.2.2.2 j hj).1]
      rw [if_neg (by decide), k2, ev_o1, m_3x, ck_k (by omega) (by decide), ck_k (by omega) (by decide), ev_cl (by omega), ev_nm, ck_k (by omega) (by decide), h3, show nI (a.2.2.2.1 j) - 1 = nI (a.2.2.2.1 j - 1) from pk_sub (b := 1) (by omega), m_a4 (by omega), if_pos rfl]
      have hM := m_setS (v := a.2.2.2.1 j - 1) hm1.2.2.1 (show 0 < 2 by omega) h6 hj
      rw [show 15 * 0 + 3 + j = 3 + j by omega] at hM
      refine ⟨_, _, _, _, rfl, ?_, tx, P, hp_do P 1 j a, hp_pu hi a, sl, se, hx1, by rw [hdo]; exact lm_now hm1 (hr_F_a (L := 0) (i := 3 + j) (v := nI (a.2.2.2.1 j - 1)) (by omega) (by omega) (by omega)) hM, lo_now (lo_up (lo_pu ho) (Nat.le_succ B)) (hp_okR_do h6 ho.2.2.1 hj6 hB0)⟩
      rw [hdo]
      show some (_, _) = some (nI (va_up a.2.2.2.1 j (a.2.2.2.1 j - 1) j), _)
      rw [va_up_self]
theorem lr_feed {B : Nat} {σ : Nat → hj_Ob} {bf : Nat → Nat} {τ : hj_Ob} {sd : Int64} (h : lr B σ bf τ) (hB : B < 2 ^ 20) (hB0 : 0 < B) (x : Int32) : ∃ r σ' bf' τ', fX5_feed σ bf sd x = some (r, σ', bf') ∧ fX6_feed τ sd x = some (r, τ') ∧ lr (B + 1) σ' bf' τ' := by
  obtain ⟨tx, P, a, hi, sl, se, hx, hm, ho⟩ := h
  have hlr : lr (B + 1) σ bf τ := lr_up ⟨tx, P, a, hi, sl, se, hx, hm, ho⟩ (Nat.le_succ B)
  have h14 := ho.2.2.2.1.1
  have h6 := ho.2.1.1
  unfold fX5_feed fX6_feed fX5_feed_21
  rcases pk_ix x (n := P.1) (by omega) with q | q | ⟨j, hj, rfl⟩
  · rw [x_njur hx.2.1.1 (Or.inl q), x_act_n hx.2.1 (Or.inl q), m_njur hm.2.1.1 h6 (Or.inl q), ev_o1, ev_o1, if_pos i00, if_pos i00, ev_o3, if_neg (show ¬ (-1 : Int32) = -9 by decide)]
    exact ⟨_, _, _, _, rfl, rfl, hlr⟩
  · rw [x_njur hx.2.1.1 (Or.inr q), x_act_n hx.2.1 (Or.inr q), m_njur hm.2.1.1 h6 (Or.inr q), ev_o1, ev_o1, if_pos i00, if_pos i00, ev_o3, if_neg (show ¬ (-1 : Int32) = -9 by decide)]
    exact ⟨_, _, _, _, rfl, rfl, hlr⟩
  · have hj6 : j < 6 := by omega
    obtain ⟨q1, q2⟩ := x_act (sd := sd) (d := 2) hx ho hB (by omega) hj
    rw [x_jur hx.2.1.1 h6 hj, m_jur hm.2.1.1 h6 hj, ev_o1, ev_o1, if_neg i10, if_neg i10, ck_k hj6 (by decide), ev_cl (by omega), (hx.2.2.1.2.2.2 j hj).2, show fX6_canFeed τ sd 0 (nI j) = _ from m_canF (L := 0) (by omega) ho.2.1 ho.2.2.1 hm.2.2.1 hj6, ev_o1]
    cases hc : hp_cd a 2 j with
    | false =>
      rw [show fX5_doAct σ bf sd 2 (nI j) = _ from q2 hc, ev_o3, if_neg (show ¬ (-3 : Int32) = -9 by decide)]
      exact ⟨_, _, _, _, rfl, rfl, hlr⟩
    | true =>
      obtain ⟨σ1, bf1, k1, hx1⟩ := q1 hc
      obtain ⟨τ1, k2, hm1⟩ := m_keep (sd := sd) hm h14 h6
      have h3 : τ1.2 4 (9 + j) = nI (a.2.2.2.2 j) := (congrArg (τ1.2 4) (by omega)).trans (hm1.2.2.1.2.2.2 j hj).2
      rw [show fX5_doAct σ bf sd 2 (nI j) = _ from k1, ev_o3, if_pos rfl, if_pos rfl, if_neg (by decide), k2, ev_o1, m_9x, ck_k (by omega) (by decide), ev_nm, ck_k (by omega) (by decide), ev_nm, ev_cl (by omega), h3]
      have hM := m_setU (v := 0) hm1.2.2.1 (show 0 < 2 by omega) h6 hj
      rw [show 15 * 0 + 9 + j = 9 + j by omega] at hM
      exact ⟨_, _, _, _, rfl, rfl, tx, P, hp_do P 2 j a, hp_pu hi a, sl, se, hx1, lm_now hm1 (hr_F_a (L := 0) (i := 9 + j) (v := nI 0) (by omega) (by omega) (by omega)) hM, lo_now (lo_up (lo_pu ho) (Nat.le_succ B)) (hp_okR_do h6 ho.2.2.1 hj6 hB0)⟩
theorem hp_cd3 (a : hp_R) (j : Nat) : hp_cd a 3 j = decide (hp_b a.2.1 j = 1) := by simp [hp_cd]
theorem hp_cd4 (a : hp_R) (j : Nat) : hp_cd a 4 j = decide (hp_b a.2.1 j = 1) := by simp [hp_cd]
theorem lr_die {B : Nat} {σ : Nat → hj_Ob} {bf : Nat → Nat} {τ : hj_Ob} {sd : Int64} (h : lr B σ bf τ) (hB : B < 2 ^ 20) (hB0 : 0 < B) (x : Int32) : ∃ r σ' bf' τ', fX5_die σ bf sd x = some (r, σ', bf') ∧ fX6_die τ sd x = some (r, τ') ∧ lr (B + 1) σ' bf' τ' := by
  obtain ⟨tx, P, a, hi, sl, se, hx, hm, ho⟩ := h
  have hlr : lr (B + 1) σ bf τ := lr_up ⟨tx, P, a, hi, sl, se, hx, hm, ho⟩ (Nat.le_succ B)
  have h14 := ho.2.2.2.1.1
  have h6 := ho.2.1.1
  have ht := hp_t64 h6 ho.2.2.1.2.1
  unfold fX5_die fX6_die
  rcases pk_ix x (n := P.1) (by omega) with q | q | ⟨j, hj, rfl⟩
  · rw [x_act_n hx.2.1 (Or.inl q), m_njur hm.2.1.1 h6 (Or.inl q), ev_o3, ev_o1, if_pos i00, if_neg (show ¬ (-1 : Int32) = -9 by decide)]
    exact ⟨_, _, _, _, rfl, rfl, hlr⟩
  · rw [x_act_n hx.2.1 (Or.inr q), m_njur hm.2.1.1 h6 (Or.inr q), ev_o3, ev_o1, if_pos i00, if_neg (show ¬ (-1 : Int32) = -9 by decide)]
    exact ⟨_, _, _, _, rfl, rfl, hlr⟩
  · have hj6 : j < 6 := by omega
    obtain ⟨q1, q2⟩ := x_act (sd := sd) (d := 3) hx ho hB (by omega) hj
    rw [m_jur hm.2.1.1 h6 hj, ev_o1, if_neg i10, show fX6_isThere τ sd 0 (nI j) = _ from m_there (L := 0) (by omega) hm.2.2.1.2.1 ht (by omega), ev_o1]
    rw [hp_cd3] at q1 q2
    rcases hp_b2 a.2.1 j with e | e
    · rw [e, show fX5_doAct σ bf sd 3 (nI j) = _ from q2 (by rw [e]; rfl), ev_o3, if_neg (show ¬ (-3 : Int32) = -9 by decide)]
      exact ⟨_, _, _, _, rfl, rfl, hlr⟩
    · obtain ⟨σ1, bf1, k1, hx1⟩ := q1 (by rw [e]; rfl)
      obtain ⟨τ1, k2, hm1⟩ := m_keep (sd := sd) hm h14 h6
      obtain ⟨τ2, k3, hM, hF⟩ := m_die (sd := sd) (L := 0) hm1.2.2.1 (by omega) h6 ht hj6
      rw [e, show fX5_doAct σ bf sd 3 (nI j) = _ from k1, ev_o3, if_pos rfl, hx1.2.2.1.2.1, if_neg (by decide), k2, ev_o1, show fX6_dieOn τ1 sd 0 (nI j) = _ from k3, ev_o1]
      show ∃ r σ' bf' τ', hj_o1 (fJ6_bitCount_0f7a4 (nI (hp_n a.2.1 (2 ^ j)))) _ = _ ∧ hj_ck (1 : Int32) 30 _ = _ ∧ _
      rw [show τ2.2 4 (1 : Int32).toNatClampNeg = nI (hp_n a.2.1 (2 ^ j)) from hM.2.1, hp_bc (hp_n_lt ht), hp_on (hp_n_lt ht), ev_o1, ev_o1]
      exact ⟨_, _, _, _, rfl, rfl, tx, P, hp_do P 3 j a, hp_pu hi a, sl, se, hx1, lm_now hm1 hF hM, lo_now (lo_up (lo_pu ho) (Nat.le_succ B)) (hp_okR_do h6 ho.2.2.1 hj6 hB0)⟩
theorem ck_00 {α : Type} (k : Option α) : hj_ck (0 : Int32) 30 k = k := rfl
theorem ck_01 {α : Type} (k : Option α) : hj_ck (1 : Int32) 30 k = k := rfl
theorem ck_02 {α : Type} (k : Option α) : hj_ck (2 : Int32) 30 k = k := rfl
theorem ck_15 {α : Type} (k : Option α) : hj_ck (15 : Int32) 30 k = k := rfl
theorem ck_16 {α : Type} (k : Option α) : hj_ck (16 : Int32) 30 k = k := rfl
theorem lr_toss {B : Nat} {σ : Nat → hj_Ob} {bf : Nat → Nat} {τ : hj_Ob} {sd : Int64} (h : lr B σ bf τ) (hB : B < 2 ^ 20) (hB0 : 0 < B) (x : Int32) : ∃ r σ' bf' τ', fX5_toss σ bf sd x = some (r, σ', bf') ∧ fX6_toss τ sd x = some (r, τ') ∧ lr (B + 1) σ' bf' τ' := by
  obtain ⟨tx, P, a, hi, sl, se, hx, hm, ho⟩ := h
  have hlr : lr (B + 1) σ bf τ := lr_up ⟨tx, P, a, hi, sl, se, hx, hm, ho⟩ (Nat.le_succ B)
  have h14 := ho.2.2.2.1.1
  have h6 := ho.2.1.1
  have ht := hp_t64 h6 ho.2.2.1.2.1
  unfold fX5_toss fX6_toss
  rcases pk_ix x (n := P.1) (by omega) with q | q | ⟨j, hj, rfl⟩
  · rw [x_act_n hx.2.1 (Or.inl q), m_njur hm.2.1.1 h6 (Or.inl q), ev_o3, ev_o1, if_pos i00, if_neg (show ¬ (-1 : Int32) = -9 by decide)]
    exact ⟨_, _, _, _, rfl, rfl, hlr⟩
  · rw [x_act_n hx.2.1 (Or.inr q), m_njur hm.2.1.1 h6 (Or.inr q), ev_o3, ev_o1, if_pos i00, if_neg (show ¬ (-1 : Int32) = -9 by decide)]
    exact ⟨_, _, _, _, rfl, rfl, hlr⟩
  · have hj6 : j < 6 := by omega
    obtain ⟨q1, q2⟩ := x_act (sd := sd) (d := 4) hx ho hB (by omega) hj
    rw [m_jur hm.2.1.1 h6 hj, ev_o1, if_neg i10, show fX6_isThere τ sd 0 (nI j) = _ from m_there (L := 0) (by omega) hm.2.2.1.2.1 ht (by omega), ev_o1]
    rw [hp_cd4] at q1 q2
    rcases hp_b2 a.2.1 j with e | e
    · rw [e, show fX5_doAct σ bf sd 4 (nI j) = _ from q2 (by rw [e]; rfl), ev_o3, if_neg (show ¬ (-3 : Int32) = -9 by decide)]
      exact ⟨_, _, _, _, rfl, rfl, hlr⟩
    · obtain ⟨σ1, bf1, k1, hx1⟩ := q1 (by rw [e]; rfl)
      obtain ⟨τ1, k2, hm1⟩ := m_keep (sd := sd) hm h14 h6
      have hy := hp_xor_lt ho.2.2.1.1 (hp_p_lt hj6)
      have hM := m_setY (y := a.1 ^^^ 2 ^ j) hm1.2.2.1 (show 0 < 2 by omega) h6
      rw [show (15 * 0 : Nat) = 0 from rfl] at hM
      have hxs : fX2_isYes (σ1 3) (σ1 11) (nI j) = some (nI (hp_b (a.1 ^^^ 2 ^ j) j)) := x_yes hx1.2.2.1.1 hy hj6
      rw [e, show fX5_doAct σ bf sd 4 (nI j) = _ from k1, ev_o3, if_pos rfl, hxs, ev_o1, if_neg (show ¬ nI 1 = 0 by decide), k2, ev_o1, ck_00, ck_00, show τ1.2 4 (0 : Int32).toNatClampNeg = nI a.1 from hm1.2.2.1.1, hp_pw (by omega), hp_xor, ev_nm, ck_00, show (hj_a τ1 4 (0 : Int32) (nI (a.1 ^^^ 2 ^ j))).2 4 (0 : Int32).toNatClampNeg = nI (a.1 ^^^ 2 ^ j) from hM.1, hp_has hy (by omega)]
      have e1 : (if nI (hp_b (a.1 ^^^ 2 ^ j) j) = 0 then some ((0 : Int32), σ1, bf1) else some (1, σ1, bf1)) = some (nI (hp_b (a.1 ^^^ 2 ^ j) j), σ1, bf1) := by rcases hp_b2 (a.1 ^^^ 2 ^ j) j with e | e <;> rw [e] <;> rfl
      rw [e1]
      exact ⟨_, _, _, _, rfl, rfl, tx, P, hp_do P 4 j a, hp_pu hi a, sl, se, hx1, lm_now hm1 (hr_F_a (L := 0) (i := 0) (v := nI (a.1 ^^^ 2 ^ j)) (by omega) (by omega) (by omega)) hM, lo_now (lo_up (lo_pu ho) (Nat.le_succ B)) (hp_okR_do h6 ho.2.2.1 hj6 hB0)⟩
