/-! gives and judge -/
set_option maxRecDepth 100000 in
theorem hp_xo_all : hp_all 64 (fun m => hp_all 6 (fun i => decide (m < 2 ^ i → m ||| 2 ^ i = m ^^^ 2 ^ i))) = true := by decide +kernel
theorem hp_xo {i m : Nat} (hi : i < 6) (hm : m < 2 ^ i) : m ||| 2 ^ i = m ^^^ 2 ^ i :=
  (of_decide_eq_true (hp_all_s (hp_all_s hp_xo_all (Nat.lt_of_lt_of_le hm (Nat.pow_le_pow_right (by decide) (by omega) : 2 ^ i ≤ 2 ^ 6))) hi)) hm
theorem hp_fo_x (P : hp_P) (a : hp_R) : ∀ k, k ≤ 6 → (hp_fo P k (0, a)).2.1 = a.1 ^^^ (hp_fo P k (0, a)).1
  | 0, _ => by show a.1 = a.1 ^^^ 0; rw [Nat.xor_zero]
  | k + 1, hk => by
    have ih := hp_fo_x P a k (by omega)
    have hm := hp_fo_m P a k (by omega)
    show (hp_st P k (hp_fo P k (0, a))).2.1 = a.1 ^^^ (hp_st P k (hp_fo P k (0, a))).1
    unfold hp_st
    split
    · show (hp_fo P k (0, a)).2.1 ^^^ 2 ^ k = a.1 ^^^ ((hp_fo P k (0, a)).1 ||| 2 ^ k)
      rw [hp_xo (by omega) hm, ih, Nat.xor_assoc]
    · exact ih
theorem hp_h_x (P : hp_P) (a : hp_R) : (hp_h P a).2.1 = a.1 ^^^ (hp_h P a).1 := by
  unfold hp_h
  split
  · exact hp_fo_x P _ 6 (by omega)
  · show a.1 = a.1 ^^^ 0
    rw [Nat.xor_zero]
set_option maxRecDepth 100000 in
theorem hp_bx_all : hp_all 64 (fun a => hp_all 64 (fun m => hp_all 6 (fun j => decide (hp_b (a ^^^ m) j = if hp_b m j = 1 then 1 - hp_b a j else hp_b a j)))) = true := by decide +kernel
theorem hp_bx {a m j : Nat} (ha : a < 64) (hm : m < 64) (hj : j < 6) : hp_b (a ^^^ m) j = if hp_b m j = 1 then 1 - hp_b a j else hp_b a j := of_decide_eq_true (hp_all_s (hp_all_s (hp_all_s hp_bx_all ha) hm) hj)
theorem lr_gives {B : Nat} {σ : Nat → hj_Ob} {bf : Nat → Nat} {τ : hj_Ob} {sd : Int64} (h : lr B σ bf τ) (hB : B < 2 ^ 20) (x : Int32) : ∃ r σ' τ', fX5_gives σ bf sd x = some (r, σ') ∧ fX6_gives τ sd x = some (r, τ') ∧ lr B σ' bf τ' := by
  obtain ⟨P, a, h⟩ := lr_b h
  obtain ⟨x1, x2, o1, o2⟩ := lb_x h
  obtain ⟨m1, m2⟩ := lb_m h
  have h6 := o1.1
  have ht := hp_t64 o1.1 o2.2.1
  unfold fX5_gives fX6_gives
  rcases pk_ix x (n := P.1) (by omega) with q | q | ⟨j, hj, rfl⟩
  · rw [x_njur x1.1 (Or.inl q), m_njur m1.1 h6 (Or.inl q), ev_o1, ev_o1, if_pos rfl, if_pos rfl]
    exact ⟨_, _, _, rfl, rfl, lb_r h⟩
  · rw [x_njur x1.1 (Or.inr q), m_njur m1.1 h6 (Or.inr q), ev_o1, ev_o1, if_pos rfl, if_pos rfl]
    exact ⟨_, _, _, rfl, rfl, lb_r h⟩
  · have hj6 : j < 6 := by omega
    rw [x_jur x1.1 h6 hj, m_jur m1.1 h6 hj, ev_o1, ev_o1, if_neg i10, if_neg i10, x_there x2.2.1 ht hj6, show fX6_isThere τ sd 0 (nI j) = _ from m_there (L := 0) (by omega) m2.2.1 ht (by omega), ev_o1, ev_o1]
    by_cases c : nI (hp_b a.2.1 j) = 0
    · rw [if_pos c, if_pos c]
      exact ⟨_, _, _, rfl, rfl, lb_r h⟩
    · obtain ⟨ρ1, τ1, k1, k2, k3, k4⟩ := lt_lay (sd := sd) h
      rw [if_neg c, if_neg c, k1, k2, ev_o1, ev_o1, ev_nm]
      obtain ⟨e, e', he, he', hQ⟩ := lp_2 (b := fun q : (Int32 × (Nat → hj_Ob)) => fX5_gives_37 q.2 bf sd (nI j) q.1) (b' := fun q : (Int32 × hj_Ob) => fX6_gives_28 q.2 sd (nI j) q.1)
        (fun i q q' => q.1 = nI (i + 1) ∧ q'.1 = nI (i + 1) ∧ lb B P a q.2 bf q'.2 ∧ ∃ b, lt P.1 (B + i) q.2 q'.2 b ∧ hp_b b.1 j = hp_b a.1 j)
        (fun e e' => (∃ r s t, e = .inl (r, s) ∧ e' = .inl (r, t) ∧ lb B P a s bf t) ∨ (∃ s t, e = .inr s ∧ e' = .inr t ∧ lb B P a s bf t)) 20
        (fun i q q' hi hI => by
          obtain ⟨y, s⟩ := q
          obtain ⟨y', t⟩ := q'
          obtain ⟨e1, e2, hb, b, hlt, hbj⟩ := hI
          dsimp only at e1 e2 hb hlt hbj ⊢
          subst e1
          subst e2
          unfold fX5_gives_37 fX6_gives_28
          by_cases c : 20 < i + 1
          · rw [if_pos (by rw [show (20 : Int32) = nI 20 from rfl, ev_lt (by omega) (by omega)]; exact c), if_pos (by rw [show (20 : Int32) = nI 20 from rfl, ev_lt (by omega) (by omega)]; exact c)]
            exact Or.inl ⟨_, _, rfl, rfl, Or.inr ⟨_, _, rfl, rfl, hb⟩⟩
          · obtain ⟨ρ2, τ2, j1, j2, j3, j4⟩ := lt_hour (sd := sd) hb hlt (by omega)
            have hm64 := hp_h_m (P := P) (a := b) hlt.2.2.1
            rw [if_neg (by rw [show (20 : Int32) = nI 20 from rfl, ev_lt (by omega) (by omega)]; exact c), if_neg (by rw [show (20 : Int32) = nI 20 from rfl, ev_lt (by omega) (by omega)]; exact c), j1, j2, ev_o2, ev_o2, ev_nm]
            rw [show ∀ k : Option (((Int32 × hj_Ob) ⊕ hj_Ob) ⊕ (Int32 × hj_Ob)), hj_ck (15 : Int32) 30 k = k from fun k => rfl, show τ2.2 4 (15 : Int32).toNatClampNeg = nI (hp_h P b).2.1 from j4.2.1.1, m_has j4.2.2.1 (by omega), ev_o1]
            rw [show ∀ k : Option (((Int32 × hj_Ob) ⊕ hj_Ob) ⊕ (Int32 × hj_Ob)), hj_ck (0 : Int32) 30 k = k from fun k => rfl, show τ2.2 4 (0 : Int32).toNatClampNeg = nI a.1 from (lb_m j3).2.1, m_has o2.1 (by omega), ev_o1, hp_has hm64 (by omega), hp_h_x, hp_bx hlt.2.2.1 hm64 hj6, hbj]
            have e1 : nI (i + 1) + 1 = nI (i + 1 + 1) := nI_1 _
            by_cases g : hp_b (hp_h P b).1 j = 1
            · rw [if_pos (by rw [g]; rfl), if_pos g, if_neg (by rcases hp_b2 a.1 j with z | z <;> rw [z] <;> decide)]
              exact Or.inl ⟨_, _, rfl, rfl, Or.inl ⟨_, _, _, rfl, rfl, j3⟩⟩
            · have g0 : hp_b (hp_h P b).1 j = 0 := by have := hp_b2 (hp_h P b).1 j; omega
              rw [if_neg (by rw [g0]; decide), if_neg g, if_pos rfl, ev_nm, ev_nm, e1]
              exact Or.inr ⟨by omega, _, _, rfl, rfl, rfl, rfl, j3, _, j4, by rw [hp_h_x, hp_bx hlt.2.2.1 hm64 hj6, if_neg g]; exact hbj⟩)
        100 100 0 (1, va_up σ 14 ρ1) (1, τ1) (by omega) (by omega) (by omega) ⟨rfl, rfl, k3, a, k4, rfl⟩
      rw [he, he']
      rcases hQ with ⟨r, s, t, rfl, rfl, hb⟩ | ⟨s, t, rfl, rfl, hb⟩
      · rw [ev_oel, ev_oel]
        exact ⟨_, _, _, rfl, rfl, lb_r hb⟩
      · rw [ev_oei, ev_oei, ev_nm, ev_nm]
        exact ⟨_, _, _, rfl, rfl, lb_r hb⟩
/-- one thing tried -/
theorem lt_try {B C d j : Nat} {P : hp_P} {a b : hp_R} {σ : Nat → hj_Ob} {bf : Nat → Nat} {τ : hj_Ob} {sd : Int64} (h : lb B P a σ bf τ) (ht : lt P.1 C σ τ b) (hC : C < 2 ^ 27) (hd : d < 10) (hj : j < 10) :
    (hp_cd b d j = true ∧ ∃ ρ' τ', fX2_carryOut (σ 3) (σ 14) (nI d) (nI j) = some ρ' ∧ fX6_tryThing τ sd (nI d) (nI j) = some (1, τ') ∧ lb B P a (va_up σ 14 ρ') bf τ' ∧ lt P.1 (C + 1) (va_up σ 14 ρ') τ' (hp_do P d j b)) ∨
    (hp_cd b d j = false ∧ ∃ τ', fX6_tryThing τ sd (nI d) (nI j) = some (0, τ') ∧ lb B P a σ bf τ') := by
  obtain ⟨x1, x2, o1, o2⟩ := lb_x h
  obtain ⟨m1, m2⟩ := lb_m h
  obtain ⟨t1, t2, t3⟩ := ht
  have h6 := o1.1
  have ht := hp_t64 o1.1 t3.2.1
  have hC0 : 0 < C := by have := t3.2.2.1; omega
  unfold fX6_tryThing fX6_tryThing_16
  by_cases d0 : d = 0 ∧ j = 0
  · obtain ⟨rfl, rfl⟩ := d0
    refine Or.inl ⟨rfl, ?_⟩
    obtain ⟨ρ2, τ2, j1, j2, j3, j4⟩ := lt_hour (sd := sd) h ⟨t1, t2, t3⟩ (by omega)
    obtain ⟨ρ3, k1, k2⟩ := x_do x1 o1 t3 (by omega) t1 (d := 0) (j := 0) (by omega) (by omega) (by omega)
    rw [if_pos (show nI 0 = 0 from rfl), j2, ev_o2]
    refine ⟨ρ3, τ2, k1, if_pos rfl, ?_, by rw [va_up_self]; exact k2, j4.2.1, hp_okR_do h6 t3 (by omega) hC0⟩
    have := lb_t (ρ := ρ3) j3 hr_T_rf
    have e : va_up (va_up σ 14 ρ2) 14 ρ3 = va_up σ 14 ρ3 := by
      funext k
      by_cases q : k = 14
      · rw [q, va_up_self, va_up_self]
      · rw [va_up_ne _ _ q, va_up_ne _ _ q, va_up_ne _ _ q]
    rw [e] at this
    exact this
  · have e16 : ∀ z : Option (Int32 × hj_Ob), (if nI d = 0 then (if nI j = 0 then (hj_o2 (fX6_passOn τ sd 1) fun r25 τ26 => some ((1 : Int32), τ26)) else z) else z) = z := by
      intro z
      by_cases q : d = 0
      · have qj : j ≠ 0 := fun e => d0 ⟨q, e⟩
        rw [if_pos (by rw [q]; rfl), if_neg (by rw [show (nI j = 0) = (j = 0) from ev_eq (b := 0) (by omega) (by omega)]; exact qj)]
      · rw [if_neg (by rw [show (nI d = 0) = (d = 0) from ev_eq (b := 0) (by omega) (by omega)]; exact q)]
    rw [e16]
    have hn0 : ∀ k, k ≤ d → hp_b b.2.1 j = 0 → hp_cd b d j = false := by
      intro _ _ q
      unfold hp_cd
      split
      · exact decide_eq_false (fun e => d0 ⟨by assumption, e⟩)
      · exact decide_eq_false (fun e => by omega)
    by_cases hjn : j < P.1
    · have hj6 : j < 6 := by omega
      rw [m_jur m1.1 h6 hjn, ev_o1, if_neg i10, show fX6_isThere τ sd 1 (nI j) = _ from m_there (L := 1) (by omega) t2.2.1 ht (by omega), ev_o1]
      by_cases cb : hp_b b.2.1 j = 0
      · rw [if_pos (by rw [cb]; rfl)]
        exact Or.inr ⟨hn0 0 (Nat.zero_le _) cb, τ, rfl, h⟩
      · have cb1 : hp_b b.2.1 j = 1 := by have := hp_b2 b.2.1 j; omega
        rw [if_neg (by rw [cb1]; exact i10)]
        simp only [show (nI d = 1) = (d = 1) from ev_eq (b := 1) (by omega) (by omega), show (nI d = 2) = (d = 2) from ev_eq (b := 2) (by omega) (by omega), show (nI d = 3) = (d = 3) from ev_eq (b := 3) (by omega) (by omega), show (nI d = 4) = (d = 4) from ev_eq (b := 4) (by omega) (by omega)]
        by_cases d1 : d = 1
        · subst d1
          rw [if_pos rfl, show fX6_canArgue τ sd 1 (nI j) = _ from m_canA (L := 1) (by omega) o1 t3 t2 hj6, ev_o1, m_18x, ck_k (by omega) (by decide), ck_k (by omega) (by decide), ck_k (by omega) (by decide), ev_cl (by omega), ev_nm, ev_nm]
          cases hc : hp_cd b 1 j with
          | false =>
            rw [if_pos (show nI (if false = true then 1 else 0) = 0 from rfl)]
            exact Or.inr ⟨rfl, _, rfl, lb_tm h (hr_T_F (hr_F_a (L := 1) (by omega) (by omega) (by omega)))⟩
          | true =>
            obtain ⟨ρ3, k1, k2⟩ := x_do x1 o1 t3 (by omega) t1 (d := 1) (j := j) (by omega) (by omega) (by omega)
            have hS : 1 < b.2.2.2.1 j := by rw [hp_cd1] at hc; simp at hc; exact hc.2
            have hSv : max 1 (b.2.2.2.1 j - 1) = b.2.2.2.1 j - 1 := by omega
            have hdo : hp_do P 1 j b = (b.1, b.2.1, b.2.2.1, va_up b.2.2.2.1 j (b.2.2.2.1 j - 1), b.2.2.2.2) := by
              show (b.1, b.2.1, b.2.2.1, va_up b.2.2.2.1 j (max 1 (b.2.2.2.1 j - 1)), b.2.2.2.2) = _
              rw [hSv]
            rw [if_neg (show ¬ nI (if true = true then 1 else 0) = 0 from by decide), show τ.2 4 (18 + j) = nI (b.2.2.2.1 j) from (t2.2.2.2 j hjn).1, show nI (b.2.2.2.1 j) - 1 = nI (b.2.2.2.1 j - 1) from pk_sub (b := 1) (by omega)]
            refine Or.inl ⟨rfl, ρ3, _, k1, rfl, lb_t h (hr_T_F (hr_F_a (L := 1) (by omega) (by omega) (by omega))), by rw [va_up_self]; exact k2, ?_, hp_okR_do h6 t3 hj6 hC0⟩
            rw [hdo]
            exact m_setS (v := b.2.2.2.1 j - 1) t2 (by omega) h6 hjn
        · rw [if_neg d1]
          by_cases d2 : d = 2
          · subst d2
            rw [if_pos rfl, show fX6_canFeed τ sd 1 (nI j) = _ from m_canF (L := 1) (by omega) o1 t3 t2 hj6, ev_o1, m_24x, ck_k (by omega) (by decide), ev_nm]
            cases hc : hp_cd b 2 j with
            | false => exact Or.inr ⟨rfl, _, rfl, lb_tm h (hr_T_F (hr_F_a (L := 1) (by omega) (by omega) (by omega)))⟩
            | true =>
              obtain ⟨ρ3, k1, k2⟩ := x_do x1 o1 t3 (by omega) t1 (d := 2) (j := j) (by omega) (by omega) (by omega)
              refine Or.inl ⟨rfl, ρ3, _, k1, rfl, lb_t h (hr_T_F (hr_F_a (L := 1) (by omega) (by omega) (by omega))), by rw [va_up_self]; exact k2, ?_, hp_okR_do h6 t3 hj6 hC0⟩
              exact m_setU (v := 0) t2 (by omega) h6 hjn
          · rw [if_neg d2]
            by_cases d3 : d = 3
            · subst d3
              obtain ⟨ρ3, k1, k2⟩ := x_do x1 o1 t3 (by omega) t1 (d := 3) (j := j) (by omega) (by omega) (by omega)
              obtain ⟨τ3, k3, k4, k5⟩ := m_die (sd := sd) t2 (by omega) h6 ht hj6
              rw [if_pos rfl, show fX6_dieOn τ sd 1 (nI j) = _ from k3, ev_o1]
              refine Or.inl ⟨?_, ρ3, _, k1, rfl, lb_t h (hr_T_F k5), by rw [va_up_self]; exact k2, k4, hp_okR_do h6 t3 hj6 hC0⟩
              simp [hp_cd, cb1]
            · rw [if_neg d3]
              by_cases d4 : d = 4
              · subst d4
                obtain ⟨ρ3, k1, k2⟩ := x_do x1 o1 t3 (by omega) t1 (d := 4) (j := j) (by omega) (by omega) (by omega)
                rw [if_pos rfl, show ∀ k : Option (Int32 × hj_Ob), hj_ck (15 : Int32) 30 k = k from fun k => rfl, show ∀ k : Option (Int32 × hj_Ob), hj_ck (15 : Int32) 30 k = k from fun k => rfl, ev_nm, show τ.2 4 (15 : Int32).toNatClampNeg = nI b.1 from t2.1, hp_pw (by omega), hp_xor]
                refine Or.inl ⟨by simp [hp_cd, cb1], ρ3, _, k1, rfl, lb_t h (hr_T_F (hr_F_a (L := 1) (i := 15) (v := nI (b.1 ^^^ 2 ^ j)) (by omega) (by omega) (by omega))), by rw [va_up_self]; exact k2, ?_, hp_okR_do h6 t3 hj6 hC0⟩
                exact m_setY t2 (by omega) h6
              · rw [if_neg d4]
                refine Or.inr ⟨?_, τ, rfl, h⟩
                unfold hp_cd
                split
                · exact decide_eq_false (fun e => d0 ⟨by assumption, e⟩)
                · exact decide_eq_false (fun e => by omega)
    · rw [m_njur m1.1 h6 (Or.inr (by rw [ev_le (by omega) (by omega)]; omega)), ev_o1, if_pos rfl]
      have : hp_b b.2.1 j = 0 := by
        rcases hp_b2 b.2.1 j with e | e
        · exact e
        · exact absurd (hp_bn t3.2.1 e) hjn
      exact Or.inr ⟨hn0 0 (Nat.zero_le _) this, τ, rfl, h⟩
theorem hs_H_n : ∀ k, k < 5 → hs_H k = nI (100 ^ k)
  | 0, _ => rfl
  | 1, _ => rfl
  | 2, _ => rfl
  | 3, _ => rfl
  | 4, _ => rfl
theorem m_ten : ∀ k, k ≤ 8 → fX6_tenTo (nI k) = some (nI (10 ^ k)) := by decide +kernel
theorem lr_judge {B : Nat} {σ : Nat → hj_Ob} {bf : Nat → Nat} {τ : hj_Ob} {sd : Int64} (h : lr B σ bf τ) (hB : B < 2 ^ 20) (x z : Int32) : ∃ r σ' τ', fX5_judge σ bf sd x z = some (r, σ') ∧ fX6_judge τ sd x z = some (r, τ') ∧ lr B σ' bf τ' := by
  obtain ⟨P, a, h⟩ := lr_b h
  unfold fX5_judge fX6_judge
  by_cases c0 : x < 1
  · rw [if_pos c0, in_f (l := 1) (h := 4) rfl rfl (Or.inl (Int32.lt_iff_toInt_lt.mp c0)), ev_o1, if_pos rfl]
    exact ⟨_, _, _, rfl, rfl, lb_r h⟩
  · rw [if_neg c0]
    by_cases c1 : 4 < x
    · rw [if_pos c1, in_f (l := 1) (h := 4) rfl rfl (Or.inr (ti_out (n := 4) (by omega) c1)), ev_o1, if_pos rfl]
      exact ⟨_, _, _, rfl, rfl, lb_r h⟩
    · have c00 : ¬ x < 0 := by
        intro q
        apply c0
        rw [Int32.lt_iff_toInt_lt] at q ⊢
        have e1 : (0 : Int32).toInt = 0 := rfl
        have e2 : (1 : Int32).toInt = 1 := rfl
        omega
      obtain ⟨n, hn, rfl⟩ := ti_in (n := 4) (by omega) c00 c1
      have hn1 : 1 ≤ n := by
        rcases Nat.eq_zero_or_pos n with e | e
        · subst e; exact absurd (by decide) c0
        · exact e
      have hp : 10 ^ (2 * n) = 100 ^ n := by rw [Nat.pow_mul]
      have hp8 : 100 ^ n ≤ 100 ^ 4 := Nat.pow_le_pow_right (by decide) hn
      have hp0 : 0 < 100 ^ n := Nat.pow_pos (by decide)
      rw [if_neg c1, in_t (l := 1) (h := 4) (by omega) rfl rfl (by omega) (by omega), ev_o1, if_neg i10, show (2 : Int32) * nI n = nI (2 * n) from pk_mul 2 n, m_ten _ (by omega), ev_o1, hp]
      have e4 : (nI (100 ^ n) - 1).toInt64.toInt = ((100 ^ n - 1 : Nat) : Int) := by
        rw [show nI (100 ^ n) - 1 = nI (100 ^ n - 1) from pk_sub (b := 1) hp0, Int32.toInt_toInt64, nI_toInt (by omega)]
      by_cases c2 : z < 0
      · rw [if_pos c2, in_f (l := 0) rfl e4 (Or.inl (ti_neg c2)), ev_o1, if_pos rfl]
        exact ⟨_, _, _, rfl, rfl, lb_r h⟩
      · rw [if_neg c2, ck_k (by omega) (by decide), ev_cl (by omega), hs_H_n n (by omega)]
        by_cases c3 : z < nI (100 ^ n)
        · obtain ⟨v, hv, rfl⟩ : ∃ v, v < 100 ^ n ∧ z = nI v := by
            obtain ⟨v, hv, e⟩ := nI_of2 (x := z) (M := nI (100 ^ n)) (n := 100 ^ n) (nI_toInt (by omega)) c2 (Int32.le_of_lt c3)
            subst e
            rw [ev_lt (by omega) (by omega)] at c3
            exact ⟨v, c3, rfl⟩
          obtain ⟨ρ1, τ1, k1, k2, k3, k4⟩ := lt_lay (sd := sd) h
          rw [if_pos c3, in_t (l := 0) (by omega) rfl e4 (by omega) (by omega), ev_o1, if_neg i10, k1, k2, ev_o1, ev_o1, ev_nm]
          obtain ⟨e, e', he, he', hQ⟩ := lp_2 (b := fun q : (Int32 × (Nat → hj_Ob)) => fX5_judge_39 q.2 bf sd (nI n) (nI v) q.1) (b' := fun q : (Int32 × hj_Ob) => fX6_judge_39 q.2 sd (nI n) (nI v) q.1)
            (fun i q q' => q.1 = nI i ∧ q'.1 = nI i ∧ lb B P a q.2 bf q'.2 ∧ ∃ b, lt P.1 (B + i) q.2 q'.2 b)
            (fun e e' => (∃ r s t, e = .inl (r, s) ∧ e' = .inl (r, t) ∧ lb B P a s bf t) ∨ (∃ s t, e = .inr s ∧ e' = .inr t ∧ lb B P a s bf t)) n
            (fun i q q' hi hI => by
              obtain ⟨y, s⟩ := q
              obtain ⟨y', t⟩ := q'
              obtain ⟨e1, e2, hb, b, hlt⟩ := hI
              dsimp only at e1 e2 hb hlt ⊢
              subst e1
              subst e2
              unfold fX5_judge_39 fX6_judge_39
              by_cases c : n ≤ i
              · rw [if_pos (by rw [ev_le (by omega) (by omega)]; exact c), if_pos (by rw [ev_le (by omega) (by omega)]; exact c)]
                exact Or.inl ⟨_, _, rfl, rfl, Or.inr ⟨_, _, rfl, rfl, hb⟩⟩
              · have hk : nI n - 1 - nI i = nI (n - 1 - i) := by rw [show nI n - 1 = nI (n - 1) from pk_sub (b := 1) hn1, pk_sub (by omega)]
                have hq : 100 ^ (n - 1 - i) ≤ 100 ^ 4 := Nat.pow_le_pow_right (by decide) (by omega)
                have hq0 : 0 < 100 ^ (n - 1 - i) := Nat.pow_pos (by decide)
                have hy : v / 100 ^ (n - 1 - i) < 2 ^ 31 := Nat.lt_of_le_of_lt (Nat.div_le_self _ _) (by omega)
                have hq1 : ¬ nI (100 ^ (n - 1 - i)) = 0 := by rw [show (nI (100 ^ (n - 1 - i)) = 0) = (100 ^ (n - 1 - i) = 0) from ev_eq (b := 0) (by omega) (by omega)]; omega
                have hnz : ∀ (α : Type) (k : Option α), hj_nz (nI (100 ^ (n - 1 - i))) k = k := fun α k => by unfold hj_nz; rw [if_neg hq1]
                have hy2 : nI v / nI (100 ^ (n - 1 - i)) - nI v / nI (100 ^ (n - 1 - i)) / 100 * 100 = nI (v / 100 ^ (n - 1 - i) % 100) := by
                  rw [pk_div (by omega) hq0 (by omega)]
                  exact pk_rem (d := 100) hy (by decide) (by decide)
                rw [if_neg (by rw [ev_le (by omega) (by omega)]; exact c), if_neg (by rw [ev_le (by omega) (by omega)]; exact c), hk, ck_k (by omega) (by decide), ev_cl (by omega), hs_H_n _ (by omega), show (2 : Int32) * nI (n - 1 - i) = nI (2 * (n - 1 - i)) from pk_mul 2 _, m_ten _ (by omega), ev_o1, show 10 ^ (2 * (n - 1 - i)) = 100 ^ (n - 1 - i) from by rw [Nat.pow_mul], hnz, hnz, hy2, ev_nm, ev_nm, ev_nm, ev_nm]
                generalize hw : v / 100 ^ (n - 1 - i) % 100 = w
                have hw1 : w < 100 := by rw [← hw]; exact Nat.mod_lt _ (by decide)
                rw [show nI w - nI w / 10 * 10 = nI (w % 10) from pk_rem (d := 10) (by omega) (by decide) (by decide), show nI w / 10 = nI (w / 10) from pk_div (d := 10) (by omega) (by decide) (by decide)]
                obtain ⟨y1, y2, o1, o2⟩ := lb_x hb
                rw [x_can o1 hlt.2.2 hlt.1 (by omega) (by omega), ev_o1]
                rcases lt_try (sd := sd) hb hlt (d := w / 10) (j := w % 10) (by omega) (by omega) (by omega) with ⟨hc, ρ2, τ2, j1, j2, j3, j4⟩ | ⟨hc, τ2, j2, j3⟩
                · rw [hc, if_neg (show ¬ nI (if true = true then 1 else 0) = 0 from by decide), j1, j2, ev_o1, ev_o2, if_neg i10, ev_nm, ev_nm, ev_nm, nI_1]
                  exact Or.inr ⟨by omega, _, _, rfl, rfl, rfl, rfl, j3, _, j4⟩
                · rw [hc, if_pos (show nI (if false = true then 1 else 0) = 0 from rfl), j2, ev_o2, if_pos rfl]
                  exact Or.inl ⟨_, _, rfl, rfl, Or.inl ⟨_, _, _, rfl, rfl, j3⟩⟩)
            100 100 0 (0, va_up σ 14 ρ1) (0, τ1) (by omega) (by omega) (by omega) ⟨rfl, rfl, k3, a, k4⟩
          rw [he, he']
          rcases hQ with ⟨r, s, t, rfl, rfl, hb⟩ | ⟨s, t, rfl, rfl, hb⟩
          · rw [ev_oel, ev_oel]
            exact ⟨_, _, _, rfl, rfl, lb_r hb⟩
          · rw [ev_oei, ev_oei, ev_nm, ev_nm]
            exact ⟨_, _, _, rfl, rfl, lb_r hb⟩
        · rw [if_neg c3, in_f (l := 0) rfl e4 (Or.inr ?_), ev_o1, if_pos rfl]
          · exact ⟨_, _, _, rfl, rfl, lb_r h⟩
          · have := Int32.le_iff_toInt_le.mp (Int32.not_lt.mp c3)
            rw [nI_toInt (by omega)] at this
            omega
