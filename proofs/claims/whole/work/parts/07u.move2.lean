/-! toMove, the reference -/
theorem m_isMove {τ : hj_Ob} {sd : Int64} {P : hp_P} {a : hp_R} {B len v : Nat} {x : Int32} (hP : hr_MP τ P) (hoP : hp_okP P) (hM : hr_M P.1 0 τ a) (ho : hp_okR P.1 B a) (hB : B < 2 ^ 20) (hv : v < 1000) (hl : len ≤ 3) :
    ∃ r τ', fX6_isMove τ sd (nI len) (nI v) x = some (r, τ') ∧ hr_T τ τ' ∧ (r ≠ 0 → nI (hp_maj a.2.1 a.1) = x) ∧ (len = 0 → nI (hp_maj a.2.1 a.1) = x → r = 1) := by
  have h6 := hoP.1
  obtain ⟨τ1, k1, k2, k3⟩ := m_lay (sd := sd) h6 hM
  unfold fX6_isMove
  rw [k1, ev_o1]
  obtain ⟨e, he, hQ⟩ := lp_h (b := fun q : (Int32 × Int32 × hj_Ob) => fX6_isMove_10 q.2.2 sd (nI len) (nI v) x q.1 q.2.1)
    (fun i q => q.2.1 = nI i ∧ hr_T τ q.2.2 ∧ ∃ b, hr_M P.1 1 q.2.2 b ∧ hp_okR P.1 (B + i) b ∧ hp_tw a.2.1 a.1 b)
    (fun e => (∃ t, e = .inl (0, t) ∧ hr_T τ t ∧ ¬ len = 0) ∨ (∃ t b, e = .inr t ∧ hr_T τ t ∧ hr_M P.1 1 t b ∧ hp_okR P.1 (B + 3) b ∧ hp_tw a.2.1 a.1 b)) len
    (fun i q hi hI => by
      obtain ⟨y1, y2, t⟩ := q
      obtain ⟨e1, e2, b, e3, e4, e5⟩ := hI
      dsimp only at e1 e2 e3 ⊢
      subst e1
      unfold fX6_isMove_10
      by_cases c : len ≤ i
      · rw [if_pos (by rw [ev_le (by omega) (by omega)]; exact c)]
        exact Or.inl ⟨_, rfl, Or.inr ⟨_, b, rfl, e2, e3, okR_up e4 (by omega), e5⟩⟩
      · have c' : ¬ nI len ≤ nI i := by rw [ev_le (by omega) (by omega)]; exact c
        have hk : nI len - 1 - nI i = nI (len - 1 - i) := by rw [show nI len - 1 = nI (len - 1) from pk_sub (b := 1) (by omega), pk_sub (by omega)]
        have hq : 10 ^ (len - 1 - i) ≤ 10 ^ 3 := Nat.pow_le_pow_right (by decide) (by omega)
        have hq0 : 0 < 10 ^ (len - 1 - i) := Nat.pow_pos (by decide)
        have hy : v / 10 ^ (len - 1 - i) < 1000 := Nat.lt_of_le_of_lt (Nat.div_le_self _ _) hv
        rw [if_neg c', hk, m_ten _ (by omega), ev_o1, nz_k hq0 (by omega), pk_div (by omega) hq0 (by omega)]
        generalize v / 10 ^ (len - 1 - i) = w at hy
        rw [show nI w - nI w / 10 * 10 = nI (w % 10) from pk_rem (d := 10) (by omega) (by decide) (by decide), ev_nm]
        have hd : w % 10 < 10 := Nat.mod_lt _ (by decide)
        generalize w % 10 = d at hd
        have hl0 : ¬ len = 0 := by omega
        have tP := hr_T_P e2 hP
        rw [nI_m1 (by omega)]
        by_cases c3 : d = 0
        · rw [if_pos c3, m_njur tP.1 h6 (Or.inl (by decide)), ev_o1, if_pos i00]
          exact Or.inl ⟨_, rfl, Or.inl ⟨_, rfl, e2, hl0⟩⟩
        · rw [if_neg c3]
          by_cases c4 : d - 1 < P.1
          · rw [m_jur tP.1 h6 c4, ev_o1, if_neg i10]
            by_cases c5 : nI (d - 1) < y1
            · rw [if_pos c5]
              exact Or.inl ⟨_, rfl, Or.inl ⟨_, rfl, e2, hl0⟩⟩
            · rw [if_neg c5, show fX6_canArgue t sd 1 (nI (d - 1)) = _ from m_canA (L := 1) (by omega) hoP e4 e3 (j := d - 1) (by omega), ev_o1]
              cases hc : hp_cd b 1 (d - 1) with
              | false =>
                rw [if_pos (show nI (if false = true then 1 else 0) = 0 from rfl)]
                exact Or.inl ⟨_, rfl, Or.inl ⟨_, rfl, e2, hl0⟩⟩
              | true =>
                have hS : 1 < b.2.2.2.1 (d - 1) := by rw [hp_cd1] at hc; simp at hc; exact hc.2
                have hSv : max 1 (b.2.2.2.1 (d - 1) - 1) = b.2.2.2.1 (d - 1) - 1 := by omega
                have hdo : hp_do P 1 (d - 1) b = (b.1, b.2.1, b.2.2.1, va_up b.2.2.2.1 (d - 1) (b.2.2.2.1 (d - 1) - 1), b.2.2.2.2) := by
                  show (b.1, b.2.1, b.2.2.1, va_up b.2.2.2.1 (d - 1) (max 1 (b.2.2.2.1 (d - 1) - 1)), b.2.2.2.2) = _
                  rw [hSv]
                have hC0 : 0 < B + i := by have := e4.2.2.1; omega
                have okd := hp_okR_do (P := P) (d := 1) (j := d - 1) h6 e4 (by omega) hC0
                rw [hdo] at okd
                rw [if_neg (show ¬ nI (if true = true then 1 else 0) = 0 from by decide), m_18x, ck_k (by omega) (by decide), ck_k (by omega) (by decide), ev_cl (by omega), show t.2 4 (18 + (d - 1)) = nI (b.2.2.2.1 (d - 1)) from (e3.2.2.2 (d - 1) c4).1, show nI (b.2.2.2.1 (d - 1)) - 1 = nI (b.2.2.2.1 (d - 1) - 1) from pk_sub (b := 1) (by omega), ev_nm, ev_nm, nI_1]
                exact Or.inr ⟨by omega, _, rfl, rfl, hr_T_tr e2 (hr_T_F (hr_F_a (L := 1) (i := 18 + (d - 1)) (by omega) (by omega) (by omega))), _, m_setS (v := b.2.2.2.1 (d - 1) - 1) e3 (by omega) h6 c4, okd, e5⟩
          · rw [m_njur tP.1 h6 (Or.inr (by rw [ev_le (by omega) (by omega)]; omega)), ev_o1, if_pos i00]
            exact Or.inl ⟨_, rfl, Or.inl ⟨_, rfl, e2, hl0⟩⟩)
    100 0 (0, 0, τ1) (by omega) (by omega) ⟨rfl, k3, a, k2, ho, rfl, rfl⟩
  rw [he]
  rcases hQ with ⟨t, rfl, q1, q2⟩ | ⟨t, b, rfl, q1, q2, q3, q4⟩
  · rw [ev_oel]
    exact ⟨_, _, rfl, q1, fun q => absurd rfl q, fun q => absurd q q2⟩
  · obtain ⟨τ', r1, r2, r3⟩ := m_run (sd := sd) (hr_T_P q1 hP) hoP q3 (by omega) q2
    rw [ev_oei, ev_nm, r1, ev_o2, hp_end h6 q3, q4.1, q4.2]
    have hT := hr_T_tr q1 r3
    by_cases c : nI (hp_maj a.2.1 a.1) = x
    · rw [if_pos c]
      exact ⟨_, _, rfl, hT, fun _ => c, fun _ _ => rfl⟩
    · rw [if_neg c]
      exact ⟨_, _, rfl, hT, fun q => absurd rfl q, fun _ q => absurd q c⟩
theorem lr_toMove {B : Nat} {σ : Nat → hj_Ob} {bf : Nat → Nat} {τ : hj_Ob} {sd : Int64} (h : lr B σ bf τ) (hB : B < 2 ^ 20) (x z : Int32) : ∃ r σ' τ', fX5_toMove σ bf sd x z = some (r, σ') ∧ fX6_toMove τ sd x z = some (r, τ') ∧ lr B σ' bf τ' := by
  have hlr := h
  obtain ⟨tx, P, a, hi, sl, se, hx, hm, ho⟩ := h
  unfold fX5_toMove fX6_toMove
  rw [x_side, m_side, ev_o1, ev_o1]
  by_cases c0 : x = 0 ∨ x = 1
  · rw [if_pos c0, if_neg i10, if_neg i10]
    obtain ⟨s', k1, k2⟩ := x_least (σ := σ) (bf := bf) (sd := sd) (x := x) hx.2.1 ho.2.1 hx.2.2.1 ho.2.2.1 hB
    rw [k1, ev_o2]
    obtain ⟨e, he, hQ⟩ := lp_h (b := fun q : (Int32 × hj_Ob) => fX6_toMove_15 q.2 sd x z q.1)
      (fun len q => q.1 = nI len ∧ hr_T τ q.2 ∧ (nI (hp_maj a.2.1 a.1) = x → len = 0))
      (fun e => (nI (hp_maj a.2.1 a.1) = x ∧ ∃ t, e = .inl (0, t) ∧ hr_T τ t) ∨ (¬ nI (hp_maj a.2.1 a.1) = x ∧ ∃ t, e = .inr t ∧ hr_T τ t)) 4
      (fun len q hl hI => by
        obtain ⟨y, t⟩ := q
        obtain ⟨e1, e2, e3⟩ := hI
        dsimp only at e1 e2 ⊢
        subst e1
        unfold fX6_toMove_15
        by_cases c : len < 4
        · have c4 : ¬ (4 : Int32) ≤ nI len := by rw [show (4 : Int32) = nI 4 from rfl, ev_le (by omega) (by omega)]; omega
          have hp : 10 ^ len ≤ 10 ^ 3 := Nat.pow_le_pow_right (by decide) (by omega)
          have hp0 : 0 < 10 ^ len := Nat.pow_pos (by decide)
          rw [if_neg c4]
          obtain ⟨e, he, hQ⟩ := lp_h (b := fun q : (Int32 × hj_Ob) => fX6_toMove_23 q.2 sd x z (nI len) q.1)
            (fun i q => q.1 = nI i ∧ hr_T τ q.2 ∧ (nI (hp_maj a.2.1 a.1) = x → i = 0))
            (fun e => (nI (hp_maj a.2.1 a.1) = x ∧ ∃ t, e = .inl (0, t) ∧ hr_T τ t) ∨ (¬ nI (hp_maj a.2.1 a.1) = x ∧ ∃ t, e = .inr t ∧ hr_T τ t)) (10 ^ len)
            (fun i q hi hI => by
              obtain ⟨w, t⟩ := q
              obtain ⟨f1, f2, f3⟩ := hI
              dsimp only at f1 f2 ⊢
              subst f1
              unfold fX6_toMove_23
              rw [m_ten _ (by omega), ev_o1]
              by_cases d : i < 10 ^ len
              · have d4 : ¬ nI (10 ^ len) ≤ nI i := by rw [ev_le (by omega) (by omega)]; omega
                obtain ⟨r, t2, j1, j2, j3, j4⟩ := m_isMove (sd := sd) (len := len) (v := i) (x := x) (hr_T_P f2 hm.2.1) ho.2.1 (hr_T_M f2 ho.2.1.1 hm.2.2.1) ho.2.2.1 hB (by omega) (by omega)
                have f4 := hr_T_tr f2 j2
                rw [if_neg d4, j1, ev_o2, ev_nm, nI_1]
                by_cases g : r = 0
                · rw [if_pos g]
                  exact Or.inr ⟨d, _, rfl, rfl, f4, fun q => by have := j4 (e3 q) q; rw [g] at this; exact absurd this (by decide)⟩
                · have gm := j3 g
                  have l0 := e3 gm
                  have i0 := f3 gm
                  subst l0
                  subst i0
                  rw [if_neg g]
                  by_cases z0 : z = 0
                  · rw [if_pos z0]; exact Or.inl ⟨_, rfl, Or.inl ⟨gm, _, rfl, f4⟩⟩
                  · rw [if_neg z0]; exact Or.inl ⟨_, rfl, Or.inl ⟨gm, _, rfl, f4⟩⟩
              · have : i = 10 ^ len := by omega
                subst this
                rw [if_pos (by rw [ev_le (by omega) (by omega)]; omega)]
                exact Or.inl ⟨_, rfl, Or.inr ⟨fun q => by have := f3 q; omega, _, rfl, f2⟩⟩)
            1010 0 (0, t) (by omega) (by omega) ⟨rfl, e2, fun _ => rfl⟩
          rw [he]
          rcases hQ with ⟨gm, t2, rfl, f⟩ | ⟨gm, t2, rfl, f⟩
          · rw [ev_oel]
            exact Or.inl ⟨_, rfl, Or.inl ⟨gm, _, rfl, f⟩⟩
          · rw [ev_oei, ev_nm, ev_nm, nI_1]
            exact Or.inr ⟨c, _, rfl, rfl, f, fun q => absurd q gm⟩
        · have : len = 4 := by omega
          subst this
          rw [if_pos (by decide)]
          exact Or.inl ⟨_, rfl, Or.inr ⟨fun q => by have := e3 q; omega, _, rfl, e2⟩⟩)
      10 0 (0, τ) (by omega) (by omega) ⟨rfl, hr_T_rf, fun _ => rfl⟩
    rw [he]
    rcases hQ with ⟨gm, t2, rfl, f⟩ | ⟨gm, t2, rfl, f⟩
    · have fin : lr B s' bf t2 := ⟨tx, P, a, hi, sl, se, lx_fr hx ho.2.2.2.1.1 (fun k _ hk => k2 k hk), lm_T hm ho.2.1.1 f, ho⟩
      rw [ev_oel, if_pos gm, if_neg (show ¬ (0 : Int32) = -9 by decide), show fX5_figuresOf 0 = some 0 from rfl, ev_o1]
      by_cases z0 : z = 0
      · rw [if_pos z0]; exact ⟨_, _, _, rfl, rfl, fin⟩
      · rw [if_neg z0]; exact ⟨_, _, _, rfl, rfl, fin⟩
    · have fin : lr B s' bf t2 := ⟨tx, P, a, hi, sl, se, lx_fr hx ho.2.2.2.1.1 (fun k _ hk => k2 k hk), lm_T hm ho.2.1.1 f, ho⟩
      rw [ev_oei, ev_nm, if_neg gm, if_pos rfl]
      exact ⟨_, _, _, rfl, rfl, fin⟩
  · rw [if_neg c0, if_pos i00, if_pos i00]
    exact ⟨_, _, _, rfl, rfl, hlr⟩
