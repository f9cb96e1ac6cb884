/-! the assizes -/
theorem as_dig (U : UInt64) : ∃ w, w < 9 ∧ (((U >>> ((33 : Int32).toInt64.toUInt64 &&& Int64.toUInt64 63)).toInt64) - ((U >>> ((33 : Int32).toInt64.toUInt64 &&& Int64.toUInt64 63)).toInt64) / 9 * 9).toInt32 = nI w := by
  have e0 : ((33 : Int32).toInt64.toUInt64 &&& Int64.toUInt64 63) = 33 := by decide
  rw [e0]
  have hk : (U >>> (33 : UInt64)).toNat < 2 ^ 31 := by
    rw [UInt64.toNat_shiftRight, show (33 : UInt64).toNat % 64 = 33 from rfl, Nat.shiftRight_eq_div_pow]
    have := U.toNat_lt
    omega
  generalize U >>> (33 : UInt64) = V at hk ⊢
  have h1 : V.toInt64.toInt = (V.toNat : Int) := by
    show V.toBitVec.toInt = _
    rw [BitVec.toInt_eq_toNat_of_lt (by show 2 * V.toNat < 2 ^ 64; omega)]
    rfl
  refine ⟨V.toNat % 9, Nat.mod_lt _ (by decide), Int32.toInt_inj.mp ?_⟩
  rw [Int64.toInt_toInt32, Int64.toInt_sub, Int64.toInt_mul, Int64.toInt_div, h1, show (9 : Int64).toInt = 9 from rfl, nI_toInt (by omega)]
  have e1 : ((V.toNat : Int).tdiv 9) = ((V.toNat / 9 : Nat) : Int) := rfl
  rw [e1, Int.bmod_eq_of_le (n := ((V.toNat / 9 : Nat) : Int)) (by omega) (by omega), Int.bmod_eq_of_le (n := ((V.toNat / 9 : Nat) : Int) * 9) (by omega) (by omega), Int.bmod_eq_of_le (n := (V.toNat : Int) - ((V.toNat / 9 : Nat) : Int) * 9) (by omega) (by omega), Int.bmod_eq_of_le (by omega) (by omega)]
  omega
theorem lt_vr {B C : Nat} {P : hp_P} {a b : hp_R} {σ : Nat → hj_Ob} {bf : Nat → Nat} {τ : hj_Ob} {sd : Int64} (h : lb B P a σ bf τ) (ht : lt P.1 C σ τ b) :
    fX2_verdict (σ 3) (σ 14) = some (nI (hp_vr P b)) ∧ fX6_verdict τ sd 1 = some (nI (hp_vr P b)) := by
  obtain ⟨x1, x2, o1, o2⟩ := lb_x h
  exact ⟨x_vr x1 o1 ht.2.2 ht.1, m_vr (L := 1) (by omega) (lb_m h).1 o1 ht.2.2 ht.2.1⟩
theorem lr_assizes {B : Nat} {σ : Nat → hj_Ob} {bf : Nat → Nat} {τ : hj_Ob} {sd : Int64} (h : lr B σ bf τ) (hB : B < 2 ^ 20) (x : Int32) : ∃ r σ' τ' sd', fX5_assizes σ bf sd x = some (r, σ', sd') ∧ fX6_assizes τ sd x = some (r, τ', sd') ∧ lr B σ' bf τ' := by
  obtain ⟨P, a, h⟩ := lr_b h
  unfold fX5_assizes fX6_assizes
  by_cases c0 : x < 1
  · rw [if_pos c0, in_f (l := 1) (h := 20) rfl rfl (Or.inl (Int32.lt_iff_toInt_lt.mp c0)), ev_o1, if_pos rfl]
    exact ⟨_, _, _, _, rfl, rfl, lb_r h⟩
  · rw [if_neg c0]
    by_cases c1 : x ≤ 20
    · have c00 : ¬ x < 0 := by
        intro q
        apply c0
        rw [Int32.lt_iff_toInt_lt] at q ⊢
        have e1 : (0 : Int32).toInt = 0 := rfl
        have e2 : (1 : Int32).toInt = 1 := rfl
        omega
      obtain ⟨n, hn, rfl⟩ := nI_of2 (x := x) (M := 20) (n := 20) rfl c00 c1
      have hn1 : 1 ≤ n := by
        rcases Nat.eq_zero_or_pos n with e | e
        · subst e; exact absurd (by decide) c0
        · exact e
      obtain ⟨ρ1, τ1, k1, k2, k3, k4⟩ := lt_lay (sd := sd) h
      rw [if_pos c1, in_t (l := 1) (h := 20) (by omega) rfl rfl (by omega) (by omega), ev_o1, if_neg i10, k1, k2, ev_o1, ev_o1, ev_nm]
      obtain ⟨e, e', he, he', r, s, t, z, rfl, rfl, hb⟩ := lp_2 (b := fun q : (Int32 × Int32 × (Nat → hj_Ob) × Int64) => fX5_assizes_29 q.2.2.1 bf q.2.2.2 (nI n) q.1 q.2.1) (b' := fun q : (Int32 × Int32 × hj_Ob × Int64) => fX6_assizes_23 q.2.2.1 q.2.2.2 (nI n) q.1 q.2.1)
        (fun i q q' => q.2.1 = nI i ∧ q'.2.1 = nI i ∧ q.1 = q'.1 ∧ q.2.2.2 = q'.2.2.2 ∧ lb B P a q.2.2.1 bf q'.2.2.1 ∧ ∃ b, lt P.1 (B + i) q.2.2.1 q'.2.2.1 b)
        (fun e e' => ∃ r s t z, e = (r, s, z) ∧ e' = (r, t, z) ∧ lb B P a s bf t) n
        (fun i q q' hi hI => by
          obtain ⟨w, y, s, z⟩ := q
          obtain ⟨w', y', t, z'⟩ := q'
          obtain ⟨e1, e2, e3, e4, hb, b, hlt⟩ := hI
          dsimp only at e1 e2 e3 e4 hb hlt ⊢
          subst e1
          subst e2
          subst e3
          subst e4
          unfold fX5_assizes_29 fX6_assizes_23
          by_cases c : n ≤ i
          · rw [if_pos (by rw [ev_le (by omega) (by omega)]; exact c), if_pos (by rw [ev_le (by omega) (by omega)]; exact c)]
            exact Or.inl ⟨_, _, rfl, rfl, _, _, _, _, rfl, rfl, hb⟩
          · rw [if_neg (by rw [ev_le (by omega) (by omega)]; exact c), if_neg (by rw [ev_le (by omega) (by omega)]; exact c), ev_nm, ev_nm, ev_nm, ev_nm]
            obtain ⟨y1, y2, o1, o2⟩ := lb_x hb
            generalize z * 6364136223846793005 + 1442695040888963407 = z2
            obtain ⟨k, hk, ek⟩ := as_dig z2.toUInt64
            rw [ek]
            have fin : ∀ (s2 : Nat → hj_Ob) (t2 : hj_Ob) (b2 : hp_R), lb B P a s2 bf t2 → lt P.1 (B + (i + 1)) s2 t2 b2 → ∃ q q', fX5_assizes_104 s2 bf z2 (nI n) w (nI i) = some (.inr q) ∧ fX6_assizes_106 t2 z2 (nI n) w (nI i) = some (.inr q') ∧ (q.2.1 = nI (i + 1) ∧ q'.2.1 = nI (i + 1) ∧ q.1 = q'.1 ∧ q.2.2.2 = q'.2.2.2 ∧ lb B P a q.2.2.1 bf q'.2.2.1 ∧ ∃ b, lt P.1 (B + (i + 1)) q.2.2.1 q'.2.2.1 b) := by
              intro s2 t2 b2 hb2 hlt2
              obtain ⟨v1, v2⟩ := lt_vr (sd := z2) hb2 hlt2
              unfold fX5_assizes_104 fX6_assizes_106
              rw [v1, v2, ev_o1, ev_o1]
              by_cases g : nI (hp_vr P b2) = 9
              · rw [if_pos g, if_pos g, ev_nm, ev_nm, ev_nm, ev_nm]
                exact ⟨_, _, rfl, rfl, nI_1 i, nI_1 i, rfl, rfl, hb2, b2, hlt2⟩
              · rw [if_neg g, if_neg g, ev_nm, ev_nm, ev_nm, ev_nm]
                exact ⟨_, _, rfl, rfl, nI_1 i, nI_1 i, rfl, rfl, hb2, b2, hlt2⟩
            have up : lt P.1 (B + (i + 1)) s t b := ⟨hlt.1, hlt.2.1, okR_up hlt.2.2 (by omega)⟩
            refine Or.inr ⟨by omega, ?_⟩
            simp only [show (nI k < 6) = (k < 6) from ev_lt (b := 6) (by omega) (by omega), show (nI k ≤ 5) = (k ≤ 5) from ev_le (b := 5) (by omega) (by omega)]
            have ht := hp_t64 o1.1 hlt.2.2.2.1
            by_cases k6 : k < 6
            · rw [if_pos k6, if_pos (show k ≤ 5 by omega), x_there hlt.1.2.1 ht k6, ev_o1]
              by_cases kn : k < P.1
              · rw [m_jur (lb_m hb).1.1 o1.1 kn, ev_o1, if_neg i10, show fX6_isThere t z2 1 (nI k) = _ from m_there (L := 1) (by omega) hlt.2.1.2.1 ht (by omega), ev_o1]
                by_cases g : nI (hp_b b.2.1 k) = 0
                · rw [if_pos g, if_pos g]
                  exact fin s t b hb up
                · obtain ⟨ρ3, j1, j2⟩ := x_do y1 o1 hlt.2.2 (by omega) hlt.1 (d := 4) (j := k) (by omega) (by omega) (by omega)
                  rw [if_neg g, if_neg g, show fX2_carryOut (s 3) (s 14) 4 (nI k) = _ from j1, ev_o1, ev_nm, show ∀ k : Option ((Int32 × hj_Ob × Int64) ⊕ (Int32 × Int32 × hj_Ob × Int64)), hj_ck (15 : Int32) 30 k = k from fun k => rfl, show ∀ k : Option ((Int32 × hj_Ob × Int64) ⊕ (Int32 × Int32 × hj_Ob × Int64)), hj_ck (15 : Int32) 30 k = k from fun k => rfl, ev_nm, show t.2 4 (15 : Int32).toNatClampNeg = nI b.1 from hlt.2.1.1, hp_pw (by omega), hp_xor]
                  exact fin _ _ (hp_do P 4 k b) (lb_t hb (hr_T_F (hr_F_a (L := 1) (i := 15) (v := nI (b.1 ^^^ 2 ^ k)) (by omega) (by omega) (by omega)))) ⟨by rw [va_up_self]; exact j2, m_setY hlt.2.1 (by omega) o1.1, hp_okR_do (B := B + i) o1.1 hlt.2.2 k6 (by have := hlt.2.2.2.2.1; omega)⟩
              · have g : hp_b b.2.1 k = 0 := by
                  rcases hp_b2 b.2.1 k with e | e
                  · exact e
                  · exact absurd (hp_bn hlt.2.2.2.1 e) kn
                have h6 := o1.1
                rw [g, if_pos (show nI 0 = 0 from rfl), m_njur (lb_m hb).1.1 o1.1 (Or.inr (by rw [ev_le (by omega) (by omega)]; omega)), ev_o1, if_pos i00]
                exact fin s t b hb up
            · obtain ⟨ρ2, τ2, j1, j2, j3, j4⟩ := lt_hour (sd := z2) hb hlt (by omega)
              rw [if_neg k6, if_neg (show ¬ k ≤ 5 by omega), j1, j2, ev_o2, ev_o2, ev_nm]
              exact fin _ _ _ j3 j4)
        100 100 0 (0, 0, va_up σ 14 ρ1, sd) (0, 0, τ1, sd) (by omega) (by omega) (by omega) ⟨rfl, rfl, rfl, rfl, k3, a, k4⟩
      rw [he, he', ev_o3, ev_o3]
      exact ⟨_, _, _, _, rfl, rfl, lb_r hb⟩
    · rw [if_neg c1, in_f (l := 1) (h := 20) rfl rfl (Or.inr (ti_out (n := 20) (by omega) (Int32.not_le.mp c1))), ev_o1, if_pos rfl]
      exact ⟨_, _, _, _, rfl, rfl, lb_r h⟩
