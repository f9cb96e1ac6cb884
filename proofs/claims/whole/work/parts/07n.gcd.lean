/-! the common divisor -/
theorem nz_k {α : Type} {d : Nat} {k : Option α} (h0 : 0 < d) (h : d < 2 ^ 31) : hj_nz (nI d) k = k := by
  unfold hj_nz
  rw [if_neg (by rw [show (nI d = 0) = (d = 0) from ev_eq (b := 0) h (by omega)]; omega)]
theorem gc_1 {a b : Nat} : Nat.gcd b (a % b) = Nat.gcd a b := by
  rw [Nat.gcd_comm b, ← Nat.gcd_rec, Nat.gcd_comm]
theorem gc_lt {a b : Nat} (hb : 0 < b) (hr : 0 < a % b) : 2 * (b % (a % b)) < b := by
  have h1 : a % b < b := Nat.mod_lt _ hb
  have h2 : b % (a % b) < a % b := Nat.mod_lt _ hr
  have h3 := Nat.div_add_mod b (a % b)
  have h4 : 1 ≤ b / (a % b) := Nat.div_pos (Nat.le_of_lt h1) hr
  have h5 : (a % b) * 1 ≤ (a % b) * (b / (a % b)) := Nat.mul_le_mul_left _ h4
  omega
theorem x_gcd : ∀ (k a b c fu : Nat), a < 2 ^ 31 → b < 2 ^ 31 → b < 2 ^ k → 2 * k + c < 64 → 2 * k < fu → hj_lp (fun q : (Int32 × Int32 × Int32) => fX5_commonDivisor_7 q.1 q.2.1 q.2.2) fu (nI a, nI b, nI c) = some (nI (Nat.gcd a b))
  | 0, a, b, c, fu + 1, ha, _, hb, hc, _ => by
    have : b = 0 := by omega
    subst this
    rw [Nat.gcd_zero_right]
    apply lp_l
    show fX5_commonDivisor_7 (nI a) (nI 0) (nI c) = _
    have c64 : ¬ (64 : Int32) ≤ nI c := by rw [show (64 : Int32) = nI 64 from rfl, ev_le (by omega) (by omega)]; omega
    unfold fX5_commonDivisor_7
    rw [if_neg c64, if_pos (show nI 0 ≤ 0 from by decide)]
  | k + 1, a, b, c, fu + 1, ha, hb', hb, hc, hf => by
    have c64 : ¬ (64 : Int32) ≤ nI c := by rw [show (64 : Int32) = nI 64 from rfl, ev_le (by omega) (by omega)]; omega
    by_cases b0 : b = 0
    · subst b0
      rw [Nat.gcd_zero_right]
      apply lp_l
      show fX5_commonDivisor_7 (nI a) (nI 0) (nI c) = _
      unfold fX5_commonDivisor_7
      rw [if_neg c64, if_pos (show nI 0 ≤ 0 from by decide)]
    · have bp : 0 < b := Nat.pos_of_ne_zero b0
      have c0 : ¬ nI b ≤ 0 := by rw [show (nI b ≤ 0) = (b ≤ 0) from ev_le (b := 0) hb' (by omega)]; omega
      have s1 : fX5_commonDivisor_7 (nI a) (nI b) (nI c) = some (.inr (nI b, nI (a % b), nI (c + 1))) := by
        unfold fX5_commonDivisor_7
        rw [if_neg c64, if_neg c0, nz_k bp hb', ev_nm, ev_nm, pk_rem ha bp hb', nI_1]
      rw [lp_r (b := fun q : (Int32 × Int32 × Int32) => fX5_commonDivisor_7 q.1 q.2.1 q.2.2) (s := (nI a, nI b, nI c)) (s' := (nI b, nI (a % b), nI (c + 1))) s1]
      have hr : a % b < b := Nat.mod_lt _ bp
      rw [← gc_1]
      cases fu with
      | zero => omega
      | succ fu =>
        have c64' : ¬ (64 : Int32) ≤ nI (c + 1) := by rw [show (64 : Int32) = nI 64 from rfl, ev_le (by omega) (by omega)]; omega
        by_cases r0 : a % b = 0
        · rw [r0, Nat.gcd_zero_right]
          apply lp_l
          show fX5_commonDivisor_7 (nI b) (nI 0) (nI (c + 1)) = _
          unfold fX5_commonDivisor_7
          rw [if_neg c64', if_pos (show nI 0 ≤ 0 from by decide)]
        · have rp : 0 < a % b := Nat.pos_of_ne_zero r0
          have c1 : ¬ nI (a % b) ≤ 0 := by rw [show (nI (a % b) ≤ 0) = (a % b ≤ 0) from ev_le (b := 0) (by omega) (by omega)]; omega
          have s2 : fX5_commonDivisor_7 (nI b) (nI (a % b)) (nI (c + 1)) = some (.inr (nI (a % b), nI (b % (a % b)), nI (c + 1 + 1))) := by
            unfold fX5_commonDivisor_7
            rw [if_neg c64', if_neg c1, nz_k rp (by omega), ev_nm, ev_nm, pk_rem hb' rp (by omega), nI_1]
          have hlt := gc_lt (a := a) bp rp
          have hk2 : b % (a % b) < 2 ^ k := by rw [Nat.pow_succ] at hb; omega
          have hk3 : 2 * k + (c + 1 + 1) < 64 := by omega
          have hk4 : 2 * k < fu := by omega
          have hk5 : b % (a % b) < 2 ^ 31 := by omega
          have hk6 : a % b < 2 ^ 31 := by omega
          rw [lp_r (b := fun q : (Int32 × Int32 × Int32) => fX5_commonDivisor_7 q.1 q.2.1 q.2.2) (s := (nI b, nI (a % b), nI (c + 1))) (s' := (nI (a % b), nI (b % (a % b)), nI (c + 1 + 1))) s2]
          refine (x_gcd k (a % b) (b % (a % b)) (c + 1 + 1) fu hk6 hk5 hk2 hk3 hk4).trans ?_
          rw [gc_1]
theorem m_gcd : ∀ (k a b fu : Nat), a < 2 ^ 31 → b < 2 ^ 31 → b < 2 ^ k → 2 * k < fu → hj_lp (fun q : (Int32 × Int32) => fX6_common_13 q.1 q.2) fu (nI a, nI b) = some (nI (Nat.gcd a b))
  | 0, a, b, fu + 1, ha, _, hb, _ => by
    have : b = 0 := by omega
    subst this
    rw [Nat.gcd_zero_right]
    apply lp_l
    show fX6_common_13 (nI a) (nI 0) = _
    unfold fX6_common_13
    rw [if_pos (show nI 0 = 0 from rfl)]
  | k + 1, a, b, fu + 1, ha, hb', hb, hf => by
    by_cases b0 : b = 0
    · subst b0
      rw [Nat.gcd_zero_right]
      apply lp_l
      show fX6_common_13 (nI a) (nI 0) = _
      unfold fX6_common_13
      rw [if_pos (show nI 0 = 0 from rfl)]
    · have bp : 0 < b := Nat.pos_of_ne_zero b0
      have c0 : ¬ nI b = 0 := by rw [show (nI b = 0) = (b = 0) from ev_eq (b := 0) hb' (by omega)]; omega
      have s1 : fX6_common_13 (nI a) (nI b) = some (.inr (nI b, nI (a % b))) := by
        unfold fX6_common_13
        rw [if_neg c0, nz_k bp hb', ev_nm, pk_rem ha bp hb']
      rw [lp_r (b := fun q : (Int32 × Int32) => fX6_common_13 q.1 q.2) s1]
      have hr : a % b < b := Nat.mod_lt _ bp
      rw [← gc_1]
      cases fu with
      | zero => omega
      | succ fu =>
        by_cases r0 : a % b = 0
        · rw [r0, Nat.gcd_zero_right]
          apply lp_l
          show fX6_common_13 (nI b) (nI 0) = _
          unfold fX6_common_13
          rw [if_pos (show nI 0 = 0 from rfl)]
        · have rp : 0 < a % b := Nat.pos_of_ne_zero r0
          have c1 : ¬ nI (a % b) = 0 := by rw [show (nI (a % b) = 0) = (a % b = 0) from ev_eq (b := 0) (by omega) (by omega)]; omega
          have s2 : fX6_common_13 (nI b) (nI (a % b)) = some (.inr (nI (a % b), nI (b % (a % b)))) := by
            unfold fX6_common_13
            rw [if_neg c1, nz_k rp (by omega), ev_nm, pk_rem hb' rp (by omega)]
          have hlt := gc_lt (a := a) bp rp
          rw [lp_r (b := fun q : (Int32 × Int32) => fX6_common_13 q.1 q.2) s2, m_gcd k (a % b) (b % (a % b)) fu (by omega) (by omega) (by rw [Nat.pow_succ] at hb; omega) (by omega), gc_1]
/-- a fraction in lowest terms, on both sides -/
theorem b_frac {X : Int32} {d : Nat} (hX : X.toInt.natAbs < 2 ^ 31) (h0 : 0 < d) (hd : d < 2 ^ 20) : ∃ g, 0 < g ∧ g < 2 ^ 31 ∧ fX6_common X (nI d) = some (nI g) ∧ ∀ w : Int32, fX5_partOfFraction X (nI d) w = some (if w = 0 then nI d / nI g else X / nI g) := by
  have fin : ∀ (Y : Int32) (k : Nat), k < 2 ^ 31 → Y = nI k → ∃ g, 0 < g ∧ g < 2 ^ 31 ∧ hj_lp (fun q : (Int32 × Int32) => fX6_common_13 q.1 q.2) 100 (Y, nI d) = some (nI g) ∧ fX5_commonDivisor Y (nI d) = some (nI g) := by
    intro Y k hk e
    subst e
    refine ⟨Nat.gcd k d, Nat.gcd_pos_of_pos_right _ h0, Nat.lt_of_le_of_lt (Nat.gcd_le_right _ h0) (by omega), m_gcd 20 k d 100 hk (by omega) hd (by omega), ?_⟩
    unfold fX5_commonDivisor
    rw [show (0 : Int32) = nI 0 from rfl, x_gcd 20 k d 0 70 hk (by omega) hd (by omega) (by omega), ev_o1]
  have pf : ∀ g : Nat, 0 < g → g < 2 ^ 31 → ∀ w : Int32, (if 1 ≤ nI g then (if w = 0 then (hj_nz (nI g) (some (nI d / nI g))) else (hj_nz (nI g) (some (X / nI g)))) else (some (-2))) = some (if w = 0 then nI d / nI g else X / nI g) := by
    intro g g0 g1 w
    rw [if_pos (by rw [show (1 : Int32) = nI 1 from rfl, ev_le (by omega) g1]; omega), nz_k g0 g1, nz_k g0 g1]
    split <;> rfl
  unfold fX6_common fX5_partOfFraction
  by_cases c : 0 ≤ X
  · have hx : 0 ≤ X.toInt := Int32.le_iff_toInt_le.mp c
    obtain ⟨g, g0, g1, g2, g3⟩ := fin X X.toInt.toNat (by omega) (Int32.toInt_inj.mp (by rw [nI_toInt (by omega)]; omega))
    refine ⟨g, g0, g1, ?_, fun w => ?_⟩
    · rw [if_pos c, g2, ev_o1]
    · rw [if_pos c, g3, ev_o1]
      exact pf g g0 g1 w
  · have hx : ¬ 0 ≤ X.toInt := fun q => c (Int32.le_iff_toInt_le.mpr q)
    have en : -X = nI (-X.toInt).toNat := by
      apply Int32.toInt_inj.mp
      rw [nI_toInt (by omega), Int32.toInt_neg, Int.bmod_eq_of_le (by omega) (by omega)]
      omega
    obtain ⟨g, g0, g1, g2, g3⟩ := fin (-X) (-X.toInt).toNat (by omega) en
    refine ⟨g, g0, g1, ?_, fun w => ?_⟩
    · rw [if_neg c, ev_nm, g2, ev_o1]
    · rw [if_neg c, show (0 : Int32) - X = -X from Int32.zero_sub X, g3, ev_o1]
      exact pf g g0 g1 w
