/-! rests, its pairs -/
theorem lr_rests {B : Nat} {σ : Nat → hj_Ob} {bf : Nat → Nat} {τ : hj_Ob} {sd : Int64} (h : lr B σ bf τ) (x y z : Int32) : ∃ r, fX5_rests σ bf sd x y z = some r ∧ fX6_rests τ sd x y z = some r := by
  obtain ⟨tx, P, a, hi, sl, se, hx, hm, ho⟩ := h
  have h6 := ho.2.1.1
  have xn : ∀ w : Int32, (w < 0 ∨ nI P.1 ≤ w) ∨ ∃ j, j < P.1 ∧ w = nI j := by
    intro w
    rcases pk_ix w (n := P.1) (by omega) with q | q | ⟨j, hj, e⟩
    · exact Or.inl (Or.inl q)
    · exact Or.inl (Or.inr q)
    · exact Or.inr ⟨j, hj, e⟩
  unfold fX5_rests fX6_rests
  rcases xn x with q | ⟨j, hj, rfl⟩
  · rw [x_njur hx.2.1.1 q, m_njur hm.2.1.1 h6 q, ev_o1, ev_o1, if_pos rfl, if_pos rfl]
    exact ⟨_, rfl, rfl⟩
  rw [x_jur hx.2.1.1 h6 hj, m_jur hm.2.1.1 h6 hj, ev_o1, ev_o1, if_neg i10, if_neg i10]
  rcases xn y with q | ⟨k, hk, rfl⟩
  · rw [x_njur hx.2.1.1 q, m_njur hm.2.1.1 h6 q, ev_o1, ev_o1, if_pos rfl, if_pos rfl]
    exact ⟨_, rfl, rfl⟩
  rw [x_jur hx.2.1.1 h6 hk, m_jur hm.2.1.1 h6 hk, ev_o1, ev_o1, if_neg i10, if_neg i10]
  simp only [show (nI j = nI k) = (j = k) from ev_eq (by omega) (by omega)]
  by_cases hjk : j = k
  · rw [if_pos hjk, if_pos hjk]
    exact ⟨_, rfl, rfl⟩
  rw [if_neg hjk, if_neg hjk]
  by_cases c0 : z < 0
  · rw [if_pos c0, in_f (l := 0) (h := 1) rfl rfl (Or.inl (ti_neg c0)), ev_o1, if_pos rfl]
    exact ⟨_, rfl, rfl⟩
  rw [if_neg c0]
  by_cases c1 : z ≤ 1
  · obtain ⟨n, hn, rfl⟩ := nI_of2 (x := z) (M := 1) (n := 1) rfl c0 c1
    rw [if_pos c1, in_t (l := 0) (h := 1) (by omega) rfl rfl (by omega) (by omega), ev_o1, if_neg i10]
    have hle : (!decide (k ≤ j)) = decide (j ≤ k) := by
      by_cases c : k ≤ j
      · rw [decide_eq_true c, decide_eq_false (by omega)]; rfl
      · rw [decide_eq_false c, decide_eq_true (by omega)]; rfl
    generalize hrs : hp_rs (hp_k P j) (hp_k P k) (decide (k ≤ j)) = rs
    have rs0 : rs 0 = (0, -9) := by rw [← hrs]; rfl
    have rs1 : ∀ m, rs (m + 1) = if hp_re (hp_k P j) (hp_k P k) (decide (k ≤ j)) (m / 5) (m % 5) = true then ((rs m).1 + 1, if (rs m).1 = 0 then nI (10 * (m / 5) + m % 5) else (rs m).2) else rs m := fun m => by rw [← hrs]; rfl
    have rs9 : ∀ m, m ≤ 25 → ((rs m).2 = -9 ↔ (rs m).1 = 0) ∧ (rs m).1 ≤ 25 := fun m hm => by rw [← hrs]; exact hp_rs9 (hp_k12 P j) (hp_k12 P k) _ hm
    obtain ⟨e, he, rfl⟩ := lp_h (b := fun q : (Int32 × Int32 × Int32) => fX5_rests_45 σ bf sd (nI j) (nI k) (nI n) q.1 q.2.1 q.2.2)
      (fun p q => q.1 = nI (rs (5 * p)).1 ∧ q.2.1 = (rs (5 * p)).2 ∧ q.2.2 = nI p)
      (fun e => e = (nI (rs 25).1, (rs 25).2)) 5
      (fun p q hp hI => by
        obtain ⟨y1, y2, y3⟩ := q
        obtain ⟨e1, e2, e3⟩ := hI
        dsimp only at e1 e2 e3 ⊢
        subst e1
        subst e2
        subst e3
        unfold fX5_rests_45
        by_cases c : p < 5
        · have c4 : ¬ (4 : Int32) < nI p := by rw [show (4 : Int32) = nI 4 from rfl, ev_lt (by omega) (by omega)]; omega
          obtain ⟨e, he, rfl⟩ := lp_h (b := fun q : (Int32 × Int32 × Int32) => fX5_rests_54 σ bf sd (nI j) (nI k) (nI n) q.1 q.2.1 (nI p) q.2.2)
            (fun q w => w.1 = nI (rs (5 * p + q)).1 ∧ w.2.1 = (rs (5 * p + q)).2 ∧ w.2.2 = nI q)
            (fun e => e = (nI (rs (5 * p + 5)).1, (rs (5 * p + 5)).2)) 5
            (fun q w hq hI => by
              obtain ⟨z1, z2, z3⟩ := w
              obtain ⟨f1, f2, f3⟩ := hI
              dsimp only at f1 f2 f3 ⊢
              subst f1
              subst f2
              subst f3
              unfold fX5_rests_54
              by_cases d : q < 5
              · have d4 : ¬ (4 : Int32) < nI q := by rw [show (4 : Int32) = nI 4 from rfl, ev_lt (by omega) (by omega)]; omega
                have r1 := rs1 (5 * p + q)
                rw [show (5 * p + q) / 5 = p by omega, show (5 * p + q) % 5 = q by omega] at r1
                unfold hp_re at r1
                rw [hle] at r1
                rw [if_neg d4, x_best hx.2.1 ho.2.1 hj hk c d, ev_o1]
                refine Or.inr ⟨d, ?_⟩
                generalize hb1 : hp_bs (hp_k P j) (decide (k ≤ j)) p q 5 = b1 at r1
                cases b1 with
                | false =>
                  rw [Bool.false_and, if_neg (by decide)] at r1
                  rw [if_pos (show (if false = true then (1 : Int32) else 0) = 0 from rfl), ev_nm, nI_1]
                  exact ⟨_, rfl, by rw [← Nat.add_assoc, r1], by rw [← Nat.add_assoc, r1], rfl⟩
                | true =>
                  rw [Bool.true_and] at r1
                  rw [if_neg (show ¬ (if true = true then (1 : Int32) else 0) = 0 from by decide), x_best hx.2.1 ho.2.1 hk hj d c, ev_o1]
                  generalize hb2 : hp_bs (hp_k P k) (decide (j ≤ k)) q p 5 = b2 at r1
                  cases b2 with
                  | false =>
                    rw [if_neg (by decide)] at r1
                    rw [if_pos (show (if false = true then (1 : Int32) else 0) = 0 from rfl), ev_nm, nI_1]
                    exact ⟨_, rfl, by rw [← Nat.add_assoc, r1], by rw [← Nat.add_assoc, r1], rfl⟩
                  | true =>
                    rw [if_pos rfl] at r1
                    obtain ⟨g9, g25⟩ := rs9 (5 * p + q) (by omega)
                    rw [if_neg (show ¬ (if true = true then (1 : Int32) else 0) = 0 from by decide), ev_nm, nI_1]
                    by_cases g : (rs (5 * p + q)).2 = -9
                    · rw [if_pos g, ev_nm, ev_nm, nI_1, show (10 : Int32) * nI p = nI (10 * p) from pk_mul 10 p, nI_add]
                      rw [if_pos (g9.mp g)] at r1
                      exact ⟨_, rfl, by rw [← Nat.add_assoc, r1], by rw [← Nat.add_assoc, r1], rfl⟩
                    · rw [if_neg g, ev_nm, nI_1]
                      rw [if_neg (fun w => g (g9.mpr w))] at r1
                      exact ⟨_, rfl, by rw [← Nat.add_assoc, r1], by rw [← Nat.add_assoc, r1], rfl⟩
              · have : q = 5 := by omega
                subst this
                rw [if_pos (by decide)]
                exact Or.inl ⟨_, rfl, rfl⟩)
            100 0 (nI (rs (5 * p)).1, (rs (5 * p)).2, 0) (by omega) (by omega) ⟨rfl, rfl, rfl⟩
          rw [if_neg c4, he, ev_o2, ev_nm, nI_1]
          exact Or.inr ⟨c, _, rfl, by rw [show 5 * (p + 1) = 5 * p + 5 by omega], by rw [show 5 * (p + 1) = 5 * p + 5 by omega], rfl⟩
        · have : p = 5 := by omega
          subst this
          rw [if_pos (by decide)]
          exact Or.inl ⟨_, rfl, rfl⟩)
      100 0 (0, (-9), 0) (by omega) (by omega) ⟨by rw [show 5 * 0 = 0 from rfl, rs0]; rfl, by rw [show 5 * 0 = 0 from rfl, rs0], rfl⟩
    obtain ⟨e', he', rfl⟩ := lp_h (b := fun q : (Int32 × Int32 × Int32) => fX6_rests_46 τ sd (nI j) (nI k) (nI n) q.1 q.2.1 q.2.2)
      (fun m q => q.1 = nI (rs m).1 ∧ q.2.1 = (rs m).2 ∧ q.2.2 = nI m)
      (fun e => e = (nI (rs 25).1, (rs 25).2)) 25
      (fun m q hm25 hI => by
        obtain ⟨y1, y2, y3⟩ := q
        obtain ⟨e1, e2, e3⟩ := hI
        dsimp only at e1 e2 e3 ⊢
        subst e1
        subst e2
        subst e3
        unfold fX6_rests_46
        by_cases c : m < 25
        · have c4 : ¬ (25 : Int32) ≤ nI m := by rw [show (25 : Int32) = nI 25 from rfl, ev_le (by omega) (by omega)]; omega
          have r1 := rs1 m
          rw [if_neg c4, show nI m - nI m / 5 * 5 = nI (m % 5) from pk_rem (d := 5) (by omega) (by decide) (by decide), show nI m / 5 = nI (m / 5) from pk_div (d := 5) (by omega) (by decide) (by decide), m_rest hm.2.1 ho.2.1 hj hk (by omega) (Nat.mod_lt _ (by decide)) hjk, ev_o1]
          refine Or.inr ⟨c, ?_⟩
          generalize hb1 : hp_re (hp_k P j) (hp_k P k) (decide (k ≤ j)) (m / 5) (m % 5) = b1 at r1
          cases b1 with
          | false =>
            rw [if_neg (by decide)] at r1
            rw [if_pos (show (if false = true then (1 : Int32) else 0) = 0 from rfl), ev_nm, nI_1]
            exact ⟨_, rfl, by rw [r1], by rw [r1], rfl⟩
          | true =>
            rw [if_pos rfl] at r1
            obtain ⟨g9, g25⟩ := rs9 m (by omega)
            rw [if_neg (show ¬ (if true = true then (1 : Int32) else 0) = 0 from by decide), show (10 : Int32) * nI (m / 5) = nI (10 * (m / 5)) from pk_mul 10 _, nI_add, nI_1, nI_1]
            simp only [show (nI (rs m).1 = 0) = ((rs m).1 = 0) from ev_eq (b := 0) (by omega) (by omega)]
            by_cases g : (rs m).1 = 0
            · rw [if_pos g, ev_nm, ev_nm, ev_nm]
              rw [if_pos g] at r1
              exact ⟨_, rfl, by rw [r1], by rw [r1], rfl⟩
            · rw [if_neg g, ev_nm, ev_nm]
              rw [if_neg g] at r1
              exact ⟨_, rfl, by rw [r1], by rw [r1], rfl⟩
        · have : m = 25 := by omega
          subst this
          rw [if_pos (by decide)]
          exact Or.inl ⟨_, rfl, rfl⟩)
      100 0 (0, (-9), 0) (by omega) (by omega) ⟨by rw [rs0]; rfl, by rw [rs0], rfl⟩
    rw [he, he', ev_o2]
    split <;> exact ⟨_, rfl, rfl⟩
  · rw [if_neg c1, in_f (l := 0) (h := 1) rfl rfl (Or.inr (ti_out (n := 1) (by omega) (Int32.not_le.mp c1))), ev_o1, if_pos rfl]
    exact ⟨_, rfl, rfl⟩
