/-! the larger side is the end's verdict -/
set_option maxRecDepth 100000 in
theorem hp_fl_all : hp_all 64 (fun t => hp_all 64 (fun y => hp_all 6 (fun j => decide (hp_b t j = 1 → (hp_b y j = 1 → hp_c (t &&& (y ^^^ 2 ^ j)) + 1 = hp_c (t &&& y) ∧ hp_c (hp_n t (y ^^^ 2 ^ j)) = hp_c (hp_n t y) + 1) ∧ (hp_b y j = 0 → hp_c (t &&& (y ^^^ 2 ^ j)) = hp_c (t &&& y) + 1 ∧ hp_c (hp_n t (y ^^^ 2 ^ j)) + 1 = hp_c (hp_n t y)))))) = true := by decide +kernel
theorem hp_fl {t y j : Nat} (ht : t < 64) (hy : y < 64) (hb : hp_b t j = 1) : (hp_b y j = 1 → hp_c (t &&& (y ^^^ 2 ^ j)) + 1 = hp_c (t &&& y) ∧ hp_c (hp_n t (y ^^^ 2 ^ j)) = hp_c (hp_n t y) + 1) ∧ (hp_b y j = 0 → hp_c (t &&& (y ^^^ 2 ^ j)) = hp_c (t &&& y) + 1 ∧ hp_c (hp_n t (y ^^^ 2 ^ j)) + 1 = hp_c (hp_n t y)) :=
  (of_decide_eq_true (hp_all_s (hp_all_s (hp_all_s hp_fl_all ht) hy) (hp_bn (n := 6) ht hb))) hb
set_option maxRecDepth 100000 in
theorem hp_fb_all : hp_all 64 (fun y => hp_all 6 (fun i => hp_all 6 (fun j => decide (hp_b (y ^^^ 2 ^ j) i = if i = j then 1 - hp_b y i else hp_b y i)))) = true := by decide +kernel
theorem hp_fb {y i j : Nat} (hy : y < 64) (hi : i < 6) (hj : j < 6) : hp_b (y ^^^ 2 ^ j) i = if i = j then 1 - hp_b y i else hp_b y i := of_decide_eq_true (hp_all_s (hp_all_s (hp_all_s hp_fb_all hy) hi) hj)
set_option maxRecDepth 100000 in
theorem hp_un_all : hp_all 64 (fun t => hp_all 64 (fun y => decide ((hp_all 6 (fun j => decide (hp_b t j = 1 → hp_b y j = 1)) = true → hp_n t y = 0) ∧ (hp_all 6 (fun j => decide (hp_b t j = 1 → hp_b y j = 0)) = true → t &&& y = 0)))) = true := by decide +kernel
theorem hp_un1 {t y : Nat} (ht : t < 64) (hy : y < 64) (h : ∀ j, j < 6 → hp_b t j = 1 → hp_b y j = 1) : hp_n t y = 0 :=
  (of_decide_eq_true (hp_all_s (hp_all_s hp_un_all ht) hy)).1 (List.all_eq_true.mpr fun j hj => decide_eq_true (h j (List.mem_range.mp hj)))
theorem hp_un0 {t y : Nat} (ht : t < 64) (hy : y < 64) (h : ∀ j, j < 6 → hp_b t j = 1 → hp_b y j = 0) : t &&& y = 0 :=
  (of_decide_eq_true (hp_all_s (hp_all_s hp_un_all ht) hy)).2 (List.all_eq_true.mpr fun j hj => decide_eq_true (h j (List.mem_range.mp hj)))
/-- who gives in -/
theorem hp_mu1 {P : hp_P} {a : hp_R} {j : Nat} (h1 : a.1 < 64) (h2 : a.2.1 < 64) (hy : hp_b a.1 j = 1) : (hp_mu P a j = true → hp_c (a.2.1 &&& a.1) < hp_c (hp_n a.2.1 a.1)) ∧ (hp_c (a.2.1 &&& a.1) < hp_c (hp_n a.2.1 a.1) → a.2.2.2.1 j ≤ a.2.2.2.2 j → hp_mu P a j = true) := by
  have hs := (hp_sp h2 h1).2.2.2.1
  unfold hp_mu hp_ag
  rw [if_pos hy, hs]
  constructor
  · intro q; exact (of_decide_eq_true q).1
  · intro q1 q2; exact decide_eq_true ⟨q1, by omega⟩
theorem hp_mu0 {P : hp_P} {a : hp_R} {j : Nat} (h1 : a.1 < 64) (h2 : a.2.1 < 64) (hy : ¬ hp_b a.1 j = 1) : (hp_mu P a j = true → hp_c (hp_n a.2.1 a.1) < hp_c (a.2.1 &&& a.1)) ∧ (hp_c (hp_n a.2.1 a.1) < hp_c (a.2.1 &&& a.1) → a.2.2.2.1 j ≤ a.2.2.2.2 j → hp_mu P a j = true) := by
  have hs := (hp_sp h2 h1).2.2.2.2
  unfold hp_mu hp_ag
  rw [if_neg hy, hs]
  constructor
  · intro q; exact (of_decide_eq_true q).1
  · intro q1 q2; exact decide_eq_true ⟨q1, by omega⟩
theorem hp_st_r (P : hp_P) (j : Nat) (q : Nat × hp_R) : (hp_st P j q).2.2 = q.2.2 := by
  unfold hp_st
  split <;> rfl
/-- a tie stays a tie -/
theorem hp_tie_fo {P : hp_P} {a : hp_R} {m : Nat} (h1 : a.1 < 64) (h2 : a.2.1 < 64) (h : hp_c (a.2.1 &&& a.1) = hp_c (hp_n a.2.1 a.1)) : ∀ k, hp_fo P k (m, a) = (m, a)
  | 0 => rfl
  | k + 1 => by
    show hp_st P k (hp_fo P k (m, a)) = _
    rw [hp_tie_fo h1 h2 h k]
    unfold hp_st
    dsimp only
    rw [if_neg]
    rintro ⟨q1, q2⟩
    by_cases hy : hp_b a.1 k = 1
    · have := (hp_mu1 h1 h2 hy).1 q2; omega
    · have := (hp_mu0 h1 h2 hy).1 q2; omega
theorem hp_v_tie {nd t y : Nat} (h : hp_c (t &&& y) = hp_c (hp_n t y)) : hp_v nd t y = 9 := by
  unfold hp_v hp_cy
  rw [h, if_neg (by simp), if_neg (by simp)]
theorem hp_e_tie {P : hp_P} : ∀ (k : Nat) (a : hp_R), a.1 < 64 → a.2.1 < 64 → hp_c (a.2.1 &&& a.1) = hp_c (hp_n a.2.1 a.1) → hp_e P k a = none
  | 0, a, h1, h2, h => by
    unfold hp_e
    rw [if_pos (show hp_vr P a = 9 from hp_v_tie h)]
  | k + 1, a, h1, h2, h => by
    unfold hp_e
    have e : (hp_h P a).2 = hp_gr P (hp_in a) := by
      unfold hp_h
      rw [if_pos (hp_v_tie h)]
      rw [hp_tie_fo (a := hp_gr P (hp_in a)) h1 h2 h]
    rw [if_pos (show hp_vr P a = 9 from hp_v_tie h), e, hp_e_tie k (hp_gr P (hp_in a)) h1 h2 h]
    rfl
theorem hp_hh_e (k h : Nat) : (h + 1) / 2 ≤ h / 2 + hp_hh k (h + 1) := by
  unfold hp_hh
  split
  · split <;> omega
  · split <;> omega
theorem hp_fo_Y {P : hp_P} {a : hp_R} {n C : Nat} (hn : n ≤ 6) (ok : hp_okR n C a) (h : hp_c (hp_n a.2.1 a.1) < hp_c (a.2.1 &&& a.1)) (hb : Bool) (hU : hb = true → ∀ j, hp_b a.2.1 j = 1 → a.2.2.2.1 j ≤ a.2.2.2.2 j) : ∀ k, k ≤ 6 → (hp_fo P k (0, a)).2.1 < 64 ∧ hp_c (hp_n a.2.1 (hp_fo P k (0, a)).2.1) < hp_c (a.2.1 &&& (hp_fo P k (0, a)).2.1) ∧ (hb = true → ∀ j, j < k → hp_b a.2.1 j = 1 → hp_b (hp_fo P k (0, a)).2.1 j = 1)
  | 0, _ => ⟨ok.1, h, fun _ j hj => by omega⟩
  | k + 1, hk => by
    obtain ⟨i1, i2, i3⟩ := hp_fo_Y hn ok h hb hU k (by omega)
    have ht := hp_t64 hn ok.2.1
    have e2 : (hp_fo P k (0, a)).2.2 = a.2 := hp_fo_t P k (0, a)
    show (hp_st P k (hp_fo P k (0, a))).2.1 < 64 ∧ hp_c (hp_n a.2.1 (hp_st P k (hp_fo P k (0, a))).2.1) < hp_c (a.2.1 &&& (hp_st P k (hp_fo P k (0, a))).2.1) ∧ (hb = true → ∀ j, j < k + 1 → hp_b a.2.1 j = 1 → hp_b (hp_st P k (hp_fo P k (0, a))).2.1 j = 1)
    generalize hp_fo P k (0, a) = q at i1 i2 i3 e2 ⊢
    obtain ⟨m, y, r⟩ := q
    dsimp only at i1 i2 i3 e2 ⊢
    subst e2
    have mu1 := fun w => hp_mu1 (P := P) (a := (y, a.2)) (j := k) i1 ht w
    have mu0 := fun w => hp_mu0 (P := P) (a := (y, a.2)) (j := k) i1 ht w
    dsimp only at mu1 mu0
    unfold hp_st
    dsimp only
    by_cases g : hp_b a.2.1 k = 1 ∧ hp_mu P (y, a.2) k = true
    · rw [if_pos g]
      dsimp only
      have yk : hp_b y k = 0 := by
        by_cases w : hp_b y k = 1
        · have := (mu1 w).1 g.2; omega
        · have := hp_b2 y k; omega
      have fl := (hp_fl ht i1 g.1).2 yk
      refine ⟨hp_xor_lt i1 (hp_p_lt (by omega)), by omega, fun hh j hj q => ?_⟩
      rw [hp_fb i1 (by omega) (by omega)]
      by_cases e : j = k
      · rw [if_pos e, e, yk]
      · rw [if_neg e]; exact i3 hh j (by omega) q
    · rw [if_neg g]
      dsimp only
      refine ⟨i1, i2, fun hh j hj q => ?_⟩
      by_cases e : j = k
      · subst e
        by_cases w : hp_b y j = 1
        · exact w
        · exact absurd ⟨q, (mu0 w).2 i2 (hU hh j q)⟩ g
      · exact i3 hh j (by omega) q
theorem hp_e_Y {P : hp_P} {h0 n : Nat} (hn : n ≤ 6) : ∀ (k : Nat) (a : hp_R) (C : Nat), hp_okR n C a → hp_c (hp_n a.2.1 a.1) < hp_c (a.2.1 &&& a.1) → h0 ≤ a.2.2.1 → a.2.2.1 + k = h0 + 20 → (∀ j, hp_b a.2.1 j = 1 → a.2.2.1 / 2 ≤ h0 / 2 + a.2.2.2.2 j) → (h0 + 18 ≤ a.2.2.1 → hp_c (hp_n a.2.1 a.1) = 0) → hp_ev (hp_e P k a) = 1
  | k, a, C, ok, h, hh0, hk, hU, hz => by
    have ht := hp_t64 hn ok.2.1
    have vv : ¬ hp_vr P a = 9 → hp_vr P a = 1 := by
      unfold hp_vr hp_v
      rw [show hp_cy P.2.1 (hp_c (hp_n a.2.1 a.1)) (hp_c (a.2.1 &&& a.1)) = false from decide_eq_false (fun q => by omega)]
      split
      · first | contradiction | (intro _; rfl)
      · split
        · first | contradiction | (intro _; rfl)
        · intro q; exact absurd rfl q
    have vz : hp_c (hp_n a.2.1 a.1) = 0 → ¬ hp_vr P a = 9 := by
      intro z
      unfold hp_vr hp_v
      rw [show hp_cy P.2.1 (hp_c (hp_n a.2.1 a.1)) (hp_c (a.2.1 &&& a.1)) = false from decide_eq_false (fun q => by omega), show hp_cy P.2.1 (hp_c (a.2.1 &&& a.1)) (hp_c (hp_n a.2.1 a.1)) = true from decide_eq_true ⟨h, Or.inl z⟩]
      decide
    cases k with
    | zero =>
      have z9 := vz (hz (by omega))
      unfold hp_e
      rw [if_neg z9]
      exact vv z9
    | succ k =>
      unfold hp_e
      by_cases c : hp_vr P a = 9
      · rw [if_pos c]
        have eh : hp_h P a = hp_fo P 6 (0, hp_gr P (hp_in a)) := by unfold hp_h; rw [if_pos (show hp_v P.2.1 a.2.1 a.1 = 9 from c)]
        have okg : hp_okR n (C + 1) (hp_gr P (hp_in a)) := hp_okR_gr (hp_okR_in ok)
        have gU : ∀ j, hp_b a.2.1 j = 1 → (a.2.2.1 + 1) / 2 ≤ h0 / 2 + (hp_gr P (hp_in a)).2.2.2.2 j := by
          intro j hj
          have u0 := hU j hj
          show _ ≤ h0 / 2 + (if hp_b a.2.1 j = 1 then hp_hu (P.2.2.1 j) (a.2.2.1 + 1) (a.2.2.2.2 j) else a.2.2.2.2 j)
          rw [if_pos hj]
          unfold hp_hu
          have := hp_hh_e (P.2.2.1 j) a.2.2.1
          omega
        have gS : decide (h0 + 18 ≤ a.2.2.1 + 1) = true → ∀ j, hp_b a.2.1 j = 1 → (hp_gr P (hp_in a)).2.2.2.1 j ≤ (hp_gr P (hp_in a)).2.2.2.2 j := by
          intro q j hj
          have q := of_decide_eq_true q
          have u1 := gU j hj
          have s9 := (okg.2.2.2 j (hp_bn ok.2.1 hj)).2.1
          omega
        obtain ⟨f1, f2, f3⟩ := hp_fo_Y (P := P) (a := hp_gr P (hp_in a)) hn okg h (decide (h0 + 18 ≤ a.2.2.1 + 1)) gS 6 (by omega)
        have f4 : (hp_fo P 6 (0, hp_gr P (hp_in a))).2.2 = (hp_gr P (hp_in a)).2 := hp_fo_t P 6 _
        rw [eh]
        have okf : hp_okR n (C + 1) (hp_fo P 6 (0, hp_gr P (hp_in a))).2 := hp_okR_fo (by omega) okg (by show 0 < 64; omega)
        generalize hp_fo P 6 (0, hp_gr P (hp_in a)) = w at f1 f2 f3 f4 okf ⊢
        obtain ⟨m, y, r⟩ := w
        dsimp only at f1 f2 f3 f4 okf ⊢
        subst f4
        have ih := hp_e_Y (P := P) (h0 := h0) hn k (y, (hp_gr P (hp_in a)).2) (C + 1) okf f2 (show h0 ≤ a.2.2.1 + 1 by omega) (show a.2.2.1 + 1 + k = h0 + 20 by omega) gU (fun q => by
          have q : h0 + 18 ≤ a.2.2.1 + 1 := q
          have := hp_un1 ht f1 (fun j _ hj => f3 (decide_eq_true q) j (by omega) hj)
          show hp_c (hp_n a.2.1 y) = 0
          rw [show hp_n a.2.1 y = 0 from this]
          rfl)
        cases eq : hp_e P k (y, (hp_gr P (hp_in a)).2) with
        | none => rw [eq] at ih; exact absurd ih (by decide)
        | some r => rw [eq] at ih; exact ih
      · rw [if_neg c]
        exact vv c
theorem hp_fo_N {P : hp_P} {a : hp_R} {n C : Nat} (hn : n ≤ 6) (ok : hp_okR n C a) (h : hp_c (a.2.1 &&& a.1) < hp_c (hp_n a.2.1 a.1)) (hb : Bool) (hU : hb = true → ∀ j, hp_b a.2.1 j = 1 → a.2.2.2.1 j ≤ a.2.2.2.2 j) : ∀ k, k ≤ 6 → (hp_fo P k (0, a)).2.1 < 64 ∧ hp_c (a.2.1 &&& (hp_fo P k (0, a)).2.1) < hp_c (hp_n a.2.1 (hp_fo P k (0, a)).2.1) ∧ (hb = true → ∀ j, j < k → hp_b a.2.1 j = 1 → hp_b (hp_fo P k (0, a)).2.1 j = 0)
  | 0, _ => ⟨ok.1, h, fun _ j hj => by omega⟩
  | k + 1, hk => by
    obtain ⟨i1, i2, i3⟩ := hp_fo_N hn ok h hb hU k (by omega)
    have ht := hp_t64 hn ok.2.1
    have e2 : (hp_fo P k (0, a)).2.2 = a.2 := hp_fo_t P k (0, a)
    show (hp_st P k (hp_fo P k (0, a))).2.1 < 64 ∧ hp_c (a.2.1 &&& (hp_st P k (hp_fo P k (0, a))).2.1) < hp_c (hp_n a.2.1 (hp_st P k (hp_fo P k (0, a))).2.1) ∧ (hb = true → ∀ j, j < k + 1 → hp_b a.2.1 j = 1 → hp_b (hp_st P k (hp_fo P k (0, a))).2.1 j = 0)
    generalize hp_fo P k (0, a) = q at i1 i2 i3 e2 ⊢
    obtain ⟨m, y, r⟩ := q
    dsimp only at i1 i2 i3 e2 ⊢
    subst e2
    have mu1 := fun w => hp_mu1 (P := P) (a := (y, a.2)) (j := k) i1 ht w
    have mu0 := fun w => hp_mu0 (P := P) (a := (y, a.2)) (j := k) i1 ht w
    dsimp only at mu1 mu0
    unfold hp_st
    dsimp only
    by_cases g : hp_b a.2.1 k = 1 ∧ hp_mu P (y, a.2) k = true
    · rw [if_pos g]
      dsimp only
      have yk : hp_b y k = 1 := by
        by_cases w : hp_b y k = 1
        · exact w
        · have := (mu0 w).1 g.2; omega
      have fl := (hp_fl ht i1 g.1).1 yk
      refine ⟨hp_xor_lt i1 (hp_p_lt (by omega)), by omega, fun hh j hj q => ?_⟩
      rw [hp_fb i1 (by omega) (by omega)]
      by_cases e : j = k
      · rw [if_pos e, e, yk]
      · rw [if_neg e]; exact i3 hh j (by omega) q
    · rw [if_neg g]
      dsimp only
      refine ⟨i1, i2, fun hh j hj q => ?_⟩
      by_cases e : j = k
      · subst e
        by_cases w : hp_b y j = 1
        · exact absurd ⟨q, (mu1 w).2 i2 (hU hh j q)⟩ g
        · have := hp_b2 y j; omega
      · exact i3 hh j (by omega) q
theorem hp_e_N {P : hp_P} {h0 n : Nat} (hn : n ≤ 6) : ∀ (k : Nat) (a : hp_R) (C : Nat), hp_okR n C a → hp_c (a.2.1 &&& a.1) < hp_c (hp_n a.2.1 a.1) → h0 ≤ a.2.2.1 → a.2.2.1 + k = h0 + 20 → (∀ j, hp_b a.2.1 j = 1 → a.2.2.1 / 2 ≤ h0 / 2 + a.2.2.2.2 j) → (h0 + 18 ≤ a.2.2.1 → hp_c (a.2.1 &&& a.1) = 0) → hp_ev (hp_e P k a) = 0
  | k, a, C, ok, h, hh0, hk, hU, hz => by
    have ht := hp_t64 hn ok.2.1
    have vv : ¬ hp_vr P a = 9 → hp_vr P a = 0 := by
      unfold hp_vr hp_v
      rw [show hp_cy P.2.1 (hp_c (a.2.1 &&& a.1)) (hp_c (hp_n a.2.1 a.1)) = false from decide_eq_false (fun q => by omega)]
      split
      · first | contradiction | (intro _; rfl)
      · split
        · first | contradiction | (intro _; rfl)
        · intro q; exact absurd rfl q
    have vz : hp_c (a.2.1 &&& a.1) = 0 → ¬ hp_vr P a = 9 := by
      intro z
      unfold hp_vr hp_v
      rw [show hp_cy P.2.1 (hp_c (a.2.1 &&& a.1)) (hp_c (hp_n a.2.1 a.1)) = false from decide_eq_false (fun q => by omega), show hp_cy P.2.1 (hp_c (hp_n a.2.1 a.1)) (hp_c (a.2.1 &&& a.1)) = true from decide_eq_true ⟨h, Or.inl z⟩]
      decide
    cases k with
    | zero =>
      have z9 := vz (hz (by omega))
      unfold hp_e
      rw [if_neg z9]
      exact vv z9
    | succ k =>
      unfold hp_e
      by_cases c : hp_vr P a = 9
      · rw [if_pos c]
        have eh : hp_h P a = hp_fo P 6 (0, hp_gr P (hp_in a)) := by unfold hp_h; rw [if_pos (show hp_v P.2.1 a.2.1 a.1 = 9 from c)]
        have okg : hp_okR n (C + 1) (hp_gr P (hp_in a)) := hp_okR_gr (hp_okR_in ok)
        have gU : ∀ j, hp_b a.2.1 j = 1 → (a.2.2.1 + 1) / 2 ≤ h0 / 2 + (hp_gr P (hp_in a)).2.2.2.2 j := by
          intro j hj
          have u0 := hU j hj
          show _ ≤ h0 / 2 + (if hp_b a.2.1 j = 1 then hp_hu (P.2.2.1 j) (a.2.2.1 + 1) (a.2.2.2.2 j) else a.2.2.2.2 j)
          rw [if_pos hj]
          unfold hp_hu
          have := hp_hh_e (P.2.2.1 j) a.2.2.1
          omega
        have gS : decide (h0 + 18 ≤ a.2.2.1 + 1) = true → ∀ j, hp_b a.2.1 j = 1 → (hp_gr P (hp_in a)).2.2.2.1 j ≤ (hp_gr P (hp_in a)).2.2.2.2 j := by
          intro q j hj
          have q := of_decide_eq_true q
          have u1 := gU j hj
          have s9 := (okg.2.2.2 j (hp_bn ok.2.1 hj)).2.1
          omega
        obtain ⟨f1, f2, f3⟩ := hp_fo_N (P := P) (a := hp_gr P (hp_in a)) hn okg h (decide (h0 + 18 ≤ a.2.2.1 + 1)) gS 6 (by omega)
        have f4 : (hp_fo P 6 (0, hp_gr P (hp_in a))).2.2 = (hp_gr P (hp_in a)).2 := hp_fo_t P 6 _
        rw [eh]
        have okf : hp_okR n (C + 1) (hp_fo P 6 (0, hp_gr P (hp_in a))).2 := hp_okR_fo (by omega) okg (by show 0 < 64; omega)
        generalize hp_fo P 6 (0, hp_gr P (hp_in a)) = w at f1 f2 f3 f4 okf ⊢
        obtain ⟨m, y, r⟩ := w
        dsimp only at f1 f2 f3 f4 okf ⊢
        subst f4
        have ih := hp_e_N (P := P) (h0 := h0) hn k (y, (hp_gr P (hp_in a)).2) (C + 1) okf f2 (show h0 ≤ a.2.2.1 + 1 by omega) (show a.2.2.1 + 1 + k = h0 + 20 by omega) gU (fun q => by
          have q : h0 + 18 ≤ a.2.2.1 + 1 := q
          have := hp_un0 ht f1 (fun j _ hj => f3 (decide_eq_true q) j (by omega) hj)
          show hp_c (a.2.1 &&& y) = 0
          rw [show a.2.1 &&& y = 0 from this]
          rfl)
        cases eq : hp_e P k (y, (hp_gr P (hp_in a)).2) with
        | none => rw [eq] at ih; exact absurd ih (by decide)
        | some r => rw [eq] at ih; exact ih
      · rw [if_neg c]
        exact vv c
/-- the end's verdict -/
def hp_maj (t y : Nat) : Nat := if hp_c (hp_n t y) < hp_c (t &&& y) then 1 else if hp_c (t &&& y) < hp_c (hp_n t y) then 0 else 9
theorem hp_end {P : hp_P} {a : hp_R} {n C : Nat} (hn : n ≤ 6) (ok : hp_okR n C a) : hp_ev (hp_e P 20 a) = hp_maj a.2.1 a.1 := by
  have ht := hp_t64 hn ok.2.1
  unfold hp_maj
  by_cases c : hp_c (hp_n a.2.1 a.1) < hp_c (a.2.1 &&& a.1)
  · rw [if_pos c]
    exact hp_e_Y (h0 := a.2.2.1) hn 20 a C ok c (Nat.le_refl _) rfl (fun j _ => by omega) (fun q => by omega)
  · rw [if_neg c]
    by_cases c2 : hp_c (a.2.1 &&& a.1) < hp_c (hp_n a.2.1 a.1)
    · rw [if_pos c2]
      exact hp_e_N (h0 := a.2.2.1) hn 20 a C ok c2 (Nat.le_refl _) rfl (fun j _ => by omega) (fun q => by omega)
    · rw [if_neg c2, hp_e_tie 20 a ok.1 ht (by omega)]
      rfl
