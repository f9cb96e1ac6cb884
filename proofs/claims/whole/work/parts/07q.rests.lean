/-! rests -/
def hp_lo (w : Nat) (le : Bool) (p q : Nat) : Nat := if p < q ∨ (p = q ∧ le = false) then p * w + 3 else q * w
def hp_bs (w : Nat) (le : Bool) (p q : Nat) : Nat → Bool
  | 0 => true
  | k + 1 => hp_bs w le p q k && decide (hp_lo w le p q ≤ hp_lo w le k q)
def hp_re (w1 w2 : Nat) (le : Bool) (p q : Nat) : Bool := hp_bs w1 le p q 5 && hp_bs w2 (!le) q p 5
def hp_rs (w1 w2 : Nat) (le : Bool) : Nat → Nat × Int32
  | 0 => (0, -9)
  | m + 1 => if hp_re w1 w2 le (m / 5) (m % 5) = true then ((hp_rs w1 w2 le m).1 + 1, if (hp_rs w1 w2 le m).1 = 0 then nI (10 * (m / 5) + m % 5) else (hp_rs w1 w2 le m).2) else hp_rs w1 w2 le m
def hp_k (P : hp_P) (j : Nat) : Nat := if P.2.2.1 j = 1 then 2 else 1
theorem hp_k12 (P : hp_P) (j : Nat) : hp_k P j = 1 ∨ hp_k P j = 2 := by
  unfold hp_k
  split
  · exact Or.inr rfl
  · exact Or.inl rfl
theorem hp_rs_all : hp_all 2 (fun a => hp_all 2 (fun b => hp_all 2 (fun c => hp_all 26 (fun m => decide (((hp_rs (a + 1) (b + 1) (decide (c = 1)) m).2 = -9 ↔ (hp_rs (a + 1) (b + 1) (decide (c = 1)) m).1 = 0) ∧ (hp_rs (a + 1) (b + 1) (decide (c = 1)) m).1 ≤ 25))))) = true := by decide +kernel
theorem hp_rs9 {w1 w2 : Nat} (h1 : w1 = 1 ∨ w1 = 2) (h2 : w2 = 1 ∨ w2 = 2) (le : Bool) {m : Nat} (hm : m ≤ 25) : ((hp_rs w1 w2 le m).2 = -9 ↔ (hp_rs w1 w2 le m).1 = 0) ∧ (hp_rs w1 w2 le m).1 ≤ 25 := by
  have key : ∀ a b c : Nat, a < 2 → b < 2 → c < 2 → w1 = a + 1 → w2 = b + 1 → le = decide (c = 1) → ((hp_rs w1 w2 le m).2 = -9 ↔ (hp_rs w1 w2 le m).1 = 0) ∧ (hp_rs w1 w2 le m).1 ≤ 25 := by
    intro a b c ha hb hc e1 e2 e3
    subst e1
    subst e2
    subst e3
    exact of_decide_eq_true (hp_all_s (hp_all_s (hp_all_s (hp_all_s hp_rs_all ha) hb) hc) (by omega : m < 26))
  have kl : ∃ c, c < 2 ∧ le = decide (c = 1) := by
    cases le
    · exact ⟨0, by decide, rfl⟩
    · exact ⟨1, by decide, rfl⟩
  obtain ⟨c, hc, ec⟩ := kl
  exact key (w1 - 1) (w2 - 1) c (by omega) (by omega) hc (by omega) (by omega) ec
theorem lo_c : hp_all 5 (fun p => hp_all 5 (fun q => hp_all 2 (fun w => decide ((if nI q < nI p then nI q else nI p) * nI (w + 1) + 0 = nI (min p q * (w + 1)) ∧ (if nI q < nI p then nI q else nI p) * nI (w + 1) + 3 = nI (min p q * (w + 1) + 3) ∧ (3 : Int32) + nI p * nI (w + 1) = nI (p * (w + 1) + 3))))) = true := by decide +kernel
theorem lo_d {p q w : Nat} (hp : p < 5) (hq : q < 5) (hw : w = 1 ∨ w = 2) : (if nI q < nI p then nI q else nI p) * nI w + 0 = nI (min p q * w) ∧ (if nI q < nI p then nI q else nI p) * nI w + 3 = nI (min p q * w + 3) ∧ (3 : Int32) + nI p * nI w = nI (p * w + 3) := by
  rcases hw with rfl | rfl
  · exact of_decide_eq_true (hp_all_s (hp_all_s (hp_all_s lo_c hp) hq) (by decide : 0 < 2))
  · exact of_decide_eq_true (hp_all_s (hp_all_s (hp_all_s lo_c hp) hq) (by decide : 1 < 2))
theorem x_loss {σ : Nat → hj_Ob} {bf : Nat → Nat} {sd : Int64} {P : hp_P} {j k p q : Nat} (hP : hr_P (σ 3) P) (hoP : hp_okP P) (hj : j < P.1) (hk : k < P.1) (hp : p < 5) (hq : q < 5) :
    fX5_lossOf σ bf sd (nI j) (nI k) (nI p) (nI q) = some (nI (hp_lo (hp_k P j) (decide (k ≤ j)) p q)) := by
  have h6 := hoP.1
  have hkj := (hoP.2.2 j hj).1
  obtain ⟨d1, d2, d3⟩ := lo_d hp hq (hp_k12 P j)
  have f50 : ∀ z : Int32, (z = 0 ∨ z = 1) → fX5_lossOf_22 σ bf sd (nI j) (nI p) (nI q) z = some (nI (if z = 0 then min p q * hp_k P j else min p q * hp_k P j + 3)) := by
    intro z hz
    unfold fX5_lossOf_22
    have e5 : ∀ (b : Nat), (b = 1 ∨ b = 2) → b = hp_k P j → fX5_lossOf_50 σ bf sd (nI p) (nI q) z (nI b) = some (nI (if z = 0 then min p q * hp_k P j else min p q * hp_k P j + 3)) := by
      intro b _ e
      unfold fX5_lossOf_50
      rw [e]
      rcases hz with rfl | rfl
      · rw [if_pos rfl, if_pos rfl, d1]
      · rw [if_neg i10, if_neg i10, d2]
    rw [x_jur hP.1 h6 hj, ev_o1, if_neg i10, ck_k (by omega) (by decide), ev_cl (by omega), (hP.2.2 j hj).1]
    by_cases c : P.2.2.1 j = 1
    · rw [if_pos (by rw [c]; rfl)]
      exact e5 2 (Or.inr rfl) (by unfold hp_k; rw [if_pos c])
    · rw [if_neg (by rw [show (nI (P.2.2.1 j) = 1) = (P.2.2.1 j = 1) from ev_eq (b := 1) (by omega) (by omega)]; exact c)]
      exact e5 1 (Or.inl rfl) (by unfold hp_k; rw [if_neg c])
  unfold fX5_lossOf hp_lo
  simp only [show (nI p < nI q) = (p < q) from ev_lt (by omega) (by omega), show (nI p = nI q) = (p = q) from ev_eq (by omega) (by omega), show (nI k ≤ nI j) = (k ≤ j) from ev_le (by omega) (by omega)]
  by_cases c1 : p < q
  · rw [if_pos c1, if_pos (Or.inl c1), f50 1 (Or.inr rfl), if_neg i10, Nat.min_eq_left (by omega)]
  · rw [if_neg c1]
    by_cases c2 : p = q
    · rw [if_pos c2]
      by_cases c3 : k ≤ j
      · rw [if_pos c3, f50 0 (Or.inl rfl), if_pos rfl, if_neg (by rintro (z | z); exact c1 z; exact absurd z.2 (by rw [decide_eq_true c3]; decide)), Nat.min_eq_right (by omega)]
      · rw [if_neg c3, f50 1 (Or.inr rfl), if_neg i10, if_pos (Or.inr ⟨c2, decide_eq_false c3⟩), Nat.min_eq_left (by omega)]
    · rw [if_neg c2, f50 0 (Or.inl rfl), if_pos rfl, if_neg (by rintro (z | z); exact c1 z; exact c2 z.1), Nat.min_eq_right (by omega)]
theorem m_loss {τ : hj_Ob} {sd : Int64} {P : hp_P} {j k p q : Nat} (hP : hr_MP τ P) (hoP : hp_okP P) (hj : j < P.1) (hk : k < P.1) (hp : p < 5) (hq : q < 5) :
    fX6_loses τ sd (nI j) (nI k) (nI p) (nI q) = some (nI (hp_lo (hp_k P j) (decide (k ≤ j)) p q)) := by
  have h6 := hoP.1
  have hkj := (hoP.2.2 j hj).1
  obtain ⟨d1, d2, d3⟩ := lo_d hp hq (hp_k12 P j)
  have f15 : fX6_loses_15 τ sd (nI j) (nI k) (nI p) (nI q) (nI (hp_k P j)) = some (nI (hp_lo (hp_k P j) (decide (k ≤ j)) p q)) := by
    have a1 : fX6_loses_39 τ sd (nI p) (nI q) (nI (hp_k P j)) 1 = some (nI (p * hp_k P j + 3)) := by
      unfold fX6_loses_39
      rw [if_neg i10, d3]
    have a0 : fX6_loses_39 τ sd (nI p) (nI q) (nI (hp_k P j)) 0 = some (nI (q * hp_k P j)) := by
      unfold fX6_loses_39
      rw [if_pos i00, pk_mul]
    unfold fX6_loses_15 hp_lo
    simp only [show (nI p < nI q) = (p < q) from ev_lt (by omega) (by omega), show (nI p = nI q) = (p = q) from ev_eq (by omega) (by omega), show (nI k ≤ nI j) = (k ≤ j) from ev_le (by omega) (by omega)]
    by_cases c1 : p < q
    · rw [if_pos c1, if_pos (Or.inl c1), a1]
    · rw [if_neg c1]
      by_cases c2 : p = q
      · rw [if_pos c2]
        by_cases c3 : k ≤ j
        · rw [if_pos c3, a0, if_neg (by rintro (z | z); exact c1 z; exact absurd z.2 (by rw [decide_eq_true c3]; decide))]
        · rw [if_neg c3, a1, if_pos (Or.inr ⟨c2, decide_eq_false c3⟩)]
      · rw [if_neg c2, a0, if_neg (by rintro (z | z); exact c1 z; exact c2 z.1)]
  unfold fX6_loses
  rw [ck_k (by omega) (by decide), ev_cl (by omega), (hP.2.2 j hj).1]
  by_cases c : P.2.2.1 j = 1
  · rw [if_pos (by rw [c]; rfl)]
    have : (2 : Int32) = nI (hp_k P j) := by unfold hp_k; rw [if_pos c]; rfl
    rw [this]
    exact f15
  · rw [if_neg (by rw [show (nI (P.2.2.1 j) = 1) = (P.2.2.1 j = 1) from ev_eq (b := 1) (by omega) (by omega)]; exact c)]
    have : (1 : Int32) = nI (hp_k P j) := by unfold hp_k; rw [if_neg c]; rfl
    rw [this]
    exact f15
theorem hp_lo_lt {w : Nat} {le : Bool} {p q : Nat} (hw : w = 1 ∨ w = 2) (hp : p < 5) (hq : q < 5) : hp_lo w le p q < 2 ^ 31 := by
  unfold hp_lo
  rcases hw with rfl | rfl <;> split <;> omega
theorem hp_bs_f {w : Nat} {le : Bool} {p q k : Nat} (h : hp_bs w le p q k = false) : ∀ m, hp_bs w le p q (k + m) = false
  | 0 => h
  | m + 1 => by
    show (hp_bs w le p q (k + m) && _) = false
    rw [hp_bs_f h m]
    rfl
theorem x_best {σ : Nat → hj_Ob} {bf : Nat → Nat} {sd : Int64} {P : hp_P} {j k p q : Nat} (hP : hr_P (σ 3) P) (hoP : hp_okP P) (hj : j < P.1) (hk : k < P.1) (hp : p < 5) (hq : q < 5) :
    fX5_isBestWait σ bf sd (nI j) (nI k) (nI p) (nI q) = some (if hp_bs (hp_k P j) (decide (k ≤ j)) p q 5 = true then 1 else 0) := by
  unfold fX5_isBestWait
  rw [x_loss hP hoP hj hk hp hq, ev_o1]
  obtain ⟨e, he, hQ⟩ := lp_h (b := fun z : Int32 => fX5_isBestWait_14 σ bf sd (nI j) (nI k) (nI q) (nI (hp_lo (hp_k P j) (decide (k ≤ j)) p q)) z)
    (fun i z => z = nI i ∧ hp_bs (hp_k P j) (decide (k ≤ j)) p q i = true)
    (fun e => (e = .inl 0 ∧ hp_bs (hp_k P j) (decide (k ≤ j)) p q 5 = false) ∨ (e = .inr () ∧ hp_bs (hp_k P j) (decide (k ≤ j)) p q 5 = true)) 5
    (fun i z hi hI => by
      obtain ⟨e1, e2⟩ := hI
      subst e1
      unfold fX5_isBestWait_14
      by_cases c : i < 5
      · have c4 : ¬ (4 : Int32) < nI i := by rw [show (4 : Int32) = nI 4 from rfl, ev_lt (by omega) (by omega)]; omega
        have ebs : hp_bs (hp_k P j) (decide (k ≤ j)) p q (i + 1) = (hp_bs (hp_k P j) (decide (k ≤ j)) p q i && decide (hp_lo (hp_k P j) (decide (k ≤ j)) p q ≤ hp_lo (hp_k P j) (decide (k ≤ j)) i q)) := rfl
        rw [e2, Bool.true_and] at ebs
        rw [if_neg c4, x_loss hP hoP hj hk c hq, ev_o1]
        simp only [show (nI (hp_lo (hp_k P j) (decide (k ≤ j)) p q) ≤ nI (hp_lo (hp_k P j) (decide (k ≤ j)) i q)) = (hp_lo (hp_k P j) (decide (k ≤ j)) p q ≤ hp_lo (hp_k P j) (decide (k ≤ j)) i q) from ev_le (hp_lo_lt (hp_k12 P j) hp hq) (hp_lo_lt (hp_k12 P j) c hq)]
        by_cases g : hp_lo (hp_k P j) (decide (k ≤ j)) p q ≤ hp_lo (hp_k P j) (decide (k ≤ j)) i q
        · rw [if_pos g, ev_nm, nI_1]
          exact Or.inr ⟨c, _, rfl, rfl, by rw [ebs]; exact decide_eq_true g⟩
        · rw [if_neg g]
          have g5 := hp_bs_f (ebs.trans (decide_eq_false g)) (5 - (i + 1))
          rw [show i + 1 + (5 - (i + 1)) = 5 by omega] at g5
          exact Or.inl ⟨_, rfl, Or.inl ⟨rfl, g5⟩⟩
      · have : i = 5 := by omega
        subst this
        rw [if_pos (by decide)]
        exact Or.inl ⟨_, rfl, Or.inr ⟨rfl, e2⟩⟩)
    100 0 0 (by omega) (by omega) ⟨rfl, rfl⟩
  rw [he]
  rcases hQ with ⟨rfl, g⟩ | ⟨rfl, g⟩
  · rw [ev_oel, g]; rfl
  · rw [ev_oei, g]; rfl
theorem m_rest {τ : hj_Ob} {sd : Int64} {P : hp_P} {j k p q : Nat} (hP : hr_MP τ P) (hoP : hp_okP P) (hj : j < P.1) (hk : k < P.1) (hp : p < 5) (hq : q < 5) (hjk : j ≠ k) :
    fX6_isRest τ sd (nI j) (nI k) (nI p) (nI q) = some (if hp_re (hp_k P j) (hp_k P k) (decide (k ≤ j)) p q = true then 1 else 0) := by
  have hle : (!decide (k ≤ j)) = decide (j ≤ k) := by
    by_cases c : k ≤ j
    · rw [decide_eq_true c, decide_eq_false (by omega)]; rfl
    · rw [decide_eq_false c, decide_eq_true (by omega)]; rfl
  unfold fX6_isRest hp_re
  rw [hle]
  obtain ⟨e, he, rfl⟩ := lp_h (b := fun z : Int32 × Int32 => fX6_isRest_6 τ sd (nI j) (nI k) (nI p) (nI q) z.1 z.2)
    (fun i z => z.2 = nI i ∧ z.1 = (if (hp_bs (hp_k P j) (decide (k ≤ j)) p q i && hp_bs (hp_k P k) (decide (j ≤ k)) q p i) = true then 1 else 0))
    (fun e => e = (if (hp_bs (hp_k P j) (decide (k ≤ j)) p q 5 && hp_bs (hp_k P k) (decide (j ≤ k)) q p 5) = true then 1 else 0)) 5
    (fun i z hi hI => by
      obtain ⟨y1, y2⟩ := z
      obtain ⟨e1, e2⟩ := hI
      dsimp only at e1 e2 ⊢
      subst e1
      unfold fX6_isRest_6
      by_cases c : i < 5
      · have c5 : ¬ (5 : Int32) ≤ nI i := by rw [show (5 : Int32) = nI 5 from rfl, ev_le (by omega) (by omega)]; omega
        have eb1 : hp_bs (hp_k P j) (decide (k ≤ j)) p q (i + 1) = (hp_bs (hp_k P j) (decide (k ≤ j)) p q i && decide (hp_lo (hp_k P j) (decide (k ≤ j)) p q ≤ hp_lo (hp_k P j) (decide (k ≤ j)) i q)) := rfl
        have eb2 : hp_bs (hp_k P k) (decide (j ≤ k)) q p (i + 1) = (hp_bs (hp_k P k) (decide (j ≤ k)) q p i && decide (hp_lo (hp_k P k) (decide (j ≤ k)) q p ≤ hp_lo (hp_k P k) (decide (j ≤ k)) i p)) := rfl
        rw [if_neg c5]
        refine Or.inr ⟨c, ?_⟩
        rw [eb1, eb2]
        generalize hb1 : hp_bs (hp_k P j) (decide (k ≤ j)) p q i = b1 at e2
        generalize hb2 : hp_bs (hp_k P k) (decide (j ≤ k)) q p i = b2 at e2
        by_cases g0 : (b1 && b2) = true
        · have e2' : y1 = 1 := by rw [e2, if_pos g0]
          obtain ⟨g1, g2⟩ := (Bool.and_eq_true _ _).mp g0
          rw [e2', if_neg i10, m_loss hP hoP hj hk c hq, m_loss hP hoP hj hk hp hq, m_loss hP hoP hk hj c hp, m_loss hP hoP hk hj hq hp, ev_o1, ev_o1, ev_o1, ev_o1, g1, g2, Bool.true_and, Bool.true_and]
          simp only [show (nI (hp_lo (hp_k P j) (decide (k ≤ j)) i q) < nI (hp_lo (hp_k P j) (decide (k ≤ j)) p q)) = (hp_lo (hp_k P j) (decide (k ≤ j)) i q < hp_lo (hp_k P j) (decide (k ≤ j)) p q) from ev_lt (hp_lo_lt (hp_k12 P j) c hq) (hp_lo_lt (hp_k12 P j) hp hq), show (nI (hp_lo (hp_k P k) (decide (j ≤ k)) i p) < nI (hp_lo (hp_k P k) (decide (j ≤ k)) q p)) = (hp_lo (hp_k P k) (decide (j ≤ k)) i p < hp_lo (hp_k P k) (decide (j ≤ k)) q p) from ev_lt (hp_lo_lt (hp_k12 P k) c hp) (hp_lo_lt (hp_k12 P k) hq hp)]
          by_cases g3 : hp_lo (hp_k P j) (decide (k ≤ j)) i q < hp_lo (hp_k P j) (decide (k ≤ j)) p q
          · rw [if_pos g3, ev_nm, nI_1]
            exact ⟨_, rfl, rfl, by rw [decide_eq_false (Nat.not_le.mpr g3), Bool.false_and]; rfl⟩
          · rw [if_neg g3, decide_eq_true (Nat.not_lt.mp g3), Bool.true_and]
            by_cases g4 : hp_lo (hp_k P k) (decide (j ≤ k)) i p < hp_lo (hp_k P k) (decide (j ≤ k)) q p
            · rw [if_pos g4, ev_nm, nI_1]
              exact ⟨_, rfl, rfl, by rw [decide_eq_false (Nat.not_le.mpr g4)]; rfl⟩
            · rw [if_neg g4, ev_nm, nI_1]
              exact ⟨_, rfl, rfl, by rw [decide_eq_true (Nat.not_lt.mp g4)]; rfl⟩
        · have e2' : y1 = 0 := by rw [e2, if_neg g0]
          rw [e2', if_pos i00, ev_nm, nI_1]
          refine ⟨_, rfl, rfl, ?_⟩
          dsimp only
          rw [if_neg]
          intro q
          apply g0
          rw [Bool.and_eq_true] at q ⊢
          rw [Bool.and_eq_true, Bool.and_eq_true] at q
          exact ⟨q.1.1, q.2.1⟩
      · have : i = 5 := by omega
        subst this
        rw [if_pos (by decide)]
        exact Or.inl ⟨_, rfl, e2⟩)
    100 0 (1, 0) (by omega) (by omega) ⟨rfl, rfl⟩
  rw [he, ev_o1, bz_if]
