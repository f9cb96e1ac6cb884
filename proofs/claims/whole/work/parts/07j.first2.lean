/-! first -/
theorem hp_ff_f {se : hp_S} {b : hp_R} {i k : Nat} (h : hp_ff se b i k = false) : ∀ m, hp_ff se b i (k + m) = false
  | 0 => h
  | m + 1 => by
    show (hp_ff se b i (k + m) && _) = false
    rw [hp_ff_f h m]
    rfl
def hr_S (ρ : hj_Ob) (se : hp_S) : Prop := ρ.1 3 = nI se.1 ∧ ∀ i, i < se.1 → ρ.2 0 i = nI (se.2.1 i) ∧ ρ.2 1 i = nI (se.2.2.1 i) ∧ ρ.2 2 i = nI (se.2.2.2 i)
def hp_okS (se : hp_S) : Prop := se.1 ≤ 6 ∧ ∀ i, i < se.1 → se.2.1 i < 6 ∧ se.2.2.1 i ≤ 9 ∧ se.2.2.2 i ≤ 1
theorem x_fit {π ρo ρ : hj_Ob} {n C i : Nat} {b : hp_R} {se : hp_S} (hn : n ≤ 6) (hX : hr_X n ρo b) (ho : hp_okR n C b) (hS : hr_S ρ se) (hs : hp_okS se) (hi : i < 100) :
    fX3_fit π ρo ρ (nI i) = some (if hp_ff se b i se.1 = true then 1 else 0) := by
  have ht := hp_t64 hn ho.2.1
  have hs6 := hs.1
  unfold fX3_fit
  obtain ⟨e, he, hQ⟩ := lp_h (b := fun q : Int32 => fX3_fit_2 π ρo ρ (nI i) q) (fun k q => q = nI k ∧ hp_ff se b i k = true)
    (fun e => (e = .inl 0 ∧ hp_ff se b i se.1 = false) ∨ (e = .inr () ∧ hp_ff se b i se.1 = true)) se.1
    (fun k q hk hI => by
      obtain ⟨e1, e2⟩ := hI
      subst e1
      unfold fX3_fit_2
      rw [hS.1]
      by_cases c : se.1 ≤ k
      · have : k = se.1 := by omega
        subst this
        rw [if_pos (by rw [ev_le (by omega) (by omega)]; exact c)]
        exact Or.inl ⟨_, rfl, Or.inr ⟨rfl, e2⟩⟩
      · have hk' : k < se.1 := by omega
        obtain ⟨r1, r2, r3⟩ := hS.2 k hk'
        obtain ⟨s1, s2, s3⟩ := hs.2 k hk'
        have go : hp_f1 se b i k = true → (∃ e, (some (.inr (nI k + 1)) : Option ((Int32 ⊕ Unit) ⊕ Int32)) = some (.inl e) ∧ ((e = .inl 0 ∧ hp_ff se b i se.1 = false) ∨ (e = .inr () ∧ hp_ff se b i se.1 = true))) ∨ (k < se.1 ∧ ∃ s', (some (.inr (nI k + 1)) : Option ((Int32 ⊕ Unit) ⊕ Int32)) = some (.inr s') ∧ s' = nI (k + 1) ∧ hp_ff se b i (k + 1) = true) := by
          intro g
          refine Or.inr ⟨hk', _, rfl, nI_1 k, ?_⟩
          show (hp_ff se b i k && hp_f1 se b i k) = true
          rw [e2, g]
          rfl
        have no : hp_f1 se b i k = false → (∃ e, (some (.inl (.inl 0)) : Option ((Int32 ⊕ Unit) ⊕ Int32)) = some (.inl e) ∧ ((e = .inl 0 ∧ hp_ff se b i se.1 = false) ∨ (e = .inr () ∧ hp_ff se b i se.1 = true))) ∨ (k < se.1 ∧ ∃ s', (some (.inl (.inl 0)) : Option ((Int32 ⊕ Unit) ⊕ Int32)) = some (.inr s') ∧ s' = nI (k + 1) ∧ hp_ff se b i (k + 1) = true) := by
          intro g
          refine Or.inl ⟨_, rfl, Or.inl ⟨rfl, ?_⟩⟩
          have q : hp_ff se b i (k + 1) = false := by
            show (hp_ff se b i k && hp_f1 se b i k) = false
            rw [e2, g]
            rfl
          have := hp_ff_f q (se.1 - (k + 1))
          rw [show k + 1 + (se.1 - (k + 1)) = se.1 by omega] at this
          exact this
        rw [if_neg (by rw [ev_le (by omega) (by omega)]; exact c), if_neg (by rw [show (6 : Int32) = nI 6 from rfl, ev_le (by omega) (by omega)]; omega), ck_k (by omega) (by decide), ck_k (by omega) (by decide), ev_cl (by omega), r2, r1]
        simp only [show (nI (se.2.2.1 k) = nI i) = (se.2.2.1 k = i) from ev_eq (by omega) (by omega)]
        unfold fX3_fit_44
        by_cases c1 : se.2.2.1 k = i
        · rw [if_pos c1, x_there hX.2.1 ht s1, ev_o1]
          by_cases c2 : hp_b b.2.1 (se.2.1 k) = 0
          · rw [if_pos (by rw [c2]; rfl), if_pos rfl, ev_nm]
            exact go (decide_eq_true (fun _ q => by omega))
          · have c3 : hp_b b.2.1 (se.2.1 k) = 1 := by have := hp_b2 b.2.1 (se.2.1 k); omega
            rw [if_neg (by rw [c3]; decide), if_neg i10, ck_k (by omega) (by decide), ev_cl (by omega), r1, x_yes hX.1 ho.1 s1, ev_o1, ck_k (by omega) (by decide), r3]
            simp only [show (nI (se.2.2.2 k) = 1) = (se.2.2.2 k = 1) from ev_eq (b := 1) (by omega) (by omega), show (nI (hp_b b.1 (se.2.1 k)) = 1) = (hp_b b.1 (se.2.1 k) = 1) from x_b1, show (nI (hp_b b.1 (se.2.1 k)) = 0) = (hp_b b.1 (se.2.1 k) = 0) from ev_eq (b := 0) (by have := hp_b_lt b.1 (se.2.1 k); omega) (by omega)]
            have b2 := hp_b2 b.1 (se.2.1 k)
            by_cases c4 : se.2.2.2 k = 1
            · rw [if_pos c4]
              by_cases c5 : hp_b b.1 (se.2.1 k) = 1
              · rw [if_pos c5, ev_nm]
                exact go (decide_eq_true (fun _ _ => by omega))
              · rw [if_neg c5]
                exact no (decide_eq_false (fun q => by have := q c1 c3; omega))
            · rw [if_neg c4]
              by_cases c5 : hp_b b.1 (se.2.1 k) = 0
              · rw [if_pos c5, ev_nm]
                exact go (decide_eq_true (fun _ _ => by omega))
              · rw [if_neg c5]
                exact no (decide_eq_false (fun q => by have := q c1 c3; omega))
        · rw [if_neg c1, if_pos rfl, ev_nm]
          exact go (decide_eq_true (fun q => absurd q c1)))
    100 0 0 (by omega) (by omega) ⟨rfl, rfl⟩
  rw [he]
  rcases hQ with ⟨rfl, q⟩ | ⟨rfl, q⟩
  · rw [ev_oel, q]; rfl
  · rw [ev_oei, q]; rfl
theorem m_isSeen {τ : hj_Ob} {sd : Int64} {P : hp_P} {C i : Nat} {b : hp_R} {se : hp_S} (hP : hr_MP τ P) (hn : P.1 ≤ 6) (hM : hr_M P.1 1 τ b) (ho : hp_okR P.1 C b) (hS : lm_s τ se) (hs : hp_okS se) (hi : i < 100) :
    fX6_isSeen τ sd (nI i) = some (if hp_ff se b i se.1 = true then 1 else 0) := by
  have ht := hp_t64 hn ho.2.1
  have hs6 := hs.1
  unfold fX6_isSeen
  obtain ⟨e, he, hQ⟩ := lp_h (b := fun q : Int32 × Int32 => fX6_isSeen_4 τ sd (nI i) q.1 q.2) (fun k q => q.2 = nI k ∧ q.1 = (if hp_ff se b i k = true then 1 else 0))
    (fun e => e = (if hp_ff se b i se.1 = true then 1 else 0)) se.1
    (fun k q hk hI => by
      obtain ⟨x, y⟩ := q
      obtain ⟨e1, e2⟩ := hI
      dsimp only at e1 e2 ⊢
      subst e1
      unfold fX6_isSeen_4
      rw [hS.1]
      by_cases c : se.1 ≤ k
      · have : k = se.1 := by omega
        subst this
        rw [if_pos (by rw [ev_le (by omega) (by omega)]; exact c)]
        exact Or.inl ⟨_, rfl, e2⟩
      · have hk' : k < se.1 := by omega
        obtain ⟨r1, r2, r3⟩ := hS.2 k hk'
        obtain ⟨s1, s2, s3⟩ := hs.2 k hk'
        rw [if_neg (by rw [ev_le (by omega) (by omega)]; exact c), ck_k (by omega) (by decide), ck_k (by omega) (by decide), ck_k (by omega) (by decide), ev_cl (by omega), r2, r1]
        simp only [show (nI (se.2.2.1 k) = nI i) = (se.2.2.1 k = i) from ev_eq (by omega) (by omega)]
        have f54 : ∀ z0 : Int32, (z0 = 1 → se.2.2.1 k = i ∧ hp_b b.2.1 (se.2.1 k) = 1) → (z0 ≠ 1 → z0 = 0 ∧ (se.2.2.1 k = i → ¬ hp_b b.2.1 (se.2.1 k) = 1)) → fX6_isSeen_54 τ sd (nI i) x (nI k) z0 = some (.inr ((if hp_ff se b i (k + 1) = true then 1 else 0), nI (k + 1))) := by
          intro z0 hz1 hz0
          unfold fX6_isSeen_54
          have e3 : hp_ff se b i (k + 1) = (hp_ff se b i k && hp_f1 se b i k) := rfl
          rw [e3]
          cases g : hp_ff se b i k with
          | false =>
            rw [g] at e2
            rw [if_pos (show x = 0 from e2), ev_nm, nI_1]
            rfl
          | true =>
            rw [g] at e2
            rw [if_neg (by rw [show x = 1 from e2]; decide)]
            by_cases z1 : z0 = 1
            · obtain ⟨c1, c3⟩ := hz1 z1
              rw [z1, if_neg i10, show ∀ k : Option (Int32 ⊕ (Int32 × Int32)), hj_ck (15 : Int32) 30 k = k from fun k => rfl, ck_k (by omega) (by decide), ck_k (by omega) (by decide), ev_cl (by omega), r1, r3, show τ.2 4 (15 : Int32).toNatClampNeg = nI b.1 from hM.1, hp_has ho.1 (by omega)]
              simp only [show (nI (hp_b b.1 (se.2.1 k)) = nI (se.2.2.2 k)) = (hp_b b.1 (se.2.1 k) = se.2.2.2 k) from ev_eq (by have := hp_b_lt b.1 (se.2.1 k); omega) (by omega)]
              by_cases c5 : hp_b b.1 (se.2.1 k) = se.2.2.2 k
              · rw [if_pos c5, ev_nm, nI_1, show hp_f1 se b i k = true from decide_eq_true (fun _ _ => c5)]
                rfl
              · rw [if_neg c5, ev_nm, nI_1, show hp_f1 se b i k = false from decide_eq_false (fun q => c5 (q c1 c3))]
                rfl
            · obtain ⟨z00, q⟩ := hz0 z1
              rw [z00, if_pos rfl, ev_nm, nI_1, show hp_f1 se b i k = true from decide_eq_true (fun q1 q2 => absurd q2 (q q1))]
              rfl
        refine Or.inr ⟨hk', ((if hp_ff se b i (k + 1) = true then 1 else 0), nI (k + 1)), ?_, rfl, rfl⟩
        by_cases c1 : se.2.2.1 k = i
        · rw [if_pos c1]
          by_cases hjn : se.2.1 k < P.1
          · rw [m_jur hP.1 hn hjn, ev_o1, if_neg i10, show fX6_isThere τ sd 1 (nI (se.2.1 k)) = _ from m_there (L := 1) (by omega) hM.2.1 ht (by omega), ev_o1]
            by_cases c2 : hp_b b.2.1 (se.2.1 k) = 0
            · rw [if_pos (by rw [c2]; rfl)]
              exact f54 0 (fun q => absurd q (by decide)) (fun _ => ⟨rfl, fun _ => by omega⟩)
            · have c3 : hp_b b.2.1 (se.2.1 k) = 1 := by have := hp_b2 b.2.1 (se.2.1 k); omega
              rw [if_neg (by rw [c3]; decide)]
              exact f54 1 (fun _ => ⟨c1, c3⟩) (fun q => absurd rfl q)
          · rw [m_njur hP.1 hn (Or.inr (by rw [ev_le (by omega) (by omega)]; omega)), ev_o1, if_pos i00]
            exact f54 0 (fun q => absurd q (by decide)) (fun _ => ⟨rfl, fun _ q => hjn (hp_bn ho.2.1 q)⟩)
        · rw [if_neg c1]
          exact f54 0 (fun q => absurd q (by decide)) (fun _ => ⟨rfl, fun q => absurd q c1⟩))
    100 0 (1, 0) (by omega) (by omega) ⟨rfl, rfl⟩
  rw [he, ev_o1, hQ]
  cases hp_ff se b i se.1 <;> rfl
