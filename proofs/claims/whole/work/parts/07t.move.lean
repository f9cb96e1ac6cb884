/-! toMove -/
def hp_tw (t y : Nat) (b : hp_R) : Prop := b.2.1 = t ∧ b.1 = y
theorem x_isThere_m {π ρ : hj_Ob} : fX2_isThere π ρ (-1) = some 0 := by
  unfold fX2_isThere
  rw [if_pos (by decide)]
theorem nI_m1 {v : Nat} (h : v < 2 ^ 30) : nI v - 1 = (if v = 0 then -1 else nI (v - 1)) := by
  by_cases c : v = 0
  · rw [if_pos c, c]; rfl
  · rw [if_neg c]; exact pk_sub (b := 1) (by omega)
/-- one juror argued with, whatever the figure -/
theorem x_arg {π ρ : hj_Ob} {P : hp_P} {b : hp_R} {B t y v : Nat} (hP : hr_P π P) (hoP : hp_okP P) (ho : hp_okR P.1 B b) (hB : B < 2 ^ 29) (hX : hr_X P.1 ρ b) (hv : v < 10) (hw : hp_tw t y b) :
    ∃ ρ' b', fX2_carryOut π ρ 1 (nI v - 1) = some ρ' ∧ hr_X P.1 ρ' b' ∧ hp_okR P.1 (B + 1) b' ∧ hp_tw t y b' := by
  have h6 := hoP.1
  have hB0 : 0 < B := by have := ho.2.2.1; omega
  rw [nI_m1 (by omega)]
  by_cases c : v = 0
  · rw [if_pos c]
    refine ⟨ρ, b, ?_, hX, okR_up ho (by omega), hw⟩
    unfold fX2_carryOut
    rw [if_pos (by decide)]
  · rw [if_neg c]
    by_cases c2 : v - 1 < P.1
    · obtain ⟨ρ', k1, k2⟩ := x_do hP hoP ho hB hX (d := 1) (j := v - 1) (by omega) (by omega) (fun _ => c2)
      exact ⟨ρ', _, k1, k2, hp_okR_do h6 ho (by omega) hB0, hw⟩
    · unfold fX2_carryOut
      rw [if_neg (ev_neg (by omega))]
      by_cases c3 : v - 1 < 6
      · rw [if_pos (by rw [show (6 : Int32) = nI 6 from rfl, ev_lt (by omega) (by omega)]; exact c3), if_neg i10, if_pos rfl, ck_k c3 (by decide), ck_k c3 (by decide), ev_nm]
        refine ⟨_, b, rfl, ⟨hX.1, hX.2.1, hX.2.2.1, fun j hj => ⟨?_, (hX.2.2.2 j hj).2⟩⟩, okR_up ho (by omega), hw⟩
        rw [wx_a_se, ev_upd, ev_cl (by omega), if_neg (by omega)]
        exact (hX.2.2.2 j hj).1
      · rw [if_neg (by rw [show (6 : Int32) = nI 6 from rfl, ev_lt (by omega) (by omega)]; exact c3)]
        exact ⟨_, b, rfl, hX, okR_up ho (by omega), hw⟩
theorem x_eMove {σ : Nat → hj_Ob} {bf : Nat → Nat} {sd : Int64} {P : hp_P} {a : hp_R} {B v : Nat} (hP : hr_P (σ 3) P) (hoP : hp_okP P) (hX : hr_X P.1 (σ 11) a) (ho : hp_okR P.1 B a) (hB : B < 2 ^ 20) (hv : v < 1000) :
    ∃ σ', fX5_endAfterMove σ bf sd (nI v) = some (nI (hp_maj a.2.1 a.1), σ') ∧ ∀ k, k ≠ 14 → σ' k = σ k := by
  obtain ⟨ρ1, k1, k2⟩ := x_copy (π := σ 3) (ρ := σ 14) hoP.1 hX
  unfold fX5_endAfterMove
  rw [k1, ev_o1, ev_nm]
  obtain ⟨e, he, q1, b, q2, q3, q4⟩ := lp_h (b := fun q : (Int32 × (Nat → hj_Ob)) => fX5_endAfterMove_13 q.2 bf sd q.1)
    (fun i q => (∃ w, q.1 = nI w ∧ w < 10 ^ (3 - i)) ∧ (∀ k, k ≠ 14 → q.2 k = σ k) ∧ ∃ b, hr_X P.1 (q.2 14) b ∧ hp_okR P.1 (B + i) b ∧ hp_tw a.2.1 a.1 b)
    (fun e => (∀ k, k ≠ 14 → e k = σ k) ∧ ∃ b, hr_X P.1 (e 14) b ∧ hp_okR P.1 (B + 3) b ∧ hp_tw a.2.1 a.1 b) 3
    (fun i q hi hI => by
      obtain ⟨z, t⟩ := q
      obtain ⟨⟨w, e1, hw⟩, e2, b, e3, e4, e5⟩ := hI
      dsimp only at e1 e2 e3 ⊢
      subst e1
      unfold fX5_endAfterMove_13
      have hw3 : 10 ^ (3 - i) ≤ 10 ^ 3 := Nat.pow_le_pow_right (by decide) (by omega)
      simp only [show (nI w ≤ 0) = (w ≤ 0) from ev_le (b := 0) (by omega) (by omega)]
      by_cases c : w ≤ 0
      · rw [if_pos c]
        exact Or.inl ⟨_, rfl, e2, b, e3, okR_up e4 (by omega), e5⟩
      · have hi3 : i < 3 := by
          rcases Nat.lt_or_ge i 3 with q | q
          · exact q
          · have : i = 3 := by omega
            subst this
            rw [show 10 ^ (3 - 3) = 1 from rfl] at hw
            omega
        obtain ⟨ρ2, b2, j1, j2, j3, j4⟩ := x_arg (π := t 3) (ρ := t 14) (v := w % 10) (by rw [e2 3 (by decide)]; exact hP) hoP e4 (by omega) e3 (Nat.mod_lt _ (by decide)) e5
        rw [if_neg c, show nI w - nI w / 10 * 10 = nI (w % 10) from pk_rem (d := 10) (by omega) (by decide) (by decide), j1, ev_o1, ev_nm, ev_nm, show nI w / 10 = nI (w / 10) from pk_div (d := 10) (by omega) (by decide) (by decide)]
        refine Or.inr ⟨hi3, _, rfl, ⟨w / 10, rfl, ?_⟩, fun k hk => ?_, b2, ?_, j3, j4⟩
        · rw [show 3 - i = (3 - (i + 1)) + 1 by omega, Nat.pow_succ] at hw
          exact Nat.div_lt_of_lt_mul (by omega)
        · show va_up t 14 ρ2 k = _
          rw [va_up_ne _ _ hk]; exact e2 k hk
        · show hr_X P.1 (va_up t 14 ρ2 14) _
          rw [va_up_self]; exact j2)
    100 0 (nI v, va_up σ 14 ρ1) (by omega) (by omega) ⟨⟨v, rfl, hv⟩, fun k hk => va_up_ne _ _ hk, a, by show hr_X P.1 (va_up σ 14 ρ1 14) _; rw [va_up_self]; exact k2, ho, rfl, rfl⟩
  obtain ⟨ρ', a', r1, r2, r3, r4⟩ := x_end (π := e 3) (by rw [q1 3 (by decide)]; exact hP) hoP q3 (by omega) q2
  rw [he, ev_o1, r1, ev_o2, ev_nm, va_up_self, va_up_ne _ _ (show 3 ≠ 14 by decide), x_vr (by rw [q1 3 (by decide)]; exact hP) hoP r3 r2, ev_o1, r4, hp_end hoP.1 q3, q4.1, q4.2]
  exact ⟨_, rfl, fun k hk => by rw [va_up_ne _ _ hk]; exact q1 k hk⟩
theorem x_isMove {σ : Nat → hj_Ob} {bf : Nat → Nat} {sd : Int64} {n v B : Nat} {a : hp_R} (hn : n ≤ 6) (hX : hr_X n (σ 11) a) (ho : hp_okR n B a) (hv : v < 1000) : ∃ r, fX5_isMove σ bf sd (nI v) = some r ∧ (v = 0 → r = 1) := by
  have ht := hp_t64 hn ho.2.1
  unfold fX5_isMove
  obtain ⟨e, he, hQ⟩ := lp_h (b := fun q : (Int32 × Int32) => fX5_isMove_5 σ bf sd q.1 q.2)
    (fun i q => (∃ u, q.1 = nI u ∧ u ≤ 6) ∧ ∃ w, q.2 = nI w ∧ w < 10 ^ (3 - i) ∧ (v = 0 → w = 0))
    (fun e => (v = 0 → e = .inr ())) 3
    (fun i q hi hI => by
      obtain ⟨y1, y2⟩ := q
      obtain ⟨⟨u, e1, hu⟩, w, e2, hw, hv0⟩ := hI
      dsimp only at e1 e2 ⊢
      subst e1
      subst e2
      unfold fX5_isMove_5
      have hw3 : 10 ^ (3 - i) ≤ 10 ^ 3 := Nat.pow_le_pow_right (by decide) (by omega)
      simp only [show (nI w ≤ 0) = (w ≤ 0) from ev_le (b := 0) (by omega) (by omega)]
      by_cases c : w ≤ 0
      · rw [if_pos c]
        exact Or.inl ⟨_, rfl, fun _ => rfl⟩
      · have hi3 : i < 3 := by
          rcases Nat.lt_or_ge i 3 with q | q
          · exact q
          · have : i = 3 := by omega
            subst this
            rw [show 10 ^ (3 - 3) = 1 from rfl] at hw
            omega
        have hvn : ¬ v = 0 := fun q => by have := hv0 q; omega
        rw [if_neg c, show nI w - nI w / 10 * 10 = nI (w % 10) from pk_rem (d := 10) (by omega) (by decide) (by decide), ev_nm, show nI w / 10 = nI (w / 10) from pk_div (d := 10) (by omega) (by decide) (by decide)]
        by_cases c2 : nI u < nI (w % 10)
        · rw [if_pos c2]
          exact Or.inl ⟨_, rfl, fun q => absurd q hvn⟩
        · have hle : w % 10 ≤ u := by rw [ev_lt (by omega) (by omega)] at c2; omega
          rw [if_neg c2]
          have go : ∀ z : Int32, (∃ e, (if z = 0 then (some (.inl (.inl 0)) : Option ((Int32 ⊕ Unit) ⊕ (Int32 × Int32))) else hj_nm (nI (w / 10)) fun y6 => some (.inr (nI (w % 10), y6))) = some (.inl e) ∧ (v = 0 → e = .inr ())) ∨ (i < 3 ∧ ∃ s', (if z = 0 then (some (.inl (.inl 0)) : Option ((Int32 ⊕ Unit) ⊕ (Int32 × Int32))) else hj_nm (nI (w / 10)) fun y6 => some (.inr (nI (w % 10), y6))) = some (.inr s') ∧ (∃ u, s'.1 = nI u ∧ u ≤ 6) ∧ ∃ w, s'.2 = nI w ∧ w < 10 ^ (3 - (i + 1)) ∧ (v = 0 → w = 0)) := by
            intro z
            by_cases cz : z = 0
            · rw [if_pos cz]
              exact Or.inl ⟨_, rfl, fun q => absurd q hvn⟩
            · rw [if_neg cz, ev_nm]
              refine Or.inr ⟨hi3, _, rfl, ⟨w % 10, rfl, by omega⟩, w / 10, rfl, ?_, fun q => absurd q hvn⟩
              rw [show 3 - i = (3 - (i + 1)) + 1 by omega, Nat.pow_succ] at hw
              exact Nat.div_lt_of_lt_mul (by omega)
          rw [nI_m1 (by omega)]
          by_cases c3 : w % 10 = 0
          · rw [if_pos c3, x_isThere_m, ev_o1]
            exact go 0
          · rw [if_neg c3, x_there hX.2.1 ht (by omega), ev_o1]
            exact go _)
    100 0 (6, nI v) (by omega) (by omega) ⟨⟨6, rfl, by omega⟩, v, rfl, hv, fun q => q⟩
  rw [he]
  cases e with
  | inl r => exact ⟨r, rfl, fun q => by have := hQ q; cases this⟩
  | inr r => exact ⟨1, rfl, fun _ => rfl⟩
theorem hp_maj3 (t y : Nat) : hp_maj t y = 0 ∨ hp_maj t y = 1 ∨ hp_maj t y = 9 := by
  unfold hp_maj
  split
  · exact Or.inr (Or.inl rfl)
  · split
    · exact Or.inl rfl
    · exact Or.inr (Or.inr rfl)
theorem x_least {σ : Nat → hj_Ob} {bf : Nat → Nat} {sd : Int64} {P : hp_P} {a : hp_R} {B : Nat} {x : Int32} (hP : hr_P (σ 3) P) (hoP : hp_okP P) (hX : hr_X P.1 (σ 11) a) (ho : hp_okR P.1 B a) (hB : B < 2 ^ 20) :
    ∃ σ', fX5_leastMoveFor σ bf sd x = some (if nI (hp_maj a.2.1 a.1) = x then 0 else -9, σ') ∧ ∀ k, k ≠ 14 → σ' k = σ k := by
  unfold fX5_leastMoveFor
  obtain ⟨e, he, hQ⟩ := lp_h (b := fun q : (Int32 × (Nat → hj_Ob)) => fX5_leastMoveFor_2 q.2 bf sd x q.1)
    (fun i q => q.1 = nI i ∧ (∀ k, k ≠ 14 → q.2 k = σ k) ∧ (nI (hp_maj a.2.1 a.1) = x → i = 0))
    (fun e => (nI (hp_maj a.2.1 a.1) = x ∧ ∃ s, e = .inl (0, s) ∧ ∀ k, k ≠ 14 → s k = σ k) ∨ (¬ nI (hp_maj a.2.1 a.1) = x ∧ ∃ s, e = .inr s ∧ ∀ k, k ≠ 14 → s k = σ k)) 667
    (fun i q hi hI => by
      obtain ⟨y, s⟩ := q
      obtain ⟨e1, e2, e3⟩ := hI
      dsimp only at e1 e2 ⊢
      subst e1
      unfold fX5_leastMoveFor_2
      by_cases c : i < 667
      · have c6 : ¬ (666 : Int32) < nI i := by rw [show (666 : Int32) = nI 666 from rfl, ev_lt (by omega) (by omega)]; omega
        obtain ⟨r, k1, k2⟩ := x_isMove (σ := s) (bf := bf) (sd := sd) (v := i) hoP.1 (by rw [e2 11 (by decide)]; exact hX) ho (by omega)
        obtain ⟨s2, j1, j2⟩ := x_eMove (σ := s) (bf := bf) (sd := sd) (v := i) (by rw [e2 3 (by decide)]; exact hP) hoP (by rw [e2 11 (by decide)]; exact hX) ho hB (by omega)
        have f2 : ∀ k, k ≠ 14 → s2 k = σ k := fun k hk => (j2 k hk).trans (e2 k hk)
        rw [if_neg c6, k1, ev_o1, j1, ev_o2, ev_nm, ev_nm, nI_1]
        by_cases c2 : r = 0
        · rw [if_pos c2]
          exact Or.inr ⟨c, _, rfl, rfl, e2, fun q => by have := k2 (e3 q); rw [c2] at this; exact absurd this (by decide)⟩
        · rw [if_neg c2]
          by_cases c3 : nI (hp_maj a.2.1 a.1) = x
          · rw [if_pos c3]
            have i0 := e3 c3
            subst i0
            exact Or.inl ⟨_, rfl, Or.inl ⟨c3, _, rfl, f2⟩⟩
          · rw [if_neg c3]
            exact Or.inr ⟨c, _, rfl, rfl, f2, fun q => absurd q c3⟩
      · have : i = 667 := by omega
        subst this
        rw [if_pos (by decide)]
        exact Or.inl ⟨_, rfl, Or.inr ⟨fun q => by have := e3 q; omega, _, rfl, e2⟩⟩)
    700 0 (0, σ) (by omega) (by omega) ⟨rfl, fun _ _ => rfl, fun _ => rfl⟩
  rw [he]
  rcases hQ with ⟨q, s, rfl, f⟩ | ⟨q, s, rfl, f⟩
  · rw [ev_oel, if_pos q]; exact ⟨_, rfl, f⟩
  · rw [ev_oei, ev_nm, if_neg q]; exact ⟨_, rfl, f⟩
