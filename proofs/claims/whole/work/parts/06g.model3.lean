/-! ranges, jurors, trial levels, their ends -/
theorem in_l (X A B : Int64) : fX6_in X A B = some (if A ≤ X ∧ X ≤ B then 1 else 0) := by
  have hc : ∀ x y : Int64, (lg_cmp x y < 0 ↔ x < y) ∧ (0 < lg_cmp x y ↔ y < x) := by
    intro x y
    unfold lg_cmp
    by_cases h1 : x > y
    · rw [if_pos h1]
      have : ¬ x < y := fun q => by rw [Int64.lt_iff_toInt_lt] at q; have h2 := Int64.lt_iff_toInt_lt.mp h1; omega
      exact ⟨⟨fun q => absurd q (by decide), fun q => absurd q this⟩, ⟨fun _ => h1, fun _ => by decide⟩⟩
    · rw [if_neg h1]
      by_cases h2 : x = y
      · subst h2
        rw [if_pos rfl]
        exact ⟨⟨fun q => absurd q (by decide), fun q => absurd q h1⟩, ⟨fun q => absurd q (by decide), fun q => absurd q h1⟩⟩
      · rw [if_neg h2]
        have : x < y := by
          rw [Int64.lt_iff_toInt_lt]
          have k1 : ¬ y.toInt < x.toInt := fun q => h1 (Int64.lt_iff_toInt_lt.mpr q)
          have k2 : ¬ x.toInt = y.toInt := fun q => h2 (Int64.toInt_inj.mp q)
          omega
        exact ⟨⟨fun _ => this, fun _ => by decide⟩, ⟨fun q => absurd q (by decide), fun q => absurd q h1⟩⟩
  unfold fX6_in
  simp only [(hc _ _).1, (hc _ _).2]
  have e1 : (A ≤ X) ↔ ¬ X < A := by rw [Int64.le_iff_toInt_le, Int64.lt_iff_toInt_lt]; omega
  have e2 : (X ≤ B) ↔ ¬ B < X := by rw [Int64.le_iff_toInt_le, Int64.lt_iff_toInt_lt]; omega
  by_cases h1 : X < A
  · rw [if_pos h1, if_neg (fun q => (e1.mp q.1) h1)]
  · rw [if_neg h1]
    by_cases h2 : B < X
    · rw [if_pos h2, if_neg (fun q => (e2.mp q.2) h2)]
    · rw [if_neg h2, if_pos ⟨e1.mpr h1, e2.mpr h2⟩]
theorem in_i {x : Int32} {A B : Int64} {l h : Int} (hA : A.toInt = l) (hB : B.toInt = h) : fX6_in x.toInt64 A B = some (if l ≤ x.toInt ∧ x.toInt ≤ h then 1 else 0) := by
  rw [in_l]
  have e1 : (A ≤ x.toInt64) = (l ≤ x.toInt) := by rw [Int64.le_iff_toInt_le, hA, Int32.toInt_toInt64]
  have e2 : (x.toInt64 ≤ B) = (x.toInt ≤ h) := by rw [Int64.le_iff_toInt_le, hB, Int32.toInt_toInt64]
  simp only [e1, e2]
theorem in_t {j : Nat} {A B : Int64} {l h : Int} (hj : j < 2 ^ 31) (hA : A.toInt = l) (hB : B.toInt = h) (h1 : l ≤ j) (h2 : (j : Int) ≤ h) : fX6_in (nI j).toInt64 A B = some 1 := by
  rw [in_i hA hB, nI_toInt hj, if_pos ⟨h1, h2⟩]
theorem in_f {x : Int32} {A B : Int64} {l h : Int} (hA : A.toInt = l) (hB : B.toInt = h) (hx : x.toInt < l ∨ h < x.toInt) : fX6_in x.toInt64 A B = some 0 := by
  rw [in_i hA hB, if_neg (by omega)]
theorem ti_neg {x : Int32} (h : x < 0) : x.toInt < 0 := Int32.lt_iff_toInt_lt.mp h
theorem ti_ge {x : Int32} {n : Nat} (hn : n < 2 ^ 31) (h : nI n ≤ x) : (n : Int) ≤ x.toInt := by
  have := Int32.le_iff_toInt_le.mp h
  rw [nI_toInt hn] at this
  exact this
theorem m_jp {n : Nat} (hn : n ≤ 6) : (nI n - 1).toInt64.toInt = (n : Int) - 1 := by
  rw [Int32.toInt_toInt64]
  exact pk_sub_toInt (a := n) (b := 1) (by omega) (by omega)
theorem m_jur {τ : hj_Ob} {sd : Int64} {n j : Nat} (hn : τ.1 0 = nI n) (h6 : n ≤ 6) (hj : j < n) : fX6_isJuror τ sd (nI j) = some 1 := by
  unfold fX6_isJuror
  rw [hn, in_t (l := 0) (by omega) rfl (m_jp h6) (by omega) (by omega), ev_o1]
  rfl
theorem m_njur {τ : hj_Ob} {sd : Int64} {n : Nat} {x : Int32} (hn : τ.1 0 = nI n) (h6 : n ≤ 6) (hx : x < 0 ∨ nI n ≤ x) : fX6_isJuror τ sd x = some 0 := by
  unfold fX6_isJuror
  rw [hn, in_f (l := 0) rfl (m_jp h6) (by
    rcases hx with h | h
    · exact Or.inl (ti_neg h)
    · have := ti_ge (by omega) h; omega), ev_o1]
  rfl
theorem x_jur {σ : Nat → hj_Ob} {bf : Nat → Nat} {sd : Int64} {n j : Nat} (hn : (σ 3).1 3 = nI n) (h6 : n ≤ 6) (hj : j < n) : fX5_isJuror σ bf sd (nI j) = some 1 := by
  unfold fX5_isJuror
  rw [hn, if_neg (ev_neg (by omega)), if_neg (by rw [ev_le (by omega) (by omega)]; omega), if_neg (by rw [show (6 : Int32) = nI 6 from rfl, ev_le (by omega) (by omega)]; omega)]
theorem x_njur {σ : Nat → hj_Ob} {bf : Nat → Nat} {sd : Int64} {n : Nat} {x : Int32} (hn : (σ 3).1 3 = nI n) (hx : x < 0 ∨ nI n ≤ x) : fX5_isJuror σ bf sd x = some 0 := by
  unfold fX5_isJuror
  rw [hn]
  by_cases h : x < 0
  · rw [if_pos h]
  · rw [if_neg h, if_pos (by rcases hx with h' | h'; exact absurd h' h; exact h')]
def hr_T (τ τ' : hj_Ob) : Prop := (∀ k, k ≠ 16 → τ'.1 k = τ.1 k) ∧ (∀ k, k ≠ 4 → τ'.2 k = τ.2 k) ∧ ∀ i, i < 15 → τ'.2 4 i = τ.2 4 i
theorem hr_T_rf {τ : hj_Ob} : hr_T τ τ := ⟨fun _ _ => rfl, fun _ _ => rfl, fun _ _ => rfl⟩
theorem hr_T_tr {τ τ' τ'' : hj_Ob} (h : hr_T τ τ') (h' : hr_T τ' τ'') : hr_T τ τ'' := ⟨fun k hk => (h'.1 k hk).trans (h.1 k hk), fun k hk => (h'.2.1 k hk).trans (h.2.1 k hk), fun i hi => (h'.2.2 i hi).trans (h.2.2 i hi)⟩
theorem hr_T_F {τ τ' : hj_Ob} (h : hr_F 1 τ τ') : hr_T τ τ' := ⟨fun k _ => by rw [h.1], h.2.1, fun i hi => h.2.2 i (by omega)⟩
theorem hr_T_P {τ τ' : hj_Ob} {P : hp_P} (h : hr_T τ τ') (hP : hr_MP τ P) : hr_MP τ' P := by
  unfold hr_MP
  rw [h.1 0 (by decide), h.1 1 (by decide), h.2.1 2 (by decide), h.2.1 3 (by decide)]
  exact hP
theorem hr_T_M {n : Nat} {τ τ' : hj_Ob} {a : hp_R} (h : hr_T τ τ') (hn : n ≤ 6) (hM : hr_M n 0 τ a) : hr_M n 0 τ' a := by
  unfold hr_M
  rw [h.2.2 (15 * 0) (by omega), h.2.2 (15 * 0 + 1) (by omega), h.2.2 (15 * 0 + 2) (by omega)]
  refine ⟨hM.1, hM.2.1, hM.2.2.1, fun j hj => ?_⟩
  rw [h.2.2 (15 * 0 + 3 + j) (by omega), h.2.2 (15 * 0 + 9 + j) (by omega)]
  exact hM.2.2.2 j hj
theorem m_lay {τ : hj_Ob} {sd : Int64} {n : Nat} {a : hp_R} (hn : n ≤ 6) (hM : hr_M n 0 τ a) : ∃ τ', fX6_layTrial τ sd = some τ' ∧ hr_M n 1 τ' a ∧ hr_T τ τ' := by
  unfold fX6_layTrial
  obtain ⟨e, he, h1, h2⟩ := lp_h (b := fun q : (Int32 × hj_Ob) => fX6_layTrial_2 q.2 sd q.1) (fun i q => q.1 = nI i ∧ hr_F 1 τ q.2 ∧ ∀ k, k < i → q.2.2 4 (15 + k) = τ.2 4 k)
    (fun τ' => hr_F 1 τ τ' ∧ ∀ k, k < 15 → τ'.2 4 (15 + k) = τ.2 4 k) 15
    (fun i q hi hI => by
      obtain ⟨x, r⟩ := q
      obtain ⟨h1, h2, h3⟩ := hI
      dsimp only at h1 h2 h3 ⊢
      subst h1
      unfold fX6_layTrial_2
      by_cases h6 : i < 15
      · rw [if_neg (by rw [show (15 : Int32) = nI 15 from rfl, ev_le (by omega) (by omega)]; omega), ev_ck (by omega) (by decide), show (15 : Int32) = nI 15 from rfl, nI_add, ev_ck (by omega) (by decide), ev_nm, ev_nm, ev_cl (by omega), nI_1]
        refine Or.inr ⟨h6, _, rfl, rfl, hr_F_tr h2 (hr_F_a (by omega) (by omega) (by omega)), fun k hk => ?_⟩
        rw [m_a4 (by omega)]
        by_cases hki : k = i
        · subst hki
          rw [if_pos rfl, h2.2.2 k (by omega)]
        · rw [if_neg (by omega)]
          exact h3 k (by omega)
      · have : i = 15 := by omega
        subst this
        rw [if_pos (by decide)]
        exact Or.inl ⟨r, rfl, h2, h3⟩)
    100 0 (0, τ) (by omega) (by omega) ⟨rfl, hr_F_rf, fun k hk => by omega⟩
  rw [he, ev_o1]
  refine ⟨e, rfl, ⟨?_, ?_, ?_, fun j hj => ⟨?_, ?_⟩⟩, hr_T_F h1⟩
  · exact (h2 0 (by omega)).trans hM.1
  · exact (h2 1 (by omega)).trans hM.2.1
  · exact (h2 2 (by omega)).trans hM.2.2.1
  · have := (h2 (3 + j) (by omega)).trans ((congrArg (τ.2 4) (by omega)).trans (hM.2.2.2 j hj).1)
    rw [← this]
    exact congrArg (e.2 4) (by omega)
  · have := (h2 (9 + j) (by omega)).trans ((congrArg (τ.2 4) (by omega)).trans (hM.2.2.2 j hj).2)
    rw [← this]
    exact congrArg (e.2 4) (by omega)
theorem m_vr {τ : hj_Ob} {sd : Int64} {P : hp_P} {a : hp_R} {L B : Nat} (hL : L < 2) (hP : hr_MP τ P) (hoP : hp_okP P) (ho : hp_okR P.1 B a) (hM : hr_M P.1 L τ a) : fX6_verdict τ sd (nI L) = some (nI (hp_vr P a)) :=
  m_verdict hL hP.2.1 (by have := hoP.2.1; omega) hM.2.1 hM.1 (hp_t64 hoP.1 ho.2.1) ho.1
theorem hr_T_s {τ : hj_Ob} {v : Int32} : hr_T τ (hj_s τ 16 v) := ⟨fun k hk => by rw [ev_s1, if_neg hk], fun _ _ => rfl, fun _ _ => rfl⟩
theorem hr_M_s {n L k : Nat} {τ : hj_Ob} {v : Int32} {a : hp_R} (h : hr_M n L τ a) : hr_M n L (hj_s τ k v) a := h
theorem m_runl {P : hp_P} {sd : Int64} (hoP : hp_okP P) : ∀ (k i fu B : Nat) (τ : hj_Ob) (a : hp_R), i + k = 20 → k + 1 < fu → B + k < 2 ^ 28 → hr_MP τ P → hp_okR P.1 B a → hr_M P.1 1 τ a →
    (∃ r τ', hj_lp (fun q : (Int32 × hj_Ob) => fX6_runTrial_2 q.2 sd q.1) fu (nI i, τ) = some (.inl (nI (hp_ev (hp_e P k a)), τ')) ∧ hp_e P k a = some (r, hp_ev (hp_e P k a)) ∧ τ'.1 16 = nI (i + r) ∧ hr_T τ τ') ∨
    (∃ τ', hj_lp (fun q : (Int32 × hj_Ob) => fX6_runTrial_2 q.2 sd q.1) fu (nI i, τ) = some (.inr τ') ∧ hp_e P k a = none ∧ hr_T τ τ')
  | 0, i, fu + 2, B, τ, a, hi, _, hB, hP, ho, hM => by
    have : i = 20 := by omega
    subst this
    have hv := m_vr (sd := sd) (L := 1) (by omega) hP hoP ho hM
    have he : hp_e P 0 a = (if hp_vr P a = 9 then none else some (0, hp_vr P a)) := rfl
    by_cases h9 : hp_vr P a = 9
    · obtain ⟨τ1, h1, hM1, hF1⟩ := m_hour (sd := sd) (L := 1) (by omega) hP hoP ho (by omega) hM
      refine Or.inr ⟨τ1, ?_, by rw [he, if_pos h9], hr_T_F hF1⟩
      have hb : fX6_runTrial_2 τ sd (nI 20) = some (.inr (nI 21, τ1)) := by
        unfold fX6_runTrial_2
        rw [if_neg (by decide)]
        show hj_o1 (fX6_verdict τ sd (nI 1)) _ = _
        rw [hv, ev_o1, if_pos (by rw [hp_vr9]; exact h9)]
        show hj_o2 (fX6_passOn τ sd (nI 1)) _ = _
        rw [h1, ev_o2, ev_nm]
        rfl
      rw [lp_r (b := fun q : (Int32 × hj_Ob) => fX6_runTrial_2 q.2 sd q.1) hb, lp_l]
      show fX6_runTrial_2 τ1 sd (nI 21) = _
      unfold fX6_runTrial_2
      rw [if_pos (by decide)]
    · refine Or.inl ⟨0, hj_s τ 16 (nI 20), ?_, by rw [he, if_neg h9]; rfl, by rw [ev_s1, if_pos rfl], hr_T_s⟩
      rw [lp_l]
      show fX6_runTrial_2 τ sd (nI 20) = _
      unfold fX6_runTrial_2
      rw [if_neg (by decide)]
      show hj_o1 (fX6_verdict τ sd (nI 1)) _ = _
      rw [hv, ev_o1, if_neg (by rw [hp_vr9]; exact h9), ev_nm]
      show hj_o1 (fX6_verdict (hj_s τ 16 (nI 20)) sd (nI 1)) _ = _
      rw [m_vr (sd := sd) (L := 1) (by omega) (hr_T_P hr_T_s hP) hoP ho (hr_M_s hM), ev_o1, he, if_neg h9]
      rfl
  | k + 1, i, fu + 1, B, τ, a, hi, hf, hB, hP, ho, hM => by
    have hv := m_vr (sd := sd) (L := 1) (by omega) hP hoP ho hM
    have he : hp_e P (k + 1) a = (if hp_vr P a = 9 then (hp_e P k (hp_h P a).2).map (fun q => (q.1 + 1, q.2)) else some (0, hp_vr P a)) := rfl
    have hi20 : ¬ (20 : Int32) < nI i := by rw [show (20 : Int32) = nI 20 from rfl, ev_lt (by omega) (by omega)]; omega
    by_cases h9 : hp_vr P a = 9
    · obtain ⟨τ1, h1, hM1, hF1⟩ := m_hour (sd := sd) (L := 1) (by omega) hP hoP ho (by omega) hM
      have hb : fX6_runTrial_2 τ sd (nI i) = some (.inr (nI (i + 1), τ1)) := by
        unfold fX6_runTrial_2
        rw [if_neg hi20]
        show hj_o1 (fX6_verdict τ sd (nI 1)) _ = _
        rw [hv, ev_o1, if_pos (by rw [hp_vr9]; exact h9)]
        show hj_o2 (fX6_passOn τ sd (nI 1)) _ = _
        rw [h1, ev_o2, ev_nm, nI_1]
      rw [lp_r (b := fun q : (Int32 × hj_Ob) => fX6_runTrial_2 q.2 sd q.1) hb, he, if_pos h9]
      rcases m_runl hoP k (i + 1) fu (B + 1) τ1 (hp_h P a).2 (by omega) (by omega) (by omega) (hr_F_P hF1 hP) (hp_okR_h ho) hM1 with ⟨r, τ', q1, q2, q3, q4⟩ | ⟨τ', q1, q2, q3⟩
      · refine Or.inl ⟨r + 1, τ', ?_, ?_, by rw [q3, show i + 1 + r = i + (r + 1) by omega], hr_T_tr (hr_T_F hF1) q4⟩
        · rw [q1]
          cases hee : hp_e P k (hp_h P a).2 with
          | none => rw [hee] at q2; cases q2
          | some z => rfl
        · cases hee : hp_e P k (hp_h P a).2 with
          | none => rw [hee] at q2; cases q2
          | some z =>
            rw [hee] at q2
            have h := congrArg Prod.fst (Option.some.inj q2)
            dsimp only at h
            rw [← h]
            rfl
      · exact Or.inr ⟨τ', q1, by rw [q2]; rfl, hr_T_tr (hr_T_F hF1) q3⟩
    · refine Or.inl ⟨0, hj_s τ 16 (nI i), ?_, by rw [he, if_neg h9]; rfl, by rw [ev_s1, if_pos rfl]; rfl, hr_T_s⟩
      rw [lp_l]
      show fX6_runTrial_2 τ sd (nI i) = _
      unfold fX6_runTrial_2
      rw [if_neg hi20]
      show hj_o1 (fX6_verdict τ sd (nI 1)) _ = _
      rw [hv, ev_o1, if_neg (by rw [hp_vr9]; exact h9), ev_nm]
      show hj_o1 (fX6_verdict (hj_s τ 16 (nI i)) sd (nI 1)) _ = _
      rw [m_vr (sd := sd) (L := 1) (by omega) (hr_T_P hr_T_s hP) hoP ho (hr_M_s hM), ev_o1, he, if_neg h9]
      rfl
theorem m_run {τ : hj_Ob} {sd : Int64} {P : hp_P} {a : hp_R} {B : Nat} (hP : hr_MP τ P) (hoP : hp_okP P) (ho : hp_okR P.1 B a) (hB : B < 2 ^ 27) (hM : hr_M P.1 1 τ a) :
    ∃ τ', fX6_runTrial τ sd = some (nI (hp_ev (hp_e P 20 a)), τ') ∧ τ'.1 16 = hp_eh (hp_e P 20 a) ∧ hr_T τ τ' := by
  unfold fX6_runTrial
  rcases m_runl (sd := sd) hoP 20 0 100 B τ a rfl (by omega) (by omega) hP ho hM with ⟨r, τ', q1, q2, q3, q4⟩ | ⟨τ', q1, q2, q3⟩
  · rw [show (0 : Int32) = nI 0 from rfl, q1, ev_oel]
    refine ⟨τ', rfl, ?_, q4⟩
    rw [q3, q2, Nat.zero_add]
    rfl
  · rw [show (0 : Int32) = nI 0 from rfl, q1, ev_oei, ev_nm, ev_nm, q2]
    exact ⟨_, rfl, by rw [ev_s1, if_pos rfl]; rfl, hr_T_tr q3 hr_T_s⟩
