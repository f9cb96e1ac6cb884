theorem ev_oei {R E T : Type} {f : R → T} {e : E} {k : E → Option T} : hj_oe f (some (.inr e)) k = k e := rfl
theorem ev_oel {R E T : Type} {f : R → T} {r : R} {k : E → Option T} : hj_oe f (some (.inl r)) k = some (f r) := rfl
theorem lp_r {S E : Type} {b : S → Option (E ⊕ S)} {n : Nat} {s s' : S} (h : b s = some (.inr s')) : hj_lp b (n + 1) s = hj_lp b n s' := by
  show (match b s with | none => none | some (.inl e) => some e | some (.inr s') => hj_lp b n s') = _
  rw [h]
theorem lp_l {S E : Type} {b : S → Option (E ⊕ S)} {n : Nat} {s : S} {e : E} (h : b s = some (.inl e)) : hj_lp b (n + 1) s = some e := by
  show (match b s with | none => none | some (.inl e) => some e | some (.inr s') => hj_lp b n s') = _
  rw [h]
theorem x_pos {a b : Nat} (ha : a < 2 ^ 30) (hb : b < 2 ^ 30) : (0 < nI a - nI b) = (b < a) := by
  apply propext
  rw [Int32.lt_iff_toInt_lt, pk_sub_toInt ha hb]
  show (0 : Int) < _ ↔ _
  omega
theorem x_if01 {b : Bool} : ((if b = true then (1 : Int32) else 0) = 0) = (b = false) := by
  cases b <;> simp
theorem x_m111 {π ρ : hj_Ob} {j s v : Nat} (hj : j < 6) (hs : ρ.2 1 j = nI s) (h1 : s < 2 ^ 31) (h2 : v < 2 ^ 31) : fX2_mustGiveIn_111 π ρ (nI j) (nI v) = some (nI (if s ≤ v then 1 else 0)) := by
  unfold fX2_mustGiveIn_111
  rw [ev_ck hj (by decide), ev_cl (by omega), hs]
  simp only [ev_lt h2 h1]
  by_cases h : v < s
  · rw [if_pos h, if_neg (by omega)]; rfl
  · rw [if_neg h, if_pos (by omega)]; rfl
theorem x_m43 {π ρ : hj_Ob} {P : hp_P} {a : hp_R} {B j ag : Nat} (hP : hr_P π P) (hoP : hp_okP P) (hoR : hp_okR P.1 B a) (hX : hr_X P.1 ρ a) (hj : j < P.1) (hag : ag < 64) :
    fX2_mustGiveIn_43 π ρ (nI j) (nI ag) = some (nI (if hp_c (hp_n a.2.1 ag) < hp_c ag ∧ a.2.2.2.1 j ≤ a.2.2.2.2 j + (if P.2.2.1 j = 3 then 0 else (hp_c ag - hp_c (hp_n a.2.1 ag)) + 2 * hp_c (P.2.2.2 j &&& ag)) then 1 else 0)) := by
  have ht := hp_t64 hoP.1 hoR.2.1
  have hj6 : j < 6 := by have := hoP.1; omega
  have c1 := hp_c_le ag
  have c2 := hp_c_le (hp_n a.2.1 ag)
  have c3 := hp_c_le (P.2.2.2 j &&& ag)
  have hk := hoP.2.2 j hj
  have hr := hoR.2.2.2 j hj
  unfold fX2_mustGiveIn_43
  rw [hp_bc hag, ev_o1, hX.2.1, hp_not ht hag, hp_bc (hp_n_lt ht), ev_o1, ev_nm]
  simp only [x_pos (a := hp_c ag) (b := hp_c (hp_n a.2.1 ag)) (by omega) (by omega)]
  by_cases h : hp_c (hp_n a.2.1 ag) < hp_c ag
  · rw [if_pos h, ev_ck hj6 (by decide), ev_cl (by omega), (hX.2.2.2 j hj).2, ev_nm, ev_ck hj6 (by decide), (hP.2.2 j hj).1, pk_sub (by omega)]
    simp only [show (nI (P.2.2.1 j) = 3) = (P.2.2.1 j = 3) from ev_eq (b := 3) (by omega) (by omega)]
    by_cases h3 : P.2.2.1 j = 3
    · rw [if_pos h3, x_m111 hj6 (hX.2.2.2 j hj).1 (by omega) (by omega), if_pos h3]
      simp [h]
    · rw [if_neg h3, ev_ck hj6 (by decide), (hP.2.2 j hj).2, hp_and, hp_bc (hp_and_lt hk.2), ev_o1, ev_nm, show (2 : Int32) = nI 2 from rfl, pk_mul, nI_add, nI_add, x_m111 hj6 (hX.2.2.2 j hj).1 (by omega) (by omega), if_neg h3]
      simp [h]
  · rw [if_neg h, if_neg (by omega)]
    rfl
theorem x_must {π ρ : hj_Ob} {P : hp_P} {a : hp_R} {B j : Nat} (hP : hr_P π P) (hoP : hp_okP P) (hoR : hp_okR P.1 B a) (hX : hr_X P.1 ρ a) (hj : j < P.1) :
    fX2_mustGiveIn π ρ (nI j) = some (nI (if hp_mu P a j = true then 1 else 0)) := by
  have ht := hp_t64 hoP.1 hoR.2.1
  have hj6 : j < 6 := by have := hoP.1; omega
  unfold fX2_mustGiveIn hp_mu hp_ag
  rw [if_neg (ev_neg (by omega)), if_pos (by rw [show (6 : Int32) = nI 6 from rfl, ev_lt (by omega) (by omega)]; exact hj6), x_yes hX.1 hoR.1 hj6, ev_o1]
  rcases hp_b2 a.1 j with e | e
  · rw [e, if_pos (by rfl), hX.1, hX.2.1, hp_and, x_m43 hP hoP hoR hX hj (hp_and_lt ht)]
    simp
  · rw [e, if_neg (by decide), hX.1, hX.2.1, hp_not ht hoR.1, x_m43 hP hoP hoR hX hj (hp_n_lt ht)]
    simp
theorem x_hourb {π ρ : hj_Ob} {P : hp_P} {q : Nat × hp_R} {B i : Nat} (hP : hr_P π P) (hoP : hp_okP P) (hoR : hp_okR P.1 B q.2) (hX : hr_X P.1 ρ q.2) (hi : i < 6) :
    ∃ ρ', fX2_passHour_39 π ρ (nI q.1) (nI i) = some (.inr (nI (hp_st P i q).1, nI (i + 1), ρ')) ∧ hr_X P.1 ρ' (hp_st P i q).2 := by
  have ht := hp_t64 hoP.1 hoR.2.1
  unfold fX2_passHour_39 hp_st
  rw [if_neg (by rw [show (6 : Int32) = nI 6 from rfl, ev_le (by omega) (by omega)]; omega), x_there hX.2.1 ht hi, ev_o1, nI_1]
  rcases hp_b2 q.2.2.1 i with e | e
  · rw [e, if_pos (by rfl), ev_nm, if_neg (by omega)]
    exact ⟨ρ, rfl, hX⟩
  · have hin : i < P.1 := hp_bn hoR.2.1 e
    rw [e, if_neg (by decide), x_must hP hoP hoR hX hin, ev_o1]
    cases hm : hp_mu P q.2 i with
    | false =>
      rw [if_pos (by rfl), ev_nm, if_neg (by simp)]
      exact ⟨ρ, rfl, hX⟩
    | true =>
      rw [if_neg (by decide), ev_nm, ev_nm, ev_nm, if_pos (by simp), hp_pw (by omega), hX.1, hp_xor, hp_or]
      exact ⟨_, rfl, rfl, hX.2.1, hX.2.2.1, hX.2.2.2⟩
theorem x_hour {π ρ : hj_Ob} {P : hp_P} {a : hp_R} {B : Nat} (hP : hr_P π P) (hoP : hp_okP P) (hoR : hp_okR P.1 B a) (hB : B < 2 ^ 29) (hX : hr_X P.1 ρ a) :
    ∃ ρ', fX2_passHour π ρ = some (nI (hp_h P a).1, ρ') ∧ hr_X P.1 ρ' (hp_h P a).2 := by
  have ht := hp_t64 hoP.1 hoR.2.1
  have hX1 : hr_X P.1 (hj_s ρ 5 (ρ.1 5 + 1)) (hp_in a) := ⟨hX.1, hX.2.1, by rw [ev_s1, if_pos rfl, hX.2.2.1, nI_1]; rfl, hX.2.2.2⟩
  unfold fX2_passHour hp_h
  rw [x_verdict hP.2.1 (by have := hoP.2.1; omega) hX.2.1 hX.1 ht hoR.1, ev_o1]
  by_cases h9 : hp_v P.2.1 a.2.1 a.1 = 9
  · rw [h9, if_pos (by rfl), if_pos rfl]
    unfold fX2_passHour_14
    rw [ev_nm, if_pos (by rfl)]
    obtain ⟨ρ2, h2, hX2⟩ := x_grow hP hoP (hp_okR_in hoR) (by omega) hX1
    rw [h2, ev_o1]
    have ho2 := hp_okR_gr (P := P) (hp_okR_in hoR)
    obtain ⟨e, he, h3, h4⟩ := lp_h (b := fun q : (Int32 × Int32 × hj_Ob) => fX2_passHour_39 π q.2.2 q.1 q.2.1) (fun i q => q.2.1 = nI i ∧ q.1 = nI (hp_fo P i (0, hp_gr P (hp_in a))).1 ∧ hr_X P.1 q.2.2 (hp_fo P i (0, hp_gr P (hp_in a))).2)
      (fun e => e.1 = nI (hp_fo P 6 (0, hp_gr P (hp_in a))).1 ∧ hr_X P.1 e.2 (hp_fo P 6 (0, hp_gr P (hp_in a))).2) 6
      (fun i q hi hI => by
        obtain ⟨x, z, r⟩ := q
        obtain ⟨h1, h2, h3⟩ := hI
        dsimp only at h1 h2 h3 ⊢
        subst h1 h2
        by_cases h6 : i < 6
        · obtain ⟨ρ', k1, k2⟩ := x_hourb hP hoP (hp_okR_fo (by omega) ho2 (by show 0 < 64; decide)) h3 h6
          exact Or.inr ⟨h6, _, k1, rfl, rfl, k2⟩
        · have : i = 6 := by omega
          subst this
          refine Or.inl ⟨(_, r), ?_, rfl, h3⟩
          unfold fX2_passHour_39
          rw [if_pos (by decide)]
          rfl)
      100 0 (0, 0, ρ2) (by omega) (by omega) ⟨rfl, rfl, hX2⟩
    obtain ⟨e1, e2⟩ := e
    rw [he, ev_o2]
    dsimp only at h3 h4
    rw [h3]
    exact ⟨e2, rfl, h4⟩
  · have h9' : ¬ nI (hp_v P.2.1 a.2.1 a.1) = 9 := by
      rcases hp_v3 P.2.1 a.2.1 a.1 with e | e | e
      · rw [e]; decide
      · rw [e]; decide
      · exact absurd e h9
    rw [if_neg h9', if_neg h9]
    unfold fX2_passHour_14
    rw [ev_nm, if_neg (by decide)]
    exact ⟨_, rfl, hX1⟩
/-! hours till there is a verdict -/
def hp_vr (P : hp_P) (a : hp_R) : Nat := hp_v P.2.1 a.2.1 a.1
def hp_e (P : hp_P) : Nat → hp_R → Option (Nat × Nat)
  | 0, a => if hp_vr P a = 9 then none else some (0, hp_vr P a)
  | k + 1, a => if hp_vr P a = 9 then (hp_e P k (hp_h P a).2).map (fun q => (q.1 + 1, q.2)) else some (0, hp_vr P a)
def hp_eh (o : Option (Nat × Nat)) : Int32 := match o with | none => -9 | some q => nI q.1
def hp_ev (o : Option (Nat × Nat)) : Nat := match o with | none => 9 | some q => q.2
theorem x_vr {π ρ : hj_Ob} {P : hp_P} {a : hp_R} {B : Nat} (hP : hr_P π P) (hoP : hp_okP P) (hoR : hp_okR P.1 B a) (hX : hr_X P.1 ρ a) : fX2_verdict π ρ = some (nI (hp_vr P a)) :=
  x_verdict hP.2.1 (by have := hoP.2.1; omega) hX.2.1 hX.1 (hp_t64 hoP.1 hoR.2.1) hoR.1
theorem hp_vr9 {P : hp_P} {a : hp_R} : (nI (hp_vr P a) = 9) = (hp_vr P a = 9) := by
  have := hp_v3 P.2.1 a.2.1 a.1
  unfold hp_vr
  exact ev_eq (b := 9) (by omega) (by omega)
theorem hp_e_lt (P : hp_P) : ∀ (k : Nat) (a : hp_R) (q : Nat × Nat), hp_e P k a = some q → q.1 ≤ k ∧ (q.2 = 0 ∨ q.2 = 1)
  | 0, a, q, h => by
    unfold hp_e at h
    split at h
    · cases h
    · cases h
      have := hp_v3 P.2.1 a.2.1 a.1
      refine ⟨Nat.le_refl _, ?_⟩
      show hp_vr P a = 0 ∨ hp_vr P a = 1
      unfold hp_vr at *
      omega
  | k + 1, a, q, h => by
    unfold hp_e at h
    split at h
    · cases h2 : hp_e P k (hp_h P a).2 with
      | none => rw [h2] at h; cases h
      | some r =>
        rw [h2] at h
        cases h
        have := hp_e_lt P k _ r h2
        exact ⟨by show r.1 + 1 ≤ k + 1; omega, this.2⟩
    · cases h
      have := hp_v3 P.2.1 a.2.1 a.1
      refine ⟨Nat.zero_le _, ?_⟩
      show hp_vr P a = 0 ∨ hp_vr P a = 1
      unfold hp_vr at *
      omega
theorem x_endl {π : hj_Ob} {P : hp_P} (hP : hr_P π P) (hoP : hp_okP P) : ∀ (k i fu B : Nat) (ρ : hj_Ob) (a : hp_R), i + k = 20 → k < fu → B + k < 2 ^ 29 → hp_okR P.1 B a → hr_X P.1 ρ a →
    (∃ r ρ' a', hj_lp (fun q : (Int32 × hj_Ob) => fX2_passHoursToEnd_2 π q.2 q.1) fu (nI i, ρ) = some (.inl (nI (i + r), ρ')) ∧ hr_X P.1 ρ' a' ∧ hp_okR P.1 (B + k) a' ∧ hp_vr P a' ≠ 9 ∧ hp_e P k a = some (r, hp_vr P a')) ∨
    (∃ ρ' a', hj_lp (fun q : (Int32 × hj_Ob) => fX2_passHoursToEnd_2 π q.2 q.1) fu (nI i, ρ) = some (.inr ρ') ∧ hr_X P.1 ρ' a' ∧ hp_okR P.1 (B + k) a' ∧ hp_e P k a = (if hp_vr P a' = 9 then none else some (k, hp_vr P a')))
  | 0, i, fu + 1, B, ρ, a, hi, _, _, ho, hX => by
    have : i = 20 := by omega
    subst this
    refine Or.inr ⟨ρ, a, ?_, hX, ho, rfl⟩
    rw [lp_l]
    dsimp only
    unfold fX2_passHoursToEnd_2
    rw [if_pos (by decide)]
  | k + 1, i, fu + 1, B, ρ, a, hi, hf, hB, ho, hX => by
    have hv := x_vr hP hoP ho hX
    by_cases h9 : hp_vr P a = 9
    · obtain ⟨ρ1, h1, hX1⟩ := x_hour hP hoP ho (by omega) hX
      have hb : fX2_passHoursToEnd_2 π ρ (nI i) = some (.inr (nI (i + 1), ρ1)) := by
        unfold fX2_passHoursToEnd_2
        rw [if_neg (by rw [show (20 : Int32) = nI 20 from rfl, ev_le (by omega) (by omega)]; omega), hv, ev_o1, if_pos (by rw [hp_vr9]; exact h9), h1, ev_o2, ev_nm, nI_1]
      rw [lp_r (b := fun q : (Int32 × hj_Ob) => fX2_passHoursToEnd_2 π q.2 q.1) hb]
      have he : hp_e P (k + 1) a = (hp_e P k (hp_h P a).2).map (fun q => (q.1 + 1, q.2)) := by
        show (if hp_vr P a = 9 then _ else _) = _
        rw [if_pos h9]
      rw [he]
      rcases x_endl hP hoP k (i + 1) fu (B + 1) ρ1 (hp_h P a).2 (by omega) (by omega) (by omega) (hp_okR_h ho) hX1 with ⟨r, ρ', a', q1, q2, q3, q4, q5⟩ | ⟨ρ', a', q1, q2, q3, q4⟩
      · refine Or.inl ⟨r + 1, ρ', a', ?_, q2, by rw [show B + (k + 1) = B + 1 + k by omega]; exact q3, q4, by rw [q5]; rfl⟩
        rw [q1, show i + 1 + r = i + (r + 1) by omega]
      · refine Or.inr ⟨ρ', a', q1, q2, by rw [show B + (k + 1) = B + 1 + k by omega]; exact q3, ?_⟩
        rw [q4]
        split <;> rfl
    · refine Or.inl ⟨0, ρ, a, ?_, hX, ⟨ho.1, ho.2.1, by have := ho.2.2.1; omega, ho.2.2.2⟩, h9, ?_⟩
      · rw [lp_l]
        dsimp only
        unfold fX2_passHoursToEnd_2
        rw [if_neg (by rw [show (20 : Int32) = nI 20 from rfl, ev_le (by omega) (by omega)]; omega), hv, ev_o1, if_neg (by rw [hp_vr9]; exact h9)]
        rfl
      · show (if hp_vr P a = 9 then _ else _) = _
        rw [if_neg h9]
theorem x_end {π ρ : hj_Ob} {P : hp_P} {a : hp_R} {B : Nat} (hP : hr_P π P) (hoP : hp_okP P) (ho : hp_okR P.1 B a) (hB : B < 2 ^ 28) (hX : hr_X P.1 ρ a) :
    ∃ ρ' a', fX2_passHoursToEnd π ρ = some (hp_eh (hp_e P 20 a), ρ') ∧ hr_X P.1 ρ' a' ∧ hp_okR P.1 (B + 20) a' ∧ hp_vr P a' = hp_ev (hp_e P 20 a) := by
  unfold fX2_passHoursToEnd
  rcases x_endl hP hoP 20 0 100 B ρ a rfl (by omega) (by omega) ho hX with ⟨r, ρ', a', q1, q2, q3, q4, q5⟩ | ⟨ρ', a', q1, q2, q3, q4⟩
  · refine ⟨ρ', a', ?_, q2, q3, by rw [q5]; rfl⟩
    rw [show (0 : Int32) = nI 0 from rfl, q1, q5, Nat.zero_add, ev_oel]
    rfl
  · refine ⟨ρ', a', ?_, q2, q3, ?_⟩
    · rw [show (0 : Int32) = nI 0 from rfl, q1, q4, ev_oei, ev_nm, x_vr hP hoP q3 q2, ev_o1]
      by_cases h9 : hp_vr P a' = 9
      · rw [if_pos (by rw [hp_vr9]; exact h9), if_pos h9]
        rfl
      · rw [if_neg (by rw [hp_vr9]; exact h9), if_neg h9]
        rfl
    · rw [q4]
      by_cases h9 : hp_vr P a' = 9
      · rw [if_pos h9, h9]; rfl
      · rw [if_neg h9]; rfl
