/-! calls that try: two loops side by side -/
theorem lp_2 {S E S' E' : Type} {b : S → Option (E ⊕ S)} {b' : S' → Option (E' ⊕ S')} (I : Nat → S → S' → Prop) (Q : E → E' → Prop) (N : Nat)
    (h : ∀ i s s', i ≤ N → I i s s' → (∃ e e', b s = some (.inl e) ∧ b' s' = some (.inl e') ∧ Q e e') ∨ (i < N ∧ ∃ t t', b s = some (.inr t) ∧ b' s' = some (.inr t') ∧ I (i + 1) t t')) :
    ∀ (fu fu' i : Nat) (s : S) (s' : S'), i ≤ N → N - i < fu → N - i < fu' → I i s s' → ∃ e e', hj_lp b fu s = some e ∧ hj_lp b' fu' s' = some e' ∧ Q e e' := by
  intro fu
  induction fu with
  | zero => intro fu' i s s' _ h2 _ _; omega
  | succ fu ih =>
    intro fu' i s s' h1 h2 h2' h3
    cases fu' with
    | zero => omega
    | succ fu' =>
      rcases h i s s' h1 h3 with ⟨e, e', he, he', hp⟩ | ⟨hl, t, t', ht, ht', hI⟩
      · exact ⟨e, e', lp_l he, lp_l he', hp⟩
      · obtain ⟨e, e', he, he', hp⟩ := ih fu' (i + 1) t t' hl (by omega) (by omega) hI
        exact ⟨e, e', by rw [lp_r ht]; exact he, by rw [lp_r ht']; exact he', hp⟩
def lb (B : Nat) (P : hp_P) (a : hp_R) (σ : Nat → hj_Ob) (bf : Nat → Nat) (τ : hj_Ob) : Prop := ∃ tx hi sl se, lx σ bf tx P a hi sl se ∧ lm τ tx P a hi sl se ∧ lo B tx P a hi sl se
theorem lb_r {B : Nat} {P : hp_P} {a : hp_R} {σ : Nat → hj_Ob} {bf : Nat → Nat} {τ : hj_Ob} (h : lb B P a σ bf τ) : lr B σ bf τ := by
  obtain ⟨tx, hi, sl, se, h⟩ := h
  exact ⟨tx, P, a, hi, sl, se, h⟩
theorem lr_b {B : Nat} {σ : Nat → hj_Ob} {bf : Nat → Nat} {τ : hj_Ob} (h : lr B σ bf τ) : ∃ P a, lb B P a σ bf τ := by
  obtain ⟨tx, P, a, hi, sl, se, h⟩ := h
  exact ⟨P, a, tx, hi, sl, se, h⟩
theorem lb_x {B : Nat} {P : hp_P} {a : hp_R} {σ : Nat → hj_Ob} {bf : Nat → Nat} {τ : hj_Ob} (h : lb B P a σ bf τ) : hr_P (σ 3) P ∧ hr_X P.1 (σ 11) a ∧ hp_okP P ∧ hp_okR P.1 B a := by
  obtain ⟨tx, hi, sl, se, h1, h2, h3⟩ := h
  exact ⟨h1.2.1, h1.2.2.1, h3.2.1, h3.2.2.1⟩
theorem lb_m {B : Nat} {P : hp_P} {a : hp_R} {σ : Nat → hj_Ob} {bf : Nat → Nat} {τ : hj_Ob} (h : lb B P a σ bf τ) : hr_MP τ P ∧ hr_M P.1 0 τ a := by
  obtain ⟨tx, hi, sl, se, h1, h2, h3⟩ := h
  exact ⟨h2.2.1, h2.2.2.1⟩
theorem lb_t {B : Nat} {P : hp_P} {a : hp_R} {σ : Nat → hj_Ob} {bf : Nat → Nat} {τ τ' : hj_Ob} {ρ : hj_Ob} (h : lb B P a σ bf τ) (hT : hr_T τ τ') : lb B P a (va_up σ 14 ρ) bf τ' := by
  obtain ⟨tx, hi, sl, se, h1, h2, h3⟩ := h
  exact ⟨tx, hi, sl, se, lx_tr h1 h3.2.2.2.1.1, lm_T h2 h3.2.1.1 hT, h3⟩
theorem lb_tm {B : Nat} {P : hp_P} {a : hp_R} {σ : Nat → hj_Ob} {bf : Nat → Nat} {τ τ' : hj_Ob} (h : lb B P a σ bf τ) (hT : hr_T τ τ') : lb B P a σ bf τ' := by
  obtain ⟨tx, hi, sl, se, h1, h2, h3⟩ := h
  exact ⟨tx, hi, sl, se, h1, lm_T h2 h3.2.1.1 hT, h3⟩
def lt (n B : Nat) (σ : Nat → hj_Ob) (τ : hj_Ob) (b : hp_R) : Prop := hr_X n (σ 14) b ∧ hr_M n 1 τ b ∧ hp_okR n B b
theorem lt_lay {B : Nat} {P : hp_P} {a : hp_R} {σ : Nat → hj_Ob} {bf : Nat → Nat} {τ : hj_Ob} {sd : Int64} (h : lb B P a σ bf τ) :
    ∃ ρ' τ', fX2_copyFrom (σ 3) (σ 11) (σ 14) = some ρ' ∧ fX6_layTrial τ sd = some τ' ∧ lb B P a (va_up σ 14 ρ') bf τ' ∧ lt P.1 B (va_up σ 14 ρ') τ' a := by
  obtain ⟨x1, x2, o1, o2⟩ := lb_x h
  obtain ⟨ρ', k1, k2⟩ := x_copy (π := σ 3) (ρ := σ 14) o1.1 x2
  obtain ⟨τ', k3, k4, k5⟩ := m_lay (sd := sd) o1.1 (lb_m h).2
  exact ⟨ρ', τ', k1, k3, lb_t h k5, by rw [va_up_self]; exact k2, k4, o2⟩
theorem lt_hour {B C : Nat} {P : hp_P} {a b : hp_R} {σ : Nat → hj_Ob} {bf : Nat → Nat} {τ : hj_Ob} {sd : Int64} (h : lb B P a σ bf τ) (ht : lt P.1 C σ τ b) (hC : C < 2 ^ 29) :
    ∃ ρ' τ', fX2_passHour (σ 3) (σ 14) = some (nI (hp_h P b).1, ρ') ∧ fX6_passOn τ sd 1 = some (nI (hp_c (hp_h P b).1), τ') ∧ lb B P a (va_up σ 14 ρ') bf τ' ∧ lt P.1 (C + 1) (va_up σ 14 ρ') τ' (hp_h P b).2 := by
  obtain ⟨x1, x2, o1, o2⟩ := lb_x h
  obtain ⟨ρ', k1, k2⟩ := x_hour x1 o1 ht.2.2 hC ht.1
  obtain ⟨τ', k3, k4, k5⟩ := m_hour (sd := sd) (L := 1) (by omega) (lb_m h).1 o1 ht.2.2 hC ht.2.1
  exact ⟨ρ', τ', k1, k3, lb_t h (hr_T_F k5), by rw [va_up_self]; exact k2, k4, hp_okR_h ht.2.2⟩
theorem lt_end {B C : Nat} {P : hp_P} {a b : hp_R} {σ : Nat → hj_Ob} {bf : Nat → Nat} {τ : hj_Ob} {sd : Int64} (h : lb B P a σ bf τ) (ht : lt P.1 C σ τ b) (hC : C < 2 ^ 27) :
    ∃ ρ' τ', fX2_passHoursToEnd (σ 3) (σ 14) = some (hp_eh (hp_e P 20 b), ρ') ∧ fX2_verdict (va_up σ 14 ρ' 3) (va_up σ 14 ρ' 14) = some (nI (hp_ev (hp_e P 20 b))) ∧ fX6_runTrial τ sd = some (nI (hp_ev (hp_e P 20 b)), τ') ∧ τ'.1 16 = hp_eh (hp_e P 20 b) ∧ lb B P a (va_up σ 14 ρ') bf τ' := by
  obtain ⟨x1, x2, o1, o2⟩ := lb_x h
  obtain ⟨ρ', a', k1, k2, k3, k4⟩ := x_end x1 o1 ht.2.2 (by omega) ht.1
  obtain ⟨τ', k5, k6, k7⟩ := m_run (sd := sd) (lb_m h).1 o1 ht.2.2 hC ht.2.1
  refine ⟨ρ', τ', k1, ?_, k5, k6, lb_t h k7⟩
  rw [va_up_self, va_up_ne _ _ (by decide), x_vr x1 o1 k3 k2, k4]
theorem lr_ahead {B : Nat} {σ : Nat → hj_Ob} {bf : Nat → Nat} {τ : hj_Ob} {sd : Int64} (h : lr B σ bf τ) (hB : B < 2 ^ 20) (x : Int32) : ∃ r σ' τ', fX5_ahead σ bf sd x = some (r, σ') ∧ fX6_ahead τ sd x = some (r, τ') ∧ lr B σ' bf τ' := by
  obtain ⟨P, a, h⟩ := lr_b h
  unfold fX5_ahead fX6_ahead
  by_cases c0 : x < 0
  · rw [if_pos c0, in_f (l := 0) (h := 9) rfl rfl (Or.inl (ti_neg c0)), ev_o1, if_pos rfl]
    exact ⟨_, _, _, rfl, rfl, lb_r h⟩
  · rw [if_neg c0]
    by_cases c1 : x ≤ 9
    · obtain ⟨n, hn, rfl⟩ := nI_of2 (x := x) (M := 9) (n := 9) rfl c0 c1
      obtain ⟨ρ1, τ1, k1, k2, k3, k4⟩ := lt_lay (sd := sd) h
      rw [if_pos c1, in_t (l := 0) (h := 9) (by omega) rfl rfl (by omega) (by omega), ev_o1, if_neg i10, k1, k2, ev_o1, ev_o1, ev_nm]
      obtain ⟨e, e', he, he', hb, b, ht⟩ := lp_2 (b := fun q : (Int32 × (Nat → hj_Ob)) => fX5_ahead_26 q.2 bf sd (nI n) q.1) (b' := fun q : (Int32 × hj_Ob) => fX6_ahead_21 q.2 sd (nI n) q.1)
        (fun i q q' => q.1 = nI i ∧ q'.1 = nI i ∧ lb B P a q.2 bf q'.2 ∧ ∃ b, lt P.1 (B + i) q.2 q'.2 b)
        (fun e e' => lb B P a e bf e' ∧ ∃ b, lt P.1 (B + n) e e' b) n
        (fun i q q' hi hI => by
          obtain ⟨y, s⟩ := q
          obtain ⟨y', t⟩ := q'
          obtain ⟨e1, e2, hb, b, ht⟩ := hI
          dsimp only at e1 e2 hb ht ⊢
          subst e1
          subst e2
          unfold fX5_ahead_26 fX6_ahead_21
          by_cases c : n ≤ i
          · have : i = n := by omega
            subst this
            rw [if_pos (by rw [ev_le (by omega) (by omega)]; exact c), if_pos (by rw [ev_le (by omega) (by omega)]; exact c)]
            exact Or.inl ⟨_, _, rfl, rfl, hb, b, ht⟩
          · obtain ⟨ρ2, τ2, j1, j2, j3, j4⟩ := lt_hour (sd := sd) hb ht (by omega)
            rw [if_neg (by rw [ev_le (by omega) (by omega)]; exact c), if_neg (by rw [ev_le (by omega) (by omega)]; exact c), j1, j2, ev_o2, ev_o2, ev_nm, ev_nm, ev_nm, nI_1]
            exact Or.inr ⟨by omega, _, _, rfl, rfl, rfl, rfl, j3, _, j4⟩)
        100 100 0 (0, va_up σ 14 ρ1) (0, τ1) (by omega) (by omega) (by omega) ⟨rfl, rfl, k3, a, k4⟩
      rw [he, he', ev_o1, ev_o1]
      unfold fX2_yesThere
      rw [show ∀ k : Option (Int32 × hj_Ob), hj_ck (15 : Int32) 30 k = k from fun k => rfl, show ∀ k : Option (Int32 × hj_Ob), hj_ck (16 : Int32) 30 k = k from fun k => rfl, ev_o1, ht.1.1, ht.1.2.1, show e'.2 4 (15 : Int32).toNatClampNeg = nI b.1 from ht.2.1.1, show e'.2 4 (16 : Int32).toNatClampNeg = nI b.2.1 from ht.2.1.2.1]
      exact ⟨_, _, _, rfl, rfl, lb_r hb⟩
    · rw [if_neg c1, in_f (l := 0) (h := 9) rfl rfl (Or.inr (ti_out (n := 9) (by omega) (Int32.not_le.mp c1))), ev_o1, if_pos rfl]
      exact ⟨_, _, _, rfl, rfl, lb_r h⟩
theorem hp_eh9 {P : hp_P} {b : hp_R} : (hp_eh (hp_e P 20 b) = -9 ↔ hp_ev (hp_e P 20 b) = 9) := by
  cases q : hp_e P 20 b with
  | none => exact ⟨fun _ => rfl, fun _ => rfl⟩
  | some r =>
    have hq := hp_e_lt P 20 b r q
    constructor
    · intro k
      have k : nI r.1 = -9 := k
      have k2 := ev_neg (a := r.1) (by omega)
      rw [k] at k2
      exact absurd (by decide) k2
    · intro k
      have k : r.2 = 9 := k
      omega
theorem lr_end {B : Nat} {σ : Nat → hj_Ob} {bf : Nat → Nat} {τ : hj_Ob} {sd : Int64} (h : lr B σ bf τ) (hB : B < 2 ^ 20) (x : Int32) : ∃ r σ' τ', fX5_end σ bf sd x = some (r, σ') ∧ fX6_end τ sd x = some (r, τ') ∧ lr B σ' bf τ' := by
  obtain ⟨P, a, h⟩ := lr_b h
  unfold fX5_end fX6_end
  by_cases c0 : x < 0
  · rw [if_pos c0, in_f (l := 0) (h := 1) rfl rfl (Or.inl (ti_neg c0)), ev_o1, if_pos rfl]
    exact ⟨_, _, _, rfl, rfl, lb_r h⟩
  · rw [if_neg c0]
    by_cases c1 : x ≤ 1
    · obtain ⟨n, hn, rfl⟩ := nI_of2 (x := x) (M := 1) (n := 1) rfl c0 c1
      obtain ⟨ρ1, τ1, k1, k2, k3, k4⟩ := lt_lay (sd := sd) h
      obtain ⟨ρ2, τ2, j1, j2, j3, j4, j5⟩ := lt_end (sd := sd) k3 k4 (by omega)
      rw [if_pos c1, in_t (l := 0) (h := 1) (by omega) rfl rfl (by omega) (by omega), ev_o1, if_neg i10, k1, k2, ev_o1, ev_o1, ev_nm, j1, j3, ev_o2, ev_o2, ev_nm, j2, j4, ev_o1]
      have q9 := hp_eh9 (P := P) (b := a)
      by_cases g : hp_eh (hp_e P 20 a) = -9
      · have g9 : nI (hp_ev (hp_e P 20 a)) = 9 := by rw [q9.mp g]; rfl
        rw [if_pos g, g]
        by_cases g0 : nI n = 0
        · rw [if_pos g0]; exact ⟨_, _, _, rfl, rfl, lb_r j5⟩
        · rw [if_neg g0, if_pos g9]; exact ⟨_, _, _, rfl, rfl, lb_r j5⟩
      · have g9 : ¬ nI (hp_ev (hp_e P 20 a)) = 9 := by
          intro k
          apply g
          apply q9.mpr
          cases q : hp_e P 20 a with
          | none => rfl
          | some r =>
            rw [q] at k
            have := (hp_e_lt P 20 a r q).2
            have k : nI r.2 = 9 := k
            rcases this with e | e <;> rw [e] at k <;> exact absurd k (by decide)
        rw [if_neg g]
        by_cases g0 : nI n = 0
        · rw [if_pos g0, if_pos g0]; exact ⟨_, _, _, rfl, rfl, lb_r j5⟩
        · rw [if_neg g0, if_neg g0, if_neg g9]; exact ⟨_, _, _, rfl, rfl, lb_r j5⟩
    · rw [if_neg c1, in_f (l := 0) (h := 1) rfl rfl (Or.inr (ti_out (n := 1) (by omega) (Int32.not_le.mp c1))), ev_o1, if_pos rfl]
      exact ⟨_, _, _, rfl, rfl, lb_r h⟩
