/-! share -/
def hp_y1 (P : hp_P) (a : hp_R) (s : Nat) : Nat := if hp_ev (hp_e P 20 (s, a.2)) = 1 then 1 else 0
def hp_o (t i : Nat) : Int32 := hs_F (hp_c i) * hs_F (hp_c t - 1 - hp_c i)
def hp_sh (P : hp_P) (a : hp_R) (j : Nat) : Nat → Int32
  | 0 => 0
  | k + 1 => if hp_n k a.2.1 = 0 ∧ hp_b k j = 0 then hp_sh P a j k + hp_o a.2.1 k * (nI (hp_y1 P a (k ||| 2 ^ j)) - nI (hp_y1 P a k)) else hp_sh P a j k
theorem x_fc : hp_all 7 (fun k => decide (fX5_factorial (nI k) = some (hs_F k) ∧ fX6_factorial (nI k) = some (hs_F k) ∧ 0 < (hs_F k).toInt ∧ (hs_F k).toInt ≤ 720)) = true := by decide +kernel
theorem x_fac {k : Nat} (hk : k ≤ 6) : fX5_factorial (nI k) = some (hs_F k) ∧ fX6_factorial (nI k) = some (hs_F k) ∧ 0 < (hs_F k).toInt ∧ (hs_F k).toInt ≤ 720 :=
  of_decide_eq_true (hp_all_s x_fc (by omega : k < 7))
theorem hp_o_all : hp_all 7 (fun k => hp_all 7 (fun j => decide (0 < (hs_F k * hs_F j).toInt ∧ (hs_F k * hs_F j).toInt ≤ 518400))) = true := by decide +kernel
theorem hp_o_b {t i : Nat} : 0 < (hp_o t i).toInt ∧ (hp_o t i).toInt ≤ 518400 :=
  of_decide_eq_true (hp_all_s (hp_all_s hp_o_all (by have := hp_c_le i; omega)) (by have := hp_c_le t; omega))
theorem hp_y12 (P : hp_P) (a : hp_R) (s : Nat) : hp_y1 P a s = 0 ∨ hp_y1 P a s = 1 := by
  unfold hp_y1
  split
  · exact Or.inr rfl
  · exact Or.inl rfl
theorem hp_sh_b {P : hp_P} {a : hp_R} {j : Nat} : ∀ k : Nat, k ≤ 64 → -(518400 * (k : Int)) ≤ (hp_sh P a j k).toInt ∧ (hp_sh P a j k).toInt ≤ 518400 * k
  | 0, _ => by
    show _ ≤ (0 : Int32).toInt ∧ (0 : Int32).toInt ≤ _
    rw [show (0 : Int32).toInt = 0 from rfl]
    omega
  | k + 1, hk => by
    have ih := hp_sh_b (P := P) (a := a) (j := j) k (by omega)
    have ob := hp_o_b (t := a.2.1) (i := k)
    show _ ≤ (if hp_n k a.2.1 = 0 ∧ hp_b k j = 0 then hp_sh P a j k + hp_o a.2.1 k * (nI (hp_y1 P a (k ||| 2 ^ j)) - nI (hp_y1 P a k)) else hp_sh P a j k).toInt ∧ (if hp_n k a.2.1 = 0 ∧ hp_b k j = 0 then hp_sh P a j k + hp_o a.2.1 k * (nI (hp_y1 P a (k ||| 2 ^ j)) - nI (hp_y1 P a k)) else hp_sh P a j k).toInt ≤ _
    split
    · have fin : ∀ T : Int32, -518400 ≤ T.toInt → T.toInt ≤ 518400 → -(518400 * ((k + 1 : Nat) : Int)) ≤ (hp_sh P a j k + T).toInt ∧ (hp_sh P a j k + T).toInt ≤ 518400 * ((k + 1 : Nat) : Int) := by
        intro T h1 h2
        rw [Int32.toInt_add, Int.bmod_eq_of_le (by omega) (by omega)]
        omega
      have f0 : (hp_o a.2.1 k * 0).toInt = 0 := by rw [Int32.mul_zero]; rfl
      have f1 : (hp_o a.2.1 k * 1).toInt = (hp_o a.2.1 k).toInt := by rw [Int32.mul_one]
      have f2 : (hp_o a.2.1 k * (-1)).toInt = -(hp_o a.2.1 k).toInt := by
        rw [Int32.toInt_mul, show (-1 : Int32).toInt = -1 from rfl, Int.bmod_eq_of_le (by omega) (by omega)]
        omega
      rcases hp_y12 P a (k ||| 2 ^ j) with e1 | e1 <;> rcases hp_y12 P a k with e2 | e2 <;> rw [e1, e2]
      · rw [show nI 0 - nI 0 = (0 : Int32) from rfl]
        exact fin _ (by omega) (by omega)
      · rw [show nI 0 - nI 1 = (-1 : Int32) from rfl]
        exact fin _ (by omega) (by omega)
      · rw [show nI 1 - nI 0 = (1 : Int32) from rfl]
        exact fin _ (by omega) (by omega)
      · rw [show nI 1 - nI 1 = (0 : Int32) from rfl]
        exact fin _ (by omega) (by omega)
    · omega
theorem hp_sh_n {P : hp_P} {a : hp_R} {j : Nat} (ht : a.2.1 < 64) : ∀ m, a.2.1 + 1 + m ≤ 64 → hp_sh P a j (a.2.1 + 1 + m) = hp_sh P a j (a.2.1 + 1)
  | 0, _ => rfl
  | m + 1, hm => by
    have ne : ¬ hp_n (a.2.1 + 1 + m) a.2.1 = 0 := fun q => by have := hp_le (s := a.2.1 + 1 + m) (by omega) ht q; omega
    show (if hp_n (a.2.1 + 1 + m) a.2.1 = 0 ∧ _ then _ else hp_sh P a j (a.2.1 + 1 + m)) = _
    rw [if_neg (fun q => ne q.1), hp_sh_n ht m (by omega)]
set_option maxRecDepth 100000 in
theorem hp_oth_all : hp_all 64 (fun t => hp_all 6 (fun j => hp_all 64 (fun i => decide (hp_b t j = 1 → ((hp_n i (hp_n t (2 ^ j)) = 0 ↔ (hp_n i t = 0 ∧ hp_b i j = 0)) ∧ (hp_n i (hp_n t (2 ^ j)) = 0 → hp_c (hp_n (hp_n t (2 ^ j)) i) = hp_c t - 1 - hp_c i ∧ hp_c i + 1 ≤ hp_c t)))))) = true := by decide +kernel
theorem hp_oth {t j i : Nat} (ht : t < 64) (hi : i < 64) (h : hp_b t j = 1) : ((hp_n i (hp_n t (2 ^ j)) = 0 ↔ (hp_n i t = 0 ∧ hp_b i j = 0)) ∧ (hp_n i (hp_n t (2 ^ j)) = 0 → hp_c (hp_n (hp_n t (2 ^ j)) i) = hp_c t - 1 - hp_c i ∧ hp_c i + 1 ≤ hp_c t)) :=
  (of_decide_eq_true (hp_all_s (hp_all_s (hp_all_s hp_oth_all ht) (hp_bn (n := 6) ht h)) hi)) h
theorem x_yesFrom {σ : Nat → hj_Ob} {bf : Nat → Nat} {sd : Int64} {P : hp_P} {a : hp_R} {B s : Nat} (hP : hr_P (σ 3) P) (hoP : hp_okP P) (hX : hr_X P.1 (σ 11) a) (ho : hp_okR P.1 B a) (hB : B < 2 ^ 20) (h64 : s < 64) :
    ∃ σ', fX5_endIsYesFrom σ bf sd (nI s) = some (nI (hp_y1 P a s), σ') ∧ ∀ k, k ≠ 14 → σ' k = σ k := by
  obtain ⟨ρ1, k1, k2⟩ := x_layYes (s := s) hoP.1 hX
  unfold fX5_endIsYesFrom
  rw [k1, ev_o1, ev_nm, ev_nm]
  generalize hσ3 : va_up (va_up σ 14 ρ1) 14 (hj_s (va_up σ 14 ρ1 14) 3 (nI s)) = σ3
  have fr : ∀ k, k ≠ 14 → σ3 k = σ k := fun k hk => by rw [← hσ3, va_up_ne _ _ hk, va_up_ne _ _ hk]
  have e14 : hr_X P.1 (σ3 14) (s, a.2) := by rw [← hσ3, va_up_self]; exact k2
  obtain ⟨ρ', a', r1, r2, r3, r4⟩ := x_end (π := σ3 3) (ρ := σ3 14) (by rw [fr 3 (by decide)]; exact hP) hoP (hp_okR_y ho h64) (by omega) e14
  rw [r1, ev_o2, ev_nm, va_up_self, va_up_ne _ _ (show 3 ≠ 14 by decide), x_vr (by rw [fr 3 (by decide)]; exact hP) hoP r3 r2, ev_o1, r4]
  have f2 : ∀ k, k ≠ 14 → va_up σ3 14 ρ' k = σ k := fun k hk => by rw [va_up_ne _ _ hk]; exact fr k hk
  have ev3 : hp_ev (hp_e P 20 (s, a.2)) < 2 ^ 31 := by
    cases q : hp_e P 20 (s, a.2) with
    | none => show 9 < 2 ^ 31; omega
    | some r => have := (hp_e_lt P 20 _ r q).2; show r.2 < 2 ^ 31; omega
  simp only [show (nI (hp_ev (hp_e P 20 (s, a.2))) = 1) = (hp_ev (hp_e P 20 (s, a.2)) = 1) from ev_eq (b := 1) ev3 (by omega)]
  unfold hp_y1
  by_cases c : hp_ev (hp_e P 20 (s, a.2)) = 1
  · rw [if_pos c, if_pos c]; exact ⟨_, rfl, f2⟩
  · rw [if_neg c, if_neg c]; exact ⟨_, rfl, f2⟩
theorem m_yesFrom {P : hp_P} {a : hp_R} {s : Nat} : (nI (hp_ev (hp_e P 20 (s, a.2))) = 1) = (hp_y1 P a s = 1) := by
  have ev3 : hp_ev (hp_e P 20 (s, a.2)) < 2 ^ 31 := by
    cases q : hp_e P 20 (s, a.2) with
    | none => show 9 < 2 ^ 31; omega
    | some r => have := (hp_e_lt P 20 _ r q).2; show r.2 < 2 ^ 31; omega
  rw [show (nI (hp_ev (hp_e P 20 (s, a.2))) = 1) = (hp_ev (hp_e P 20 (s, a.2)) = 1) from ev_eq (b := 1) ev3 (by omega)]
  unfold hp_y1
  apply propext
  constructor
  · intro q; rw [if_pos q]
  · intro q
    by_cases c : hp_ev (hp_e P 20 (s, a.2)) = 1
    · exact c
    · rw [if_neg c] at q; exact absurd q (by decide)
theorem lr_share {B : Nat} {σ : Nat → hj_Ob} {bf : Nat → Nat} {τ : hj_Ob} {sd : Int64} (h : lr B σ bf τ) (hB : B < 2 ^ 20) (x v : Int32) : ∃ r σ' τ', fX5_share σ bf sd x v = some (r, σ') ∧ fX6_share τ sd x v = some (r, τ') ∧ lr B σ' bf τ' := by
  have hlr := h
  obtain ⟨tx, P, a, hi, sl, se, hx, hm, ho⟩ := h
  have ht := hp_t64 ho.2.1.1 ho.2.2.1.2.1
  have h6 := ho.2.1.1
  unfold fX5_share fX6_share
  rcases pk_ix x (n := P.1) (by omega) with q | q | ⟨j, hj, rfl⟩
  · rw [x_njur hx.2.1.1 (Or.inl q), m_njur hm.2.1.1 h6 (Or.inl q), ev_o1, ev_o1, if_pos rfl, if_pos rfl]
    exact ⟨_, _, _, rfl, rfl, hlr⟩
  · rw [x_njur hx.2.1.1 (Or.inr q), m_njur hm.2.1.1 h6 (Or.inr q), ev_o1, ev_o1, if_pos rfl, if_pos rfl]
    exact ⟨_, _, _, rfl, rfl, hlr⟩
  · have hj6 : j < 6 := by omega
    rw [x_jur hx.2.1.1 h6 hj, m_jur hm.2.1.1 h6 hj, ev_o1, ev_o1, if_neg i10, if_neg i10, x_there hx.2.2.1.2.1 ht hj6, show fX6_isThere τ sd 0 (nI j) = _ from m_there (L := 0) (by omega) hm.2.2.1.2.1 ht (by omega), ev_o1, ev_o1]
    by_cases c : hp_b a.2.1 j = 0
    · have pf : fX5_partOfFraction 0 1 v = some (if v = 0 then 1 else 0) := by
        unfold fX5_partOfFraction
        rw [show fX5_commonDivisor (if (0 : Int32) ≤ 0 then 0 else 0 - 0) 1 = some 1 from by decide +kernel, ev_o1, if_pos (show (1 : Int32) ≤ 1 from by decide)]
        split <;> rfl
      rw [c, if_pos (show nI 0 = 0 from rfl), if_pos (show nI 0 = 0 from rfl), pf, ev_o1]
      by_cases d : v = 0
      · rw [if_pos d, if_pos d]; exact ⟨_, _, _, rfl, rfl, hlr⟩
      · rw [if_neg d, if_neg d]; exact ⟨_, _, _, rfl, rfl, hlr⟩
    · have cb : hp_b a.2.1 j = 1 := by have := hp_b2 a.2.1 j; omega
      rw [cb, if_neg (show ¬ nI 1 = 0 from i10), if_neg (show ¬ nI 1 = 0 from i10), hx.2.2.1.2.1, hp_pw (by omega), hp_not ht (hp_p_lt hj6), ev_nm, show ∀ k : Option (Int32 × hj_Ob), hj_ck (1 : Int32) 30 k = k from fun k => rfl, ev_nm, show τ.2 4 (1 : Int32).toNatClampNeg = nI a.2.1 from hm.2.2.1.2.1]
      have no64 : hp_n a.2.1 (2 ^ j) < 64 := hp_n_lt ht
      have esh : ∀ i, hp_sh P a j (i + 1) = if hp_n i a.2.1 = 0 ∧ hp_b i j = 0 then hp_sh P a j i + hp_o a.2.1 i * (nI (hp_y1 P a (i ||| 2 ^ j)) - nI (hp_y1 P a i)) else hp_sh P a j i := fun i => rfl
      obtain ⟨e, he, s', rfl, hs'⟩ := lp_h (b := fun q : (Int32 × Int32 × (Nat → hj_Ob)) => fX5_share_48 q.2.2 bf sd (nI j) v (nI (hp_n a.2.1 (2 ^ j))) q.1 q.2.1)
        (fun i q => q.2.1 = nI i ∧ q.1 = hp_sh P a j i ∧ ∀ k, k ≠ 14 → q.2.2 k = σ k)
        (fun e => ∃ s', e = (hp_sh P a j 64, s') ∧ ∀ k, k ≠ 14 → s' k = σ k) 64
        (fun i q hi hI => by
          obtain ⟨y1, y2, s⟩ := q
          obtain ⟨e1, e2, e3⟩ := hI
          dsimp only at e1 e2 e3 ⊢
          subst e1
          subst e2
          unfold fX5_share_48
          by_cases c : 64 ≤ i
          · have : i = 64 := by omega
            subst this
            rw [if_pos (show (64 : Int32) ≤ nI 64 from by decide)]
            exact Or.inl ⟨_, rfl, _, rfl, e3⟩
          · have hi64 : i < 64 := by omega
            have c64 : ¬ (64 : Int32) ≤ nI i := by rw [show (64 : Int32) = nI 64 from rfl, ev_le (by omega) (by omega)]; exact c
            obtain ⟨o1, o2⟩ := hp_oth ht hi64 cb
            rw [if_neg c64]
            simp only [hp_sub hi64 no64]
            refine Or.inr ⟨hi64, ?_⟩
            by_cases c2 : hp_n i (hp_n a.2.1 (2 ^ j)) = 0
            · obtain ⟨o3, o4⟩ := o2 c2
              obtain ⟨s2, j1, j2⟩ := x_yesFrom (bf := bf) (sd := sd) (σ := s) (s := i ||| 2 ^ j) (by rw [e3 3 (by decide)]; exact hx.2.1) ho.2.1 (by rw [e3 11 (by decide)]; exact hx.2.2.1) ho.2.2.1 hB (hp_or_lt hi64 (hp_p_lt hj6))
              have f2 : ∀ k, k ≠ 14 → s2 k = σ k := fun k hk => (j2 k hk).trans (e3 k hk)
              obtain ⟨s3, j3, j4⟩ := x_yesFrom (bf := bf) (sd := sd) (σ := s2) (s := i) (by rw [f2 3 (by decide)]; exact hx.2.1) ho.2.1 (by rw [f2 11 (by decide)]; exact hx.2.2.1) ho.2.2.1 hB hi64
              have f3 : ∀ k, k ≠ 14 → s3 k = σ k := fun k hk => (j4 k hk).trans (f2 k hk)
              rw [if_pos c2, hp_pw (by omega), hp_or, j1, ev_o2, j3, ev_o2, ev_nm, hp_bc hi64, ev_o1, hp_not no64 hi64, hp_bc (hp_n_lt no64), ev_o1, o3]
              unfold fX5_ordersWith
              rw [(x_fac (hp_c_le i)).1, ev_o1, (x_fac (by have := hp_c_le a.2.1; omega)).1, ev_o1, ev_o1, ev_nm, ev_nm, nI_1]
              refine ⟨_, rfl, rfl, ?_, f3⟩
              dsimp only
              rw [esh, if_pos (o1.mp c2), Int32.mul_comm]
              rfl
            · rw [if_neg c2, ev_nm, nI_1]
              refine ⟨_, rfl, rfl, ?_, e3⟩
              dsimp only
              rw [esh, if_neg (fun q => c2 (o1.mpr q))])
        100 0 (0, 0, σ) (by omega) (by omega) ⟨rfl, rfl, fun _ _ => rfl⟩
      obtain ⟨e', he', t', rfl, ht'⟩ := lp_h (b := fun q : (Int32 × Int32 × hj_Ob) => fX6_share_42 q.2.2 sd (nI j) v (nI a.2.1) q.1 q.2.1)
        (fun i q => q.2.1 = nI i ∧ q.1 = hp_sh P a j i ∧ hr_T τ q.2.2)
        (fun e => ∃ t', e = (hp_sh P a j (a.2.1 + 1), t') ∧ hr_T τ t') (a.2.1 + 1)
        (fun i q hi hI => by
          obtain ⟨y1, y2, t⟩ := q
          obtain ⟨e1, e2, e4⟩ := hI
          dsimp only at e1 e2 e4 ⊢
          subst e1
          subst e2
          unfold fX6_share_42
          by_cases c : a.2.1 < i
          · have : i = a.2.1 + 1 := by omega
            subst this
            have c' : nI a.2.1 < nI (a.2.1 + 1) := by rw [ev_lt (by omega) (by omega)]; exact c
            rw [if_pos c']
            exact Or.inl ⟨_, rfl, _, rfl, e4⟩
          · have hi64 : i < 64 := by omega
            have c' : ¬ nI a.2.1 < nI i := by rw [ev_lt (by omega) (by omega)]; exact c
            obtain ⟨o1, o2⟩ := hp_oth ht hi64 cb
            rw [if_neg c']
            simp only [hp_sub hi64 ht]
            refine Or.inr ⟨by omega, ?_⟩
            by_cases c2 : hp_n i a.2.1 = 0
            · rw [if_pos c2, m_has hi64 (by omega), ev_o1]
              by_cases c3 : hp_b i j = 0
              · obtain ⟨o3, o4⟩ := o2 (o1.mpr ⟨c2, c3⟩)
                have g0 := hr_T_M e4 h6 hm.2.2.1
                obtain ⟨t2, j1, j2⟩ := m_endOf (sd := sd) (s := i ||| 2 ^ j) (hr_T_P e4 hm.2.1) ho.2.1 g0 ho.2.2.1 hB (hp_or_lt hi64 (hp_p_lt hj6))
                have f2 := hr_T_tr e4 j2
                obtain ⟨t3, j3, j4⟩ := m_endOf (sd := sd) (s := i) (hr_T_P f2 hm.2.1) ho.2.1 (hr_T_M f2 h6 hm.2.2.1) ho.2.2.1 hB hi64
                have f3 := hr_T_tr f2 j4
                rw [c3, if_pos (show nI 0 = 0 from rfl), hp_on hi64, ev_o1, (x_fac (hp_c_le i)).2.1, ev_o1, hp_on ht, ev_o1, ev_o1, show nI (hp_c a.2.1) - 1 - nI (hp_c i) = nI (hp_c a.2.1 - 1 - hp_c i) from by rw [show nI (hp_c a.2.1) - 1 = nI (hp_c a.2.1 - 1) from pk_sub (b := 1) (by omega), pk_sub (by omega)], (x_fac (by have := hp_c_le a.2.1; omega)).2.1, ev_o1, ev_nm, hp_pw (by omega), hp_or, j1, ev_o2]
                unfold fX6_share_115
                simp only [j3, ev_o2, m_yesFrom]
                have y1 := hp_y12 P a (i ||| 2 ^ j)
                have y2 := hp_y12 P a i
                have hsh := esh i
                rw [if_pos ⟨c2, c3⟩] at hsh
                by_cases d1 : hp_y1 P a (i ||| 2 ^ j) = 1
                · rw [if_pos d1]
                  rw [d1] at hsh
                  by_cases d2 : hp_y1 P a i = 1
                  · rw [if_pos d2, ev_nm, ev_nm, nI_1]
                    rw [d2] at hsh
                    exact ⟨_, rfl, rfl, hsh.symm, f3⟩
                  · rw [if_neg d2, ev_nm, ev_nm, nI_1]
                    rw [show hp_y1 P a i = 0 by omega] at hsh
                    exact ⟨_, rfl, rfl, hsh.symm, f3⟩
                · rw [if_neg d1]
                  rw [show hp_y1 P a (i ||| 2 ^ j) = 0 by omega] at hsh
                  by_cases d2 : hp_y1 P a i = 1
                  · rw [if_pos d2, ev_nm, ev_nm, nI_1]
                    rw [d2] at hsh
                    exact ⟨_, rfl, rfl, hsh.symm, f3⟩
                  · rw [if_neg d2, ev_nm, ev_nm, nI_1]
                    rw [show hp_y1 P a i = 0 by omega] at hsh
                    exact ⟨_, rfl, rfl, hsh.symm, f3⟩
              · rw [show hp_b i j = 1 by have := hp_b2 i j; omega, if_neg (show ¬ nI 1 = 0 from i10), ev_nm, nI_1]
                refine ⟨_, rfl, rfl, ?_, e4⟩
                dsimp only
                rw [esh, if_neg (fun q => c3 q.2)]
            · rw [if_neg c2, ev_nm, nI_1]
              refine ⟨_, rfl, rfl, ?_, e4⟩
              dsimp only
              rw [esh, if_neg (fun q => c2 q.1)])
        100 0 (0, 0, τ) (by omega) (by omega) ⟨rfl, rfl, hr_T_rf⟩
      have e64 : hp_sh P a j (a.2.1 + 1) = hp_sh P a j 64 := by
        have := hp_sh_n (P := P) (j := j) ht (64 - (a.2.1 + 1)) (by omega)
        rw [show a.2.1 + 1 + (64 - (a.2.1 + 1)) = 64 by omega] at this
        exact this.symm
      have hb64 := hp_sh_b (P := P) (a := a) (j := j) 64 (by omega)
      obtain ⟨fc1, fc2, fc3, fc4⟩ := x_fac (hp_c_le a.2.1)
      obtain ⟨d, hd0, hd1, hd2⟩ : ∃ d, 0 < d ∧ d < 2 ^ 20 ∧ hs_F (hp_c a.2.1) = nI d := ⟨(hs_F (hp_c a.2.1)).toInt.toNat, by omega, by omega, Int32.toInt_inj.mp (by rw [nI_toInt (by omega)]; omega)⟩
      obtain ⟨g, g0, g1, g2, g3⟩ := b_frac (X := hp_sh P a j 64) (d := d) (by omega) hd0 hd1
      rw [he, he', ev_o2, ev_o2, hs' 11 (by decide), hx.2.2.1.2.1, hp_bc ht, ev_o1, fc1, ev_o1, hd2, g3, ev_o1, hp_on ht, ev_o1, fc2, ev_o1, hd2, e64, g2, ev_o1, ev_o1, fc2, ev_o1, hd2, nz_k g0 g1, nz_k g0 g1]
      have fin : lr B s' bf t' := ⟨tx, P, a, hi, sl, se, lx_fr hx ho.2.2.2.1.1 (fun k _ hk => hs' k hk), lm_T hm ho.2.1.1 ht', ho⟩
      by_cases d0 : v = 0
      · rw [if_pos d0, if_pos d0]
        exact ⟨_, _, _, rfl, rfl, fin⟩
      · rw [if_neg d0, if_neg d0]
        exact ⟨_, _, _, rfl, rfl, fin⟩
