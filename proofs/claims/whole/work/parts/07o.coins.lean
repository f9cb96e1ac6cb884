/-! coins -/
def hp_w (p t i : Nat) : Nat := p ^ hp_c i * (10 - p) ^ hp_c (hp_n t i)
def hp_ws (p t : Nat) : Nat → Nat
  | 0 => 0
  | k + 1 => hp_ws p t k + if hp_n k t = 0 then hp_w p t k else 0
def hp_cs (P : hp_P) (a : hp_R) (x : Int32) (p : Nat) : Nat → Nat
  | 0 => 0
  | k + 1 => hp_cs P a x p k + if hp_n k a.2.1 = 0 ∧ nI (hp_ev (hp_e P 20 (a.1 ^^^ k, a.2))) = x then hp_w p a.2.1 k else 0
set_option maxRecDepth 100000 in
theorem hp_ws_all : hp_all 64 (fun t => hp_all 11 (fun p => decide (hp_ws p t (t + 1) = 10 ^ hp_c t ∧ 0 < 10 ^ hp_c t ∧ 10 ^ hp_c t < 2 ^ 20))) = true := by decide +kernel
theorem hp_ws_t {p t : Nat} (ht : t < 64) (hp : p ≤ 10) : hp_ws p t (t + 1) = 10 ^ hp_c t ∧ 0 < 10 ^ hp_c t ∧ 10 ^ hp_c t < 2 ^ 20 :=
  of_decide_eq_true (hp_all_s (hp_all_s hp_ws_all ht) (by omega : p < 11))
theorem hp_cs_le {P : hp_P} {a : hp_R} {x : Int32} {p : Nat} : ∀ k, hp_cs P a x p k ≤ hp_ws p a.2.1 k
  | 0 => Nat.le_refl _
  | k + 1 => by
    have ih := hp_cs_le (P := P) (a := a) (x := x) (p := p) k
    show hp_cs P a x p k + _ ≤ hp_ws p a.2.1 k + _
    by_cases c : hp_n k a.2.1 = 0
    · rw [if_pos c]
      by_cases c2 : nI (hp_ev (hp_e P 20 (a.1 ^^^ k, a.2))) = x
      · rw [if_pos ⟨c, c2⟩]; omega
      · rw [if_neg (fun q => c2 q.2)]; omega
    · rw [if_neg c, if_neg (fun q => c q.1)]; omega
theorem hp_cs_n {P : hp_P} {a : hp_R} {x : Int32} {p : Nat} (ht : a.2.1 < 64) : ∀ m, a.2.1 + 1 + m ≤ 64 → hp_cs P a x p (a.2.1 + 1 + m) = hp_cs P a x p (a.2.1 + 1)
  | 0, _ => rfl
  | m + 1, hm => by
    show hp_cs P a x p (a.2.1 + 1 + m) + _ = _
    have ne : ¬ hp_n (a.2.1 + 1 + m) a.2.1 = 0 := fun q => by have := hp_le (s := a.2.1 + 1 + m) (by omega) ht q; omega
    rw [if_neg (fun q => ne q.1), hp_cs_n ht m (by omega), Nat.add_zero]
set_option maxRecDepth 100000 in
theorem hp_mo_all : hp_all 64 (fun s => hp_all 6 (fun k => decide ((hp_b s k = 1 → (s % 2 ^ k) ^^^ 2 ^ k = s % 2 ^ (k + 1)) ∧ (hp_b s k = 0 → s % 2 ^ k = s % 2 ^ (k + 1))))) = true := by decide +kernel
theorem hp_dos4 {P : hp_P} {s : Nat} {a : hp_R} (hs : s < 64) : ∀ k, k ≤ 6 → hp_dos P 4 s a k = (a.1 ^^^ (s % 2 ^ k), a.2)
  | 0, _ => by rw [show s % 2 ^ 0 = 0 from Nat.mod_one s, Nat.xor_zero]; rfl
  | k + 1, hk => by
    have ih := hp_dos4 (P := P) (a := a) hs k (by omega)
    obtain ⟨q1, q2⟩ := of_decide_eq_true (hp_all_s (hp_all_s hp_mo_all hs) (show k < 6 by omega))
    show (if hp_b s k = 1 then hp_do P 4 k (hp_dos P 4 s a k) else hp_dos P 4 s a k) = _
    by_cases g : hp_b s k = 1
    · rw [if_pos g, ih, ← q1 g, ← Nat.xor_assoc]
      rfl
    · rw [if_neg g, ih, q2 (by have := hp_b2 s k; omega)]
theorem hp_dos4n {P : hp_P} {s n : Nat} {a : hp_R} (hn : n ≤ 6) (hs : s < 2 ^ n) : hp_dos P 4 s a n = (a.1 ^^^ s, a.2) := by
  rw [hp_dos4 (hp_t64 hn hs) n hn, Nat.mod_eq_of_lt hs]
theorem m_endOf {τ : hj_Ob} {sd : Int64} {P : hp_P} {a : hp_R} {B s : Nat} (hP : hr_MP τ P) (hoP : hp_okP P) (hM : hr_M P.1 0 τ a) (ho : hp_okR P.1 B a) (hB : B < 2 ^ 20) (h64 : s < 64) :
    ∃ τ', fX6_endOf τ sd (nI s) = some (nI (hp_ev (hp_e P 20 (s, a.2))), τ') ∧ hr_T τ τ' := by
  have ht := hp_t64 hoP.1 ho.2.1
  obtain ⟨τ1, k1, k2, k3⟩ := m_layYes (sd := sd) hoP.1 hM ho h64
  have o1 : hp_okR P.1 B (hp_n a.1 a.2.1 ||| s, a.2) := hp_okR_y ho (hp_or_lt (hp_n_lt ho.1) h64)
  obtain ⟨τ', r1, r2, r3⟩ := m_run (sd := sd) (hr_T_P k3 hP) hoP o1 (by omega) k2
  unfold fX6_endOf
  rw [k1, ev_o1, r1, ev_o2, hp_q_e 20 (hp_q_lay ho.1 ht h64)]
  exact ⟨τ', rfl, hr_T_tr k3 r3⟩
theorem hp_q_tr {b c d : hp_R} (h : hp_q b c) (h' : hp_q c d) : hp_q b d := ⟨h.1.trans h'.1, by rw [h.2.1, h.1]; exact h'.2.1, h.2.2.1, h'.2.2.2.1, h.2.2.2.2⟩
theorem hp_q_x {a : hp_R} {i : Nat} (h1 : a.1 < 64) (h2 : a.2.1 < 64) (hi : i < 64) : hp_q (a.1 ^^^ i, a.2) ((a.1 &&& a.2.1) ^^^ i, a.2) := by
  refine ⟨rfl, ?_, hp_xor_lt h1 hi, hp_xor_lt (hp_and_lt h1) hi, h2⟩
  show a.2.1 &&& (a.1 ^^^ i) = a.2.1 &&& ((a.1 &&& a.2.1) ^^^ i)
  rw [Nat.and_xor_distrib_left, Nat.and_xor_distrib_left, (hp_sp h2 h1).2.1, ← Nat.and_assoc, Nat.and_self]
theorem x_pow : hp_all 11 (fun x => hp_all 7 (fun k => decide (fX5_power (nI x) (nI k) = some (nI (x ^ k)) ∧ fX6_power (nI x) (nI k) = some (nI (x ^ k)) ∧ x ^ k ≤ 1000000))) = true := by decide +kernel
theorem x_pw {x k : Nat} (hx : x ≤ 10) (hk : k ≤ 6) : fX5_power (nI x) (nI k) = some (nI (x ^ k)) ∧ fX6_power (nI x) (nI k) = some (nI (x ^ k)) ∧ x ^ k ≤ 1000000 :=
  of_decide_eq_true (hp_all_s (hp_all_s x_pow (by omega : x < 11)) (by omega : k < 7))
set_option maxRecDepth 100000 in
theorem hp_ct_all : hp_all 64 (fun t => hp_all 64 (fun i => decide (hp_n i t = 0 → hp_c t = hp_c i + hp_c (hp_n t i)))) = true := by decide +kernel
theorem hp_ct {t i : Nat} (ht : t < 64) (hi : i < 64) (h : hp_n i t = 0) : hp_c t = hp_c i + hp_c (hp_n t i) := (of_decide_eq_true (hp_all_s (hp_all_s hp_ct_all ht) hi)) h
set_option maxRecDepth 100000 in
theorem hp_w_all : hp_all 64 (fun t => hp_all 64 (fun i => hp_all 11 (fun p => decide (hp_n i t = 0 → hp_w p t i ≤ 1000000)))) = true := by decide +kernel
theorem hp_w_le {t i p : Nat} (ht : t < 64) (hi : i < 64) (hp : p ≤ 10) (h : hp_n i t = 0) : hp_w p t i ≤ 1000000 := (of_decide_eq_true (hp_all_s (hp_all_s (hp_all_s hp_w_all ht) hi) (by omega : p < 11))) h
theorem lr_coins13 {B : Nat} {σ : Nat → hj_Ob} {bf : Nat → Nat} {τ : hj_Ob} {sd : Int64} (h : lr B σ bf τ) (hB : B < 2 ^ 20) (x z v : Int32) : ∃ r σ' τ', fX5_coins_13 σ bf sd x z v = some (r, σ') ∧ fX6_coins_16 τ sd x z v = some (r, τ') ∧ lr B σ' bf τ' := by
  have hlr := h
  obtain ⟨tx, P, a, hi, sl, se, hx, hm, ho⟩ := h
  have ht := hp_t64 ho.2.1.1 ho.2.2.1.2.1
  have h6 := ho.2.1.1
  unfold fX5_coins_13 fX6_coins_16
  by_cases c0 : z < 0
  · rw [if_pos c0, in_f (l := 0) (h := 10) rfl rfl (Or.inl (ti_neg c0)), ev_o1, if_pos rfl]
    exact ⟨_, _, _, rfl, rfl, hlr⟩
  · rw [if_neg c0]
    by_cases c1 : z ≤ 10
    · obtain ⟨p, hp, rfl⟩ := nI_of2 (x := z) (M := 10) (n := 10) rfl c0 c1
      have e10 : (10 : Int32) - nI p = nI (10 - p) := pk_sub (a := 10) hp
      rw [if_pos c1, in_t (l := 0) (h := 10) (by omega) rfl rfl (by omega) (by omega), ev_o1, if_neg i10, show ∀ k : Option (Int32 × hj_Ob), hj_ck (1 : Int32) 30 k = k from fun k => rfl, ev_nm, show τ.2 4 (1 : Int32).toNatClampNeg = nI a.2.1 from hm.2.2.1.2.1]
      obtain ⟨e, he, s', rfl, hs'⟩ := lp_h (b := fun q : (Int32 × Int32 × (Nat → hj_Ob)) => fX5_coins_32 q.2.2 bf sd x (nI p) v q.1 q.2.1)
        (fun i q => q.2.1 = nI i ∧ q.1 = nI (hp_cs P a x p i) ∧ ∀ k, k ≠ 14 → q.2.2 k = σ k)
        (fun e => ∃ s', e = (nI (hp_cs P a x p 64), s') ∧ ∀ k, k ≠ 14 → s' k = σ k) 64
        (fun i q hi hI => by
          obtain ⟨y1, y2, s⟩ := q
          obtain ⟨e1, e2, e3⟩ := hI
          dsimp only at e1 e2 e3 ⊢
          subst e1
          subst e2
          unfold fX5_coins_32
          by_cases c : 64 ≤ i
          · have : i = 64 := by omega
            subst this
            rw [if_pos (show (64 : Int32) ≤ nI 64 from by decide)]
            exact Or.inl ⟨_, rfl, _, rfl, e3⟩
          · have hi64 : i < 64 := by omega
            have c64 : ¬ (64 : Int32) ≤ nI i := by rw [show (64 : Int32) = nI 64 from rfl, ev_le (by omega) (by omega)]; exact c
            have ecs : hp_cs P a x p (i + 1) = hp_cs P a x p i + if hp_n i a.2.1 = 0 ∧ nI (hp_ev (hp_e P 20 (a.1 ^^^ i, a.2))) = x then hp_w p a.2.1 i else 0 := rfl
            rw [if_neg c64, e3 11 (by decide), hx.2.2.1.2.1]
            simp only [hp_sub hi64 ht]
            refine Or.inr ⟨hi64, ?_⟩
            by_cases c2 : hp_n i a.2.1 = 0
            · have his : i < 2 ^ P.1 := Nat.lt_of_le_of_lt (hp_le hi64 ht c2) ho.2.2.1.2.1
              obtain ⟨s2, j1, j2⟩ := x_eAfter (bf := bf) (sd := sd) (σ := s) (s := i) (d := 4) (by rw [e3 3 (by decide)]; exact hx.2.1) ho.2.1 (by rw [e3 11 (by decide)]; exact hx.2.2.1) ho.2.2.1 hB his (by omega)
              have n64 := hp_n_lt (b := i) ht
              have hw : nI (p ^ hp_c i) * nI ((10 - p) ^ hp_c (hp_n a.2.1 i)) = nI (hp_w p a.2.1 i) := pk_mul _ _
              have hwl := hp_w_le (p := p) ht hi64 hp c2
              rw [if_pos c2, hp_bc hi64, ev_o1, (x_pw hp (hp_c_le i)).1, ev_o1, hp_not ht hi64, hp_bc n64, ev_o1, e10, (x_pw (by omega) (hp_c_le _)).1, ev_o1, ev_nm, hw]
              simp only [show (nI (hp_w p a.2.1 i) ≤ 0) = (hp_w p a.2.1 i ≤ 0) from ev_le (b := 0) (by omega) (by omega)]
              by_cases c3 : hp_w p a.2.1 i ≤ 0
              · rw [if_pos c3, ev_nm, nI_1]
                refine ⟨_, rfl, rfl, ?_, e3⟩
                dsimp only; rw [ecs]
                split
                · rw [show hp_w p a.2.1 i = 0 by omega, Nat.add_zero]
                · rw [Nat.add_zero]
              · rw [if_neg c3, show fX5_endAfter s bf sd 4 (nI i) = _ from j1, hp_dos4n h6 his, ev_o2]
                have fr : ∀ k, k ≠ 14 → s2 k = σ k := fun k hk => (j2 k hk).trans (e3 k hk)
                by_cases c4 : nI (hp_ev (hp_e P 20 (a.1 ^^^ i, a.2))) = x
                · rw [if_pos c4, ev_nm, ev_nm, nI_1, nI_add]
                  refine ⟨_, rfl, rfl, ?_, fr⟩
                  dsimp only; rw [ecs, if_pos ⟨c2, c4⟩]
                · rw [if_neg c4, ev_nm, nI_1]
                  refine ⟨_, rfl, rfl, ?_, fr⟩
                  dsimp only; rw [ecs, if_neg (fun q => c4 q.2), Nat.add_zero]
            · rw [if_neg c2, ev_nm, nI_1]
              refine ⟨_, rfl, rfl, ?_, e3⟩
              dsimp only; rw [ecs, if_neg (fun q => c2 q.1), Nat.add_zero])
        100 0 (0, 0, σ) (by omega) (by omega) ⟨rfl, rfl, fun _ _ => rfl⟩
      obtain ⟨e', he', t', rfl, ht'⟩ := lp_h (b := fun q : (Int32 × Int32 × Int32 × hj_Ob) => fX6_coins_48 q.2.2.2 sd x (nI p) v (nI a.2.1) q.1 q.2.1 q.2.2.1)
        (fun i q => q.2.2.1 = nI i ∧ q.1 = nI (hp_cs P a x p i) ∧ q.2.1 = nI (hp_ws p a.2.1 i) ∧ hr_T τ q.2.2.2)
        (fun e => ∃ t', e = (nI (hp_cs P a x p (a.2.1 + 1)), nI (hp_ws p a.2.1 (a.2.1 + 1)), t') ∧ hr_T τ t') (a.2.1 + 1)
        (fun i q hi hI => by
          obtain ⟨y1, y2, y3, t⟩ := q
          obtain ⟨e1, e2, e3, e4⟩ := hI
          dsimp only at e1 e2 e3 e4 ⊢
          subst e1
          subst e2
          subst e3
          unfold fX6_coins_48
          by_cases c : a.2.1 < i
          · have : i = a.2.1 + 1 := by omega
            subst this
            have c' : nI a.2.1 < nI (a.2.1 + 1) := by rw [ev_lt (by omega) (by omega)]; exact c
            rw [if_pos c']
            exact Or.inl ⟨_, rfl, _, rfl, e4⟩
          · have hi64 : i < 64 := by omega
            have c' : ¬ nI a.2.1 < nI i := by rw [ev_lt (by omega) (by omega)]; exact c
            have ecs : hp_cs P a x p (i + 1) = hp_cs P a x p i + if hp_n i a.2.1 = 0 ∧ nI (hp_ev (hp_e P 20 (a.1 ^^^ i, a.2))) = x then hp_w p a.2.1 i else 0 := rfl
            have ews : hp_ws p a.2.1 (i + 1) = hp_ws p a.2.1 i + if hp_n i a.2.1 = 0 then hp_w p a.2.1 i else 0 := rfl
            rw [if_neg c']
            simp only [hp_sub hi64 ht]
            refine Or.inr ⟨by omega, ?_⟩
            by_cases c2 : hp_n i a.2.1 = 0
            · have g0 := hr_T_M e4 h6 hm.2.2.1
              obtain ⟨t2, j1, j2⟩ := m_endOf (sd := sd) (s := (a.1 &&& a.2.1) ^^^ i) (hr_T_P e4 hm.2.1) ho.2.1 g0 ho.2.2.1 hB (hp_xor_lt (hp_and_lt ho.2.2.1.1) hi64)
              rw [← hp_q_e 20 (hp_q_x ho.2.2.1.1 ht hi64)] at j1
              have hc := hp_ct ht hi64 c2
              have hw : nI (p ^ hp_c i) * nI ((10 - p) ^ hp_c (hp_n a.2.1 i)) = nI (hp_w p a.2.1 i) := pk_mul _ _
              rw [if_pos c2, hp_on hi64, ev_o1, (x_pw hp (hp_c_le i)).2.1, ev_o1, hp_on ht, ev_o1, ev_o1, show nI (hp_c a.2.1) - nI (hp_c i) = nI (hp_c (hp_n a.2.1 i)) from by rw [pk_sub (by omega), hc, Nat.add_sub_cancel_left], e10, (x_pw (by omega) (hp_c_le _)).2.1, ev_o1, ev_nm, hw, ev_nm, nI_add, show ∀ k : Option ((Int32 × Int32 × hj_Ob) ⊕ (Int32 × Int32 × Int32 × hj_Ob)), hj_ck (0 : Int32) 30 k = k from fun k => rfl, show t.2 4 (0 : Int32).toNatClampNeg = nI a.1 from g0.1, hp_and, hp_xor, j1, ev_o2]
              by_cases c4 : nI (hp_ev (hp_e P 20 (a.1 ^^^ i, a.2))) = x
              · rw [if_pos c4, ev_nm, ev_nm, nI_1, nI_add]
                refine ⟨_, rfl, rfl, ?_, ?_, hr_T_tr e4 j2⟩
                · dsimp only; rw [ecs, if_pos ⟨c2, c4⟩]
                · dsimp only; rw [ews, if_pos c2]
              · rw [if_neg c4, ev_nm, ev_nm, nI_1, show nI (hp_cs P a x p i) + 0 = nI (hp_cs P a x p i) from Int32.add_zero _]
                refine ⟨_, rfl, rfl, ?_, ?_, hr_T_tr e4 j2⟩
                · dsimp only; rw [ecs, if_neg (fun q => c4 q.2), Nat.add_zero]
                · dsimp only; rw [ews, if_pos c2, nI_add]
            · rw [if_neg c2, ev_nm, nI_1]
              refine ⟨_, rfl, rfl, ?_, ?_, e4⟩
              · dsimp only; rw [ecs, if_neg (fun q => c2 q.1), Nat.add_zero]
              · dsimp only; rw [ews, if_neg c2, Nat.add_zero])
        100 0 (0, 0, 0, τ) (by omega) (by omega) ⟨rfl, rfl, rfl, hr_T_rf⟩
      obtain ⟨w1, w2, w3⟩ := hp_ws_t (p := p) ht hp
      have e64 : hp_cs P a x p (a.2.1 + 1) = hp_cs P a x p 64 := by
        have := hp_cs_n (P := P) (x := x) (p := p) ht (64 - (a.2.1 + 1)) (by omega)
        rw [show a.2.1 + 1 + (64 - (a.2.1 + 1)) = 64 by omega] at this
        exact this.symm
      have hle := hp_cs_le (P := P) (a := a) (x := x) (p := p) (a.2.1 + 1)
      rw [w1, e64] at hle
      obtain ⟨g, g0, g1, g2, g3⟩ := b_frac (X := nI (hp_cs P a x p 64)) (d := 10 ^ hp_c a.2.1) (by rw [nI_toInt (by omega)]; omega) w2 w3
      rw [he, he', ev_o2, ev_o3, hs' 11 (by decide), hx.2.2.1.2.1, hp_bc ht, ev_o1, show fX5_power 10 (nI (hp_c a.2.1)) = _ from (x_pw (x := 10) (by omega) (hp_c_le _)).1, ev_o1, g3, ev_o1, w1, e64, g2, ev_o1, nz_k g0 g1, nz_k g0 g1]
      have fin : lr B s' bf t' := ⟨tx, P, a, hi, sl, se, lx_fr hx ho.2.2.2.1.1 (fun k _ hk => hs' k hk), lm_T hm ho.2.1.1 ht', ho⟩
      by_cases d0 : v = 0
      · rw [if_pos d0, if_pos d0]
        exact ⟨_, _, _, rfl, rfl, fin⟩
      · rw [if_neg d0, if_neg d0]
        exact ⟨_, _, _, rfl, rfl, fin⟩
    · rw [if_neg c1, in_f (l := 0) (h := 10) rfl rfl (Or.inr (ti_out (n := 10) (by omega) (Int32.not_le.mp c1))), ev_o1, if_pos rfl]
      exact ⟨_, _, _, rfl, rfl, hlr⟩
theorem lr_coins {B : Nat} {σ : Nat → hj_Ob} {bf : Nat → Nat} {τ : hj_Ob} {sd : Int64} (h : lr B σ bf τ) (hB : B < 2 ^ 20) (x z v : Int32) : ∃ r σ' τ', fX5_coins σ bf sd x z v = some (r, σ') ∧ fX6_coins τ sd x z v = some (r, τ') ∧ lr B σ' bf τ' := by
  unfold fX5_coins fX6_coins
  rw [x_side, m_side, ev_o1, ev_o1]
  by_cases c0 : x = 0 ∨ x = 1
  · rw [if_pos c0, if_neg i10, if_neg i10]
    exact lr_coins13 h hB x z v
  · rw [if_neg c0, if_pos i00, if_pos i00]
    by_cases c9 : x = 9
    · rw [if_pos c9, if_pos c9]
      exact lr_coins13 h hB x z v
    · rw [if_neg c9, if_neg c9]
      exact ⟨_, _, _, rfl, rfl, h⟩
