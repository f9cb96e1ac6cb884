/-! a juror read, on both sides -/
def hd_j (D : hp_D) (f1 f2 f3 : Nat) : hp_D := (D.1 + 1, D.2.1, D.2.2.1 ||| f1 * 2 ^ D.1, va_up D.2.2.2.1 D.1 f2, va_up D.2.2.2.2.1 D.1 f3, va_up D.2.2.2.2.2 D.1 0)
set_option maxRecDepth 100000 in
theorem hp_jb_all : hp_all 6 (fun n => hp_all 64 (fun y => hp_all 2 (fun f => decide (y < 2 ^ n → (y ||| f * 2 ^ n) < 2 ^ (n + 1) ∧ hp_b (y ||| f * 2 ^ n) n = f ∧ hp_all n (fun j => decide (hp_b (y ||| f * 2 ^ n) j = hp_b y j)) = true)))) = true := by decide +kernel
theorem hp_jb {n y f : Nat} (hn : n < 6) (hy : y < 2 ^ n) (hf : f < 2) : (y ||| f * 2 ^ n) < 2 ^ (n + 1) ∧ hp_b (y ||| f * 2 ^ n) n = f ∧ ∀ j, j < n → hp_b (y ||| f * 2 ^ n) j = hp_b y j := by
  have h64 : y < 64 := hp_t64 (by omega) hy
  obtain ⟨a, b, c⟩ := (of_decide_eq_true (hp_all_s (hp_all_s (hp_all_s hp_jb_all hn) h64) hf)) hy
  exact ⟨a, b, fun j hj => of_decide_eq_true (hp_all_s c hj)⟩
theorem hd_j_ok {D : hp_D} {f1 f2 f3 : Nat} (h : hd_ok D) (hn : D.1 < 6) (h1 : f1 < 2) (h2 : 1 ≤ f2 ∧ f2 ≤ 9) (h3 : f3 ≤ 3) : hd_ok (hd_j D f1 f2 f3) := by
  refine ⟨hn, h.2.1, (hp_jb hn h.2.2.1 h1).1, fun j hj => ?_⟩
  have hj : j < D.1 + 1 := hj
  show 1 ≤ va_up D.2.2.2.1 D.1 f2 j ∧ va_up D.2.2.2.1 D.1 f2 j ≤ 9 ∧ va_up D.2.2.2.2.1 D.1 f3 j ≤ 3 ∧ va_up D.2.2.2.2.2 D.1 0 j < 64
  by_cases e : j = D.1
  · rw [e, va_up_self, va_up_self, va_up_self]; exact ⟨h2.1, h2.2, h3, by omega⟩
  · rw [va_up_ne _ _ e, va_up_ne _ _ e, va_up_ne _ _ e]; exact h.2.2.2 j (by omega)
theorem x_rj {t ρ : hj_Ob} {tx : hp_T} {D : hp_D} {i : Nat} (ht : hd_t t tx) (hx : hd_x ρ D) (ho : hd_ok D) (hi : i < 900) :
    (6 ≤ D.1 → fX1_readJuror t ρ (nI i) = some (nI i, ρ)) ∧ (D.1 < 6 → (¬ hd_f tx (i + 1) 0 1 → fX1_readJuror t ρ (nI i) = some (nI (i + 1), ρ)) ∧ (hd_f tx (i + 1) 0 1 → ¬ hd_f tx (i + 2) 1 9 → fX1_readJuror t ρ (nI i) = some (nI (i + 2), ρ)) ∧ (hd_f tx (i + 1) 0 1 → hd_f tx (i + 2) 1 9 → ¬ hd_f tx (i + 3) 0 3 → fX1_readJuror t ρ (nI i) = some (nI (i + 3), ρ)) ∧ (hd_f tx (i + 1) 0 1 → hd_f tx (i + 2) 1 9 → hd_f tx (i + 3) 0 3 → ∃ ρ', fX1_readJuror t ρ (nI i) = some (-9, ρ') ∧ hd_x ρ' (hd_j D (tx.2 (i + 1) - 48) (tx.2 (i + 2) - 48) (tx.2 (i + 3) - 48)))) := by
  have h6 := ho.1
  unfold fX1_readJuror
  rw [hx.1, if_neg (ev_neg (by omega)), nI_1, show nI i + 2 = nI (i + 2) from nI_add i 2, show nI i + 3 = nI (i + 3) from nI_add i 3]
  simp only [show (nI D.1 < 6) = (D.1 < 6) from ev_lt (b := 6) (by omega) (by omega)]
  rw [show fX4_isFigure t (nI (i + 1)) 0 1 = _ from x_fig ht (lo := 0) (hi := 1) (by omega) (by omega) (by omega), show fX4_isFigure t (nI (i + 2)) 1 9 = _ from x_fig ht (lo := 1) (hi := 9) (by omega) (by omega) (by omega), show fX4_isFigure t (nI (i + 3)) 0 3 = _ from x_fig ht (lo := 0) (hi := 3) (by omega) (by omega) (by omega), ev_o1, ev_o1, ev_o1]
  constructor
  · intro q
    rw [if_neg (by omega)]
  · intro hn
    rw [if_pos hn]
    refine ⟨fun f1 => ?_, fun f1 f2 => ?_, fun f1 f2 f3 => ?_, fun f1 f2 f3 => ?_⟩
    · rw [if_neg f1, if_pos i00]
    · rw [if_pos f1, if_neg i10, if_neg f2, if_pos i00]
    · rw [if_pos f1, if_neg i10, if_pos f2, if_neg i10, if_neg f3, if_pos i00]
    · rw [if_pos f1, if_neg i10, if_pos f2, if_neg i10, if_pos f3, if_neg i10, x_fat ht (by omega), ev_o1, if_pos f1.1, x_fat ht (by omega), x_fat ht (by omega), if_pos f2.1, if_pos f3.1, nI_48 (by omega), nI_48 (by omega), nI_48 (by omega), ev_nm, ev_o1, hx.2.2.1]
      have e0 : nI D.2.2.1 ||| nI (tx.2 (i + 1) - 48) <<< (nI D.1 &&& 31) = nI (D.2.2.1 ||| (tx.2 (i + 1) - 48) * 2 ^ D.1) := by
        have : tx.2 (i + 1) - 48 = 0 ∨ tx.2 (i + 1) - 48 = 1 := by omega
        rcases this with e | e <;> rw [e]
        · rw [Nat.zero_mul, show nI 0 <<< (nI D.1 &&& 31) = nI 0 from Int32.zero_shiftLeft, hp_or]
        · rw [Nat.one_mul, show nI 1 <<< (nI D.1 &&& 31) = nI (2 ^ D.1) from hp_pw (by omega), hp_or]
      rw [e0]
      have s3 : ∀ v : Int32, (hj_s ρ 5 v).1 3 = nI D.1 := fun v => by rw [ev_s1, if_neg (by decide)]; exact hx.1
      rw [s3, ck_k hn (by decide), ev_nm, ev_o1, ev_a1, s3, ck_k hn (by decide), ev_nm, ev_a1, ev_a1, s3, ck_k hn (by decide), ev_nm, ev_a1, ev_a1, ev_a1, s3, ev_nm, nI_1]
      refine ⟨_, rfl, rfl, ?_, rfl, fun j hj => ?_⟩
      · show ρ.1 4 = _
        exact hx.2.1
      · have hj : j < D.1 + 1 := hj
        show (upd (ρ.2 0) (nI D.1).toNatClampNeg (nI (tx.2 (i + 2) - 48))) j = nI (va_up D.2.2.2.1 D.1 _ j) ∧ (upd (ρ.2 1) (nI D.1).toNatClampNeg (nI (tx.2 (i + 3) - 48))) j = nI (va_up D.2.2.2.2.1 D.1 _ j) ∧ (upd (ρ.2 2) (nI D.1).toNatClampNeg 0) j = nI (va_up D.2.2.2.2.2 D.1 0 j)
        rw [ev_cl (by omega), ev_upd, ev_upd, ev_upd]
        by_cases e : j = D.1
        · rw [if_pos e, if_pos e, if_pos e, e, va_up_self, va_up_self, va_up_self]; exact ⟨rfl, rfl, rfl⟩
        · rw [if_neg e, if_neg e, if_neg e, va_up_ne _ _ e, va_up_ne _ _ e, va_up_ne _ _ e]
          exact hx.2.2.2 j (by omega)
def hr_G (τ τ' : hj_Ob) : Prop := hr_D τ τ' ∧ τ'.2 = τ.2 ∧ τ'.1 7 = τ.1 7 ∧ τ'.1 8 = τ.1 8
theorem m_g {τ : hj_Ob} {sd : Int64} {tx : hp_T} {i m : Nat} (hu : hd_u τ tx) (hi : i < 1000) (hat : τ.1 11 = nI i) (hf : τ.1 12 = -9) (hm : ∀ k, k < 10 → fX6_has (nI m) (nI k) = some (nI (hp_b m k))) :
    ∃ r τ', fX6_figureOf τ sd (nI m) = some (r, τ') ∧ hr_G τ τ' ∧ (hd_b tx i m → r = nI (tx.2 i - 48) ∧ τ'.1 11 = nI (i + 1) ∧ τ'.1 12 = -9) ∧ (¬ hd_b tx i m → r = 0 ∧ τ'.1 12 = nI i) := by
  obtain ⟨h1, h2⟩ := m_fo (sd := sd) hu hi hat hf hm
  by_cases c : hd_b tx i m
  · exact ⟨_, _, h1 c, ⟨hr_D_s (by omega), rfl, rfl, rfl⟩, fun _ => ⟨rfl, rfl, hf⟩, fun q => absurd c q⟩
  · exact ⟨_, _, h2 c, ⟨hr_D_s (by omega), rfl, rfl, rfl⟩, fun q => absurd q c, fun _ => ⟨rfl, rfl⟩⟩
theorem m_gf {τ : hj_Ob} {sd : Int64} {f : Nat} (hf : τ.1 12 = nI f) (h : f < 1000) (M : Int32) : ∃ τ', fX6_figureOf τ sd M = some (0, τ') ∧ hr_G τ τ' ∧ τ'.1 12 = nI f :=
  ⟨_, m_ff (by rw [hf]; exact m_ff_i h), ⟨hr_D_s (by omega), rfl, rfl, rfl⟩, by rw [ev_s1, if_pos rfl]; exact hf⟩
theorem m_rj {τ : hj_Ob} {sd : Int64} {tx : hp_T} {D : hp_D} {i : Nat} (hu : hd_u τ tx) (hm : hd_m τ D) (ho : hd_ok D) (hi : i < 900) (hn : D.1 < 6) (hat : τ.1 11 = nI i) (hf : τ.1 12 = -9) :
    ∃ τ', fX6_readPart τ sd 80 = some τ' ∧ hr_D τ τ' ∧ (¬ hd_f tx (i + 1) 0 1 → τ'.1 12 = nI (i + 1)) ∧ (hd_f tx (i + 1) 0 1 → ¬ hd_f tx (i + 2) 1 9 → τ'.1 12 = nI (i + 2)) ∧ (hd_f tx (i + 1) 0 1 → hd_f tx (i + 2) 1 9 → ¬ hd_f tx (i + 3) 0 3 → τ'.1 12 = nI (i + 3)) ∧ (hd_f tx (i + 1) 0 1 → hd_f tx (i + 2) 1 9 → hd_f tx (i + 3) 0 3 → τ'.1 12 = -9 ∧ τ'.1 11 = nI (i + 4) ∧ hd_m τ' (hd_j D (tx.2 (i + 1) - 48) (tx.2 (i + 2) - 48) (tx.2 (i + 3) - 48))) := by
  have c6 : ¬ (6 : Int32) ≤ nI D.1 := by rw [show (6 : Int32) = nI 6 from rfl, ev_le (by omega) (by omega)]; omega
  unfold fX6_readPart
  rw [if_pos rfl, hm.1, if_neg c6, hat, nI_1, ev_nm]
  have u1 : hd_u (hj_s τ 11 (nI (i + 1))) tx := hr_D_u (hr_D_s (by omega)) hu
  obtain ⟨r1, τ1, k1, G1, y1, n1⟩ := m_g (sd := sd) u1 (show i + 1 < 1000 by omega) rfl hf has_3
  rw [show fX6_figureOf (hj_s τ 11 (nI (i + 1))) sd 3 = _ from k1, ev_o2]
  have e7 : (hj_s τ 11 (nI (i + 1))).1 7 = nI D.1 := hm.1
  have g7 : τ1.1 7 = nI D.1 := G1.2.2.1.trans e7
  have D1 : hr_D τ τ1 := hr_D_tr (hr_D_s (by omega)) G1.1
  rw [e7, show (3 : Int32) * nI D.1 = nI (3 * D.1) from pk_mul 3 _, ck_k (by omega) (by decide), ev_nm]
  generalize hτ2 : hj_a τ1 5 (nI (3 * D.1)) r1 = τ2
  have E2 : hr_D τ τ2 := by rw [← hτ2]; exact hr_D_tr D1 (hr_D_a (by omega))
  have e72 : τ2.1 = τ1.1 := by rw [← hτ2]; rfl
  have row2 : ∀ k, τ2.2 5 k = if k = 3 * D.1 then r1 else τ.2 5 k := by
    intro k
    rw [← hτ2, wx_a_se, ev_upd, ev_cl (by omega), G1.2.1]
    rfl
  have row26 : τ2.2 6 = τ.2 6 := by rw [← hτ2, wx_a_ne (by decide), G1.2.1]; rfl
  -- the second figure
  have s2 : ∃ r2 τ3, fX6_figureOf τ2 sd 1022 = some (r2, τ3) ∧ hr_G τ2 τ3 ∧ (¬ hd_f tx (i + 1) 0 1 → τ3.1 12 = nI (i + 1)) ∧ (hd_f tx (i + 1) 0 1 → ¬ hd_f tx (i + 2) 1 9 → τ3.1 12 = nI (i + 2)) ∧ (hd_f tx (i + 1) 0 1 → hd_f tx (i + 2) 1 9 → r2 = nI (tx.2 (i + 2) - 48) ∧ τ3.1 11 = nI (i + 3) ∧ τ3.1 12 = -9) := by
    by_cases c : hd_f tx (i + 1) 0 1
    · obtain ⟨q1, q2, q3⟩ := y1 (hd_b3.mpr c)
      obtain ⟨r2, τ3, j1, j2, j3, j4⟩ := m_g (sd := sd) (hr_D_u E2 hu) (show i + 2 < 1000 by omega) (by rw [e72]; exact q2) (by rw [e72]; exact q3) has_1022
      exact ⟨r2, τ3, j1, j2, fun w => absurd c w, fun _ w => (j4 (fun z => w (hd_b1022.mp z))).2, fun _ w => j3 (hd_b1022.mpr w)⟩
    · obtain ⟨τ3, j1, j2, j3⟩ := m_gf (sd := sd) (f := i + 1) (show τ2.1 12 = nI (i + 1) by rw [e72]; exact (n1 (fun z => c (hd_b3.mp z))).2) (by omega) 1022
      exact ⟨0, τ3, j1, j2, fun _ => j3, fun w => absurd w c, fun w => absurd w c⟩
  obtain ⟨r2, τ3, k3, G3, a1, a2, a3⟩ := s2
  rw [k3, ev_o2, show τ2.1 7 = nI D.1 by rw [e72]; exact g7, show (3 : Int32) * nI D.1 = nI (3 * D.1) from pk_mul 3 _, show (nI (3 * D.1) + 1) = nI (3 * D.1 + 1) from nI_1 _, ck_k (by omega) (by decide), ev_nm]
  generalize hτ4 : hj_a τ3 5 (nI (3 * D.1 + 1)) r2 = τ4
  have E4 : hr_D τ τ4 := by rw [← hτ4]; exact hr_D_tr E2 (hr_D_tr G3.1 (hr_D_a (by omega)))
  have e74 : τ4.1 = τ3.1 := by rw [← hτ4]; rfl
  have row4 : ∀ k, τ4.2 5 k = if k = 3 * D.1 + 1 then r2 else τ2.2 5 k := by
    intro k
    rw [← hτ4, wx_a_se, ev_upd, ev_cl (by omega), G3.2.1]
  have row46 : τ4.2 6 = τ.2 6 := by rw [← hτ4, wx_a_ne (by decide), G3.2.1, row26]
  have g74 : τ4.1 7 = nI D.1 := by rw [e74, G3.2.2.1, e72]; exact g7
  have s4 : ∃ r3 τ5, fX6_figureOf τ4 sd 15 = some (r3, τ5) ∧ hr_G τ4 τ5 ∧ (¬ hd_f tx (i + 1) 0 1 → τ5.1 12 = nI (i + 1)) ∧ (hd_f tx (i + 1) 0 1 → ¬ hd_f tx (i + 2) 1 9 → τ5.1 12 = nI (i + 2)) ∧ (hd_f tx (i + 1) 0 1 → hd_f tx (i + 2) 1 9 → ¬ hd_f tx (i + 3) 0 3 → τ5.1 12 = nI (i + 3)) ∧ (hd_f tx (i + 1) 0 1 → hd_f tx (i + 2) 1 9 → hd_f tx (i + 3) 0 3 → r3 = nI (tx.2 (i + 3) - 48) ∧ τ5.1 11 = nI (i + 4) ∧ τ5.1 12 = -9) := by
    by_cases c : hd_f tx (i + 1) 0 1
    · by_cases c2 : hd_f tx (i + 2) 1 9
      · obtain ⟨q1, q2, q3⟩ := a3 c c2
        obtain ⟨r3, τ5, j1, j2, j3, j4⟩ := m_g (sd := sd) (hr_D_u E4 hu) (show i + 3 < 1000 by omega) (by rw [e74]; exact q2) (by rw [e74]; exact q3) has_15
        exact ⟨r3, τ5, j1, j2, fun w => absurd c w, fun _ w => absurd c2 w, fun _ _ w => (j4 (fun z => w (hd_b15.mp z))).2, fun _ _ w => j3 (hd_b15.mpr w)⟩
      · obtain ⟨τ5, j1, j2, j3⟩ := m_gf (sd := sd) (f := i + 2) (show τ4.1 12 = nI (i + 2) by rw [e74]; exact a2 c c2) (by omega) 15
        exact ⟨0, τ5, j1, j2, fun w => absurd c w, fun _ _ => j3, fun _ w => absurd w c2, fun _ w => absurd w c2⟩
    · obtain ⟨τ5, j1, j2, j3⟩ := m_gf (sd := sd) (f := i + 1) (show τ4.1 12 = nI (i + 1) by rw [e74]; exact a1 c) (by omega) 15
      exact ⟨0, τ5, j1, j2, fun _ => j3, fun w => absurd w c, fun w => absurd w c, fun w => absurd w c⟩
  obtain ⟨r3, τ5, k5, G5, b1, b2, b3, b4⟩ := s4
  rw [k5, ev_o2, g74, show (3 : Int32) * nI D.1 = nI (3 * D.1) from pk_mul 3 _, show (nI (3 * D.1) + 2) = nI (3 * D.1 + 2) from nI_add _ 2, ck_k (by omega) (by decide), ev_nm, ev_nm]
  generalize hτ6 : hj_a τ5 5 (nI (3 * D.1 + 2)) r3 = τ6
  have E6 : hr_D τ τ6 := by rw [← hτ6]; exact hr_D_tr E4 (hr_D_tr G5.1 (hr_D_a (by omega)))
  have e76 : τ6.1 = τ5.1 := by rw [← hτ6]; rfl
  have row6 : ∀ k, τ6.2 5 k = if k = 3 * D.1 + 2 then r3 else τ4.2 5 k := by
    intro k
    rw [← hτ6, wx_a_se, ev_upd, ev_cl (by omega), G5.2.1]
  have row66 : τ6.2 6 = τ.2 6 := by rw [← hτ6, wx_a_ne (by decide), G5.2.1, row46]
  have g76 : τ6.1 7 = nI D.1 := by rw [e76, G5.2.2.1]; exact g74
  have g86 : τ6.1 8 = nI D.2.1 := by rw [e76, G5.2.2.2, e74, G3.2.2.2, e72, G1.2.2.2]; exact hm.2.1
  refine ⟨_, rfl, hr_D_tr E6 (hr_D_s (by omega)), fun f => ?_, fun f1 f2 => ?_, fun f1 f2 f3 => ?_, fun f1 f2 f3 => ?_⟩
  · show τ6.1 12 = _; rw [e76]; exact b1 f
  · show τ6.1 12 = _; rw [e76]; exact b2 f1 f2
  · show τ6.1 12 = _; rw [e76]; exact b3 f1 f2 f3
  · obtain ⟨q1, q2, q3⟩ := b4 f1 f2 f3
    obtain ⟨jb1, jb2, jb3⟩ := hp_jb hn ho.2.2.1 (show tx.2 (i + 1) - 48 < 2 by omega)
    refine ⟨by show τ6.1 12 = _; rw [e76]; exact q3, by show τ6.1 11 = _; rw [e76]; exact q2, ?_, g86, fun j hj => ?_, fun j h1 h2 => ?_⟩
    · show τ6.1 7 + 1 = nI (D.1 + 1)
      rw [g76, nI_1]
    · have hj : j < D.1 + 1 := hj
      show τ6.2 5 (3 * j) = nI (hp_b (D.2.2.1 ||| (tx.2 (i + 1) - 48) * 2 ^ D.1) j) ∧ τ6.2 5 (3 * j + 1) = nI (va_up D.2.2.2.1 D.1 _ j) ∧ τ6.2 5 (3 * j + 2) = nI (va_up D.2.2.2.2.1 D.1 _ j) ∧ τ6.2 6 j = nI (va_up D.2.2.2.2.2 D.1 0 j)
      rw [row6, row6, row6, row4, row4, row4, row2, row2, row2, row66]
      by_cases e : j = D.1
      · subst e
        rw [if_neg (by omega), if_neg (by omega), if_pos rfl, if_neg (by omega), if_pos rfl, if_pos rfl, va_up_self, va_up_self, va_up_self, jb2]
        exact ⟨(y1 (hd_b3.mpr f1)).1, (a3 f1 f2).1, q1, hm.2.2.2 _ (Nat.le_refl _) hn⟩
      · rw [if_neg (by omega), if_neg (by omega), if_neg (by omega), if_neg (by omega), if_neg (by omega), if_neg (by omega), if_neg (by omega), if_neg (by omega), if_neg (by omega), va_up_ne _ _ e, va_up_ne _ _ e, va_up_ne _ _ e, jb3 j (by omega)]
        exact hm.2.2.1 j (by omega)
    · have h1 : D.1 + 1 ≤ j := h1
      show τ6.2 6 j = 0
      rw [row66]
      exact hm.2.2.2 j (by omega) h2
