/-! a pair read, on both sides -/
def hp_pl (n : Nat) (E : Nat → Nat) (j : Nat) : Nat := hp_n (hp_n (2 ^ n - 1) (2 ^ j)) (E j)
def hp_fs (n : Nat) (E : Nat → Nat) : Nat → Nat
  | 0 => 0
  | k + 1 => if hp_pl n E k = 0 then hp_fs n E k else hp_fs n E k ||| 1 * 2 ^ k
theorem hp_p1 {n : Nat} (h : n ≤ 6) : 2 ^ n - 1 < 64 := by
  have : 2 ^ n ≤ 2 ^ 6 := Nat.pow_le_pow_right (by decide) h
  omega
theorem hp_pl_lt {n : Nat} {E : Nat → Nat} {j : Nat} (h : n ≤ 6) : hp_pl n E j < 64 := hp_n_lt (hp_n_lt (hp_p1 h))
theorem hp_fs_b {n : Nat} {E : Nat → Nat} : ∀ k, k ≤ 6 → hp_fs n E k < 2 ^ k ∧ ∀ j, hp_b (hp_fs n E k) j = 1 ↔ (j < k ∧ ¬ hp_pl n E j = 0)
  | 0, _ => by
    refine ⟨by show 0 < 1; decide, fun j => ⟨fun q => ?_, fun q => absurd q.1 (Nat.not_lt_zero j)⟩⟩
    have e : hp_b 0 j = 0 := by unfold hp_b; rw [Nat.zero_div]
    have q : hp_b 0 j = 1 := q
    omega
  | k + 1, hk => by
    obtain ⟨h1, h2⟩ := hp_fs_b (n := n) (E := E) k (by omega)
    show (if hp_pl n E k = 0 then hp_fs n E k else hp_fs n E k ||| 1 * 2 ^ k) < 2 ^ (k + 1) ∧ ∀ j, hp_b (if hp_pl n E k = 0 then hp_fs n E k else hp_fs n E k ||| 1 * 2 ^ k) j = 1 ↔ (j < k + 1 ∧ ¬ hp_pl n E j = 0)
    by_cases c : hp_pl n E k = 0
    · rw [if_pos c]
      refine ⟨Nat.lt_of_lt_of_le h1 (Nat.pow_le_pow_right (by decide) (by omega)), fun j => ?_⟩
      rw [h2]
      constructor
      · rintro ⟨a, b⟩; exact ⟨by omega, b⟩
      · rintro ⟨a, b⟩
        refine ⟨?_, b⟩
        by_cases e : j = k
        · subst e; exact absurd c b
        · omega
    · rw [if_neg c]
      obtain ⟨j1, j2, j3⟩ := hp_jb (n := k) (f := 1) (by omega) h1 (by decide)
      refine ⟨j1, fun j => ?_⟩
      by_cases e : j < k
      · rw [j3 j e, h2]
        constructor
        · rintro ⟨a, b⟩; exact ⟨by omega, b⟩
        · rintro ⟨a, b⟩; exact ⟨e, b⟩
      · by_cases e2 : j = k
        · subst e2
          rw [j2]
          exact ⟨fun _ => ⟨by omega, c⟩, fun _ => rfl⟩
        · constructor
          · intro q; have := hp_bn j1 q; omega
          · rintro ⟨a, b⟩; omega
theorem hp_b00 (j : Nat) : hp_b 0 j = 0 := by unfold hp_b; rw [Nat.zero_div]
theorem hp_fs_0 {n : Nat} {E : Nat → Nat} {k j : Nat} (hk : k ≤ 6) (h : hp_fs n E k = 0) (hj : j < k) : hp_pl n E j = 0 := by
  by_cases c : hp_pl n E j = 0
  · exact c
  · have := ((hp_fs_b (n := n) (E := E) k hk).2 j).mpr ⟨hj, c⟩
    rw [h, hp_b00] at this
    exact absurd this (by decide)
theorem x_pl {t ρ : hj_Ob} {D : hp_D} {j : Nat} (hx : hd_x ρ D) (ho : hd_ok D) (hj : j < D.1) : fX1_pairsLeft t ρ (nI j) = some (nI (hp_pl D.1 D.2.2.2.2.2 j)) := by
  have h6 := ho.1
  unfold fX1_pairsLeft
  rw [if_neg (ev_neg (by omega)), hx.1]
  simp only [show (nI D.1 ≤ nI j) = (D.1 ≤ j) from ev_le (by omega) (by omega), show (nI j < 6) = (j < 6) from ev_lt (b := 6) (by omega) (by omega)]
  rw [if_neg (by omega), if_pos (by omega), ck_k (by omega) (by decide), ev_cl (by omega), (hx.2.2.2 j hj).2.2, hp_pm (by omega), hp_pw (by omega), hp_not (hp_p1 h6) (hp_p_lt (by omega)), hp_not (hp_n_lt (hp_p1 h6)) (ho.2.2.2 j hj).2.2.2]
  rfl
theorem x_pl0 {t ρ : hj_Ob} {D : hp_D} {x : Int32} (hx : hd_x ρ D) (h : x < 0 ∨ nI D.1 ≤ x) : fX1_pairsLeft t ρ x = some 0 := by
  unfold fX1_pairsLeft
  by_cases c : x < 0
  · rw [if_pos c]
  · rw [if_neg c, hx.1, if_pos (h.resolve_left c)]
theorem x_hpl {t ρ : hj_Ob} {D : hp_D} (hx : hd_x ρ D) (ho : hd_ok D) : fX1_hasPairLeft t ρ = some (if hp_fs D.1 D.2.2.2.2.2 D.1 = 0 then 0 else 1) := by
  have h6 := ho.1
  unfold fX1_hasPairLeft
  obtain ⟨e, he, hQ⟩ := lp_h (b := fun q : Int32 => fX1_hasPairLeft_2 t ρ q) (fun k q => q = nI k ∧ hp_fs D.1 D.2.2.2.2.2 k = 0)
    (fun e => (e = .inl 1 ∧ ¬ hp_fs D.1 D.2.2.2.2.2 D.1 = 0) ∨ (e = .inr () ∧ hp_fs D.1 D.2.2.2.2.2 D.1 = 0)) D.1
    (fun k q hk hI => by
      obtain ⟨e1, e2⟩ := hI
      subst e1
      unfold fX1_hasPairLeft_2
      rw [hx.1]
      by_cases c : D.1 ≤ k
      · have : k = D.1 := by omega
        rw [if_pos (by rw [ev_le (by omega) (by omega)]; exact c)]
        rw [this] at e2
        exact Or.inl ⟨_, rfl, Or.inr ⟨rfl, e2⟩⟩
      · rw [if_neg (by rw [ev_le (by omega) (by omega)]; exact c), x_pl hx ho (by omega), ev_o1]
        have plt := hp_pl_lt (n := D.1) (E := D.2.2.2.2.2) (j := k) h6
        simp only [show (nI (hp_pl D.1 D.2.2.2.2.2 k) = 0) = (hp_pl D.1 D.2.2.2.2.2 k = 0) from ev_eq (b := 0) (by omega) (by omega)]
        by_cases g : hp_pl D.1 D.2.2.2.2.2 k = 0
        · rw [if_pos g, ev_nm, nI_1]
          refine Or.inr ⟨by omega, _, rfl, rfl, ?_⟩
          show (if hp_pl D.1 D.2.2.2.2.2 k = 0 then hp_fs D.1 D.2.2.2.2.2 k else _) = 0
          rw [if_pos g]; exact e2
        · rw [if_neg g]
          exact Or.inl ⟨_, rfl, Or.inl ⟨rfl, fun w => g (hp_fs_0 h6 w (by omega))⟩⟩)
    100 0 0 (by omega) (by omega) ⟨rfl, rfl⟩
  rw [he]
  rcases hQ with ⟨rfl, q⟩ | ⟨rfl, q⟩
  · rw [ev_oel, if_neg q]
  · rw [ev_oei, if_pos q]
theorem m_left {τ : hj_Ob} {sd : Int64} {D : hp_D} {j : Nat} (hm : hd_m τ D) (ho : hd_ok D) (hj : j < D.1) : fX6_left τ sd (nI j) = some (nI (hp_pl D.1 D.2.2.2.2.2 j)) := by
  have h6 := ho.1
  unfold fX6_left
  rw [ck_k (by omega) (by decide), ev_cl (by omega), hm.1, (hm.2.2.1 j hj).2.2.2, hp_pm (by omega), hp_pw (by omega), hp_not (hp_p1 h6) (ho.2.2.2 j hj).2.2.2, hp_not (hp_n_lt (hp_p1 h6)) (hp_p_lt (by omega))]
  unfold hp_pl hp_n
  rw [Nat.and_assoc, Nat.and_assoc, Nat.and_comm (63 ^^^ D.2.2.2.2.2 j)]
theorem m_fl {τ : hj_Ob} {sd : Int64} {D : hp_D} (hm : hd_m τ D) (ho : hd_ok D) : fX6_firstsLeft τ sd = some (nI (hp_fs D.1 D.2.2.2.2.2 D.1)) := by
  have h6 := ho.1
  unfold fX6_firstsLeft
  obtain ⟨e, he, rfl⟩ := lp_h (b := fun q : (Int32 × Int32) => fX6_firstsLeft_4 τ sd q.1 q.2) (fun k q => q.2 = nI k ∧ q.1 = nI (hp_fs D.1 D.2.2.2.2.2 k)) (fun e => e = nI (hp_fs D.1 D.2.2.2.2.2 D.1)) D.1
    (fun k q hk hI => by
      obtain ⟨y1, y2⟩ := q
      obtain ⟨e1, e2⟩ := hI
      dsimp only at e1 e2 ⊢
      subst e1
      subst e2
      unfold fX6_firstsLeft_4
      rw [hm.1]
      by_cases c : D.1 ≤ k
      · have : k = D.1 := by omega
        rw [if_pos (by rw [ev_le (by omega) (by omega)]; exact c)]
        exact Or.inl ⟨_, rfl, by rw [this]⟩
      · rw [if_neg (by rw [ev_le (by omega) (by omega)]; exact c), m_left hm ho (by omega), ev_o1]
        have plt := hp_pl_lt (n := D.1) (E := D.2.2.2.2.2) (j := k) h6
        simp only [show (nI (hp_pl D.1 D.2.2.2.2.2 k) = 0) = (hp_pl D.1 D.2.2.2.2.2 k = 0) from ev_eq (b := 0) (by omega) (by omega)]
        have efs : hp_fs D.1 D.2.2.2.2.2 (k + 1) = if hp_pl D.1 D.2.2.2.2.2 k = 0 then hp_fs D.1 D.2.2.2.2.2 k else hp_fs D.1 D.2.2.2.2.2 k ||| 1 * 2 ^ k := rfl
        refine Or.inr ⟨by omega, ?_⟩
        by_cases g : hp_pl D.1 D.2.2.2.2.2 k = 0
        · rw [if_pos g] at efs
          rw [if_pos g, ev_nm, ev_nm, nI_1, show nI (hp_fs D.1 D.2.2.2.2.2 k) ||| 0 = nI (hp_fs D.1 D.2.2.2.2.2 k ||| 0) from hp_or _ 0, Nat.or_zero]
          exact ⟨_, rfl, rfl, by rw [efs]⟩
        · rw [if_neg g, Nat.one_mul] at efs
          rw [if_neg g, ev_nm, ev_nm, nI_1, hp_pw (by omega), hp_or]
          exact ⟨_, rfl, rfl, by rw [efs]⟩)
    100 0 (0, 0) (by omega) (by omega) ⟨rfl, rfl⟩
  rw [he, ev_o1]
def hd_p (D : hp_D) (j k : Nat) : hp_D := (D.1, D.2.1, D.2.2.1, D.2.2.2.1, D.2.2.2.2.1, va_up D.2.2.2.2.2 j (D.2.2.2.2.2 j ||| 2 ^ k))
theorem hd_p_ok {D : hp_D} {j k : Nat} (h : hd_ok D) (hj : j < D.1) (hk : k < 6) : hd_ok (hd_p D j k) := by
  refine ⟨h.1, h.2.1, h.2.2.1, fun i hi => ?_⟩
  obtain ⟨a, b, c, d⟩ := h.2.2.2 i hi
  refine ⟨a, b, c, ?_⟩
  show va_up D.2.2.2.2.2 j (D.2.2.2.2.2 j ||| 2 ^ k) i < 64
  by_cases e : i = j
  · rw [e, va_up_self]; exact hp_or_lt (h.2.2.2 j hj).2.2.2 (hp_p_lt hk)
  · rw [va_up_ne _ _ e]; exact d
/-- the first of a pair stands -/
theorem hd_first {tx : hp_T} {D : hp_D} {i : Nat} (ho : hd_ok D) (h : hd_b tx i (hp_fs D.1 D.2.2.2.2.2 D.1)) : tx.2 i - 48 < D.1 ∧ ¬ hp_pl D.1 D.2.2.2.2.2 (tx.2 i - 48) = 0 := ((hp_fs_b D.1 ho.1).2 _).mp h.2.2.2
theorem hd_second {tx : hp_T} {D : hp_D} {i j : Nat} (ho : hd_ok D) (h : hd_b tx i (hp_pl D.1 D.2.2.2.2.2 j)) : tx.2 i - 48 < 6 := by
  have : hp_pl D.1 D.2.2.2.2.2 j < 2 ^ 6 := hp_pl_lt ho.1
  exact hp_bn this h.2.2.2
theorem x_rp {t ρ : hj_Ob} {tx : hp_T} {D : hp_D} {i : Nat} (ht : hd_t t tx) (hx : hd_x ρ D) (ho : hd_ok D) (hi : i < tx.1) :
    (¬ (tx.2 i = 72 ∧ ¬ hp_fs D.1 D.2.2.2.2.2 D.1 = 0) → fX1_readPair t ρ (nI i) = some (nI i, ρ)) ∧ (tx.2 i = 72 → ¬ hp_fs D.1 D.2.2.2.2.2 D.1 = 0 → (¬ hd_b tx (i + 1) (hp_fs D.1 D.2.2.2.2.2 D.1) → fX1_readPair t ρ (nI i) = some (nI (i + 1), ρ)) ∧ (hd_b tx (i + 1) (hp_fs D.1 D.2.2.2.2.2 D.1) → ¬ hd_b tx (i + 2) (hp_pl D.1 D.2.2.2.2.2 (tx.2 (i + 1) - 48)) → fX1_readPair t ρ (nI i) = some (nI (i + 2), ρ)) ∧ (hd_b tx (i + 1) (hp_fs D.1 D.2.2.2.2.2 D.1) → hd_b tx (i + 2) (hp_pl D.1 D.2.2.2.2.2 (tx.2 (i + 1) - 48)) → ∃ ρ', fX1_readPair t ρ (nI i) = some (-9, ρ') ∧ hd_x ρ' (hd_p D (tx.2 (i + 1) - 48) (tx.2 (i + 2) - 48)))) := by
  have h6 := ho.1
  have h56 := ht.2.2.1
  have hc := ht.2.2.2 i hi
  unfold fX1_readPair
  rw [x_let ht (by omega), ev_o1, if_pos hi, x_hpl hx ho, ev_o1, nI_1, show nI i + 2 = nI (i + 2) from nI_add i 2]
  simp only [show (nI (tx.2 i) = 72) = (tx.2 i = 72) from ev_eq (b := 72) (by omega) (by omega)]
  constructor
  · intro q
    by_cases c : tx.2 i = 72
    · have c2 : hp_fs D.1 D.2.2.2.2.2 D.1 = 0 := Decidable.byContradiction fun w => q ⟨c, w⟩
      rw [if_pos c, if_pos c2, if_pos i00]
    · rw [if_neg c]
  · intro c1 c2
    rw [if_pos c1, if_neg c2, if_neg i10, x_fat ht (by omega), ev_o1]
    refine ⟨fun f => ?_, fun f g => ?_, fun f g => ?_⟩
    · have pz : fX1_pairsLeft t ρ (if i + 1 < tx.1 then nI (tx.2 (i + 1)) - 48 else -49) = some 0 := by
        by_cases d : i + 1 < tx.1
        · have hd := ht.2.2.2 (i + 1) d
          rw [if_pos d]
          by_cases d2 : 48 ≤ tx.2 (i + 1)
          · rw [nI_48 d2]
            by_cases d3 : tx.2 (i + 1) - 48 < D.1
            · rw [x_pl hx ho d3]
              have : hp_pl D.1 D.2.2.2.2.2 (tx.2 (i + 1) - 48) = 0 := Decidable.byContradiction fun w => f ⟨d, d2, by omega, ((hp_fs_b D.1 h6).2 _).mpr ⟨d3, w⟩⟩
              rw [this]
              rfl
            · exact x_pl0 hx (Or.inr (by rw [ev_le (by omega) (by omega)]; omega))
          · exact x_pl0 hx (Or.inl (by rw [Int32.lt_iff_toInt_lt, show (nI (tx.2 (i + 1)) - 48).toInt = (tx.2 (i + 1) : Int) - 48 from pk_sub_toInt (b := 48) (by omega) (by omega), show (0 : Int32).toInt = 0 from rfl]; omega))
        · rw [if_neg d]
          exact x_pl0 hx (Or.inl (by decide))
      rw [pz, ev_o1, if_pos i00]
    all_goals
      obtain ⟨p1, p2⟩ := hd_first ho f
      have plt := hp_pl_lt (n := D.1) (E := D.2.2.2.2.2) (j := tx.2 (i + 1) - 48) h6
      have np : ¬ nI (hp_pl D.1 D.2.2.2.2.2 (tx.2 (i + 1) - 48)) = 0 := by
        rw [show (nI (hp_pl D.1 D.2.2.2.2.2 (tx.2 (i + 1) - 48)) = 0) = (hp_pl D.1 D.2.2.2.2.2 (tx.2 (i + 1) - 48) = 0) from ev_eq (b := 0) (by omega) (by omega)]
        exact p2
      rw [if_pos f.1, nI_48 f.2.1, x_pl hx ho p1, ev_o1, if_neg np, x_fat ht (by omega), ev_o1]
    · by_cases d : i + 2 < tx.1
      · have hd := ht.2.2.2 (i + 2) d
        rw [if_pos d]
        by_cases d2 : 48 ≤ tx.2 (i + 2)
        · rw [nI_48 d2, if_neg (ev_neg (by omega))]
          by_cases d3 : 6 ≤ tx.2 (i + 2) - 48
          · rw [if_pos (by rw [show (6 : Int32) = nI 6 from rfl, ev_le (by omega) (by omega)]; exact d3)]
          · have b0 : hp_b (hp_pl D.1 D.2.2.2.2.2 (tx.2 (i + 1) - 48)) (tx.2 (i + 2) - 48) = 0 := by
              have := hp_b2 (hp_pl D.1 D.2.2.2.2.2 (tx.2 (i + 1) - 48)) (tx.2 (i + 2) - 48)
              have w : ¬ hp_b (hp_pl D.1 D.2.2.2.2.2 (tx.2 (i + 1) - 48)) (tx.2 (i + 2) - 48) = 1 := fun w => g ⟨d, d2, by omega, w⟩
              omega
            rw [if_neg (by rw [show (6 : Int32) = nI 6 from rfl, ev_le (by omega) (by omega)]; exact d3), ev_o1, hp_has plt (by omega), b0, if_pos (show nI 0 = 0 from rfl)]
        · rw [if_pos (by rw [Int32.lt_iff_toInt_lt, show (nI (tx.2 (i + 2)) - 48).toInt = (tx.2 (i + 2) : Int) - 48 from pk_sub_toInt (b := 48) (by omega) (by omega), show (0 : Int32).toInt = 0 from rfl]; omega)]
      · rw [if_neg d, if_pos (show (-49 : Int32) < 0 from by decide)]
    · have k6 := hd_second ho g
      rw [if_pos g.1, nI_48 g.2.1, if_neg (ev_neg (by omega)), if_neg (by rw [show (6 : Int32) = nI 6 from rfl, ev_le (by omega) (by omega)]; omega), ev_o1, hp_has plt (by omega), g.2.2.2, if_neg (show ¬ nI 1 = 0 from i10), if_neg (ev_neg (by omega)), if_neg (by rw [show (6 : Int32) = nI 6 from rfl, ev_le (by omega) (by omega)]; omega), ck_k (by omega) (by decide), ck_k (by omega) (by decide), ev_cl (by omega), (hx.2.2.2 _ p1).2.2, hp_pw (by omega), hp_or, ev_nm]
      refine ⟨_, rfl, hx.1, hx.2.1, hx.2.2.1, fun j hj => ⟨(hx.2.2.2 j hj).1, (hx.2.2.2 j hj).2.1, ?_⟩⟩
      rw [wx_a_se, ev_upd, ev_cl (by omega)]
      show _ = nI (va_up D.2.2.2.2.2 (tx.2 (i + 1) - 48) _ j)
      by_cases e : j = tx.2 (i + 1) - 48
      · rw [if_pos e, e, va_up_self]
      · rw [if_neg e, va_up_ne _ _ e]
        exact (hx.2.2.2 j hj).2.2
