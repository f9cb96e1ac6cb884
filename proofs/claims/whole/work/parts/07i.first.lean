/-! rooms that differ only in what the absent think -/
def hp_q (b c : hp_R) : Prop := b.2 = c.2 ∧ b.2.1 &&& b.1 = b.2.1 &&& c.1 ∧ b.1 < 64 ∧ c.1 < 64 ∧ b.2.1 < 64
set_option maxRecDepth 100000 in
theorem hp_ba_all : hp_all 64 (fun t => hp_all 64 (fun y => hp_all 6 (fun j => decide (hp_b t j = 1 → hp_b (t &&& y) j = hp_b y j)))) = true := by decide +kernel
theorem hp_ba {t y j : Nat} (ht : t < 64) (hy : y < 64) (hb : hp_b t j = 1) : hp_b (t &&& y) j = hp_b y j :=
  (of_decide_eq_true (hp_all_s (hp_all_s (hp_all_s hp_ba_all ht) hy) (hp_bn (n := 6) ht hb))) hb
theorem hp_q_n {b c : hp_R} (h : hp_q b c) : hp_n b.2.1 b.1 = hp_n b.2.1 c.1 := by
  rw [← (hp_sp h.2.2.2.2 h.2.2.1).2.2.2.2, ← (hp_sp h.2.2.2.2 h.2.2.2.1).2.2.2.2, h.2.1]
theorem hp_q_v {b c : hp_R} (h : hp_q b c) (nd : Nat) : hp_v nd b.2.1 b.1 = hp_v nd b.2.1 c.1 := by
  unfold hp_v
  rw [h.2.1, hp_q_n h]
theorem hp_q_b {b c : hp_R} {j : Nat} (h : hp_q b c) (hb : hp_b b.2.1 j = 1) : hp_b b.1 j = hp_b c.1 j := by
  rw [← hp_ba h.2.2.2.2 h.2.2.1 hb, ← hp_ba h.2.2.2.2 h.2.2.2.1 hb, h.2.1]
theorem hp_q_ag {b c : hp_R} {j : Nat} (h : hp_q b c) (hb : hp_b b.2.1 j = 1) : hp_ag b.2.1 b.1 j = hp_ag b.2.1 c.1 j := by
  unfold hp_ag
  rw [hp_q_b h hb, h.2.1, hp_q_n h]
theorem hp_q_mu {P : hp_P} {b c : hp_R} {j : Nat} (h : hp_q b c) (hb : hp_b b.2.1 j = 1) : hp_mu P b j = hp_mu P c j := by
  unfold hp_mu
  rw [← h.1, hp_q_ag h hb]
theorem hp_q_st {P : hp_P} {m : Nat} {b c : hp_R} {j : Nat} (h : hp_q b c) (hj : j < 6) : (hp_st P j (m, b)).1 = (hp_st P j (m, c)).1 ∧ hp_q (hp_st P j (m, b)).2 (hp_st P j (m, c)).2 := by
  have e : (hp_b b.2.1 j = 1 ∧ hp_mu P b j = true) = (hp_b c.2.1 j = 1 ∧ hp_mu P c j = true) := by
    rw [← h.1]
    apply propext
    constructor
    · rintro ⟨q1, q2⟩
      exact ⟨q1, by rw [← hp_q_mu h q1]; exact q2⟩
    · rintro ⟨q1, q2⟩
      exact ⟨q1, by rw [hp_q_mu h q1]; exact q2⟩
  unfold hp_st
  dsimp only
  by_cases g : hp_b b.2.1 j = 1 ∧ hp_mu P b j = true
  · rw [if_pos g, if_pos (e ▸ g)]
    refine ⟨rfl, h.1, ?_, hp_xor_lt h.2.2.1 (hp_p_lt hj), hp_xor_lt h.2.2.2.1 (hp_p_lt hj), h.2.2.2.2⟩
    show b.2.1 &&& (b.1 ^^^ 2 ^ j) = b.2.1 &&& (c.1 ^^^ 2 ^ j)
    rw [Nat.and_xor_distrib_left, Nat.and_xor_distrib_left, h.2.1]
  · rw [if_neg g, if_neg (e ▸ g)]
    exact ⟨rfl, h⟩
theorem hp_q_fo {P : hp_P} {b c : hp_R} (h : hp_q b c) : ∀ k, k ≤ 6 → (hp_fo P k (0, b)).1 = (hp_fo P k (0, c)).1 ∧ hp_q (hp_fo P k (0, b)).2 (hp_fo P k (0, c)).2
  | 0, _ => ⟨rfl, h⟩
  | k + 1, hk => by
    obtain ⟨i1, i2⟩ := hp_q_fo h k (by omega)
    have := hp_q_st (P := P) (m := (hp_fo P k (0, b)).1) i2 (j := k) (by omega)
    show (hp_st P k (hp_fo P k (0, b))).1 = (hp_st P k (hp_fo P k (0, c))).1 ∧ hp_q (hp_st P k (hp_fo P k (0, b))).2 (hp_st P k (hp_fo P k (0, c))).2
    have e : hp_fo P k (0, c) = ((hp_fo P k (0, b)).1, (hp_fo P k (0, c)).2) := by rw [i1]
    rw [e]
    exact this
theorem hp_q_h {P : hp_P} {b c : hp_R} (h : hp_q b c) : (hp_h P b).1 = (hp_h P c).1 ∧ hp_q (hp_h P b).2 (hp_h P c).2 := by
  have e : hp_v P.2.1 c.2.1 c.1 = hp_v P.2.1 b.2.1 b.1 := by rw [← h.1, hp_q_v h]
  unfold hp_h
  rw [e]
  split
  · apply hp_q_fo _ 6 (by omega)
    refine ⟨?_, h.2⟩
    unfold hp_gr hp_in
    rw [← h.1]
  · refine ⟨rfl, ?_, h.2⟩
    unfold hp_in
    rw [← h.1]
theorem hp_q_vr {P : hp_P} {b c : hp_R} (h : hp_q b c) : hp_vr P b = hp_vr P c := by
  unfold hp_vr
  rw [hp_q_v h, ← h.1]
theorem hp_q_e {P : hp_P} : ∀ (k : Nat) {b c : hp_R}, hp_q b c → hp_e P k b = hp_e P k c
  | 0, b, c, h => by unfold hp_e; rw [hp_q_vr h]
  | k + 1, b, c, h => by unfold hp_e; rw [hp_q_vr h, hp_q_e k (hp_q_h h).2]
/-! what is seen -/
def hp_f1 (se : hp_S) (b : hp_R) (i k : Nat) : Bool := decide (se.2.2.1 k = i → hp_b b.2.1 (se.2.1 k) = 1 → hp_b b.1 (se.2.1 k) = se.2.2.2 k)
def hp_ff (se : hp_S) (b : hp_R) (i : Nat) : Nat → Bool
  | 0 => true
  | k + 1 => hp_ff se b i k && hp_f1 se b i k
def hp_ft (P : hp_P) (se : hp_S) : Nat → Nat → hp_R → Bool
  | 0, _, _ => true
  | k + 1, i, b => hp_ff se b i se.1 && hp_ft P se k (i + 1) (hp_h P b).2
theorem hp_q_f {se : hp_S} {b c : hp_R} (h : hp_q b c) (i : Nat) : ∀ k, hp_ff se b i k = hp_ff se c i k
  | 0 => rfl
  | k + 1 => by
    unfold hp_ff
    rw [hp_q_f h i k]
    congr 1
    unfold hp_f1
    apply decide_eq_decide.mpr
    rw [← h.1]
    constructor
    · intro q q1 q2; rw [← hp_q_b h q2]; exact q q1 q2
    · intro q q1 q2; rw [hp_q_b h q2]; exact q q1 q2
theorem hp_q_ft {P : hp_P} {se : hp_S} : ∀ (k i : Nat) {b c : hp_R}, hp_q b c → hp_ft P se k i b = hp_ft P se k i c
  | 0, _, _, _, _ => rfl
  | k + 1, i, b, c, h => by unfold hp_ft; rw [hp_q_f h, hp_q_ft k (i + 1) (hp_q_h h).2]
