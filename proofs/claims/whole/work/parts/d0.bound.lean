-- ends, the length of an END (1): the table P and its ratios
def bd_p (b : Nat) : Nat := if b = 0 then 1000 else if b = 1 then 1246 else if b = 2 then 1552 else if b = 3 then 1933 else 2408
def bd_P (n : Nat) : Nat := bd_p (n % 5) * 3 ^ (n / 5)
theorem bd_P_at (a b : Nat) (hb : b < 5) : bd_P (5 * a + b) = bd_p b * 3 ^ a := by
  unfold bd_P
  have h1 : (5 * a + b) % 5 = b := by omega
  have h2 : (5 * a + b) / 5 = a := by omega
  rw [h1, h2]
theorem bd_P_all (a : Nat) : bd_P (5 * a) = 1000 * 3 ^ a ∧ bd_P (5 * a + 1) = 1246 * 3 ^ a ∧ bd_P (5 * a + 2) = 1552 * 3 ^ a ∧ bd_P (5 * a + 3) = 1933 * 3 ^ a ∧ bd_P (5 * a + 4) = 2408 * 3 ^ a ∧ bd_P (5 * a + 5) = 3000 * 3 ^ a ∧ bd_P (5 * a + 6) = 3738 * 3 ^ a ∧ bd_P (5 * a + 7) = 4656 * 3 ^ a ∧ bd_P (5 * a + 8) = 5799 * 3 ^ a := by
  have e : 3 ^ (a + 1) = 3 * 3 ^ a := by rw [Nat.pow_succ]; omega
  have h0 := bd_P_at a 0 (by omega)
  have h1 := bd_P_at a 1 (by omega)
  have h2 := bd_P_at a 2 (by omega)
  have h3 := bd_P_at a 3 (by omega)
  have h4 := bd_P_at a 4 (by omega)
  have h5 := bd_P_at (a + 1) 0 (by omega)
  have h6 := bd_P_at (a + 1) 1 (by omega)
  have h7 := bd_P_at (a + 1) 2 (by omega)
  have h8 := bd_P_at (a + 1) 3 (by omega)
  have q0 : bd_p 0 = 1000 := rfl
  have q1 : bd_p 1 = 1246 := rfl
  have q2 : bd_p 2 = 1552 := rfl
  have q3 : bd_p 3 = 1933 := rfl
  have q4 : bd_p 4 = 2408 := rfl
  rw [q0] at h0 h5
  rw [q1] at h1 h6
  rw [q2] at h2 h7
  rw [q3] at h3 h8
  rw [q4] at h4
  rw [e] at h5 h6 h7 h8
  have g0 : 5 * a + 0 = 5 * a := by omega
  have g5 : 5 * (a + 1) + 0 = 5 * a + 5 := by omega
  have g6 : 5 * (a + 1) + 1 = 5 * a + 6 := by omega
  have g7 : 5 * (a + 1) + 2 = 5 * a + 7 := by omega
  have g8 : 5 * (a + 1) + 3 = 5 * a + 8 := by omega
  rw [g0] at h0
  rw [g5] at h5
  rw [g6] at h6
  rw [g7] at h7
  rw [g8] at h8
  refine ⟨h0, h1, h2, h3, h4, ?_, ?_, ?_, ?_⟩
  · rw [h5]; omega
  · rw [h6]; omega
  · rw [h7]; omega
  · rw [h8]; omega
theorem bd_P_r (n : Nat) : 1000 ≤ bd_P n ∧ 11 * bd_P n ≤ 9 * bd_P (n + 1) ∧ 3 * bd_P n ≤ 2 * bd_P (n + 2) ∧ 19 * bd_P n ≤ 10 * bd_P (n + 3) ∧ 19 * bd_P n ≤ 8 * bd_P (n + 4) := by
  obtain ⟨a, b, hb, rfl⟩ : ∃ a b, b < 5 ∧ n = 5 * a + b := ⟨n / 5, n % 5, by omega, by omega⟩
  obtain ⟨h0, h1, h2, h3, h4, h5, h6, h7, h8⟩ := bd_P_all a
  have hp : 1 ≤ 3 ^ a := by
    clear h0 h1 h2 h3 h4 h5 h6 h7 h8 hb
    induction a with
    | zero => exact Nat.le_refl 1
    | succ a ih => rw [Nat.pow_succ]; omega
  have hb' : b = 0 ∨ b = 1 ∨ b = 2 ∨ b = 3 ∨ b = 4 := by omega
  rcases hb' with rfl | rfl | rfl | rfl | rfl
  · simp only [Nat.add_zero]
    rw [h0, h1, h2, h3, h4]
    omega
  · have g2 : 5 * a + 1 + 1 = 5 * a + 2 := by omega
    have g3 : 5 * a + 1 + 2 = 5 * a + 3 := by omega
    have g4 : 5 * a + 1 + 3 = 5 * a + 4 := by omega
    have g5 : 5 * a + 1 + 4 = 5 * a + 5 := by omega
    rw [g2, g3, g4, g5, h1, h2, h3, h4, h5]
    omega
  · have g2 : 5 * a + 2 + 1 = 5 * a + 3 := by omega
    have g3 : 5 * a + 2 + 2 = 5 * a + 4 := by omega
    have g4 : 5 * a + 2 + 3 = 5 * a + 5 := by omega
    have g5 : 5 * a + 2 + 4 = 5 * a + 6 := by omega
    rw [g2, g3, g4, g5, h2, h3, h4, h5, h6]
    omega
  · have g2 : 5 * a + 3 + 1 = 5 * a + 4 := by omega
    have g3 : 5 * a + 3 + 2 = 5 * a + 5 := by omega
    have g4 : 5 * a + 3 + 3 = 5 * a + 6 := by omega
    have g5 : 5 * a + 3 + 4 = 5 * a + 7 := by omega
    rw [g2, g3, g4, g5, h3, h4, h5, h6, h7]
    omega
  · have g2 : 5 * a + 4 + 1 = 5 * a + 5 := by omega
    have g3 : 5 * a + 4 + 2 = 5 * a + 6 := by omega
    have g4 : 5 * a + 4 + 3 = 5 * a + 7 := by omega
    have g5 : 5 * a + 4 + 4 = 5 * a + 8 := by omega
    rw [g2, g3, g4, g5, h4, h5, h6, h7, h8]
    omega
theorem bd_P5 (n : Nat) : bd_P (n + 5) = 3 * bd_P n := by
  unfold bd_P
  have h1 : (n + 5) % 5 = n % 5 := by omega
  have h2 : (n + 5) / 5 = n / 5 + 1 := by omega
  rw [h1, h2, Nat.pow_succ, Nat.mul_comm (3 ^ (n / 5)) 3, Nat.mul_left_comm]
theorem bd_P_up (n : Nat) : bd_P n ≤ bd_P (n + 1) := by
  have := (bd_P_r n).2.1
  omega
theorem bd_P_mono {m n : Nat} (h : m ≤ n) : bd_P m ≤ bd_P n := by
  obtain ⟨d, rfl⟩ : ∃ d, n = m + d := ⟨n - m, by omega⟩
  clear h
  induction d with
  | zero => exact Nat.le_refl _
  | succ d ih => exact Nat.le_trans ih (bd_P_up (m + d))
theorem bd_Pe : ∀ (e n : Nat), (3 + 2 * e) * bd_P n ≤ 3 * bd_P (n + e + 2) := by
  intro e
  induction e using Nat.strongRecOn with
  | _ e ih =>
    intro n
    obtain ⟨k0, k1, k2, k3, k4⟩ := bd_P_r n
    have k5 := bd_P5 n
    have k6 := bd_P5 (n + 1)
    have k7 := bd_P5 (n + 2)
    have k8 := bd_P5 (n + 3)
    have k9 := bd_P5 (n + 4)
    have hu := bd_P_up n
    have he : e = 0 ∨ e = 1 ∨ e = 2 ∨ e = 3 ∨ e = 4 ∨ e = 5 ∨ e = 6 ∨ e = 7 ∨ 8 ≤ e := by omega
    rcases he with rfl | rfl | rfl | rfl | rfl | rfl | rfl | rfl | he
    · have g : n + 0 + 2 = n + 2 := by omega
      rw [g]; omega
    · have g : n + 1 + 2 = n + 3 := by omega
      rw [g]; omega
    · have g : n + 2 + 2 = n + 4 := by omega
      rw [g]; omega
    · have g : n + 3 + 2 = n + 5 := by omega
      rw [g]; omega
    · have g : n + 4 + 2 = n + 1 + 5 := by omega
      rw [g]; omega
    · have g : n + 5 + 2 = n + 2 + 5 := by omega
      rw [g]; omega
    · have g : n + 6 + 2 = n + 3 + 5 := by omega
      rw [g]; omega
    · have g : n + 7 + 2 = n + 4 + 5 := by omega
      rw [g]; omega
    · obtain ⟨d, rfl⟩ : ∃ d, e = d + 5 := ⟨e - 5, by omega⟩
      have h1 := ih d (by omega) n
      have h2 := bd_P5 (n + d + 2)
      have g : n + (d + 5) + 2 = n + d + 2 + 5 := by omega
      rw [g, h2]
      have h3 : (3 + 2 * (d + 5)) * bd_P n ≤ (3 * (3 + 2 * d)) * bd_P n := Nat.mul_le_mul_right _ (by omega)
      rw [Nat.mul_assoc 3] at h3
      omega
theorem bd_cr {a b P' P L Q : Nat} (ha : 0 < a) (h1 : b * P' ≤ a * P) (h2 : a * L ≤ b * Q) : P' * L ≤ P * Q := by
  have h3 : P' * (a * L) ≤ P' * (b * Q) := Nat.mul_le_mul_left _ h2
  have h4 : (b * P') * Q ≤ (a * P) * Q := Nat.mul_le_mul_right _ h1
  have e1 : P' * (a * L) = a * (P' * L) := by rw [Nat.mul_left_comm]
  have e2 : P' * (b * Q) = (b * P') * Q := by rw [← Nat.mul_assoc, Nat.mul_comm P' b]
  have e3 : (a * P) * Q = a * (P * Q) := Nat.mul_assoc _ _ _
  rw [e1, e2] at h3
  rw [e3] at h4
  exact Nat.le_of_mul_le_mul_left (Nat.le_trans h3 h4) ha
