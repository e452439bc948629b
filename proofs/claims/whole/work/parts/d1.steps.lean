-- ends, the length of an END (2): the three kinds of steps
theorem bd_un {e f N N' Xr u Yr v w w' : Nat} (hN1 : N' + e + 2 ≤ N) (hN : N' + e + 2 * f ≤ N) (hv : v ≤ f * w) (h1 : w' ≤ w) (h2 : w' ≤ Yr) :
    bd_P N' * (30 * Xr + 10 * (3 + 2 * e) * (u + v) + 30 * w' + 9 * Yr) ≤ bd_P N * (30 * (Xr + u) + 30 * w + 9 * (Yr + v)) := by
  have hE := bd_Pe e N'
  generalize hEE : 3 + 2 * e = E at hE ⊢
  have hE3 : 3 ≤ E := by omega
  have m1 : bd_P (N' + e + 2) ≤ bd_P N := bd_P_mono hN1
  have dis : 10 * E * (u + v) = 10 * (E * u) + 10 * (E * v) := by rw [Nat.mul_assoc, Nat.mul_add, Nat.mul_add]
  have dq : E * (30 * (Xr + u) + 30 * w + 9 * (Yr + v)) = 30 * (E * Xr) + 30 * (E * u) + 30 * (E * w) + 9 * (E * Yr) + 9 * (E * v) := by
    simp only [Nat.mul_add, Nat.mul_left_comm E]
    omega
  have eX : 3 * Xr ≤ E * Xr := Nat.mul_le_mul_right _ hE3
  have eu : 3 * u ≤ E * u := Nat.mul_le_mul_right _ hE3
  have ev : 3 * v ≤ E * v := Nat.mul_le_mul_right _ hE3
  have ew : 3 * w ≤ E * w := Nat.mul_le_mul_right _ hE3
  have eY : 3 * Yr ≤ E * Yr := Nat.mul_le_mul_right _ hE3
  have hf : f = 0 ∨ f = 1 ∨ f = 2 ∨ f = 3 ∨ 4 ≤ f := by omega
  rcases hf with rfl | rfl | rfl | rfl | hf
  · have v0 : v = 0 := by omega
    subst v0
    refine bd_cr (a := 3) (b := E) (by omega) (by omega) ?_
    rw [dis, dq]
    omega
  · have vw : v ≤ w := by omega
    have evw : E * v ≤ E * w := Nat.mul_le_mul_left _ vw
    have he : e = 0 ∨ e = 1 ∨ e = 2 ∨ 3 ≤ e := by omega
    rcases he with rfl | rfl | rfl | he
    · have q := (bd_P_r N').2.2.1
      have g : N' + 0 + 2 = N' + 2 := by omega
      rw [g] at m1
      refine bd_cr (a := 2) (b := 3) (by omega) (by omega) ?_
      have : E = 3 := by omega
      subst this
      omega
    · have q := (bd_P_r N').2.2.2.1
      have g : N' + 1 + 2 = N' + 3 := by omega
      rw [g] at m1
      refine bd_cr (a := 10) (b := 19) (by omega) (by omega) ?_
      have : E = 5 := by omega
      subst this
      omega
    · have q := (bd_P_r N').2.2.2.2
      have g : N' + 2 + 2 = N' + 4 := by omega
      rw [g] at m1
      refine bd_cr (a := 8) (b := 19) (by omega) (by omega) ?_
      have : E = 7 := by omega
      subst this
      omega
    · have hE9 : 9 ≤ E := by omega
      have eY9 : 9 * Yr ≤ E * Yr := Nat.mul_le_mul_right _ hE9
      have ev9 : 9 * v ≤ E * v := Nat.mul_le_mul_right _ hE9
      obtain ⟨d, rfl⟩ : ∃ d, w = v + d := ⟨w - v, by omega⟩
      have ed : 9 * d ≤ E * d := Nat.mul_le_mul_right _ hE9
      rw [Nat.mul_add] at dq
      refine bd_cr (a := 3) (b := E) (by omega) (by omega) ?_
      rw [dis]
      simp only [Nat.mul_add, Nat.mul_left_comm E]
      omega
  · have vw : v ≤ 2 * w := by omega
    have evw : E * v ≤ 2 * (E * w) := by
      have := Nat.mul_le_mul_left E vw
      rw [Nat.mul_left_comm] at this
      exact this
    have he : e = 0 ∨ 1 ≤ e := by omega
    rcases he with rfl | he
    · have q := (bd_P_r N').2.2.2.2
      have m2 : bd_P (N' + 4) ≤ bd_P N := bd_P_mono (by omega)
      refine bd_cr (a := 8) (b := 19) (by omega) (by omega) ?_
      have : E = 3 := by omega
      subst this
      omega
    · have q := (bd_P_r (N' + e + 2)).2.2.1
      have m2 : bd_P (N' + e + 2 + 2) ≤ bd_P N := bd_P_mono (by omega)
      have hE5 : 5 ≤ E := by omega
      have eY5 : 5 * Yr ≤ E * Yr := Nat.mul_le_mul_right _ hE5
      have ew5 : 5 * w ≤ E * w := Nat.mul_le_mul_right _ hE5
      refine bd_cr (a := 2) (b := E) (by omega) (by omega) ?_
      rw [dis, dq]
      omega
  · have vw : v ≤ 3 * w := by omega
    have evw : E * v ≤ 3 * (E * w) := by
      have := Nat.mul_le_mul_left E vw
      rw [Nat.mul_left_comm] at this
      exact this
    have q := (bd_P_r (N' + e + 2)).2.2.1
    have q2 := (bd_P_r (N' + e + 2 + 2)).2.2.1
    have m2 : bd_P (N' + e + 2 + 2 + 2) ≤ bd_P N := bd_P_mono (by omega)
    have hc : (3 * E) * bd_P N' ≤ 4 * bd_P N := by rw [Nat.mul_assoc]; omega
    refine bd_cr (a := 4) (b := 3 * E) (by omega) hc ?_
    rw [dis, Nat.mul_assoc, dq]
    omega
  · have q := (bd_P_r (N' + e + 2)).2.2.1
    have q2 := (bd_P_r (N' + e + 2 + 2)).2.2.1
    have q3 := (bd_P_r (N' + e + 2 + 2 + 2)).2.2.1
    have m2 : bd_P (N' + e + 2 + 2 + 2 + 2) ≤ bd_P N := bd_P_mono (by omega)
    have hc : (9 * E) * bd_P N' ≤ 8 * bd_P N := by rw [Nat.mul_assoc]; omega
    refine bd_cr (a := 8) (b := 9 * E) (by omega) hc ?_
    rw [dis, Nat.mul_assoc, dq]
    omega
theorem bd_m1 {f N N' Xr u Yr v w w' : Nat} (hN1 : N' + 3 ≤ N) (hN : N' + 2 * f ≤ N) (hv : v ≤ f * w) (h1 : w' ≤ u + v ∨ (w' ≤ w ∧ u + v ≤ w)) :
    bd_P N' * (10 * Xr + 10 * w' + 3 * Yr + 9 * (u + v)) ≤ bd_P N * (10 * (Xr + u) + 10 * w + 3 * (Yr + v)) := by
  have hf : f ≤ 1 ∨ f = 2 ∨ f = 3 ∨ f = 4 ∨ 5 ≤ f := by omega
  rcases hf with hf | rfl | rfl | rfl | hf
  · have q := (bd_P_r N').2.2.2.1
    have m1 : bd_P (N' + 3) ≤ bd_P N := bd_P_mono hN1
    have vw : v ≤ w := Nat.le_trans hv (by
      have := Nat.mul_le_mul_right w hf
      omega)
    clear hv
    refine bd_cr (a := 10) (b := 19) (by omega) (by omega) ?_
    omega
  · have q := (bd_P_r N').2.2.2.2
    have m1 : bd_P (N' + 4) ≤ bd_P N := bd_P_mono (by omega)
    refine bd_cr (a := 8) (b := 19) (by omega) (by omega) ?_
    omega
  · have q := (bd_P_r N').2.1
    have q5 := bd_P5 (N' + 1)
    have m1 : bd_P (N' + 1 + 5) ≤ bd_P N := bd_P_mono (by omega)
    refine bd_cr (a := 5) (b := 18) (by omega) (by omega) ?_
    omega
  · have q := (bd_P_r N').2.2.2.1
    have q5 := bd_P5 (N' + 3)
    have m1 : bd_P (N' + 3 + 5) ≤ bd_P N := bd_P_mono (by omega)
    refine bd_cr (a := 10) (b := 57) (by omega) (by omega) ?_
    omega
  · have q5 := bd_P5 N'
    have q6 := bd_P5 (N' + 5)
    have m1 : bd_P (N' + 5 + 5) ≤ bd_P N := bd_P_mono (by omega)
    clear hv
    refine bd_cr (a := 1) (b := 9) (by omega) (by omega) ?_
    omega
theorem bd_m2 {N N' X Y v w : Nat} (hN : N' + 2 ≤ N) (hv : v ≤ w) (hw : w ≤ Y) :
    bd_P N' * (10 * X + 10 * w + 3 * Y + 6 * v) ≤ bd_P N * (10 * X + 10 * w + 3 * Y) := by
  have q := (bd_P_r N').2.2.1
  have m1 : bd_P (N' + 2) ≤ bd_P N := bd_P_mono hN
  refine bd_cr (a := 2) (b := 3) (by omega) (by omega) ?_
  omega
