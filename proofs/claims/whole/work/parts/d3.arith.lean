-- ends, the length of an END (4): the bound, over classes in falling order
def bd_fu (mk : Int → Nat) (fr : Int → List Int) (R : List Int) (y : Int) : Nat := bd_s R (fun x => if mk x = 0 then bd_c (fr x) y else 0)
def bd_fm (mk : Int → Nat) (fr : Int → List Int) (R : List Int) (y : Int) : Nat := bd_s R (fun x => if mk x = 0 then 0 else bd_c (fr x) y)
def bd_or (fr : Int → List Int) : List Int → Prop
  | [] => True
  | y :: R => (∀ z, z ∈ fr y → z ∈ R) ∧ bd_or fr R
def bd_lc (mk : Int → Nat) (fr : Int → List Int) (dd ii ov U : Int → Nat) (y : Int) : Prop :=
  (mk y = 0 → U y ≤ bd_s (fr y) U + 12 * dd y + ov y ∧ 12 * ((fr y).length + dd y) + ov y ≤ 12 + 8 * (ii y + (fr y).length)) ∧
  (mk y ≠ 0 → ii y = 0 ∧ U y ≤ bd_s (fr y) U + ov y ∧ (((fr y).length = 1 ∧ ov y ≤ 8) ∨ ((fr y).length = 2 ∧ ov y ≤ 4) ∨ ((fr y).length = 3 ∧ ov y = 0)))
def bd_cd (k C G F u : Nat) : Prop := (k = 0 → G + 2 ≤ C ∧ G + 2 * F ≤ C) ∧ (k = 1 → G + 3 ≤ C ∧ G + 2 * F ≤ C) ∧ (k = 2 → G = 0 ∧ F ≤ 1 ∧ 2 ≤ C ∧ u = 0) ∧ k ≤ 2
theorem bd_cd.le {k C G F u : Nat} (h : bd_cd k C G F u) : G + 2 ≤ C := by
  obtain ⟨h0, h1, h2, h3⟩ := h
  have hk : k = 0 ∨ k = 1 ∨ k = 2 := by omega
  rcases hk with rfl | rfl | rfl
  · exact (h0 rfl).1
  · have := (h1 rfl).1; omega
  · have := h2 rfl; omega
theorem bd_low {f v w Y : Nat} (h : v ≤ f * w) (hY : v ≤ Y) : v ≤ f * min w Y := by
  by_cases hf : f = 0
  · subst hf; omega
  · have h1 : v ≤ f * Y := Nat.le_trans hY (Nat.le_mul_of_pos_left Y (by omega))
    by_cases hw : w ≤ Y
    · rw [Nat.min_eq_left hw]; exact h
    · rw [Nat.min_eq_right (by omega)]; exact h1
theorem bd_ar0 {A B Z Xr t w' Yr S len dd ov e Uy Sf Q : Nat} (hA : 1000 ≤ A)
    (hU : Uy ≤ Sf + 12 * dd + ov) (hl : 12 * (len + dd) + ov ≤ 12 + 8 * e)
    (ih : 10000 * (12 * (Z + dd * t) + (S + t * Sf)) ≤ 12 * (A * (10 * ((Z + dd * t) + (Xr + t * len)) + 10 * w' + 3 * Yr)))
    (st : A * (30 * (Z + Xr) + 10 * (3 + 2 * e) * t + 30 * w' + 9 * Yr) ≤ B * (3 * Q)) :
    10000 * (12 * Z + (t * Uy + S)) ≤ 12 * (B * Q) := by
  have h1 : t * Uy ≤ t * Sf + 12 * (dd * t) + ov * t := by
    have := Nat.mul_le_mul_left t hU
    rw [Nat.mul_add, Nat.mul_add, Nat.mul_left_comm t 12 dd, Nat.mul_comm t dd, Nat.mul_comm t ov] at this
    exact this
  have h2 : 12 * (len * t) + 12 * (dd * t) + ov * t ≤ 12 * t + 8 * (e * t) := by
    have := Nat.mul_le_mul_right t hl
    rw [Nat.add_mul, Nat.add_mul, Nat.mul_assoc, Nat.mul_assoc, Nat.add_mul] at this
    omega
  have h3 : 10000 * (ov * t) ≤ A * (10 * (ov * t)) := by
    have := Nat.mul_le_mul_right (10 * (ov * t)) hA
    omega
  have h4 : A * (120 * (Z + Xr) + 120 * (dd * t) + 120 * (len * t) + 120 * w' + 36 * Yr + 10 * (ov * t)) ≤ A * (4 * (30 * (Z + Xr) + 10 * (3 + 2 * e) * t + 30 * w' + 9 * Yr)) := by
    apply Nat.mul_le_mul_left
    have : 10 * (3 + 2 * e) * t = 30 * t + 20 * (e * t) := by
      rw [Nat.mul_assoc, Nat.add_mul, Nat.mul_add, Nat.mul_assoc 2 e t]; omega
    rw [this]
    omega
  have h5 : 12 * (A * (10 * ((Z + dd * t) + (Xr + t * len)) + 10 * w' + 3 * Yr)) + A * (10 * (ov * t)) = A * (120 * (Z + Xr) + 120 * (dd * t) + 120 * (len * t) + 120 * w' + 36 * Yr + 10 * (ov * t)) := by
    rw [Nat.mul_left_comm 12 A, ← Nat.mul_add, Nat.mul_comm t len]
    congr 1
    omega
  have h6 : A * (4 * (30 * (Z + Xr) + 10 * (3 + 2 * e) * t + 30 * w' + 9 * Yr)) = 4 * (A * (30 * (Z + Xr) + 10 * (3 + 2 * e) * t + 30 * w' + 9 * Yr)) := Nat.mul_left_comm _ _ _
  have h7 : B * (3 * Q) = 3 * (B * Q) := Nat.mul_left_comm _ _ _
  rw [h7] at st
  rw [h6] at h4
  omega
theorem bd_ar1 {A B Z Xr t w' Yr S len ov Uy Sf Q : Nat} (hA : 1552 ≤ A)
    (hU : Uy ≤ Sf + ov) (hl : (len = 1 ∧ ov ≤ 8) ∨ (len = 2 ∧ ov ≤ 4) ∨ (len = 3 ∧ ov = 0))
    (ih : 10000 * (12 * Z + (S + t * Sf)) ≤ 12 * (A * (10 * (Z + Xr) + 10 * w' + 3 * (Yr + t * len))))
    (st : A * (10 * (Z + Xr) + 10 * w' + 3 * Yr + 9 * t) ≤ B * Q) :
    10000 * (12 * Z + (t * Uy + S)) ≤ 12 * (B * Q) := by
  have h1 : t * Uy ≤ t * Sf + ov * t := by
    have := Nat.mul_le_mul_left t hU
    rw [Nat.mul_add, Nat.mul_comm t ov] at this
    exact this
  have h2 : 10000 * (ov * t) + A * (36 * (t * len)) ≤ A * (108 * t) := by
    have hAt : 1552 * t ≤ A * t := Nat.mul_le_mul_right t hA
    rcases hl with ⟨rfl, h⟩ | ⟨rfl, h⟩ | ⟨rfl, h⟩
    · have := Nat.mul_le_mul_right t h
      have e1 : A * (36 * (t * 1)) = 36 * (A * t) := by rw [Nat.mul_one, Nat.mul_left_comm]
      have e2 : A * (108 * t) = 108 * (A * t) := Nat.mul_left_comm _ _ _
      rw [e1, e2]; omega
    · have := Nat.mul_le_mul_right t h
      have e1 : A * (36 * (t * 2)) = 72 * (A * t) := by
        have : 36 * (t * 2) = 72 * t := by omega
        rw [this, Nat.mul_left_comm]
      have e2 : A * (108 * t) = 108 * (A * t) := Nat.mul_left_comm _ _ _
      rw [e1, e2]; omega
    · subst h
      have e1 : A * (36 * (t * 3)) = 108 * (A * t) := by
        have : 36 * (t * 3) = 108 * t := by omega
        rw [this, Nat.mul_left_comm]
      have e2 : A * (108 * t) = 108 * (A * t) := Nat.mul_left_comm _ _ _
      rw [e1, e2]; omega
  have h3 : 12 * (A * (10 * (Z + Xr) + 10 * w' + 3 * (Yr + t * len))) = A * (12 * (10 * (Z + Xr) + 10 * w' + 3 * Yr)) + A * (36 * (t * len)) := by
    have e : 12 * (10 * (Z + Xr) + 10 * w' + 3 * (Yr + t * len)) = 12 * (10 * (Z + Xr) + 10 * w' + 3 * Yr) + 36 * (t * len) := by omega
    rw [Nat.mul_left_comm 12 A, e, Nat.mul_add A]
  have h4 : 12 * (A * (10 * (Z + Xr) + 10 * w' + 3 * Yr + 9 * t)) = A * (12 * (10 * (Z + Xr) + 10 * w' + 3 * Yr)) + A * (108 * t) := by
    have e : 12 * (10 * (Z + Xr) + 10 * w' + 3 * Yr + 9 * t) = 12 * (10 * (Z + Xr) + 10 * w' + 3 * Yr) + 108 * t := by omega
    rw [Nat.mul_left_comm 12 A, e, Nat.mul_add A]
  omega
theorem bd_ar2 {A B Z Xr v w Yr S len ov Uy Sf Q : Nat} (hA : 1552 ≤ A)
    (hU : Uy ≤ Sf + ov) (hl : (len = 1 ∧ ov ≤ 8) ∨ (len = 2 ∧ ov ≤ 4) ∨ (len = 3 ∧ ov = 0))
    (ih : 10000 * (12 * Z + (S + v * Sf)) ≤ 12 * (A * (10 * (Z + Xr) + 10 * w + 3 * (Yr + v * len))))
    (st : A * (10 * (Z + Xr) + 10 * w + 3 * (Yr + v) + 6 * v) ≤ B * Q) :
    10000 * (12 * Z + (v * Uy + S)) ≤ 12 * (B * Q) := by
  refine bd_ar1 (w' := w) (Yr := Yr) hA hU hl ih ?_
  have e : 10 * (Z + Xr) + 10 * w + 3 * Yr + 9 * v = 10 * (Z + Xr) + 10 * w + 3 * (Yr + v) + 6 * v := by omega
  rw [e]
  exact st
