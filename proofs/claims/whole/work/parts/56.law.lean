/-! the law's loop, over any property of heaps that every call keeps while both answer alike -/
def bz_Of (J : az_Hp → Prop) (f g : az_Hp → Option (Int × az_Hp)) : Prop := ∀ σ, J σ → ∃ r σ1 σ2, f σ = some (r, σ1) ∧ g σ1 = some (r, σ2) ∧ J σ2
def bz_Og (J : az_Hp → Prop) (f g : az_Hp → Option Int) : Prop := ∀ σ, J σ → ∃ r, f σ = some r ∧ g σ = some r
def bz_op_status (J : az_Hp → Prop) : Prop := bz_Og J (fun σ => fz_X10_status σ 1) (fun σ => fz_X11_status σ 804)
def bz_op_feed (J : az_Hp → Prop) : Prop := ∀ a b c d e : Int, bz_I a → bz_I b → bz_I c → bz_I d → bz_I e → bz_Of J (fun σ => fz_X10_feed 2000000 σ 1 a b c d e) (fun σ => fz_X11_feed 2000000 σ 804 a b c d e)
def bz_op_load (J : az_Hp → Prop) : Prop := ∀ a : Int, bz_I a → bz_Of J (fun σ => fz_X10_load 2000000 σ 1 a) (fun σ => fz_X11_load 2000000 σ 804 a)
def bz_op_fault (J : az_Hp → Prop) : Prop := ∀ a : Int, bz_I a → bz_Og J (fun σ => fz_X10_fault σ 1 a) (fun σ => fz_X11_fault σ 804 a)
def bz_op_many (J : az_Hp → Prop) : Prop := ∀ a : Int, bz_I a → bz_Of J (fun σ => fz_X10_many σ 1 a) (fun σ => fz_X11_many σ 804 a)
def bz_op_family (J : az_Hp → Prop) : Prop := ∀ a b : Int, bz_I a → bz_I b → bz_Of J (fun σ => fz_X10_family 2000000 σ 1 a b) (fun σ => fz_X11_family 2000000 σ 804 a b)
def bz_op_equation (J : az_Hp → Prop) : Prop := ∀ a b : Int, bz_I a → bz_I b → bz_Of J (fun σ => fz_X10_equation 2000000 σ 1 a b) (fun σ => fz_X11_equation 2000000 σ 804 a b)
def bz_op_meets (J : az_Hp → Prop) : Prop := ∀ a b : Int, bz_I a → bz_I b → bz_Of J (fun σ => fz_X10_meets 2000000 σ 1 a b) (fun σ => fz_X11_meets σ 804 a b)
def bz_op_compatible (J : az_Hp → Prop) : Prop := ∀ a b : Int, bz_I a → bz_I b → bz_Of J (fun σ => fz_X10_compatible σ 1 a b) (fun σ => fz_X11_compatible σ 804 a b)
def bz_op_ends (J : az_Hp → Prop) : Prop := ∀ a b c : Int, bz_I a → bz_I b → bz_I c → bz_Of J (fun σ => fz_X10_ends 2000000 σ 1 a b c) (fun σ => fz_X11_ends_ 2000000 σ 804 a b c)
def bz_op_parts (J : az_Hp → Prop) : Prop := ∀ a b : Int, bz_I a → bz_I b → bz_Of J (fun σ => fz_X10_parts 2000000 σ 1 a b) (fun σ => fz_X11_parts 2000000 σ 804 a b)
def bz_op_bad (J : az_Hp → Prop) : Prop := ∀ a b : Int, bz_I a → bz_I b → bz_Of J (fun σ => fz_X10_bad σ 1 a b) (fun σ => fz_X11_bad_ 2000000 σ 804 a b)
def bz_op_term (J : az_Hp → Prop) : Prop := ∀ a : Int, bz_I a → bz_Of J (fun σ => fz_X10_term 2000000 σ 1 a) (fun σ => fz_X11_term 2000000 σ 804 a)
def bz_op_now (J : az_Hp → Prop) : Prop := ∀ a : Int, bz_I a → bz_Of J (fun σ => fz_X10_now 2000000 σ 1 a) (fun σ => fz_X11_now 2000000 σ 804 a)
def bz_op_node (J : az_Hp → Prop) : Prop := ∀ a b : Int, bz_I a → bz_I b → bz_Of J (fun σ => fz_X10_node 2000000 σ 1 a b) (fun σ => fz_X11_node 2000000 σ 804 a b)
def bz_op_why (J : az_Hp → Prop) : Prop := ∀ a b : Int, bz_I a → bz_I b → bz_Of J (fun σ => fz_X10_why 2000000 σ 1 a b) (fun σ => fz_X11_why 2000000 σ 804 a b)
def bz_op_still (J : az_Hp → Prop) : Prop := ∀ a b : Int, bz_I a → bz_I b → bz_Of J (fun σ => fz_X10_still 2000000 σ 1 a b) (fun σ => fz_X11_still 2000000 σ 804 a b)
def bz_op_step (J : az_Hp → Prop) : Prop := ∀ a : Int, bz_I a → bz_Of J (fun σ => fz_X10_step 2000000 σ 1 a) (fun σ => fz_X11_step 2000000 σ 804 a)
def bz_op_reduce (J : az_Hp → Prop) : Prop := ∀ a : Int, bz_I a → bz_Of J (fun σ => fz_X10_reduce 2000000 σ 1 a) (fun σ => fz_X11_reduce 2000000 σ 804 a)
def bz_op_would (J : az_Hp → Prop) : Prop := ∀ a b : Int, bz_I a → bz_I b → bz_Of J (fun σ => fz_X10_would 2000000 σ 1 a b) (fun σ => fz_X11_would 2000000 σ 804 a b)
def bz_op_period (J : az_Hp → Prop) : Prop := bz_Of J (fun σ => fz_X10_period σ 1) (fun σ => fz_X11_period σ 804)
def bz_op_print (J : az_Hp → Prop) : Prop := bz_Of J (fun σ => fz_X10_print 2000000 σ 1) (fun σ => fz_X11_print 2000000 σ 804)
def bz_op_out (J : az_Hp → Prop) : Prop := ∀ a : Int, bz_I a → bz_Of J (fun σ => fz_X10_out σ 1 a) (fun σ => fz_X11_out σ 804 a)
def bz_op_want (J : az_Hp → Prop) : Prop := ∀ a : Int, bz_I a → bz_Of J (fun σ => fz_X10_want 2000000 σ 1 a) (fun σ => fz_X11_want 2000000 σ 804 a)
def bz_op_wanted (J : az_Hp → Prop) : Prop := ∀ a : Int, bz_I a → bz_Of J (fun σ => fz_X10_wanted σ 1 a) (fun σ => fz_X11_wanted 2000000 σ 804 a)
def bz_op_unknown (J : az_Hp → Prop) : Prop := ∀ a : Int, bz_I a → bz_Of J (fun σ => fz_X10_unknown 2000000 σ 1 a) (fun σ => fz_X11_unknown 2000000 σ 804 a)
def bz_ops (J : az_Hp → Prop) : Prop := bz_op_status J ∧ bz_op_feed J ∧ bz_op_load J ∧ bz_op_fault J ∧ bz_op_many J ∧ bz_op_family J ∧ bz_op_equation J ∧ bz_op_meets J ∧ bz_op_compatible J ∧ bz_op_ends J ∧ bz_op_parts J ∧ bz_op_bad J ∧ bz_op_term J ∧ bz_op_now J ∧ bz_op_node J ∧ bz_op_why J ∧ bz_op_still J ∧ bz_op_step J ∧ bz_op_reduce J ∧ bz_op_would J ∧ bz_op_period J ∧ bz_op_print J ∧ bz_op_out J ∧ bz_op_want J ∧ bz_op_wanted J ∧ bz_op_unknown J
theorem bz_loop {J : az_Hp → Prop} (H : bz_ops J) {xl : Int} {xs : Int → Int} (hxl : 0 ≤ xl) (hxl1 : xl ≤ 3072) (hxs : ∀ i, bz_I (xs i)) : ∀ (k : Nat) (v : Int) (σ : az_Hp), J σ → 0 ≤ v → v ≤ xl + 6 → xl - v < 6 * (k : Int) - 6 → ∃ σ', fz_L_law_18 xl xs 2000000 k σ 1 804 v = some (1, σ') := by
  obtain ⟨H0, H1, H2, H3, H4, H5, H6, H7, H8, H9, H10, H11, H12, H13, H14, H15, H16, H17, H18, H19, H20, H21, H22, H23, H24, H25⟩ := H
  intro k
  induction k with
  | zero => intro v σ hJ h0 h1 h2; omega
  | succ k ih =>
    intro v σ hJ h0 h1 h2
    unfold fz_L_law_18
    rw [az_w32_id (z := xl - 6) (by omega) (by omega)]
    by_cases hend : xl - 6 < v
    · rw [if_pos hend]; exact ⟨σ, rfl⟩
    rw [if_neg hend]
    have w1 : az_w32 (v + 1) = v + 1 := az_w32_id (by omega) (by omega)
    have w2 : az_w32 (v + 2) = v + 2 := az_w32_id (by omega) (by omega)
    have w3 : az_w32 (v + 3) = v + 3 := az_w32_id (by omega) (by omega)
    have w4 : az_w32 (v + 4) = v + 4 := az_w32_id (by omega) (by omega)
    have w5 : az_w32 (v + 5) = v + 5 := az_w32_id (by omega) (by omega)
    have w6 : az_w32 (v + 6) = v + 6 := az_w32_id (by omega) (by omega)
    have s0 : az_srd xl xs v = some (xs v) := if_pos (by omega)
    have s1 : az_srd xl xs (v + 1) = some (xs (v + 1)) := if_pos (by omega)
    have s2 : az_srd xl xs (v + 2) = some (xs (v + 2)) := if_pos (by omega)
    have s3 : az_srd xl xs (v + 3) = some (xs (v + 3)) := if_pos (by omega)
    have s4 : az_srd xl xs (v + 4) = some (xs (v + 4)) := if_pos (by omega)
    have s5 : az_srd xl xs (v + 5) = some (xs (v + 5)) := if_pos (by omega)
    have go : ∀ σ', J σ' → ∃ σ'', fz_L_law_18 xl xs 2000000 k σ' 1 804 (v + 6) = some (1, σ'') := fun σ' hJ' => ih (v + 6) σ' hJ' (by omega) (by omega) (by push_cast at h2; omega)
    rw [s0, Option.bind_some]
    by_cases c0 : az_iandV (xs v) 31 = 0
    · obtain ⟨r, e1, e2⟩ := H0 σ hJ
      rw [if_pos c0]
      simp only [w1, w6, s1, Option.bind_some, e1, e2, if_true]
      exact go σ hJ
    rw [if_neg c0]
    by_cases c1 : az_iandV (xs v) 31 = 1
    · obtain ⟨r, σ1, σ2, e1, e2, hJ2⟩ := H1 _ _ _ _ _ (hxs (v + 1)) (hxs (v + 2)) (hxs (v + 3)) (hxs (v + 4)) (hxs (v + 5)) σ hJ
      rw [if_pos c1]
      simp only [w1, w2, w3, w4, w5, w6, s1, s2, s3, s4, s5, Option.bind_some, e1, e2, if_true]
      exact go σ2 hJ2
    rw [if_neg c1]
    by_cases c2 : az_iandV (xs v) 31 = 2
    · obtain ⟨r, σ1, σ2, e1, e2, hJ2⟩ := H2 _ (hxs (v + 1)) σ hJ
      rw [if_pos c2]
      simp only [w1, w2, w3, w4, w5, w6, s1, s2, s3, s4, s5, Option.bind_some, e1, e2, if_true]
      exact go σ2 hJ2
    rw [if_neg c2]
    by_cases c3 : az_iandV (xs v) 31 = 3
    · obtain ⟨r, e1, e2⟩ := H3 _ (hxs (v + 1)) σ hJ
      rw [if_pos c3]
      simp only [w1, w6, s1, Option.bind_some, e1, e2, if_true]
      exact go σ hJ
    rw [if_neg c3]
    by_cases c4 : az_iandV (xs v) 31 = 4
    · obtain ⟨r, σ1, σ2, e1, e2, hJ2⟩ := H4 _ (hxs (v + 1)) σ hJ
      rw [if_pos c4]
      simp only [w1, w2, w3, w4, w5, w6, s1, s2, s3, s4, s5, Option.bind_some, e1, e2, if_true]
      exact go σ2 hJ2
    rw [if_neg c4]
    by_cases c5 : az_iandV (xs v) 31 = 5
    · obtain ⟨r, σ1, σ2, e1, e2, hJ2⟩ := H5 _ _ (hxs (v + 1)) (hxs (v + 2)) σ hJ
      rw [if_pos c5]
      simp only [w1, w2, w3, w4, w5, w6, s1, s2, s3, s4, s5, Option.bind_some, e1, e2, if_true]
      exact go σ2 hJ2
    rw [if_neg c5]
    by_cases c6 : az_iandV (xs v) 31 = 6
    · obtain ⟨r, σ1, σ2, e1, e2, hJ2⟩ := H6 _ _ (hxs (v + 1)) (hxs (v + 2)) σ hJ
      rw [if_pos c6]
      simp only [w1, w2, w3, w4, w5, w6, s1, s2, s3, s4, s5, Option.bind_some, e1, e2, if_true]
      exact go σ2 hJ2
    rw [if_neg c6]
    by_cases c7 : az_iandV (xs v) 31 = 7
    · obtain ⟨r, σ1, σ2, e1, e2, hJ2⟩ := H7 _ _ (hxs (v + 1)) (hxs (v + 2)) σ hJ
      rw [if_pos c7]
      simp only [w1, w2, w3, w4, w5, w6, s1, s2, s3, s4, s5, Option.bind_some, e1, e2, if_true]
      exact go σ2 hJ2
    rw [if_neg c7]
    by_cases c8 : az_iandV (xs v) 31 = 8
    · obtain ⟨r, σ1, σ2, e1, e2, hJ2⟩ := H8 _ _ (hxs (v + 1)) (hxs (v + 2)) σ hJ
      rw [if_pos c8]
      simp only [w1, w2, w3, w4, w5, w6, s1, s2, s3, s4, s5, Option.bind_some, e1, e2, if_true]
      exact go σ2 hJ2
    rw [if_neg c8]
    by_cases c9 : az_iandV (xs v) 31 = 9
    · obtain ⟨r, σ1, σ2, e1, e2, hJ2⟩ := H9 _ _ _ (hxs (v + 1)) (hxs (v + 2)) (hxs (v + 3)) σ hJ
      rw [if_pos c9]
      simp only [w1, w2, w3, w4, w5, w6, s1, s2, s3, s4, s5, Option.bind_some, e1, e2, if_true]
      exact go σ2 hJ2
    rw [if_neg c9]
    by_cases c10 : az_iandV (xs v) 31 = 10
    · obtain ⟨r, σ1, σ2, e1, e2, hJ2⟩ := H10 _ _ (hxs (v + 1)) (hxs (v + 2)) σ hJ
      rw [if_pos c10]
      simp only [w1, w2, w3, w4, w5, w6, s1, s2, s3, s4, s5, Option.bind_some, e1, e2, if_true]
      exact go σ2 hJ2
    rw [if_neg c10]
    by_cases c11 : az_iandV (xs v) 31 = 11
    · obtain ⟨r, σ1, σ2, e1, e2, hJ2⟩ := H11 _ _ (hxs (v + 1)) (hxs (v + 2)) σ hJ
      rw [if_pos c11]
      simp only [w1, w2, w3, w4, w5, w6, s1, s2, s3, s4, s5, Option.bind_some, e1, e2, if_true]
      exact go σ2 hJ2
    rw [if_neg c11]
    by_cases c12 : az_iandV (xs v) 31 = 12
    · obtain ⟨r, σ1, σ2, e1, e2, hJ2⟩ := H12 _ (hxs (v + 1)) σ hJ
      rw [if_pos c12]
      simp only [w1, w2, w3, w4, w5, w6, s1, s2, s3, s4, s5, Option.bind_some, e1, e2, if_true]
      exact go σ2 hJ2
    rw [if_neg c12]
    by_cases c13 : az_iandV (xs v) 31 = 13
    · obtain ⟨r, σ1, σ2, e1, e2, hJ2⟩ := H13 _ (hxs (v + 1)) σ hJ
      rw [if_pos c13]
      simp only [w1, w2, w3, w4, w5, w6, s1, s2, s3, s4, s5, Option.bind_some, e1, e2, if_true]
      exact go σ2 hJ2
    rw [if_neg c13]
    by_cases c14 : az_iandV (xs v) 31 = 14
    · obtain ⟨r, σ1, σ2, e1, e2, hJ2⟩ := H14 _ _ (hxs (v + 1)) (hxs (v + 2)) σ hJ
      rw [if_pos c14]
      simp only [w1, w2, w3, w4, w5, w6, s1, s2, s3, s4, s5, Option.bind_some, e1, e2, if_true]
      exact go σ2 hJ2
    rw [if_neg c14]
    by_cases c15 : az_iandV (xs v) 31 = 15
    · obtain ⟨r, σ1, σ2, e1, e2, hJ2⟩ := H15 _ _ (hxs (v + 1)) (hxs (v + 2)) σ hJ
      rw [if_pos c15]
      simp only [w1, w2, w3, w4, w5, w6, s1, s2, s3, s4, s5, Option.bind_some, e1, e2, if_true]
      exact go σ2 hJ2
    rw [if_neg c15]
    by_cases c16 : az_iandV (xs v) 31 = 16
    · obtain ⟨r, σ1, σ2, e1, e2, hJ2⟩ := H16 _ _ (hxs (v + 1)) (hxs (v + 2)) σ hJ
      rw [if_pos c16]
      simp only [w1, w2, w3, w4, w5, w6, s1, s2, s3, s4, s5, Option.bind_some, e1, e2, if_true]
      exact go σ2 hJ2
    rw [if_neg c16]
    by_cases c17 : az_iandV (xs v) 31 = 17
    · obtain ⟨r, σ1, σ2, e1, e2, hJ2⟩ := H17 _ (hxs (v + 1)) σ hJ
      rw [if_pos c17]
      simp only [w1, w2, w3, w4, w5, w6, s1, s2, s3, s4, s5, Option.bind_some, e1, e2, if_true]
      exact go σ2 hJ2
    rw [if_neg c17]
    by_cases c18 : az_iandV (xs v) 31 = 18
    · obtain ⟨r, σ1, σ2, e1, e2, hJ2⟩ := H18 _ (hxs (v + 1)) σ hJ
      rw [if_pos c18]
      simp only [w1, w2, w3, w4, w5, w6, s1, s2, s3, s4, s5, Option.bind_some, e1, e2, if_true]
      exact go σ2 hJ2
    rw [if_neg c18]
    by_cases c19 : az_iandV (xs v) 31 = 19
    · obtain ⟨r, σ1, σ2, e1, e2, hJ2⟩ := H19 _ _ (hxs (v + 1)) (hxs (v + 2)) σ hJ
      rw [if_pos c19]
      simp only [w1, w2, w3, w4, w5, w6, s1, s2, s3, s4, s5, Option.bind_some, e1, e2, if_true]
      exact go σ2 hJ2
    rw [if_neg c19]
    by_cases c20 : az_iandV (xs v) 31 = 20
    · obtain ⟨r, σ1, σ2, e1, e2, hJ2⟩ := H20 σ hJ
      rw [if_pos c20]
      simp only [w1, w2, w3, w4, w5, w6, s1, s2, s3, s4, s5, Option.bind_some, e1, e2, if_true]
      exact go σ2 hJ2
    rw [if_neg c20]
    by_cases c21 : az_iandV (xs v) 31 = 21
    · obtain ⟨r, σ1, σ2, e1, e2, hJ2⟩ := H21 σ hJ
      rw [if_pos c21]
      simp only [w1, w2, w3, w4, w5, w6, s1, s2, s3, s4, s5, Option.bind_some, e1, e2, if_true]
      exact go σ2 hJ2
    rw [if_neg c21]
    by_cases c22 : az_iandV (xs v) 31 = 22
    · obtain ⟨r, σ1, σ2, e1, e2, hJ2⟩ := H22 _ (hxs (v + 1)) σ hJ
      rw [if_pos c22]
      simp only [w1, w2, w3, w4, w5, w6, s1, s2, s3, s4, s5, Option.bind_some, e1, e2, if_true]
      exact go σ2 hJ2
    rw [if_neg c22]
    by_cases c23 : az_iandV (xs v) 31 = 23
    · obtain ⟨r, σ1, σ2, e1, e2, hJ2⟩ := H23 _ (hxs (v + 1)) σ hJ
      rw [if_pos c23]
      simp only [w1, w2, w3, w4, w5, w6, s1, s2, s3, s4, s5, Option.bind_some, e1, e2, if_true]
      exact go σ2 hJ2
    rw [if_neg c23]
    by_cases c24 : az_iandV (xs v) 31 = 24
    · obtain ⟨r, σ1, σ2, e1, e2, hJ2⟩ := H24 _ (hxs (v + 1)) σ hJ
      rw [if_pos c24]
      simp only [w1, w2, w3, w4, w5, w6, s1, s2, s3, s4, s5, Option.bind_some, e1, e2, if_true]
      exact go σ2 hJ2
    rw [if_neg c24]
    by_cases c25 : az_iandV (xs v) 31 = 25
    · obtain ⟨r, σ1, σ2, e1, e2, hJ2⟩ := H25 _ (hxs (v + 1)) σ hJ
      rw [if_pos c25]
      simp only [w1, w2, w3, w4, w5, w6, s1, s2, s3, s4, s5, Option.bind_some, e1, e2, if_true]
      exact go σ2 hJ2
    rw [if_neg c25]
    rw [w6]
    exact go σ hJ
