/-! behind both constructors -/
theorem bz_B0 : bz_B az_E 0 0 := ⟨rfl, Nat.le_refl _, fun _ _ _ => rfl, fun a h1 h2 => absurd h2 (by omega)⟩
def bz_A_0 : List (Int × Int × Int) := bz_L_X10_init_1
def bz_A_1 : List (Int × Int × Int) := bz_A_0 ++ bz_L_X10_init_28_1
def bz_A_2 : List (Int × Int × Int) := bz_A_1 ++ bz_L_X10_init_66_1
def bz_A_3 : List (Int × Int × Int) := bz_A_2 ++ bz_L_X10_init_134_1
def bz_A_4 : List (Int × Int × Int) := bz_A_3 ++ bz_L_X10_init_173_1
def bz_A_5 : List (Int × Int × Int) := bz_A_4 ++ bz_L_X11_init_804
def bz_A_6 : List (Int × Int × Int) := bz_A_5 ++ bz_L_X11_init_30_804
def bz_A_7 : List (Int × Int × Int) := bz_A_6 ++ bz_L_X11_init_60_804
def bz_A_8 : List (Int × Int × Int) := bz_A_7 ++ bz_L_X11_init_92_804
def bz_A_9 : List (Int × Int × Int) := bz_A_8 ++ bz_L_X11_init_126_804
def bz_A_10 : List (Int × Int × Int) := bz_A_9 ++ bz_L_X11_init_159_804
def bz_A_11 : List (Int × Int × Int) := bz_A_10 ++ bz_L_X11_init_195_804
def bz_A_12 : List (Int × Int × Int) := bz_A_11 ++ bz_L_X11_init_230_804
def bz_A_13 : List (Int × Int × Int) := bz_A_12 ++ bz_L_X11_init_262_804
def bz_A_14 : List (Int × Int × Int) := bz_A_13 ++ bz_L_X11_init_296_804
def bz_A_15 : List (Int × Int × Int) := bz_A_14 ++ bz_L_X11_init_329_804
def bz_A_16 : List (Int × Int × Int) := bz_A_15 ++ bz_L_X11_init_358_804
def bz_A_17 : List (Int × Int × Int) := bz_A_16 ++ bz_L_X11_init_392_804
def bz_A_18 : List (Int × Int × Int) := bz_A_17 ++ bz_L_X11_init_426_804
def bz_A_19 : List (Int × Int × Int) := bz_A_18 ++ bz_L_X11_init_459_804
def bz_A_20 : List (Int × Int × Int) := bz_A_19 ++ bz_L_X11_init_494_804
def bz_A_21 : List (Int × Int × Int) := bz_A_20 ++ bz_L_X11_init_529_804
theorem bz_made {xl : Int} {xs : Int → Int} : ∃ σ', fz_L_law xl xs 2000000 az_E = fz_L_law_18 xl xs 2000000 2000000 σ' 1 804 0 ∧ bz_B σ' 867 129340 ∧ (∀ p ∈ bz_A_21, σ'.2 p.1 p.2.1 = p.2.2) ∧ (∀ q : Nat, 0 ≤ q → q < 16 → σ'.2 12 q = 18 + 4 * (q : Int) ∧ σ'.2 13 q = 20 + 4 * (q : Int) ∧ σ'.2 (18 + 4 * (q : Int)) 0 = 19 + 4 * (q : Int) ∧ σ'.2 (20 + 4 * (q : Int)) 0 = 21 + 4 * (q : Int)) ∧ (∀ q : Nat, 0 ≤ q → q < 16 → σ'.2 91 q = 97 + 4 * (q : Int) ∧ σ'.2 92 q = 99 + 4 * (q : Int) ∧ σ'.2 (97 + 4 * (q : Int)) 0 = 98 + 4 * (q : Int) ∧ σ'.2 (99 + 4 * (q : Int)) 0 = 100 + 4 * (q : Int)) ∧ (∀ q : Nat, 0 ≤ q → q < 6 → σ'.2 162 q = 167 + 4 * (q : Int) ∧ σ'.2 163 q = 169 + 4 * (q : Int) ∧ σ'.2 (167 + 4 * (q : Int)) 0 = 168 + 4 * (q : Int) ∧ σ'.2 (169 + 4 * (q : Int)) 0 = 170 + 4 * (q : Int)) ∧ (∀ q : Nat, 0 ≤ q → q < 8 → σ'.2 164 q = 191 + 4 * (q : Int) ∧ σ'.2 165 q = 193 + 4 * (q : Int) ∧ σ'.2 (191 + 4 * (q : Int)) 0 = 192 + 4 * (q : Int) ∧ σ'.2 (193 + 4 * (q : Int)) 0 = 194 + 4 * (q : Int)) ∧ (∀ q : Nat, 0 ≤ q → q < 61 → σ'.2 248 q = 253 + 2 * (q : Int) ∧ σ'.2 (253 + 2 * (q : Int)) 0 = 254 + 2 * (q : Int)) ∧ (∀ q : Nat, 0 ≤ q → q < 100 → σ'.2 385 q = 389 + 4 * (q : Int) ∧ σ'.2 386 q = 391 + 4 * (q : Int) ∧ σ'.2 (389 + 4 * (q : Int)) 0 = 390 + 4 * (q : Int) ∧ σ'.2 (391 + 4 * (q : Int)) 0 = 392 + 4 * (q : Int)) ∧ (∀ q : Nat, 0 ≤ q → q < 100 → σ'.2 383 q = q) ∧ (∀ q : Nat, 0 ≤ q → q < 6 → σ'.2 382 q = 789 + 2 * (q : Int) ∧ σ'.2 (789 + 2 * (q : Int)) 0 = 790 + 2 * (q : Int)) := by
  obtain ⟨s0, e0, b0, f0⟩ := bz_B0.newO (z := 18) (r := 1) (c' := 1) 10 (by omega) (by omega) (by omega) (by omega) (by decide) (by omega) (by omega)
  obtain ⟨t0, g0, c0, h0, u0⟩ := bz_c_X10_init_1 b0
  have q0 : ∀ p ∈ bz_A_0, t0.2 p.1 p.2.1 = p.2.2 := u0
  obtain ⟨t1, g1, c1, h1, u1, w1⟩ := bz_c_X10_init_28_1 c0
  have d1 : ∀ p ∈ bz_A_0, p.1 ≤ 2 ∧ (p.1 ≠ 1 ∨ (p.2.1 ≠ 4 ∧ p.2.1 ≠ 5 ∧ p.2.1 ≠ 6 ∧ p.2.1 ≠ 7)) := by decide +kernel
  have q1 : ∀ p ∈ bz_A_1, t1.2 p.1 p.2.1 = p.2.2 := by
    intro p hp
    rcases List.mem_append.mp hp with hp | hp
    · rw [h1 p.1 p.2.1 (d1 p hp).1 (d1 p hp).2]; exact q0 p hp
    · exact u1 p hp
  obtain ⟨t2, g2, c2, h2, u2, w2⟩ := bz_c_X10_init_66_1 c1 (q1 (1, 5, 3) (by decide)) (q1 (1, 7, 161) (by decide))
  have d2 : ∀ p ∈ bz_A_1, p.1 ≤ 222 ∧ (p.1 ≠ 1 ∨ (p.2.1 ≠ 8 ∧ p.2.1 ≠ 9 ∧ p.2.1 ≠ 10 ∧ p.2.1 ≠ 11)) := by decide +kernel
  have q2 : ∀ p ∈ bz_A_2, t2.2 p.1 p.2.1 = p.2.2 := by
    intro p hp
    rcases List.mem_append.mp hp with hp | hp
    · rw [h2 p.1 p.2.1 (d2 p hp).1 (d2 p hp).2]; exact q1 p hp
    · exact u2 p hp
  obtain ⟨t3, g3, c3, h3, u3⟩ := bz_c_X10_init_134_1 c2
  have d3 : ∀ p ∈ bz_A_2, p.1 ≤ 374 ∧ (p.1 ≠ 1 ∨ (p.2.1 ≠ 12 ∧ p.2.1 ≠ 13 ∧ p.2.1 ≠ 14 ∧ p.2.1 ≠ 15)) := by decide +kernel
  have q3 : ∀ p ∈ bz_A_3, t3.2 p.1 p.2.1 = p.2.2 := by
    intro p hp
    rcases List.mem_append.mp hp with hp | hp
    · rw [h3 p.1 p.2.1 (d3 p hp).1 (d3 p hp).2]; exact q2 p hp
    · exact u3 p hp
  obtain ⟨t4, g4, c4, h4, u4, w4⟩ := bz_c_X10_init_173_1 c3
  have d4 : ∀ p ∈ bz_A_3, p.1 ≤ 379 ∧ (p.1 ≠ 1 ∨ (p.2.1 ≠ 16 ∧ p.2.1 ≠ 17)) := by decide +kernel
  have q4 : ∀ p ∈ bz_A_4, t4.2 p.1 p.2.1 = p.2.2 := by
    intro p hp
    rcases List.mem_append.mp hp with hp | hp
    · rw [h4 p.1 p.2.1 (d4 p hp).1 (d4 p hp).2]; exact q3 p hp
    · exact u4 p hp
  obtain ⟨sm, em, bm, fm⟩ := c4.newO (z := 116) (r := 804) (c' := 804) 11 (by omega) (by omega) (by omega) (by omega) (by decide) (by omega) (by omega)
  have zm : ∀ k, sm.2 804 k = 0 := fun k => by rw [fm]; exact c4.2.2.1 _ _ (by omega)
  obtain ⟨t5, g5, c5, h5, u5⟩ := bz_c_X11_init_804 bm zm
  have d5 : ∀ p ∈ bz_A_4, p.1 < 804 := by decide +kernel
  have q5 : ∀ p ∈ bz_A_5, t5.2 p.1 p.2.1 = p.2.2 := by
    intro p hp
    rcases List.mem_append.mp hp with hp | hp
    · rw [h5 p.1 p.2.1 (d5 p hp), fm]; exact q4 p hp
    · exact u5 p hp
  obtain ⟨t6, g6, c6, h6, u6⟩ := bz_c_X11_init_30_804 c5
  have d6 : ∀ p ∈ bz_A_5, p.1 ≤ 806 ∧ (p.1 ≠ 804 ∨ (p.2.1 ≠ 17 ∧ p.2.1 ≠ 18 ∧ p.2.1 ≠ 19 ∧ p.2.1 ≠ 20)) := by decide +kernel
  have q6 : ∀ p ∈ bz_A_6, t6.2 p.1 p.2.1 = p.2.2 := by
    intro p hp
    rcases List.mem_append.mp hp with hp | hp
    · rw [h6 p.1 p.2.1 (d6 p hp).1 (d6 p hp).2]; exact q5 p hp
    · exact u6 p hp
  obtain ⟨t7, g7, c7, h7, u7⟩ := bz_c_X11_init_60_804 c6
  have d7 : ∀ p ∈ bz_A_6, p.1 ≤ 810 ∧ (p.1 ≠ 804 ∨ (p.2.1 ≠ 21 ∧ p.2.1 ≠ 22 ∧ p.2.1 ≠ 23 ∧ p.2.1 ≠ 24)) := by decide +kernel
  have q7 : ∀ p ∈ bz_A_7, t7.2 p.1 p.2.1 = p.2.2 := by
    intro p hp
    rcases List.mem_append.mp hp with hp | hp
    · rw [h7 p.1 p.2.1 (d7 p hp).1 (d7 p hp).2]; exact q6 p hp
    · exact u7 p hp
  obtain ⟨t8, g8, c8, h8, u8⟩ := bz_c_X11_init_92_804 c7
  have d8 : ∀ p ∈ bz_A_7, p.1 ≤ 814 ∧ (p.1 ≠ 804 ∨ (p.2.1 ≠ 25 ∧ p.2.1 ≠ 26 ∧ p.2.1 ≠ 27 ∧ p.2.1 ≠ 28)) := by decide +kernel
  have q8 : ∀ p ∈ bz_A_8, t8.2 p.1 p.2.1 = p.2.2 := by
    intro p hp
    rcases List.mem_append.mp hp with hp | hp
    · rw [h8 p.1 p.2.1 (d8 p hp).1 (d8 p hp).2]; exact q7 p hp
    · exact u8 p hp
  obtain ⟨t9, g9, c9, h9, u9⟩ := bz_c_X11_init_126_804 c8
  have d9 : ∀ p ∈ bz_A_8, p.1 ≤ 818 ∧ (p.1 ≠ 804 ∨ (p.2.1 ≠ 29 ∧ p.2.1 ≠ 30 ∧ p.2.1 ≠ 35 ∧ p.2.1 ≠ 36)) := by decide +kernel
  have q9 : ∀ p ∈ bz_A_9, t9.2 p.1 p.2.1 = p.2.2 := by
    intro p hp
    rcases List.mem_append.mp hp with hp | hp
    · rw [h9 p.1 p.2.1 (d9 p hp).1 (d9 p hp).2]; exact q8 p hp
    · exact u9 p hp
  obtain ⟨t10, g10, c10, h10, u10⟩ := bz_c_X11_init_159_804 c9
  have d10 : ∀ p ∈ bz_A_9, p.1 ≤ 822 ∧ (p.1 ≠ 804 ∨ (p.2.1 ≠ 39 ∧ p.2.1 ≠ 40 ∧ p.2.1 ≠ 41 ∧ p.2.1 ≠ 42)) := by decide +kernel
  have q10 : ∀ p ∈ bz_A_10, t10.2 p.1 p.2.1 = p.2.2 := by
    intro p hp
    rcases List.mem_append.mp hp with hp | hp
    · rw [h10 p.1 p.2.1 (d10 p hp).1 (d10 p hp).2]; exact q9 p hp
    · exact u10 p hp
  obtain ⟨t11, g11, c11, h11, u11⟩ := bz_c_X11_init_195_804 c10
  have d11 : ∀ p ∈ bz_A_10, p.1 ≤ 826 ∧ (p.1 ≠ 804 ∨ (p.2.1 ≠ 43 ∧ p.2.1 ≠ 44 ∧ p.2.1 ≠ 45 ∧ p.2.1 ≠ 46)) := by decide +kernel
  have q11 : ∀ p ∈ bz_A_11, t11.2 p.1 p.2.1 = p.2.2 := by
    intro p hp
    rcases List.mem_append.mp hp with hp | hp
    · rw [h11 p.1 p.2.1 (d11 p hp).1 (d11 p hp).2]; exact q10 p hp
    · exact u11 p hp
  obtain ⟨t12, g12, c12, h12, u12⟩ := bz_c_X11_init_230_804 c11
  have d12 : ∀ p ∈ bz_A_11, p.1 ≤ 830 ∧ (p.1 ≠ 804 ∨ (p.2.1 ≠ 47 ∧ p.2.1 ≠ 48 ∧ p.2.1 ≠ 53 ∧ p.2.1 ≠ 54)) := by decide +kernel
  have q12 : ∀ p ∈ bz_A_12, t12.2 p.1 p.2.1 = p.2.2 := by
    intro p hp
    rcases List.mem_append.mp hp with hp | hp
    · rw [h12 p.1 p.2.1 (d12 p hp).1 (d12 p hp).2]; exact q11 p hp
    · exact u12 p hp
  obtain ⟨t13, g13, c13, h13, u13⟩ := bz_c_X11_init_262_804 c12
  have d13 : ∀ p ∈ bz_A_12, p.1 ≤ 834 ∧ (p.1 ≠ 804 ∨ (p.2.1 ≠ 55 ∧ p.2.1 ≠ 56 ∧ p.2.1 ≠ 59 ∧ p.2.1 ≠ 66)) := by decide +kernel
  have q13 : ∀ p ∈ bz_A_13, t13.2 p.1 p.2.1 = p.2.2 := by
    intro p hp
    rcases List.mem_append.mp hp with hp | hp
    · rw [h13 p.1 p.2.1 (d13 p hp).1 (d13 p hp).2]; exact q12 p hp
    · exact u13 p hp
  obtain ⟨t14, g14, c14, h14, u14⟩ := bz_c_X11_init_296_804 c13
  have d14 : ∀ p ∈ bz_A_13, p.1 ≤ 838 ∧ (p.1 ≠ 804 ∨ (p.2.1 ≠ 67 ∧ p.2.1 ≠ 68 ∧ p.2.1 ≠ 69 ∧ p.2.1 ≠ 75)) := by decide +kernel
  have q14 : ∀ p ∈ bz_A_14, t14.2 p.1 p.2.1 = p.2.2 := by
    intro p hp
    rcases List.mem_append.mp hp with hp | hp
    · rw [h14 p.1 p.2.1 (d14 p hp).1 (d14 p hp).2]; exact q13 p hp
    · exact u14 p hp
  obtain ⟨t15, g15, c15, h15, u15⟩ := bz_c_X11_init_329_804 c14
  have d15 : ∀ p ∈ bz_A_14, p.1 ≤ 842 ∧ (p.1 ≠ 804 ∨ (p.2.1 ≠ 76 ∧ p.2.1 ≠ 79 ∧ p.2.1 ≠ 80 ∧ p.2.1 ≠ 82)) := by decide +kernel
  have q15 : ∀ p ∈ bz_A_15, t15.2 p.1 p.2.1 = p.2.2 := by
    intro p hp
    rcases List.mem_append.mp hp with hp | hp
    · rw [h15 p.1 p.2.1 (d15 p hp).1 (d15 p hp).2]; exact q14 p hp
    · exact u15 p hp
  obtain ⟨t16, g16, c16, h16, u16⟩ := bz_c_X11_init_358_804 c15
  have d16 : ∀ p ∈ bz_A_15, p.1 ≤ 845 ∧ (p.1 ≠ 804 ∨ (p.2.1 ≠ 83 ∧ p.2.1 ≠ 84 ∧ p.2.1 ≠ 88 ∧ p.2.1 ≠ 89)) := by decide +kernel
  have q16 : ∀ p ∈ bz_A_16, t16.2 p.1 p.2.1 = p.2.2 := by
    intro p hp
    rcases List.mem_append.mp hp with hp | hp
    · rw [h16 p.1 p.2.1 (d16 p hp).1 (d16 p hp).2]; exact q15 p hp
    · exact u16 p hp
  obtain ⟨t17, g17, c17, h17, u17⟩ := bz_c_X11_init_392_804 c16
  have d17 : ∀ p ∈ bz_A_16, p.1 ≤ 849 ∧ (p.1 ≠ 804 ∨ (p.2.1 ≠ 90 ∧ p.2.1 ≠ 91 ∧ p.2.1 ≠ 92 ∧ p.2.1 ≠ 93)) := by decide +kernel
  have q17 : ∀ p ∈ bz_A_17, t17.2 p.1 p.2.1 = p.2.2 := by
    intro p hp
    rcases List.mem_append.mp hp with hp | hp
    · rw [h17 p.1 p.2.1 (d17 p hp).1 (d17 p hp).2]; exact q16 p hp
    · exact u17 p hp
  obtain ⟨t18, g18, c18, h18, u18⟩ := bz_c_X11_init_426_804 c17
  have d18 : ∀ p ∈ bz_A_17, p.1 ≤ 853 ∧ (p.1 ≠ 804 ∨ (p.2.1 ≠ 94 ∧ p.2.1 ≠ 95 ∧ p.2.1 ≠ 96 ∧ p.2.1 ≠ 97)) := by decide +kernel
  have q18 : ∀ p ∈ bz_A_18, t18.2 p.1 p.2.1 = p.2.2 := by
    intro p hp
    rcases List.mem_append.mp hp with hp | hp
    · rw [h18 p.1 p.2.1 (d18 p hp).1 (d18 p hp).2]; exact q17 p hp
    · exact u18 p hp
  obtain ⟨t19, g19, c19, h19, u19⟩ := bz_c_X11_init_459_804 c18
  have d19 : ∀ p ∈ bz_A_18, p.1 ≤ 857 ∧ (p.1 ≠ 804 ∨ (p.2.1 ≠ 98 ∧ p.2.1 ≠ 99 ∧ p.2.1 ≠ 102 ∧ p.2.1 ≠ 103)) := by decide +kernel
  have q19 : ∀ p ∈ bz_A_19, t19.2 p.1 p.2.1 = p.2.2 := by
    intro p hp
    rcases List.mem_append.mp hp with hp | hp
    · rw [h19 p.1 p.2.1 (d19 p hp).1 (d19 p hp).2]; exact q18 p hp
    · exact u19 p hp
  obtain ⟨t20, g20, c20, h20, u20⟩ := bz_c_X11_init_494_804 c19
  have d20 : ∀ p ∈ bz_A_19, p.1 ≤ 861 ∧ (p.1 ≠ 804 ∨ (p.2.1 ≠ 104 ∧ p.2.1 ≠ 105 ∧ p.2.1 ≠ 106 ∧ p.2.1 ≠ 107)) := by decide +kernel
  have q20 : ∀ p ∈ bz_A_20, t20.2 p.1 p.2.1 = p.2.2 := by
    intro p hp
    rcases List.mem_append.mp hp with hp | hp
    · rw [h20 p.1 p.2.1 (d20 p hp).1 (d20 p hp).2]; exact q19 p hp
    · exact u20 p hp
  obtain ⟨t21, g21, c21, h21, u21⟩ := bz_c_X11_init_529_804 c20
  have d21 : ∀ p ∈ bz_A_20, p.1 ≤ 865 ∧ (p.1 ≠ 804 ∨ (p.2.1 ≠ 112 ∧ p.2.1 ≠ 113)) := by decide +kernel
  have q21 : ∀ p ∈ bz_A_21, t21.2 p.1 p.2.1 = p.2.2 := by
    intro p hp
    rcases List.mem_append.mp hp with hp | hp
    · rw [h21 p.1 p.2.1 (d21 p hp).1 (d21 p hp).2]; exact q20 p hp
    · exact u21 p hp
  refine ⟨t21, ?_, c21, q21, ?_, ?_, ?_, ?_, ?_, ?_, ?_, ?_⟩
  · unfold fz_L_law
    rw [e0, Option.bind_some]
    try dsimp only
    rw [g0, g1, g2, g3, g4, Option.bind_some, em, Option.bind_some]
    try dsimp only
    rw [g5, g6, g7, g8, g9, g10, g11, g12, g13, g14, g15, g16, g17, g18, g19, g20, g21, Option.bind_some]
  · intro q q0 q1
    have := w1.1 q q0 q1
    try simp (disch := omega) only [h2, h3, h4, h5, h6, h7, h8, h9, h10, h11, h12, h13, h14, h15, h16, h17, h18, h19, h20, h21, fm]
    exact this
  · intro q q0 q1
    have := w1.2.1 q q0 q1
    try simp (disch := omega) only [h2, h3, h4, h5, h6, h7, h8, h9, h10, h11, h12, h13, h14, h15, h16, h17, h18, h19, h20, h21, fm]
    exact this
  · intro q q0 q1
    have := w1.2.2.1 q q0 q1
    try simp (disch := omega) only [h2, h3, h4, h5, h6, h7, h8, h9, h10, h11, h12, h13, h14, h15, h16, h17, h18, h19, h20, h21, fm]
    exact this
  · intro q q0 q1
    have := w1.2.2.2 q q0 q1
    try simp (disch := omega) only [h2, h3, h4, h5, h6, h7, h8, h9, h10, h11, h12, h13, h14, h15, h16, h17, h18, h19, h20, h21, fm]
    exact this
  · intro q q0 q1
    have := w2 q q0 q1
    try simp (disch := omega) only [h3, h4, h5, h6, h7, h8, h9, h10, h11, h12, h13, h14, h15, h16, h17, h18, h19, h20, h21, fm]
    exact this
  · intro q q0 q1
    have := w4.1 q q0 q1
    try simp (disch := omega) only [h5, h6, h7, h8, h9, h10, h11, h12, h13, h14, h15, h16, h17, h18, h19, h20, h21, fm]
    exact this
  · intro q q0 q1
    have := w4.2.1 q q0 q1
    try simp (disch := omega) only [h5, h6, h7, h8, h9, h10, h11, h12, h13, h14, h15, h16, h17, h18, h19, h20, h21, fm]
    exact this
  · intro q q0 q1
    have := w4.2.2 q q0 q1
    try simp (disch := omega) only [h5, h6, h7, h8, h9, h10, h11, h12, h13, h14, h15, h16, h17, h18, h19, h20, h21, fm]
    exact this
