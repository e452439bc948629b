/-! the constructors' loops -/
theorem bz_lenR {r z : Int} (h : bz_cap r = z) (hz : 0 < z) (h2 : bz_cap (r + 1) = 0) : bz_len r = 2 ∧ bz_len (r + 1) = z := by
  unfold bz_len
  rw [h, h2, show r + 1 - 1 = r by omega, h, if_pos hz, if_neg (by omega), if_pos hz]
  exact ⟨rfl, rfl⟩
theorem bz_cap0 {r : Int} (h : ¬ (18 ≤ r ∧ r ≤ 80 ∧ r % 2 = 0) ∧ ¬ (97 ≤ r ∧ r ≤ 159 ∧ r % 2 = 1) ∧ ¬ (167 ≤ r ∧ r ≤ 221 ∧ r % 2 = 1) ∧ ¬ (r = 244 ∨ r = 246) ∧ ¬ (253 ≤ r ∧ r ≤ 377 ∧ r % 2 = 1) ∧ ¬ (389 ≤ r ∧ r ≤ 799 ∧ r % 2 = 1)) : bz_cap r = 0 := by
  unfold bz_cap
  rw [if_neg h.1, if_neg h.2.1, if_neg h.2.2.1, if_neg h.2.2.2.1, if_neg h.2.2.2.2.1, if_neg h.2.2.2.2.2]
theorem bz_capA {r : Int} (h : 18 ≤ r ∧ r ≤ 80 ∧ r % 2 = 0) : bz_cap r = 16 := by unfold bz_cap; rw [if_pos h]
theorem bz_capB {r : Int} (h : 97 ≤ r ∧ r ≤ 159 ∧ r % 2 = 1) : bz_cap r = 16 := by unfold bz_cap; rw [if_neg (by omega), if_pos h]
theorem bz_capC {r : Int} (h : 167 ≤ r ∧ r ≤ 221 ∧ r % 2 = 1) : bz_cap r = 30 := by unfold bz_cap; rw [if_neg (by omega), if_neg (by omega), if_pos h]
theorem bz_capD {r : Int} (h : r = 244 ∨ r = 246) : bz_cap r = 60 := by unfold bz_cap; rw [if_neg (by omega), if_neg (by omega), if_neg (by omega), if_pos h]
theorem bz_capE {r : Int} (h : 253 ≤ r ∧ r ≤ 377 ∧ r % 2 = 1) : bz_cap r = 60 := by unfold bz_cap; rw [if_neg (by omega), if_neg (by omega), if_neg (by omega), if_neg (by omega), if_pos h]
theorem bz_capF {r : Int} (h : 389 ≤ r ∧ r ≤ 799 ∧ r % 2 = 1) : bz_cap r = 60 := by unfold bz_cap; rw [if_neg (by omega), if_neg (by omega), if_neg (by omega), if_neg (by omega), if_neg (by omega), if_pos h]
theorem bz_lp_told3 {n : Nat} : ∀ (j k i : Nat) (σ : az_Hp), i + j = 16 → j < k → bz_B σ (17 + 4 * i) 0 → az_gref σ 3 11 = some 12 → az_gref σ 3 12 = some 13 → ∃ σ', fz_X9_init_129 n k σ 3 (i : Int) = some σ' ∧ bz_B σ' 81 0 ∧ (∀ a k : Int, a ≤ 17 + 4 * (i : Int) → a ≠ 12 → a ≠ 13 → σ'.2 a k = σ.2 a k) ∧ (∀ q : Nat, q < i → σ'.2 12 q = σ.2 12 q ∧ σ'.2 13 q = σ.2 13 q) ∧ (∀ q : Nat, i ≤ q → q < 16 → σ'.2 12 q = 18 + 4 * (q : Int) ∧ σ'.2 13 q = 20 + 4 * (q : Int) ∧ σ'.2 (18 + 4 * (q : Int)) 0 = 19 + 4 * (q : Int) ∧ σ'.2 (20 + 4 * (q : Int)) 0 = 21 + 4 * (q : Int)) := by
  intro j
  induction j with
  | zero =>
    intro k i σ hi hk hB hA hC
    obtain ⟨k, rfl⟩ : ∃ k', k = k' + 1 := ⟨k - 1, by omega⟩
    refine ⟨σ, ?_, ?_, fun a k _ _ _ => rfl, fun q _ => ⟨rfl, rfl⟩, fun q h1 h2 => absurd h2 (by omega)⟩
    · unfold fz_X9_init_129; rw [if_neg (by omega)]
    · rw [show 81 = 17 + 4 * i by omega]; exact hB
  | succ j ih =>
    intro k i σ hi hk hB hA hC
    obtain ⟨k, rfl⟩ : ∃ k', k = k' + 1 := ⟨k - 1, by omega⟩
    have l1 := bz_lenR (r := 18 + 4 * (i : Int)) (bz_capA (by omega)) (by omega) (bz_cap0 (by omega))
    have l2 := bz_lenR (r := 20 + 4 * (i : Int)) (bz_capA (by omega)) (by omega) (bz_cap0 (by omega))
    obtain ⟨σ1, σ2, e1, e2, hB2, f2, v2⟩ := bz_rowAt hB (r := 18 + 4 * (i : Int)) (z := 16) (by omega) (by omega) (by omega) l1 (by omega) (by omega)
    have lA : az_ln σ2 12 = 16 := (hB2.2.2.2 12 (by omega) (by omega)).trans (by decide)
    have hB3 := hB2.wr (a := 12) (i := i) (x := 18 + 4 * (i : Int)) (by omega)
    obtain ⟨σ3, σ4, e3, e4, hB4, f4, v4⟩ := bz_rowAt hB3 (r := 20 + 4 * (i : Int)) (z := 16) (by omega) (by omega) (by omega) l2 (by omega) (by omega)
    have lB : az_ln σ4 13 = 16 := (hB4.2.2.2 13 (by omega) (by omega)).trans (by decide)
    have hB5 := hB4.wr (a := 13) (i := i) (x := 20 + 4 * (i : Int)) (by omega)
    have fr : ∀ a k : Int, a ≤ 17 + 4 * (i : Int) → (a ≠ 12 ∨ k ≠ i) → (a ≠ 13 ∨ k ≠ i) → (az_wr σ4 13 i (20 + 4 * (i : Int))).2 a k = σ.2 a k := by
      intro a k ha h1 h2
      rw [az_wr_ne (by omega), f4 a k (by omega), az_wr_ne (by omega), f2 a k (by omega)]
    have gA : az_gref (az_wr σ4 13 i (20 + 4 * (i : Int))) 3 11 = some 12 := by unfold az_gref; rw [fr 3 11 (by omega) (by omega) (by omega)]; exact hA
    have gC : az_gref (az_wr σ4 13 i (20 + 4 * (i : Int))) 3 12 = some 13 := by unfold az_gref; rw [fr 3 12 (by omega) (by omega) (by omega)]; exact hC
    have gC2 : az_gref (az_wr σ2 12 i (18 + 4 * (i : Int))) 3 12 = some 13 := by unfold az_gref; rw [az_wr_ne (by omega), f2 3 12 (by omega)]; exact hC
    obtain ⟨σ', q1, q2, q3, q4, q5⟩ := ih k (i + 1) (az_wr σ4 13 i (20 + 4 * (i : Int))) (by omega) (by omega) (by rw [show 17 + 4 * (i + 1) = 17 + 4 * i + 2 + 2 by omega]; exact hB5) gA gC
    rw [show ((i + 1 : Nat) : Int) = (i : Int) + 1 by omega] at q1
    refine ⟨σ', ?_, q2, ?_, ?_, ?_⟩
    · unfold fz_X9_init_129
      rw [if_pos (by omega)]
      rw [hA, Option.bind_some, e1, Option.bind_some]
      dsimp only
      rw [e2, Option.bind_some, bz_awr (by omega) (by omega), Option.bind_some, gC2, Option.bind_some, e3, Option.bind_some]
      dsimp only
      rw [e4, Option.bind_some, bz_awr (by omega) (by omega), Option.bind_some, az_w32_id (by omega) (by omega)]
      exact q1
    · intro a k ha h1 h2
      rw [q3 a k (by omega) h1 h2, fr a k ha (Or.inl h1) (Or.inl h2)]
    · intro q hq
      have := q4 q (by omega)
      rw [fr 12 q (by omega) (by omega) (by omega), fr 13 q (by omega) (by omega) (by omega)] at this
      exact this
    · intro q hq hq2
      by_cases e : q = i
      · subst e
        have := q4 q (by omega)
        refine ⟨this.1.trans ?_, this.2.trans ?_, ?_, ?_⟩
        · rw [az_wr_ne (by omega), f4 12 q (by omega), az_wr_same]
        · exact az_wr_same
        · rw [q3 _ 0 (by omega) (by omega) (by omega), az_wr_ne (by omega), f4 _ 0 (by omega), az_wr_ne (by omega), v2]; omega
        · rw [q3 _ 0 (by omega) (by omega) (by omega), az_wr_ne (by omega), v4]; omega
      · exact q5 q (by omega) hq2
theorem bz_lp_told82 {n : Nat} : ∀ (j k i : Nat) (σ : az_Hp), i + j = 16 → j < k → bz_B σ (96 + 4 * i) 0 → az_gref σ 82 11 = some 91 → az_gref σ 82 12 = some 92 → ∃ σ', fz_X9_init_129 n k σ 82 (i : Int) = some σ' ∧ bz_B σ' 160 0 ∧ (∀ a k : Int, a ≤ 96 + 4 * (i : Int) → a ≠ 91 → a ≠ 92 → σ'.2 a k = σ.2 a k) ∧ (∀ q : Nat, q < i → σ'.2 91 q = σ.2 91 q ∧ σ'.2 92 q = σ.2 92 q) ∧ (∀ q : Nat, i ≤ q → q < 16 → σ'.2 91 q = 97 + 4 * (q : Int) ∧ σ'.2 92 q = 99 + 4 * (q : Int) ∧ σ'.2 (97 + 4 * (q : Int)) 0 = 98 + 4 * (q : Int) ∧ σ'.2 (99 + 4 * (q : Int)) 0 = 100 + 4 * (q : Int)) := by
  intro j
  induction j with
  | zero =>
    intro k i σ hi hk hB hA hC
    obtain ⟨k, rfl⟩ : ∃ k', k = k' + 1 := ⟨k - 1, by omega⟩
    refine ⟨σ, ?_, ?_, fun a k _ _ _ => rfl, fun q _ => ⟨rfl, rfl⟩, fun q h1 h2 => absurd h2 (by omega)⟩
    · unfold fz_X9_init_129; rw [if_neg (by omega)]
    · rw [show 160 = 96 + 4 * i by omega]; exact hB
  | succ j ih =>
    intro k i σ hi hk hB hA hC
    obtain ⟨k, rfl⟩ : ∃ k', k = k' + 1 := ⟨k - 1, by omega⟩
    have l1 := bz_lenR (r := 97 + 4 * (i : Int)) (bz_capB (by omega)) (by omega) (bz_cap0 (by omega))
    have l2 := bz_lenR (r := 99 + 4 * (i : Int)) (bz_capB (by omega)) (by omega) (bz_cap0 (by omega))
    obtain ⟨σ1, σ2, e1, e2, hB2, f2, v2⟩ := bz_rowAt hB (r := 97 + 4 * (i : Int)) (z := 16) (by omega) (by omega) (by omega) l1 (by omega) (by omega)
    have lA : az_ln σ2 91 = 16 := (hB2.2.2.2 91 (by omega) (by omega)).trans (by decide)
    have hB3 := hB2.wr (a := 91) (i := i) (x := 97 + 4 * (i : Int)) (by omega)
    obtain ⟨σ3, σ4, e3, e4, hB4, f4, v4⟩ := bz_rowAt hB3 (r := 99 + 4 * (i : Int)) (z := 16) (by omega) (by omega) (by omega) l2 (by omega) (by omega)
    have lB : az_ln σ4 92 = 16 := (hB4.2.2.2 92 (by omega) (by omega)).trans (by decide)
    have hB5 := hB4.wr (a := 92) (i := i) (x := 99 + 4 * (i : Int)) (by omega)
    have fr : ∀ a k : Int, a ≤ 96 + 4 * (i : Int) → (a ≠ 91 ∨ k ≠ i) → (a ≠ 92 ∨ k ≠ i) → (az_wr σ4 92 i (99 + 4 * (i : Int))).2 a k = σ.2 a k := by
      intro a k ha h1 h2
      rw [az_wr_ne (by omega), f4 a k (by omega), az_wr_ne (by omega), f2 a k (by omega)]
    have gA : az_gref (az_wr σ4 92 i (99 + 4 * (i : Int))) 82 11 = some 91 := by unfold az_gref; rw [fr 82 11 (by omega) (by omega) (by omega)]; exact hA
    have gC : az_gref (az_wr σ4 92 i (99 + 4 * (i : Int))) 82 12 = some 92 := by unfold az_gref; rw [fr 82 12 (by omega) (by omega) (by omega)]; exact hC
    have gC2 : az_gref (az_wr σ2 91 i (97 + 4 * (i : Int))) 82 12 = some 92 := by unfold az_gref; rw [az_wr_ne (by omega), f2 82 12 (by omega)]; exact hC
    obtain ⟨σ', q1, q2, q3, q4, q5⟩ := ih k (i + 1) (az_wr σ4 92 i (99 + 4 * (i : Int))) (by omega) (by omega) (by rw [show 96 + 4 * (i + 1) = 96 + 4 * i + 2 + 2 by omega]; exact hB5) gA gC
    rw [show ((i + 1 : Nat) : Int) = (i : Int) + 1 by omega] at q1
    refine ⟨σ', ?_, q2, ?_, ?_, ?_⟩
    · unfold fz_X9_init_129
      rw [if_pos (by omega)]
      rw [hA, Option.bind_some, e1, Option.bind_some]
      dsimp only
      rw [e2, Option.bind_some, bz_awr (by omega) (by omega), Option.bind_some, gC2, Option.bind_some, e3, Option.bind_some]
      dsimp only
      rw [e4, Option.bind_some, bz_awr (by omega) (by omega), Option.bind_some, az_w32_id (by omega) (by omega)]
      exact q1
    · intro a k ha h1 h2
      rw [q3 a k (by omega) h1 h2, fr a k ha (Or.inl h1) (Or.inl h2)]
    · intro q hq
      have := q4 q (by omega)
      rw [fr 91 q (by omega) (by omega) (by omega), fr 92 q (by omega) (by omega) (by omega)] at this
      exact this
    · intro q hq hq2
      by_cases e : q = i
      · subst e
        have := q4 q (by omega)
        refine ⟨this.1.trans ?_, this.2.trans ?_, ?_, ?_⟩
        · rw [az_wr_ne (by omega), f4 91 q (by omega), az_wr_same]
        · exact az_wr_same
        · rw [q3 _ 0 (by omega) (by omega) (by omega), az_wr_ne (by omega), f4 _ 0 (by omega), az_wr_ne (by omega), v2]; omega
        · rw [q3 _ 0 (by omega) (by omega) (by omega), az_wr_ne (by omega), v4]; omega
      · exact q5 q (by omega) hq2
theorem bz_lp_reqW {n : Nat} : ∀ (j k i : Nat) (σ : az_Hp), i + j = 8 → j < k → bz_B σ (190 + 4 * i) 0 → az_gref σ 161 5 = some 164 → az_gref σ 161 6 = some 165 → ∃ σ', fz_X6_init_109 n k σ 161 (i : Int) = some σ' ∧ bz_B σ' 222 0 ∧ (∀ a k : Int, a ≤ 190 + 4 * (i : Int) → a ≠ 164 → a ≠ 165 → σ'.2 a k = σ.2 a k) ∧ (∀ q : Nat, q < i → σ'.2 164 q = σ.2 164 q ∧ σ'.2 165 q = σ.2 165 q) ∧ (∀ q : Nat, i ≤ q → q < 8 → σ'.2 164 q = 191 + 4 * (q : Int) ∧ σ'.2 165 q = 193 + 4 * (q : Int) ∧ σ'.2 (191 + 4 * (q : Int)) 0 = 192 + 4 * (q : Int) ∧ σ'.2 (193 + 4 * (q : Int)) 0 = 194 + 4 * (q : Int)) := by
  intro j
  induction j with
  | zero =>
    intro k i σ hi hk hB hA hC
    obtain ⟨k, rfl⟩ : ∃ k', k = k' + 1 := ⟨k - 1, by omega⟩
    refine ⟨σ, ?_, ?_, fun a k _ _ _ => rfl, fun q _ => ⟨rfl, rfl⟩, fun q h1 h2 => absurd h2 (by omega)⟩
    · unfold fz_X6_init_109; rw [if_neg (by omega)]
    · rw [show 222 = 190 + 4 * i by omega]; exact hB
  | succ j ih =>
    intro k i σ hi hk hB hA hC
    obtain ⟨k, rfl⟩ : ∃ k', k = k' + 1 := ⟨k - 1, by omega⟩
    have l1 := bz_lenR (r := 191 + 4 * (i : Int)) (bz_capC (by omega)) (by omega) (bz_cap0 (by omega))
    have l2 := bz_lenR (r := 193 + 4 * (i : Int)) (bz_capC (by omega)) (by omega) (bz_cap0 (by omega))
    obtain ⟨σ1, σ2, e1, e2, hB2, f2, v2⟩ := bz_rowAt hB (r := 191 + 4 * (i : Int)) (z := 30) (by omega) (by omega) (by omega) l1 (by omega) (by omega)
    have lA : az_ln σ2 164 = 8 := (hB2.2.2.2 164 (by omega) (by omega)).trans (by decide)
    have hB3 := hB2.wr (a := 164) (i := i) (x := 191 + 4 * (i : Int)) (by omega)
    obtain ⟨σ3, σ4, e3, e4, hB4, f4, v4⟩ := bz_rowAt hB3 (r := 193 + 4 * (i : Int)) (z := 30) (by omega) (by omega) (by omega) l2 (by omega) (by omega)
    have lB : az_ln σ4 165 = 8 := (hB4.2.2.2 165 (by omega) (by omega)).trans (by decide)
    have hB5 := hB4.wr (a := 165) (i := i) (x := 193 + 4 * (i : Int)) (by omega)
    have fr : ∀ a k : Int, a ≤ 190 + 4 * (i : Int) → (a ≠ 164 ∨ k ≠ i) → (a ≠ 165 ∨ k ≠ i) → (az_wr σ4 165 i (193 + 4 * (i : Int))).2 a k = σ.2 a k := by
      intro a k ha h1 h2
      rw [az_wr_ne (by omega), f4 a k (by omega), az_wr_ne (by omega), f2 a k (by omega)]
    have gA : az_gref (az_wr σ4 165 i (193 + 4 * (i : Int))) 161 5 = some 164 := by unfold az_gref; rw [fr 161 5 (by omega) (by omega) (by omega)]; exact hA
    have gC : az_gref (az_wr σ4 165 i (193 + 4 * (i : Int))) 161 6 = some 165 := by unfold az_gref; rw [fr 161 6 (by omega) (by omega) (by omega)]; exact hC
    have gC2 : az_gref (az_wr σ2 164 i (191 + 4 * (i : Int))) 161 6 = some 165 := by unfold az_gref; rw [az_wr_ne (by omega), f2 161 6 (by omega)]; exact hC
    obtain ⟨σ', q1, q2, q3, q4, q5⟩ := ih k (i + 1) (az_wr σ4 165 i (193 + 4 * (i : Int))) (by omega) (by omega) (by rw [show 190 + 4 * (i + 1) = 190 + 4 * i + 2 + 2 by omega]; exact hB5) gA gC
    rw [show ((i + 1 : Nat) : Int) = (i : Int) + 1 by omega] at q1
    refine ⟨σ', ?_, q2, ?_, ?_, ?_⟩
    · unfold fz_X6_init_109
      rw [if_pos (by omega)]
      rw [hA, Option.bind_some, e1, Option.bind_some]
      dsimp only
      rw [e2, Option.bind_some, bz_awr (by omega) (by omega), Option.bind_some, gC2, Option.bind_some, e3, Option.bind_some]
      dsimp only
      rw [e4, Option.bind_some, bz_awr (by omega) (by omega), Option.bind_some, az_w32_id (by omega) (by omega)]
      exact q1
    · intro a k ha h1 h2
      rw [q3 a k (by omega) h1 h2, fr a k ha (Or.inl h1) (Or.inl h2)]
    · intro q hq
      have := q4 q (by omega)
      rw [fr 164 q (by omega) (by omega) (by omega), fr 165 q (by omega) (by omega) (by omega)] at this
      exact this
    · intro q hq hq2
      by_cases e : q = i
      · subst e
        have := q4 q (by omega)
        refine ⟨this.1.trans ?_, this.2.trans ?_, ?_, ?_⟩
        · rw [az_wr_ne (by omega), f4 164 q (by omega), az_wr_same]
        · exact az_wr_same
        · rw [q3 _ 0 (by omega) (by omega) (by omega), az_wr_ne (by omega), f4 _ 0 (by omega), az_wr_ne (by omega), v2]; omega
        · rw [q3 _ 0 (by omega) (by omega) (by omega), az_wr_ne (by omega), v4]; omega
      · exact q5 q (by omega) hq2
theorem bz_lp_reqG {n : Nat} : ∀ (j k i : Nat) (σ : az_Hp), i + j = 6 → j < k → bz_B σ (166 + 4 * i) 0 → az_gref σ 161 3 = some 162 → az_gref σ 161 4 = some 163 → ∃ σ', fz_X6_init_65 n k σ 161 (i : Int) = fz_X6_init_109 n n σ' 161 0 ∧ bz_B σ' 190 0 ∧ (∀ a k : Int, a ≤ 166 + 4 * (i : Int) → a ≠ 162 → a ≠ 163 → σ'.2 a k = σ.2 a k) ∧ (∀ q : Nat, q < i → σ'.2 162 q = σ.2 162 q ∧ σ'.2 163 q = σ.2 163 q) ∧ (∀ q : Nat, i ≤ q → q < 6 → σ'.2 162 q = 167 + 4 * (q : Int) ∧ σ'.2 163 q = 169 + 4 * (q : Int) ∧ σ'.2 (167 + 4 * (q : Int)) 0 = 168 + 4 * (q : Int) ∧ σ'.2 (169 + 4 * (q : Int)) 0 = 170 + 4 * (q : Int)) := by
  intro j
  induction j with
  | zero =>
    intro k i σ hi hk hB hA hC
    obtain ⟨k, rfl⟩ : ∃ k', k = k' + 1 := ⟨k - 1, by omega⟩
    refine ⟨σ, ?_, ?_, fun a k _ _ _ => rfl, fun q _ => ⟨rfl, rfl⟩, fun q h1 h2 => absurd h2 (by omega)⟩
    · unfold fz_X6_init_65; rw [if_neg (by omega)]
    · rw [show 190 = 166 + 4 * i by omega]; exact hB
  | succ j ih =>
    intro k i σ hi hk hB hA hC
    obtain ⟨k, rfl⟩ : ∃ k', k = k' + 1 := ⟨k - 1, by omega⟩
    have l1 := bz_lenR (r := 167 + 4 * (i : Int)) (bz_capC (by omega)) (by omega) (bz_cap0 (by omega))
    have l2 := bz_lenR (r := 169 + 4 * (i : Int)) (bz_capC (by omega)) (by omega) (bz_cap0 (by omega))
    obtain ⟨σ1, σ2, e1, e2, hB2, f2, v2⟩ := bz_rowAt hB (r := 167 + 4 * (i : Int)) (z := 30) (by omega) (by omega) (by omega) l1 (by omega) (by omega)
    have lA : az_ln σ2 162 = 6 := (hB2.2.2.2 162 (by omega) (by omega)).trans (by decide)
    have hB3 := hB2.wr (a := 162) (i := i) (x := 167 + 4 * (i : Int)) (by omega)
    obtain ⟨σ3, σ4, e3, e4, hB4, f4, v4⟩ := bz_rowAt hB3 (r := 169 + 4 * (i : Int)) (z := 30) (by omega) (by omega) (by omega) l2 (by omega) (by omega)
    have lB : az_ln σ4 163 = 6 := (hB4.2.2.2 163 (by omega) (by omega)).trans (by decide)
    have hB5 := hB4.wr (a := 163) (i := i) (x := 169 + 4 * (i : Int)) (by omega)
    have fr : ∀ a k : Int, a ≤ 166 + 4 * (i : Int) → (a ≠ 162 ∨ k ≠ i) → (a ≠ 163 ∨ k ≠ i) → (az_wr σ4 163 i (169 + 4 * (i : Int))).2 a k = σ.2 a k := by
      intro a k ha h1 h2
      rw [az_wr_ne (by omega), f4 a k (by omega), az_wr_ne (by omega), f2 a k (by omega)]
    have gA : az_gref (az_wr σ4 163 i (169 + 4 * (i : Int))) 161 3 = some 162 := by unfold az_gref; rw [fr 161 3 (by omega) (by omega) (by omega)]; exact hA
    have gC : az_gref (az_wr σ4 163 i (169 + 4 * (i : Int))) 161 4 = some 163 := by unfold az_gref; rw [fr 161 4 (by omega) (by omega) (by omega)]; exact hC
    have gC2 : az_gref (az_wr σ2 162 i (167 + 4 * (i : Int))) 161 4 = some 163 := by unfold az_gref; rw [az_wr_ne (by omega), f2 161 4 (by omega)]; exact hC
    obtain ⟨σ', q1, q2, q3, q4, q5⟩ := ih k (i + 1) (az_wr σ4 163 i (169 + 4 * (i : Int))) (by omega) (by omega) (by rw [show 166 + 4 * (i + 1) = 166 + 4 * i + 2 + 2 by omega]; exact hB5) gA gC
    rw [show ((i + 1 : Nat) : Int) = (i : Int) + 1 by omega] at q1
    refine ⟨σ', ?_, q2, ?_, ?_, ?_⟩
    · unfold fz_X6_init_65
      rw [if_pos (by omega)]
      rw [hA, Option.bind_some, e1, Option.bind_some]
      dsimp only
      rw [e2, Option.bind_some, bz_awr (by omega) (by omega), Option.bind_some, gC2, Option.bind_some, e3, Option.bind_some]
      dsimp only
      rw [e4, Option.bind_some, bz_awr (by omega) (by omega), Option.bind_some, az_w32_id (by omega) (by omega)]
      exact q1
    · intro a k ha h1 h2
      rw [q3 a k (by omega) h1 h2, fr a k ha (Or.inl h1) (Or.inl h2)]
    · intro q hq
      have := q4 q (by omega)
      rw [fr 162 q (by omega) (by omega) (by omega), fr 163 q (by omega) (by omega) (by omega)] at this
      exact this
    · intro q hq hq2
      by_cases e : q = i
      · subst e
        have := q4 q (by omega)
        refine ⟨this.1.trans ?_, this.2.trans ?_, ?_, ?_⟩
        · rw [az_wr_ne (by omega), f4 162 q (by omega), az_wr_same]
        · exact az_wr_same
        · rw [q3 _ 0 (by omega) (by omega) (by omega), az_wr_ne (by omega), f4 _ 0 (by omega), az_wr_ne (by omega), v2]; omega
        · rw [q3 _ 0 (by omega) (by omega) (by omega), az_wr_ne (by omega), v4]; omega
      · exact q5 q (by omega) hq2
theorem bz_lp_solv {n : Nat} : ∀ (j k i : Nat) (σ : az_Hp), i + j = 100 → j < k → bz_B σ (388 + 4 * i) 0 → az_gref σ 380 12 = some 385 → az_gref σ 380 13 = some 386 → az_gref σ 380 10 = some 383 → ∃ σ', fz_X8_init_114 n k σ 380 (i : Int) = fz_X8_init_165 n n σ' 380 0 ∧ bz_B σ' 788 0 ∧ (∀ a k : Int, a ≤ 388 + 4 * (i : Int) → a ≠ 385 → a ≠ 386 → a ≠ 383 → σ'.2 a k = σ.2 a k) ∧ (∀ q : Nat, q < i → σ'.2 385 q = σ.2 385 q ∧ σ'.2 386 q = σ.2 386 q ∧ σ'.2 383 q = σ.2 383 q) ∧ (∀ q : Nat, i ≤ q → q < 100 → σ'.2 385 q = 389 + 4 * (q : Int) ∧ σ'.2 386 q = 391 + 4 * (q : Int) ∧ σ'.2 (389 + 4 * (q : Int)) 0 = 390 + 4 * (q : Int) ∧ σ'.2 (391 + 4 * (q : Int)) 0 = 392 + 4 * (q : Int)) ∧ (∀ q : Nat, i ≤ q → q < 100 → σ'.2 383 q = q) := by
  intro j
  induction j with
  | zero =>
    intro k i σ hi hk hB hA hC hS
    obtain ⟨k, rfl⟩ : ∃ k', k = k' + 1 := ⟨k - 1, by omega⟩
    refine ⟨σ, ?_, ?_, fun a k _ _ _ _ => rfl, fun q _ => ⟨rfl, rfl, rfl⟩, fun q h1 h2 => absurd h2 (by omega), fun q h1 h2 => absurd h2 (by omega)⟩
    · unfold fz_X8_init_114; rw [if_neg (by omega)]
    · rw [show 788 = 388 + 4 * i by omega]; exact hB
  | succ j ih =>
    intro k i σ hi hk hB hA hC hS
    obtain ⟨k, rfl⟩ : ∃ k', k = k' + 1 := ⟨k - 1, by omega⟩
    have l1 := bz_lenR (r := 389 + 4 * (i : Int)) (bz_capF (by omega)) (by omega) (bz_cap0 (by omega))
    have l2 := bz_lenR (r := 391 + 4 * (i : Int)) (bz_capF (by omega)) (by omega) (bz_cap0 (by omega))
    have lS : az_ln σ 383 = 100 := (hB.2.2.2 383 (by omega) (by omega)).trans (by decide)
    have hB0 := hB.wr (a := 383) (i := i) (x := i) (by omega)
    obtain ⟨σ1, σ2, e1, e2, hB2, f2, v2⟩ := bz_rowAt hB0 (r := 389 + 4 * (i : Int)) (z := 60) (by omega) (by omega) (by omega) l1 (by omega) (by omega)
    have lA : az_ln σ2 385 = 100 := (hB2.2.2.2 385 (by omega) (by omega)).trans (by decide)
    have hB3 := hB2.wr (a := 385) (i := i) (x := 389 + 4 * (i : Int)) (by omega)
    obtain ⟨σ3, σ4, e3, e4, hB4, f4, v4⟩ := bz_rowAt hB3 (r := 391 + 4 * (i : Int)) (z := 60) (by omega) (by omega) (by omega) l2 (by omega) (by omega)
    have lB : az_ln σ4 386 = 100 := (hB4.2.2.2 386 (by omega) (by omega)).trans (by decide)
    have hB5 := hB4.wr (a := 386) (i := i) (x := 391 + 4 * (i : Int)) (by omega)
    have fr : ∀ a k : Int, a ≤ 388 + 4 * (i : Int) → (a ≠ 385 ∨ k ≠ i) → (a ≠ 386 ∨ k ≠ i) → (a ≠ 383 ∨ k ≠ i) → (az_wr σ4 386 i (391 + 4 * (i : Int))).2 a k = σ.2 a k := by
      intro a k ha h1 h2 h3
      rw [az_wr_ne (by omega), f4 a k (by omega), az_wr_ne (by omega), f2 a k (by omega), az_wr_ne (by omega)]
    have gA : az_gref (az_wr σ4 386 i (391 + 4 * (i : Int))) 380 12 = some 385 := by unfold az_gref; rw [fr 380 12 (by omega) (by omega) (by omega) (by omega)]; exact hA
    have gC : az_gref (az_wr σ4 386 i (391 + 4 * (i : Int))) 380 13 = some 386 := by unfold az_gref; rw [fr 380 13 (by omega) (by omega) (by omega) (by omega)]; exact hC
    have gS : az_gref (az_wr σ4 386 i (391 + 4 * (i : Int))) 380 10 = some 383 := by unfold az_gref; rw [fr 380 10 (by omega) (by omega) (by omega) (by omega)]; exact hS
    have gA0 : az_gref (az_wr σ 383 i i) 380 12 = some 385 := by rw [bz_gref_wr (by omega)]; exact hA
    have gC2 : az_gref (az_wr σ2 385 i (389 + 4 * (i : Int))) 380 13 = some 386 := by unfold az_gref; rw [az_wr_ne (by omega), f2 380 13 (by omega), az_wr_ne (by omega)]; exact hC
    obtain ⟨σ', q1, q2, q3, q4, q5, q6⟩ := ih k (i + 1) (az_wr σ4 386 i (391 + 4 * (i : Int))) (by omega) (by omega) (by rw [show 388 + 4 * (i + 1) = 388 + 4 * i + 2 + 2 by omega]; exact hB5) gA gC gS
    rw [show ((i + 1 : Nat) : Int) = (i : Int) + 1 by omega] at q1
    refine ⟨σ', ?_, q2, ?_, ?_, ?_, ?_⟩
    · unfold fz_X8_init_114
      rw [if_pos (by omega)]
      rw [hS, Option.bind_some, bz_awr (by omega) (by omega), Option.bind_some, gA0, Option.bind_some, e1, Option.bind_some]
      dsimp only
      rw [e2, Option.bind_some, bz_awr (by omega) (by omega), Option.bind_some, gC2, Option.bind_some, e3, Option.bind_some]
      dsimp only
      rw [e4, Option.bind_some, bz_awr (by omega) (by omega), Option.bind_some, az_w32_id (by omega) (by omega)]
      exact q1
    · intro a k ha h1 h2 h3
      rw [q3 a k (by omega) h1 h2 h3, fr a k ha (Or.inl h1) (Or.inl h2) (Or.inl h3)]
    · intro q hq
      have := q4 q (by omega)
      rw [fr 385 q (by omega) (by omega) (by omega) (by omega), fr 386 q (by omega) (by omega) (by omega) (by omega), fr 383 q (by omega) (by omega) (by omega) (by omega)] at this
      exact this
    · intro q hq hq2
      by_cases e : q = i
      · subst e
        have := q4 q (by omega)
        refine ⟨this.1.trans ?_, this.2.1.trans ?_, ?_, ?_⟩
        · rw [az_wr_ne (by omega), f4 385 q (by omega), az_wr_same]
        · exact az_wr_same
        · rw [q3 _ 0 (by omega) (by omega) (by omega) (by omega), az_wr_ne (by omega), f4 _ 0 (by omega), az_wr_ne (by omega), v2]; omega
        · rw [q3 _ 0 (by omega) (by omega) (by omega) (by omega), az_wr_ne (by omega), v4]; omega
      · exact q5 q (by omega) hq2
    · intro q hq hq2
      by_cases e : q = i
      · subst e
        rw [(q4 q (by omega)).2.2, az_wr_ne (by omega), f4 383 q (by omega), az_wr_ne (by omega), f2 383 q (by omega)]
        exact az_wr_same
      · exact q6 q (by omega) hq2
theorem bz_lp_past {n : Nat} : ∀ (j k i : Nat) (σ : az_Hp), i + j = 61 → j < k → bz_B σ (252 + 2 * i) 0 → az_gref σ 243 11 = some 248 → ∃ σ', fz_X5_init_119 n k σ 243 (i : Int) = some σ' ∧ bz_B σ' 374 0 ∧ (∀ a k : Int, a ≤ 252 + 2 * (i : Int) → a ≠ 248 → σ'.2 a k = σ.2 a k) ∧ (∀ q : Nat, q < i → σ'.2 248 q = σ.2 248 q) ∧ (∀ q : Nat, i ≤ q → q < 61 → σ'.2 248 q = 253 + 2 * (q : Int) ∧ σ'.2 (253 + 2 * (q : Int)) 0 = 254 + 2 * (q : Int)) := by
  intro j
  induction j with
  | zero =>
    intro k i σ hi hk hB hA
    obtain ⟨k, rfl⟩ : ∃ k', k = k' + 1 := ⟨k - 1, by omega⟩
    refine ⟨σ, ?_, ?_, fun a k _ _ => rfl, fun q _ => rfl, fun q h1 h2 => absurd h2 (by omega)⟩
    · unfold fz_X5_init_119; rw [if_pos (by omega)]
    · rw [show 374 = 252 + 2 * i by omega]; exact hB
  | succ j ih =>
    intro k i σ hi hk hB hA
    obtain ⟨k, rfl⟩ : ∃ k', k = k' + 1 := ⟨k - 1, by omega⟩
    have l1 := bz_lenR (r := 253 + 2 * (i : Int)) (bz_capE (by omega)) (by omega) (bz_cap0 (by omega))
    obtain ⟨σ1, σ2, e1, e2, hB2, f2, v2⟩ := bz_rowAt hB (r := 253 + 2 * (i : Int)) (z := 60) (by omega) (by omega) (by omega) l1 (by omega) (by omega)
    have lA : az_ln σ2 248 = 61 := (hB2.2.2.2 248 (by omega) (by omega)).trans (by decide)
    have hB3 := hB2.wr (a := 248) (i := i) (x := 253 + 2 * (i : Int)) (by omega)
    have gA : az_gref (az_wr σ2 248 i (253 + 2 * (i : Int))) 243 11 = some 248 := by unfold az_gref; rw [az_wr_ne (by omega), f2 243 11 (by omega)]; exact hA
    obtain ⟨σ', q1, q2, q3, q4, q5⟩ := ih k (i + 1) (az_wr σ2 248 i (253 + 2 * (i : Int))) (by omega) (by omega) (by rw [show 252 + 2 * (i + 1) = 252 + 2 * i + 2 by omega]; exact hB3) gA
    rw [show ((i + 1 : Nat) : Int) = (i : Int) + 1 by omega] at q1
    refine ⟨σ', ?_, q2, ?_, ?_, ?_⟩
    · unfold fz_X5_init_119
      rw [if_neg (by omega), hA, Option.bind_some, e1, Option.bind_some]
      dsimp only
      rw [e2, Option.bind_some, bz_awr (by omega) (by omega), Option.bind_some, az_w32_id (by omega) (by omega)]
      exact q1
    · intro a k ha h1
      rw [q3 a k (by omega) h1, az_wr_ne (by omega), f2 a k (by omega)]
    · intro q hq
      rw [q4 q (by omega), az_wr_ne (by omega), f2 248 q (by omega)]
    · intro q hq hq2
      by_cases e : q = i
      · subst e
        refine ⟨?_, ?_⟩
        · rw [q4 q (by omega), az_wr_same]
        · rw [q3 _ 0 (by omega) (by omega), az_wr_ne (by omega), v2]; omega
      · exact q5 q (by omega) hq2
theorem bz_lp_vals {n : Nat} : ∀ (j k i : Nat) (σ : az_Hp), i + j = 6 → j < k → bz_B σ (788 + 2 * i) 0 → az_gref σ 380 8 = some 382 → ∃ σ', fz_X8_init_165 n k σ 380 (i : Int) = some σ' ∧ bz_B σ' 800 0 ∧ (∀ a k : Int, a ≤ 788 + 2 * (i : Int) → a ≠ 382 → σ'.2 a k = σ.2 a k) ∧ (∀ q : Nat, q < i → σ'.2 382 q = σ.2 382 q) ∧ (∀ q : Nat, i ≤ q → q < 6 → σ'.2 382 q = 789 + 2 * (q : Int) ∧ σ'.2 (789 + 2 * (q : Int)) 0 = 790 + 2 * (q : Int)) := by
  intro j
  induction j with
  | zero =>
    intro k i σ hi hk hB hA
    obtain ⟨k, rfl⟩ : ∃ k', k = k' + 1 := ⟨k - 1, by omega⟩
    refine ⟨σ, ?_, ?_, fun a k _ _ => rfl, fun q _ => rfl, fun q h1 h2 => absurd h2 (by omega)⟩
    · unfold fz_X8_init_165; rw [if_neg (by omega)]
    · rw [show 800 = 788 + 2 * i by omega]; exact hB
  | succ j ih =>
    intro k i σ hi hk hB hA
    obtain ⟨k, rfl⟩ : ∃ k', k = k' + 1 := ⟨k - 1, by omega⟩
    have l1 := bz_lenR (r := 789 + 2 * (i : Int)) (bz_capF (by omega)) (by omega) (bz_cap0 (by omega))
    obtain ⟨σ1, σ2, e1, e2, hB2, f2, v2⟩ := bz_rowAt hB (r := 789 + 2 * (i : Int)) (z := 60) (by omega) (by omega) (by omega) l1 (by omega) (by omega)
    have lA : az_ln σ2 382 = 6 := (hB2.2.2.2 382 (by omega) (by omega)).trans (by decide)
    have hB3 := hB2.wr (a := 382) (i := i) (x := 789 + 2 * (i : Int)) (by omega)
    have gA : az_gref (az_wr σ2 382 i (789 + 2 * (i : Int))) 380 8 = some 382 := by unfold az_gref; rw [az_wr_ne (by omega), f2 380 8 (by omega)]; exact hA
    obtain ⟨σ', q1, q2, q3, q4, q5⟩ := ih k (i + 1) (az_wr σ2 382 i (789 + 2 * (i : Int))) (by omega) (by omega) (by rw [show 788 + 2 * (i + 1) = 788 + 2 * i + 2 by omega]; exact hB3) gA
    rw [show ((i + 1 : Nat) : Int) = (i : Int) + 1 by omega] at q1
    refine ⟨σ', ?_, q2, ?_, ?_, ?_⟩
    · unfold fz_X8_init_165
      rw [if_pos (by omega), hA, Option.bind_some, e1, Option.bind_some]
      dsimp only
      rw [e2, Option.bind_some, bz_awr (by omega) (by omega), Option.bind_some, az_w32_id (by omega) (by omega)]
      exact q1
    · intro a k ha h1
      rw [q3 a k (by omega) h1, az_wr_ne (by omega), f2 a k (by omega)]
    · intro q hq
      rw [q4 q (by omega), az_wr_ne (by omega), f2 382 q (by omega)]
    · intro q hq hq2
      by_cases e : q = i
      · subst e
        refine ⟨?_, ?_⟩
        · rw [q4 q (by omega), az_wr_same]
        · rw [q3 _ 0 (by omega) (by omega), az_wr_ne (by omega), v2]; omega
      · exact q5 q (by omega) hq2
