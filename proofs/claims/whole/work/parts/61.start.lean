/-! what holds at the law's loop when it begins -/
theorem bz_start {xl : Int} {xs : Int → Int} : ∃ σ, fz_L_law xl xs 2000000 az_E = fz_L_law_18 xl xs 2000000 2000000 σ 1 804 0 ∧ bz_Fx σ ∧ σ.1.1 = 867 ∧ σ.1.2.1 ≤ 1100000 ∧ (∀ a k, (867 : Int) < a → σ.2 a k = 0) ∧ (∀ p ∈ bz_A_21, σ.2 p.1 p.2.1 = p.2.2) ∧ ∀ q : Nat, q < 100 → σ.2 383 q = q := by
  obtain ⟨σ, e, hB, hA, r1, r2, r3, r4, r5, r6, r7, r8⟩ := bz_made (xl := xl) (xs := xs)
  refine ⟨σ, e, ?_, hB.1, ?_, fun a k h => hB.2.2.1 a k (by omega), hA, fun q hq => r7 q (by omega) hq⟩
  · unfold bz_Fx bz_chk
    simp only [Bool.and_eq_true]
    refine ⟨⟨⟨?_, ?_⟩, ?_⟩, ?_⟩
    · rw [List.all_eq_true]
      intro p hp
      have d : ∀ p ∈ bz_fixL, p ∈ bz_A_21 := by decide +kernel
      simpa using hA p (d p hp)
    · rw [List.all_eq_true]
      intro p hp
      have d : ∀ p ∈ bz_lenL, 1 ≤ p.1 ∧ p.1 ≤ 867 ∧ bz_len p.1 = p.2 := by decide +kernel
      obtain ⟨d1, d2, d3⟩ := d p hp
      simpa using (hB.2.2.2 p.1 d1 (by omega)).trans d3
    · rw [List.all_eq_true]
      intro p hp
      have d : ∀ p ∈ bz_rowsL, 1 ≤ p.1 ∧ p.1 ≤ 867 ∧ bz_len p.1 = p.2.1 := by decide +kernel
      obtain ⟨d1, d2, d3⟩ := d p hp
      rw [Bool.and_eq_true]
      refine ⟨by simpa using (hB.2.2.2 p.1 d1 (by omega)).trans d3, ?_⟩
      rw [List.all_eq_true]
      intro q hq
      rw [decide_eq_true_eq]
      have hq' := List.mem_range.mp hq
      simp only [bz_rowsL, List.mem_cons, List.not_mem_nil, or_false] at hp
      rcases hp with rfl | rfl | rfl | rfl | rfl | rfl | rfl | rfl | rfl | rfl | rfl | rfl
      · exact (r1 q (by omega) (by simpa using hq')).1
      · exact (r1 q (by omega) (by simpa using hq')).2.1
      · exact (r2 q (by omega) (by simpa using hq')).1
      · exact (r2 q (by omega) (by simpa using hq')).2.1
      · exact (r3 q (by omega) (by simpa using hq')).1
      · exact (r3 q (by omega) (by simpa using hq')).2.1
      · exact (r4 q (by omega) (by simpa using hq')).1
      · exact (r4 q (by omega) (by simpa using hq')).2.1
      · exact (r5 q (by omega) (by simpa using hq')).1
      · exact (r8 q (by omega) (by simpa using hq')).1
      · exact (r6 q (by omega) (by simpa using hq')).1
      · exact (r6 q (by omega) (by simpa using hq')).2.1
    · rw [List.all_eq_true]
      intro r hr
      have hr' := List.mem_range.mp hr
      by_cases hc : 0 < bz_cap (r : Int)
      · have d : ∀ r ∈ List.range 900, 0 < bz_cap (r : Int) → bz_len ((r : Int) + 1) = bz_cap (r : Int) := by decide +kernel
        have hl := d r hr hc
        have hb := bz_cap_lt hc
        have hlen := (hB.2.2.2 ((r : Int) + 1) (by omega) (by omega)).trans hl
        have hv : σ.2 (r : Int) 0 = (r : Int) + 1 := by
          by_cases c1 : 18 ≤ (r : Int) ∧ (r : Int) ≤ 80 ∧ (r : Int) % 2 = 0
          · have q := r1 ((r - 18) / 4) (by omega) (by omega)
            by_cases m : (r : Int) % 4 = 2
            · have := q.2.2.1
              rw [show 18 + 4 * (((r - 18) / 4 : Nat) : Int) = (r : Int) by omega] at this
              omega
            · have := q.2.2.2
              rw [show 20 + 4 * (((r - 18) / 4 : Nat) : Int) = (r : Int) by omega] at this
              omega
          by_cases c2 : 97 ≤ (r : Int) ∧ (r : Int) ≤ 159 ∧ (r : Int) % 2 = 1
          · have q := r2 ((r - 97) / 4) (by omega) (by omega)
            by_cases m : (r : Int) % 4 = 1
            · have := q.2.2.1
              rw [show 97 + 4 * (((r - 97) / 4 : Nat) : Int) = (r : Int) by omega] at this
              omega
            · have := q.2.2.2
              rw [show 99 + 4 * (((r - 97) / 4 : Nat) : Int) = (r : Int) by omega] at this
              omega
          by_cases c3 : 167 ≤ (r : Int) ∧ (r : Int) ≤ 189 ∧ (r : Int) % 2 = 1
          · have q := r3 ((r - 167) / 4) (by omega) (by omega)
            by_cases m : (r : Int) % 4 = 3
            · have := q.2.2.1
              rw [show 167 + 4 * (((r - 167) / 4 : Nat) : Int) = (r : Int) by omega] at this
              omega
            · have := q.2.2.2
              rw [show 169 + 4 * (((r - 167) / 4 : Nat) : Int) = (r : Int) by omega] at this
              omega
          by_cases c4 : 191 ≤ (r : Int) ∧ (r : Int) ≤ 221 ∧ (r : Int) % 2 = 1
          · have q := r4 ((r - 191) / 4) (by omega) (by omega)
            by_cases m : (r : Int) % 4 = 3
            · have := q.2.2.1
              rw [show 191 + 4 * (((r - 191) / 4 : Nat) : Int) = (r : Int) by omega] at this
              omega
            · have := q.2.2.2
              rw [show 193 + 4 * (((r - 191) / 4 : Nat) : Int) = (r : Int) by omega] at this
              omega
          by_cases c5 : (r : Int) = 244
          · rw [c5]; exact hA (244, 0, 245) (by decide +kernel)
          by_cases c6 : (r : Int) = 246
          · rw [c6]; exact hA (246, 0, 247) (by decide +kernel)
          by_cases c7 : (r : Int) = 375
          · rw [c7]; exact hA (375, 0, 376) (by decide +kernel)
          by_cases c8 : (r : Int) = 377
          · rw [c8]; exact hA (377, 0, 378) (by decide +kernel)
          by_cases c9 : 253 ≤ (r : Int) ∧ (r : Int) ≤ 373 ∧ (r : Int) % 2 = 1
          · have := (r5 ((r - 253) / 2) (by omega) (by omega)).2
            rw [show 253 + 2 * (((r - 253) / 2 : Nat) : Int) = (r : Int) by omega] at this
            omega
          by_cases c10 : 389 ≤ (r : Int) ∧ (r : Int) ≤ 787 ∧ (r : Int) % 2 = 1
          · have q := r6 ((r - 389) / 4) (by omega) (by omega)
            by_cases m : (r : Int) % 4 = 1
            · have := q.2.2.1
              rw [show 389 + 4 * (((r - 389) / 4 : Nat) : Int) = (r : Int) by omega] at this
              omega
            · have := q.2.2.2
              rw [show 391 + 4 * (((r - 389) / 4 : Nat) : Int) = (r : Int) by omega] at this
              omega
          by_cases c11 : 789 ≤ (r : Int) ∧ (r : Int) ≤ 799 ∧ (r : Int) % 2 = 1
          · have := (r8 ((r - 789) / 2) (by omega) (by omega)).2
            rw [show 789 + 2 * (((r - 789) / 2 : Nat) : Int) = (r : Int) by omega] at this
            omega
          exfalso
          rw [bz_cap0 (by omega)] at hc
          omega
        simp [hv, hlen]
      · simp [hc]
  · have := hB.2.1
    omega
