/-! rows behind those that are told are written: what is told stays -/
theorem ld_Eq.same {x m x' m' : az_Hp} {T s e : Int} (h : ld_Eq x m T s e) (h7 : x'.2 (T + 7) e = x.2 (T + 7) e) (h8 : x'.2 (T + 8) e = x.2 (T + 8) e) (L : ∀ k, x'.2 (T + 15 + 4 * e) k = x.2 (T + 15 + 4 * e) k) (L' : ∀ k, x'.2 (T + 15 + 4 * e + 1) k = x.2 (T + 15 + 4 * e + 1) k) (R : ∀ k, x'.2 (T + 17 + 4 * e) k = x.2 (T + 17 + 4 * e) k) (R' : ∀ k, x'.2 (T + 17 + 4 * e + 1) k = x.2 (T + 17 + 4 * e + 1) k) (m7 : ∀ a, 817 ≤ a → a ≤ 819 → m'.2 a (16 * s + e) = m.2 a (16 * s + e)) (m5 : ∀ i, 0 ≤ i → i < 16 → m'.2 815 (16 * (16 * s + e) + i) = m.2 815 (16 * (16 * s + e) + i)) (m6 : ∀ i, 0 ≤ i → i < 16 → m'.2 816 (16 * (16 * s + e) + i) = m.2 816 (16 * (16 * s + e) + i)) (ec : bz_ct m' s = bz_ct m s) (ef : bz_ft m' s = bz_ft m s) (t0 : x'.2 T 0 = x.2 T 0) (t1 : x'.2 T 1 = x.2 T 1) : ld_Eq x' m' T s e := by
  obtain ⟨q1, q2, q3, q4, q5, q6, q7, q8, q9, q10, q11⟩ := h
  have raL : bz_ra x' (T + 15 + 4 * e) = bz_ra x (T + 15 + 4 * e) := funext fun k => by unfold bz_ra; rw [L']
  have raR : bz_ra x' (T + 17 + 4 * e) = bz_ra x (T + 17 + 4 * e) := funext fun k => by unfold bz_ra; rw [R']
  have m50 : m'.2 815 (16 * (16 * s + e)) = m.2 815 (16 * (16 * s + e)) := by
    have := m5 0 (by omega) (by omega)
    rw [Int.add_zero] at this
    exact this
  unfold ld_Eq
  rw [m7 817 (by omega) (by omega), m7 818 (by omega) (by omega), m7 819 (by omega) (by omega), L, R, h8, h7, raL, raR, m50, ec, ef, t0, t1]
  refine ⟨q1, q2, q3, fun i i0 i1 => ?_, fun i i0 i1 => ?_, q6, q7, q8, fun i i0 i1 => ?_, fun i i0 i1 => ?_, fun v v0 v1 => ?_⟩
  · rw [L', m5 i i0 (by omega)]; exact q4 i i0 i1
  · rw [R', m6 i i0 (by omega)]; exact q5 i i0 i1
  · rw [m5 i (by omega) (by omega)]; exact q9 i i0 i1
  · rw [m6 i i0 (by omega)]; exact q10 i i0 i1
  · obtain ⟨i, i1, i2, i3⟩ := q11 v v0 v1
    exact ⟨i, i1, i2, by rw [m5 i (by omega) (by omega)]; exact i3⟩
theorem ld_T.grow {x m x' m' : az_Hp} {T s : Int} (h : ld_T x m T s) (hX : ∀ a k, T ≤ a → a < T + 15 + 4 * x.2 T 2 → x'.2 a k = x.2 a k) (hM : ∀ a k, 806 ≤ a → a ≤ 814 → m'.2 a k = m.2 a k) (h15 : m'.2 804 15 = m.2 804 15) (m7 : ∀ a e, 817 ≤ a → a ≤ 819 → 0 ≤ e → e < x.2 T 2 → m'.2 a (16 * s + e) = m.2 a (16 * s + e)) (m5 : ∀ a e i, a = 815 ∨ a = 816 → 0 ≤ e → e < x.2 T 2 → 0 ≤ i → i < 16 → m'.2 a (16 * (16 * s + e) + i) = m.2 a (16 * (16 * s + e) + i)) : ld_T x' m' T s := by
  obtain ⟨⟨hT, hs, n15, ⟨n4, n4'⟩, n5, n6, n7, n8⟩, h2, h3, h4⟩ := h
  have X : ∀ a k, T ≤ a → a < T + 15 → x'.2 a k = x.2 a k := fun a k p q => hX a k p (by omega)
  have ec : bz_ct m' s = bz_ct m s := funext fun k => hM 811 _ (by omega) (by omega)
  have ef : bz_ft m' s = bz_ft m s := funext fun k => hM 812 _ (by omega) (by omega)
  have t0 := X T 0 (by omega) (by omega)
  have t1 := X T 1 (by omega) (by omega)
  have t2 := X T 2 (by omega) (by omega)
  refine ⟨⟨hT, hs, by rw [h15]; exact n15, ⟨by rw [t0, hM 806 s (by omega) (by omega)]; exact n4, by rw [t1, hM 807 s (by omega) (by omega)]; exact n4'⟩, by rw [ec, ef, t0, t1]; exact n5, fun k k0 k1 => ?_, fun k k0 k1 => ?_, fun k j k0 k1 j0 j1 => ?_⟩, fun k k0 k1 => ?_, by rw [t2, hM 808 s (by omega) (by omega)]; exact h3, fun e e0 e1 => ?_⟩
  · rw [t0] at k1
    rw [X (T + 1) k (by omega) (by omega), hM 809 _ (by omega) (by omega), X (T + 2) k (by omega) (by omega), ec]
    exact n6 k k0 k1
  · rw [t1] at k1
    rw [X (T + 3) k (by omega) (by omega), hM 810 _ (by omega) (by omega), X (T + 4) k (by omega) (by omega), ef]
    exact n7 k k0 k1
  · rw [t0] at k1
    rw [t1] at j1
    rw [X (T + 1) k (by omega) (by omega), X (T + 3) j (by omega) (by omega)]
    exact n8 k j k0 k1 j0 j1
  · rw [t1] at k1
    rw [X (T + 5) k (by omega) (by omega), X (T + 6) k (by omega) (by omega), hM 813 _ (by omega) (by omega), hM 814 _ (by omega) (by omega)]
    exact h2 k k0 k1
  · rw [t2] at e1
    exact (h4 e e0 e1).same (X _ _ (by omega) (by omega)) (X _ _ (by omega) (by omega)) (fun k => hX _ k (by omega) (by omega)) (fun k => hX _ k (by omega) (by omega)) (fun k => hX _ k (by omega) (by omega)) (fun k => hX _ k (by omega) (by omega)) (fun a p q => m7 a e p q e0 e1) (fun i i0 i1 => m5 815 e i (Or.inl rfl) e0 e1 i0 i1) (fun i i0 i1 => m5 816 e i (Or.inr rfl) e0 e1 i0 i1) ec ef t0 t1
