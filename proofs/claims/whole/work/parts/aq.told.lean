/-! what has been told so far, while a text is loaded: the class's T in x, the reference's side s in m -/
def ld_Eq (x m : az_Hp) (T s e : Int) : Prop :=
  (x.2 (T + 15 + 4 * e) 1 = m.2 817 (16 * s + e) ∧ 1 ≤ x.2 (T + 15 + 4 * e) 1 ∧ x.2 (T + 15 + 4 * e) 1 ≤ 16) ∧
  (x.2 (T + 17 + 4 * e) 1 = m.2 818 (16 * s + e) ∧ 1 ≤ x.2 (T + 17 + 4 * e) 1 ∧ x.2 (T + 17 + 4 * e) 1 ≤ 16) ∧
  (x.2 (T + 8) e = m.2 819 (16 * s + e) ∧ 0 ≤ x.2 (T + 8) e ∧ x.2 (T + 8) e ≤ 6) ∧
  (∀ i, 0 ≤ i → i < x.2 (T + 15 + 4 * e) 1 → bz_cr (bz_ct m s) (bz_ft m s) (x.2 T 0) (x.2 T 1) (bz_VE (x.2 (T + 8) e)) (x.2 (T + 15 + 4 * e + 1) i) (m.2 815 (16 * (16 * s + e) + i))) ∧
  (∀ i, 0 ≤ i → i < x.2 (T + 17 + 4 * e) 1 → bz_cr (bz_ct m s) (bz_ft m s) (x.2 T 0) (x.2 T 1) (bz_VE (x.2 (T + 8) e)) (x.2 (T + 17 + 4 * e + 1) i) (m.2 816 (16 * (16 * s + e) + i))) ∧
  bz_Sc (bz_ra x (T + 15 + 4 * e)) (x.2 (T + 15 + 4 * e) 1).toNat 1 0 ∧
  bz_Sc (bz_ra x (T + 17 + 4 * e)) (x.2 (T + 17 + 4 * e) 1).toNat 1 0 ∧
  (200 ≤ m.2 815 (16 * (16 * s + e)) ∧ m.2 815 (16 * (16 * s + e)) < 1000 ∧ x.2 (T + 7) e = m.2 815 (16 * (16 * s + e)) - 200) ∧
  (∀ i, 1 ≤ i → i < x.2 (T + 15 + 4 * e) 1 → m.2 815 (16 * (16 * s + e) + i) < 200 ∨ (1000 ≤ m.2 815 (16 * (16 * s + e) + i) ∧ m.2 815 (16 * (16 * s + e) + i) < 2000)) ∧
  (∀ i, 0 ≤ i → i < x.2 (T + 17 + 4 * e) 1 → m.2 816 (16 * (16 * s + e) + i) < 2000) ∧
  (∀ v, 0 ≤ v → v < x.2 (T + 8) e → ∃ i, 1 ≤ i ∧ i < x.2 (T + 15 + 4 * e) 1 ∧ m.2 815 (16 * (16 * s + e) + i) = 1000 + v)
def ld_T (x m : az_Hp) (T s : Int) : Prop := rd_Nm x m T s ∧ (∀ k, 0 ≤ k → k < x.2 T 1 → (x.2 (T + 5) k = m.2 813 (5 * s + k) ∧ (x.2 (T + 5) k = 0 ∨ x.2 (T + 5) k = 1)) ∧ (x.2 (T + 6) k = m.2 814 (5 * s + k) ∧ (x.2 (T + 6) k = 0 ∨ x.2 (T + 6) k = 1))) ∧ (x.2 T 2 = m.2 808 s ∧ 0 ≤ x.2 T 2 ∧ x.2 T 2 ≤ 16) ∧ ∀ e, 0 ≤ e → e < x.2 T 2 → ld_Eq x m T s e
/-- more constructors and families are told: an equation stays what it was -/
theorem bz_cr.more {ct ft ct' ft' : Int → Int} {nc nf nc' nf' : Int} {V : Int → Int → Prop} {c q : Int} (h : bz_cr ct ft nc nf V c q) (hc : ∀ k, 0 ≤ k → k < nc → ct' k = ct k) (hf : ∀ k, 0 ≤ k → k < nf → ft' k = ft k) (hn : nc ≤ nc') (hn' : nf ≤ nf') : bz_cr ct' ft' nc' nf' V c q := by
  rcases h with h | ⟨h1, h2, h3⟩ | ⟨h1, h2, h3⟩ | h
  · exact Or.inl h
  · exact Or.inr (Or.inl ⟨h1, by omega, by rw [hc _ (by omega) (by omega)]; exact h3⟩)
  · exact Or.inr (Or.inr (Or.inl ⟨h1, by omega, by rw [hf _ (by omega) (by omega)]; exact h3⟩))
  · exact Or.inr (Or.inr (Or.inr h))
theorem ld_Eq.more {x m x' m' : az_Hp} {T s e : Int} (h : ld_Eq x m T s e) (e0 : 0 ≤ e) (e1 : e < 16) (hT : T = 3 ∨ T = 82) (hX : ∀ a k, a = T + 7 ∨ a = T + 8 ∨ (T + 15 ≤ a ∧ a ≤ T + 78) → x'.2 a k = x.2 a k) (hM : ∀ a k, 815 ≤ a → a ≤ 819 → m'.2 a k = m.2 a k) (hc : ∀ k, 0 ≤ k → k < x.2 T 0 → bz_ct m' s k = bz_ct m s k) (hf : ∀ k, 0 ≤ k → k < x.2 T 1 → bz_ft m' s k = bz_ft m s k) (hn : x.2 T 0 ≤ x'.2 T 0) (hn' : x.2 T 1 ≤ x'.2 T 1) : ld_Eq x' m' T s e := by
  obtain ⟨q1, q2, q3, q4, q5, q6, q7, q8, q9, q10, q11⟩ := h
  have L : ∀ k, x'.2 (T + 15 + 4 * e) k = x.2 (T + 15 + 4 * e) k := fun k => hX _ k (by omega)
  have L' : ∀ k, x'.2 (T + 15 + 4 * e + 1) k = x.2 (T + 15 + 4 * e + 1) k := fun k => hX _ k (by omega)
  have R : ∀ k, x'.2 (T + 17 + 4 * e) k = x.2 (T + 17 + 4 * e) k := fun k => hX _ k (by omega)
  have R' : ∀ k, x'.2 (T + 17 + 4 * e + 1) k = x.2 (T + 17 + 4 * e + 1) k := fun k => hX _ k (by omega)
  have e8 : x'.2 (T + 8) e = x.2 (T + 8) e := hX _ e (by omega)
  have e7 : x'.2 (T + 7) e = x.2 (T + 7) e := hX _ e (by omega)
  have raL : bz_ra x' (T + 15 + 4 * e) = bz_ra x (T + 15 + 4 * e) := funext fun k => by unfold bz_ra; rw [L']
  have raR : bz_ra x' (T + 17 + 4 * e) = bz_ra x (T + 17 + 4 * e) := funext fun k => by unfold bz_ra; rw [R']
  have m815 : ∀ k, m'.2 815 k = m.2 815 k := fun k => hM 815 k (by omega) (by omega)
  have m816 : ∀ k, m'.2 816 k = m.2 816 k := fun k => hM 816 k (by omega) (by omega)
  unfold ld_Eq
  rw [hM 817 _ (by omega) (by omega), hM 818 _ (by omega) (by omega), hM 819 _ (by omega) (by omega), L, R, e8, e7, raL, raR]
  simp only [m815, m816, L', R']
  exact ⟨q1, q2, q3, fun i i0 i1 => (q4 i i0 i1).more hc hf hn hn', fun i i0 i1 => (q5 i i0 i1).more hc hf hn hn', q6, q7, q8, q9, q10, q11⟩
theorem ld_T.gen {x m x' m' : az_Hp} {T s : Int} {S S' : Int → Int → Prop} (h : ld_T x m T s) (ux : bz_Upd x x' S) (um : bz_Upd m m' S') (hs : ∀ a k, S a k → ¬ (T ≤ a ∧ a ≤ T + 78)) (hs' : ∀ a k, S' a k → ¬ (806 ≤ a ∧ a ≤ 819) ∧ ¬ (a = 804 ∧ k = 15)) : ld_T x' m' T s := by
  obtain ⟨h1, h2, h3, h4⟩ := h
  have hT := h1.1
  have X : ∀ a k, T ≤ a → a ≤ T + 78 → x'.2 a k = x.2 a k := fun a k p q => ux.2.2 a k (fun z => hs a k z ⟨p, q⟩)
  have M : ∀ a k, 806 ≤ a → a ≤ 819 → m'.2 a k = m.2 a k := fun a k p q => um.2.2 a k (fun z => (hs' a k z).1 ⟨p, q⟩)
  refine ⟨h1.gen ux um (fun a k z => by have := hs a k z; omega) (fun a k z => by have := hs' a k z; omega), fun k k0 k1 => ?_, by rw [X T 2 (by omega) (by omega), M 808 s (by omega) (by omega)]; exact h3, fun e e0 e1 => ?_⟩
  · rw [X T 1 (by omega) (by omega)] at k1
    rw [X (T + 5) k (by omega) (by omega), X (T + 6) k (by omega) (by omega), M 813 _ (by omega) (by omega), M 814 _ (by omega) (by omega)]
    exact h2 k k0 k1
  · rw [X T 2 (by omega) (by omega)] at e1
    exact (h4 e e0 e1).more e0 (by omega) hT (fun a k q => X a k (by omega) (by omega)) (fun a k p q => M a k (by omega) q) (fun k _ _ => M 811 _ (by omega) (by omega)) (fun k _ _ => M 812 _ (by omega) (by omega)) (by rw [X T 0 (by omega) (by omega)]; exact Int.le_refl _) (by rw [X T 1 (by omega) (by omega)]; exact Int.le_refl _)
/-- it is what is told, in a heap that holds both -/
theorem ld_T.tr {x m σ : az_Hp} {T s : Int} (h : ld_T x m T s) (hX : ∀ a k, T ≤ a → a ≤ T + 78 → σ.2 a k = x.2 a k) (hM : ∀ a k, 806 ≤ a → a ≤ 819 → σ.2 a k = m.2 a k) : bz_TR σ T s := by
  obtain ⟨⟨hT, hs, n15, ⟨n4, n4'⟩, n5, n6, n7, n8⟩, h2, h3, h4⟩ := h
  have ec : bz_ct σ s = bz_ct m s := funext fun k => hM 811 _ (by omega) (by omega)
  have ef : bz_ft σ s = bz_ft m s := funext fun k => hM 812 _ (by omega) (by omega)
  have t0 := hX T 0 (by omega) (by omega)
  have t1 := hX T 1 (by omega) (by omega)
  have t2 := hX T 2 (by omega) (by omega)
  refine ⟨hT, hs, ⟨by rw [t0, hM 806 s (by omega) (by omega)]; exact n4, by rw [t1, hM 807 s (by omega) (by omega)]; exact n4', by rw [ec, ef, t0, t1]; exact n5, fun k k0 k1 => ?_, fun k k0 k1 => ?_, fun k j k0 k1 j0 j1 => ?_⟩, by rw [t2, hM 808 s (by omega) (by omega)]; exact h3, fun e e0 e1 => ?_⟩
  · rw [t0] at k1
    rw [hX (T + 1) k (by omega) (by omega), hX (T + 2) k (by omega) (by omega), hM 809 _ (by omega) (by omega), ec]
    exact n6 k k0 k1
  · rw [t1] at k1
    rw [hX (T + 3) k (by omega) (by omega), hX (T + 4) k (by omega) (by omega), hX (T + 5) k (by omega) (by omega), hX (T + 6) k (by omega) (by omega), hM 810 _ (by omega) (by omega), hM 813 _ (by omega) (by omega), hM 814 _ (by omega) (by omega), ef]
    exact ⟨(n7 k k0 k1).1, (n7 k k0 k1).2, (h2 k k0 k1).1, (h2 k k0 k1).2⟩
  · rw [t0] at k1
    rw [t1] at j1
    rw [hX (T + 1) k (by omega) (by omega), hX (T + 3) j (by omega) (by omega)]
    exact n8 k j k0 k1 j0 j1
  · rw [t2] at e1
    have q := (h4 e e0 e1).more (x' := σ) (m' := σ) e0 (by omega) hT (fun a k q => hX a k (by omega) (by omega)) (fun a k p q => hM a k (by omega) q) (fun k _ _ => hM 811 _ (by omega) (by omega)) (fun k _ _ => hM 812 _ (by omega) (by omega)) (by rw [t0]; exact Int.le_refl _) (by rw [t1]; exact Int.le_refl _)
    exact q
