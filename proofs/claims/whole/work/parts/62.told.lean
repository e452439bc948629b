/-! what is told: the class's Told T and the reference's side s -/
def bz_ct (σ : az_Hp) (s : Int) : Int → Int := fun k => σ.2 811 (8 * s + k)
def bz_ft (σ : az_Hp) (s : Int) : Int → Int := fun k => σ.2 812 (5 * s + k)
/-- variables of an equation: the same number -/
def bz_VE (n : Int) (a b : Int) : Prop := a = b ∧ 0 ≤ a ∧ a < n
theorem bz_VE.vv {n : Int} (h : n ≤ 6) : bz_VV (bz_VE n) := by
  unfold bz_VV bz_VE
  constructor
  · intro a b h; omega
  · intro a b a' b' h h'; omega
/-- a row of the class and a part of a row of the reference, code by code -/
def bz_RR (σ : az_Hp) (T s : Int) (V : Int → Int → Prop) (r A at' n : Int) : Prop := ∀ i, 0 ≤ i → i < n → bz_cr (bz_ct σ s) (bz_ft σ s) (σ.2 T 0) (σ.2 T 1) V (σ.2 (r + 1) i) (σ.2 A (at' + i))
/-- an equation -/
def bz_ER (σ : az_Hp) (T s e : Int) : Prop :=
  (σ.2 (T + 15 + 4 * e) 1 = σ.2 817 (16 * s + e) ∧ 1 ≤ σ.2 (T + 15 + 4 * e) 1 ∧ σ.2 (T + 15 + 4 * e) 1 ≤ 16) ∧
  (σ.2 (T + 17 + 4 * e) 1 = σ.2 818 (16 * s + e) ∧ 1 ≤ σ.2 (T + 17 + 4 * e) 1 ∧ σ.2 (T + 17 + 4 * e) 1 ≤ 16) ∧
  (σ.2 (T + 8) e = σ.2 819 (16 * s + e) ∧ 0 ≤ σ.2 (T + 8) e ∧ σ.2 (T + 8) e ≤ 6) ∧
  bz_RR σ T s (bz_VE (σ.2 (T + 8) e)) (T + 15 + 4 * e) 815 (16 * (16 * s + e)) (σ.2 (T + 15 + 4 * e) 1) ∧
  bz_RR σ T s (bz_VE (σ.2 (T + 8) e)) (T + 17 + 4 * e) 816 (16 * (16 * s + e)) (σ.2 (T + 17 + 4 * e) 1) ∧
  bz_Sc (bz_ra σ (T + 15 + 4 * e)) (σ.2 (T + 15 + 4 * e) 1).toNat 1 0 ∧
  bz_Sc (bz_ra σ (T + 17 + 4 * e)) (σ.2 (T + 17 + 4 * e) 1).toNat 1 0 ∧
  (200 ≤ σ.2 815 (16 * (16 * s + e)) ∧ σ.2 815 (16 * (16 * s + e)) < 1000 ∧ σ.2 (T + 7) e = σ.2 815 (16 * (16 * s + e)) - 200) ∧
  (∀ i, 1 ≤ i → i < σ.2 (T + 15 + 4 * e) 1 → σ.2 815 (16 * (16 * s + e) + i) < 200 ∨ (1000 ≤ σ.2 815 (16 * (16 * s + e) + i) ∧ σ.2 815 (16 * (16 * s + e) + i) < 2000)) ∧
  (∀ i, 0 ≤ i → i < σ.2 (T + 17 + 4 * e) 1 → σ.2 816 (16 * (16 * s + e) + i) < 2000) ∧
  (∀ v, 0 ≤ v → v < σ.2 (T + 8) e → ∃ i, 1 ≤ i ∧ i < σ.2 (T + 15 + 4 * e) 1 ∧ σ.2 815 (16 * (16 * s + e) + i) = 1000 + v)
/-- constructors and families -/
def bz_NR (σ : az_Hp) (T s : Int) : Prop :=
  σ.2 T 0 = σ.2 806 s ∧ σ.2 T 1 = σ.2 807 s ∧ bz_tb (bz_ct σ s) (bz_ft σ s) (σ.2 T 0) (σ.2 T 1) ∧
  (∀ k, 0 ≤ k → k < σ.2 T 0 → bz_WR 64 (σ.2 (T + 1) k) (σ.2 809 (8 * s + k)) ∧ σ.2 (T + 2) k = k * 16 + bz_ct σ s k * 4 + 1) ∧
  (∀ k, 0 ≤ k → k < σ.2 T 1 → bz_WR 64 (σ.2 (T + 3) k) (σ.2 810 (5 * s + k)) ∧ σ.2 (T + 4) k = k * 16 + bz_ft σ s k * 4 + 2 ∧
    (σ.2 (T + 5) k = σ.2 813 (5 * s + k) ∧ (σ.2 (T + 5) k = 0 ∨ σ.2 (T + 5) k = 1)) ∧ (σ.2 (T + 6) k = σ.2 814 (5 * s + k) ∧ (σ.2 (T + 6) k = 0 ∨ σ.2 (T + 6) k = 1))) ∧
  (∀ k j, 0 ≤ k → k < σ.2 T 0 → 0 ≤ j → j < σ.2 T 1 → σ.2 (T + 1) k ≠ σ.2 (T + 3) j)
def bz_TR (σ : az_Hp) (T s : Int) : Prop := (T = 3 ∨ T = 82) ∧ (s = 0 ∨ s = 1) ∧ bz_NR σ T s ∧ (σ.2 T 2 = σ.2 808 s ∧ 0 ≤ σ.2 T 2 ∧ σ.2 T 2 ≤ 16) ∧ ∀ e, 0 ≤ e → e < σ.2 T 2 → bz_ER σ T s e
/-- the same in every cell that tells -/
def bz_tS (σ σ' : az_Hp) : Prop := ∀ a k, (3 ≤ a ∧ a ≤ 13) ∨ (18 ≤ a ∧ a ≤ 92) ∨ (97 ≤ a ∧ a ≤ 160) ∨ (806 ≤ a ∧ a ≤ 819) → σ'.2 a k = σ.2 a k
theorem bz_ct_tS {σ σ' : az_Hp} (h : bz_tS σ σ') (s : Int) : bz_ct σ' s = bz_ct σ s := funext fun k => h 811 _ (by omega)
theorem bz_ft_tS {σ σ' : az_Hp} (h : bz_tS σ σ') (s : Int) : bz_ft σ' s = bz_ft σ s := funext fun k => h 812 _ (by omega)
theorem bz_NR.cong {σ σ' : az_Hp} (h : bz_tS σ σ') {T s : Int} (hT : T = 3 ∨ T = 82) (q : bz_NR σ T s) : bz_NR σ' T s := by
  unfold bz_NR at q ⊢
  rw [bz_ct_tS h, bz_ft_tS h, h T 0 (by omega), h T 1 (by omega), h 806 s (by omega), h 807 s (by omega)]
  have g1 : ∀ k, σ'.2 (T + 1) k = σ.2 (T + 1) k := fun k => h _ _ (by omega)
  have g2 : ∀ k, σ'.2 (T + 2) k = σ.2 (T + 2) k := fun k => h _ _ (by omega)
  have g3 : ∀ k, σ'.2 (T + 3) k = σ.2 (T + 3) k := fun k => h _ _ (by omega)
  have g4 : ∀ k, σ'.2 (T + 4) k = σ.2 (T + 4) k := fun k => h _ _ (by omega)
  have g5 : ∀ k, σ'.2 (T + 5) k = σ.2 (T + 5) k := fun k => h _ _ (by omega)
  have g6 : ∀ k, σ'.2 (T + 6) k = σ.2 (T + 6) k := fun k => h _ _ (by omega)
  have m1 : ∀ k, σ'.2 809 k = σ.2 809 k := fun k => h _ _ (by omega)
  have m2 : ∀ k, σ'.2 810 k = σ.2 810 k := fun k => h _ _ (by omega)
  have m3 : ∀ k, σ'.2 813 k = σ.2 813 k := fun k => h _ _ (by omega)
  have m4 : ∀ k, σ'.2 814 k = σ.2 814 k := fun k => h _ _ (by omega)
  simp only [g1, g2, g3, g4, g5, g6, m1, m2, m3, m4]
  exact q
theorem bz_RR.cong {σ σ' : az_Hp} (h : bz_tS σ σ') {T s : Int} (hT : T = 3 ∨ T = 82) {V : Int → Int → Prop} {r A at' n : Int} (hr : ∀ i, σ'.2 (r + 1) i = σ.2 (r + 1) i) (hA : ∀ i, σ'.2 A i = σ.2 A i) (q : bz_RR σ T s V r A at' n) : bz_RR σ' T s V r A at' n := by
  intro i h0 h1
  rw [bz_ct_tS h, bz_ft_tS h, h T 0 (by omega), h T 1 (by omega), hr, hA]
  exact q i h0 h1
theorem bz_ER.cong {σ σ' : az_Hp} (h : bz_tS σ σ') {T s e : Int} (hT : T = 3 ∨ T = 82) (he : 0 ≤ e) (he1 : e < 16) (q : bz_ER σ T s e) : bz_ER σ' T s e := by
  have g1 : ∀ k, σ'.2 (T + 15 + 4 * e) k = σ.2 (T + 15 + 4 * e) k := fun k => h _ _ (by omega)
  have g2 : ∀ k, σ'.2 (T + 17 + 4 * e) k = σ.2 (T + 17 + 4 * e) k := fun k => h _ _ (by omega)
  have g3 : ∀ k, σ'.2 (T + 15 + 4 * e + 1) k = σ.2 (T + 15 + 4 * e + 1) k := fun k => h _ _ (by omega)
  have g4 : ∀ k, σ'.2 (T + 17 + 4 * e + 1) k = σ.2 (T + 17 + 4 * e + 1) k := fun k => h _ _ (by omega)
  have g7 : ∀ k, σ'.2 (T + 7) k = σ.2 (T + 7) k := fun k => h _ _ (by omega)
  have g8 : ∀ k, σ'.2 (T + 8) k = σ.2 (T + 8) k := fun k => h _ _ (by omega)
  have m5 : ∀ k, σ'.2 815 k = σ.2 815 k := fun k => h _ _ (by omega)
  have m6 : ∀ k, σ'.2 816 k = σ.2 816 k := fun k => h _ _ (by omega)
  have m7 : ∀ k, σ'.2 817 k = σ.2 817 k := fun k => h _ _ (by omega)
  have m8 : ∀ k, σ'.2 818 k = σ.2 818 k := fun k => h _ _ (by omega)
  have m9 : ∀ k, σ'.2 819 k = σ.2 819 k := fun k => h _ _ (by omega)
  obtain ⟨q1, q2, q3, q4, q5, q6, q7, q8, q9, q10, q11⟩ := q
  have ra1 : bz_ra σ' (T + 15 + 4 * e) = bz_ra σ (T + 15 + 4 * e) := funext fun k => by unfold bz_ra; rw [g3]
  have ra2 : bz_ra σ' (T + 17 + 4 * e) = bz_ra σ (T + 17 + 4 * e) := funext fun k => by unfold bz_ra; rw [g4]
  have q4' := bz_RR.cong h hT g3 m5 q4
  have q5' := bz_RR.cong h hT g4 m6 q5
  unfold bz_ER
  simp only [g1, g2, g7, g8, m5, m6, m7, m8, m9, ra1, ra2]
  exact ⟨q1, q2, q3, q4', q5', q6, q7, q8, q9, q10, q11⟩
theorem bz_TR.cong {σ σ' : az_Hp} (h : bz_tS σ σ') {T s : Int} (q : bz_TR σ T s) : bz_TR σ' T s := by
  obtain ⟨hT, hs, q1, q2, q3⟩ := q
  unfold bz_TR
  rw [h T 2 (by omega), h 808 s (by omega)]
  exact ⟨hT, hs, q1.cong h hT, q2, fun e h0 h1 => (q3 e h0 h1).cong h hT h0 (by omega)⟩
/-- nothing is told at first -/
theorem bz_TR.none {σ : az_Hp} {T s : Int} (hT : T = 3 ∨ T = 82) (hs : s = 0 ∨ s = 1) (h0 : σ.2 T 0 = 0) (h1 : σ.2 T 1 = 0) (h2 : σ.2 T 2 = 0) (m0 : σ.2 806 s = 0) (m1 : σ.2 807 s = 0) (m2 : σ.2 808 s = 0) : bz_TR σ T s := by
  refine ⟨hT, hs, ⟨by omega, by omega, ⟨by omega, by omega, by omega, by omega, fun k a b => absurd b (by omega), fun k a b => absurd b (by omega)⟩, fun k a b => absurd b (by omega), fun k a b => absurd b (by omega), fun k j a b => absurd b (by omega)⟩, ⟨by omega, by omega, by omega⟩, fun e a b => absurd b (by omega)⟩
