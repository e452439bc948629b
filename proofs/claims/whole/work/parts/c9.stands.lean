/-! an UNKNOWN becomes something -/
section SC
variable {T s U : Int} {V : Int → Int → Prop} {ρ : Int → Nat}
theorem sv_timesL {x : az_Hp} {r c n : Int} (g : az_gref x r 0 = some (r + 1)) (hn : x.2 r 1 = n) (hl : n ≤ az_ln x (r + 1)) (n60 : n ≤ 60) : ∀ (d k : Nat) (a j : Int), d < k → 0 ≤ j → j + d = n → 0 ≤ a → a + d ≤ 1000 → ∃ w, a ≤ w ∧ fz_X7_times_10 2000000 k x r c n a j = some w ∧ (a < w ↔ ∃ i, j ≤ i ∧ i < n ∧ x.2 (r + 1) i = c) := by
  intro d
  induction d with
  | zero =>
    intro k a j hk j0 hj a0 a1
    obtain ⟨k, rfl⟩ : ∃ k', k = k' + 1 := ⟨k - 1, by omega⟩
    refine ⟨a, Int.le_refl _, ?_, ⟨fun z => by omega, fun ⟨i, i0, i1, _⟩ => by omega⟩⟩
    unfold fz_X7_times_10
    rw [if_neg (by omega)]
  | succ d ih =>
    intro k a j hk j0 hj a0 a1
    obtain ⟨k, rfl⟩ : ∃ k', k = k' + 1 := ⟨k - 1, by omega⟩
    have rd : az_ard x (r + 1) j = some (x.2 (r + 1) j) := bz_ard j0 (by omega)
    have run : fz_X7_times_10 2000000 (k + 1) x r c n a j = if x.2 (r + 1) j = c then fz_X7_times_10 2000000 k x r c n (a + 1) (j + 1) else fz_X7_times_10 2000000 k x r c n a (j + 1) := by
      conv => lhs; unfold fz_X7_times_10
      rw [if_pos (by omega), if_pos (by omega), g, Option.bind_some, rd, Option.bind_some, az_w32_id (z := a + 1) (by omega) (by omega), az_w32_id (z := j + 1) (by omega) (by omega)]
    by_cases e : x.2 (r + 1) j = c
    · rw [if_pos e] at run
      obtain ⟨w, w0, w1, w2⟩ := ih k (a + 1) (j + 1) (by omega) (by omega) (by omega) (by omega) (by omega)
      exact ⟨w, by omega, run.trans w1, ⟨fun _ => ⟨j, Int.le_refl _, by omega, e⟩, fun _ => by omega⟩⟩
    · rw [if_neg e] at run
      obtain ⟨w, w0, w1, w2⟩ := ih k a (j + 1) (by omega) (by omega) (by omega) (by omega) (by omega)
      refine ⟨w, w0, run.trans w1, w2.trans ⟨fun ⟨i, i0, i1, i2⟩ => ⟨i, by omega, i1, i2⟩, fun ⟨i, i0, i1, i2⟩ => ⟨i, ?_, i1, i2⟩⟩⟩
      have : i ≠ j := fun z => e (z ▸ i2)
      omega
theorem sv_hasL {m : az_Hp} {A n q : Int} (hl : n ≤ az_ln m A) (n60 : n ≤ 60) : ∀ (d k : Nat) (j : Int), d < k → 0 ≤ j → j + d = n → ∃ w, (w = 0 ∨ w = 1) ∧ fz_X11_hasCode_2 2000000 k m A n q j = some w ∧ (w = 1 ↔ ∃ i, j ≤ i ∧ i < n ∧ m.2 A i = q) := by
  intro d
  induction d with
  | zero =>
    intro k j hk j0 hj
    obtain ⟨k, rfl⟩ : ∃ k', k = k' + 1 := ⟨k - 1, by omega⟩
    refine ⟨0, Or.inl rfl, ?_, ⟨fun z => by omega, fun ⟨i, i0, i1, _⟩ => by omega⟩⟩
    unfold fz_X11_hasCode_2
    rw [if_neg (by omega)]
  | succ d ih =>
    intro k j hk j0 hj
    obtain ⟨k, rfl⟩ : ∃ k', k = k' + 1 := ⟨k - 1, by omega⟩
    have rd : az_ard m A j = some (m.2 A j) := bz_ard j0 (by omega)
    have run : fz_X11_hasCode_2 2000000 (k + 1) m A n q j = if m.2 A j = q then some 1 else fz_X11_hasCode_2 2000000 k m A n q (j + 1) := by
      conv => lhs; unfold fz_X11_hasCode_2
      rw [if_pos (by omega), rd, Option.bind_some, az_w32_id (z := j + 1) (by omega) (by omega)]
    by_cases e : m.2 A j = q
    · rw [if_pos e] at run
      exact ⟨1, Or.inr rfl, run, ⟨fun _ => ⟨j, Int.le_refl _, by omega, e⟩, fun _ => rfl⟩⟩
    · rw [if_neg e] at run
      obtain ⟨w, w0, w1, w2⟩ := ih k (j + 1) (by omega) (by omega) (by omega)
      refine ⟨w, w0, run.trans w1, w2.trans ⟨fun ⟨i, i0, i1, i2⟩ => ⟨i, by omega, i1, i2⟩, fun ⟨i, i0, i1, i2⟩ => ⟨i, ?_, i1, i2⟩⟩⟩
      have : i ≠ j := fun z => e (z ▸ i2)
      omega
theorem sv_has {x m : az_Hp} {r A n c q : Int} (hH : mz_H x m T s) (hR : rz_R x m T s V r A n) (hcq : bz_cr (bz_ct m s) (bz_ft m s) (m.2 T 0) (m.2 T 1) V c q) : ∃ w h, 0 ≤ w ∧ (h = 0 ∨ h = 1) ∧ fz_X7_times 2000000 x r c 0 n = some w ∧ fz_X11_hasCode 2000000 m A n q = some h ∧ (0 < w ↔ h = 1) ∧ (h = 0 → ∀ i, 0 ≤ i → i < n → m.2 A i ≠ q) := by
  obtain ⟨a1, a2, a3, a4, a5, a6, a7, a8⟩ := hR
  have fx := bz_fxR hH.1 a1.1
  have cp := bz_cap_lt a1.1
  have g : az_gref x r 0 = some (r + 1) := bz_gr fx.1 (by omega)
  have a12 := a1.2.2.1
  obtain ⟨w, w0, w1, w2⟩ := sv_timesL (c := c) g a2 (by omega) a3.2 n.toNat 2000000 0 0 (by omega) (by omega) (by omega) (by omega) (by omega)
  obtain ⟨h, h0, h1, h2⟩ := sv_hasL (q := q) (m := m) (A := A) (n := n) a6.1 a3.2 n.toNat 2000000 0 (by omega) (by omega) (by omega)
  have iff : (∃ i, 0 ≤ i ∧ i < n ∧ x.2 (r + 1) i = c) ↔ ∃ i, 0 ≤ i ∧ i < n ∧ m.2 A i = q := by
    constructor
    · rintro ⟨i, i0, i1, i2⟩
      exact ⟨i, i0, i1, ((a4 i i0 i1).inj hcq hH.tb.2.1 a7).mp i2⟩
    · rintro ⟨i, i0, i1, i2⟩
      exact ⟨i, i0, i1, ((a4 i i0 i1).inj hcq hH.tb.2.1 a7).mpr i2⟩
  refine ⟨w, h, w0, h0, ?_, ?_, (w2.trans iff).trans h2.symm, fun z i i0 i1 e => ?_⟩
  · unfold fz_X7_times
    exact w1
  · unfold fz_X11_hasCode
    exact h1
  · have := h2.mpr ⟨i, i0, i1, e⟩
    omega
theorem sv_out {x m : az_Hp} {r A n c q : Int} (hH : mz_H x m T s) (hR : rz_R x m T s V r A n) (hcq : bz_cr (bz_ct m s) (bz_ft m s) (m.2 T 0) (m.2 T 1) V c q) : ∃ w, (w = 0 ∨ w = 1) ∧ fz_X7_standsOutsideFamilies 2000000 x r c = some w ∧ fz_X11_hasOutside 2000000 m 804 A n q = some w := by
  have En := hR.en (fl := 0) (who := 0) (W := fun _ => V) (st := 0) (en := n) hH (Or.inl rfl) rfl (by omega) (Int.le_refl _)
  have n60 := hR.2.2.1
  obtain ⟨w, w0, w1, w2⟩ := mz_outL (y := c) (m := q) En hR.2.1.symm hR.2.2.2.2.1 hcq rfl (Lm := fun kf i => fz_X11_hasOutside_3 2000000 kf m 804 A n q i)
    (fun kf => by
      show fz_X11_hasOutside_3 2000000 (kf + 1) m 804 A n q _ = _
      unfold fz_X11_hasOutside_3
      rw [if_neg (by omega)])
    (fun kf i i0 i1 => by
      show fz_X11_hasOutside_3 2000000 (kf + 1) m 804 A n q _ = _
      have rA := (En.tk i0 i1).1
      conv => lhs; unfold fz_X11_hasOutside_3
      rw [if_pos (by omega)]
      simp only [rA, Option.bind_some, mz_isFam]
      by_cases c1 : m.2 A (0 + i) = q
      · rw [if_pos c1, if_pos c1]
      · rw [if_neg c1, if_neg c1]
        by_cases c2 : 200 ≤ m.2 A (0 + i) ∧ m.2 A (0 + i) < 1000
        · rw [if_pos c2, if_pos c2, if_neg (by decide)]
          obtain ⟨z, z0, z1, z2⟩ := bz_Sc.sub bz_ra0 (d := n.toNat) (c := 1) (i := 0) i.toNat (by omega) hR.2.2.2.2.1
          rw [show (0 : Int) + ((i.toNat : Nat) : Int) = i by omega] at z2
          rw [En.size i0 (by omega) z2, Option.bind_some, Option.bind_some, az_w32_id (by omega) (by omega)]
        · rw [if_neg c2, if_neg c2, if_pos rfl, az_w32_id (by omega) (by omega)])
    n.toNat 2000000 0 (by omega) (by omega) (by omega) (by omega)
  refine ⟨w, w0, ?_, ?_⟩
  · unfold fz_X7_standsOutsideFamilies
    exact w1
  · unfold fz_X11_hasOutside
    exact w2
theorem sv_ior : ∀ S : Fin 64, ∀ k : Fin 6, (S.val : Int) / 2 ^ k.val % 2 = 0 → az_iorV (S.val : Int) (az_ishlV 1 (k.val : Int)) = (S.val : Int) + 2 ^ k.val := by decide +kernel
theorem sv_bnc (g : Int → Int) (U k w : Int) : sv_bn g U k w = 0 ∨ sv_bn g U k w = w := by
  unfold sv_bn
  split
  · exact Or.inr rfl
  · exact Or.inl rfl
theorem sv_bs64 (g : Int → Int) (U : Int) : 0 ≤ sv_bs g U ∧ sv_bs g U < 64 := by
  have b0 := sv_bnc g U 0 1
  have b1 := sv_bnc g U 1 2
  have b2 := sv_bnc g U 2 4
  have b3 := sv_bnc g U 3 8
  have b4 := sv_bnc g U 4 16
  have b5 := sv_bnc g U 5 32
  unfold sv_bs
  omega
theorem sv_bsk {g : Int → Int} {U k : Int} (k0 : 0 ≤ k) (k6 : k < 6) (kU : k < U) : sv_bs g U / 2 ^ k.toNat % 2 = if 0 < g k then 1 else 0 := by
  have b0 := sv_bnc g U 0 1
  have b1 := sv_bnc g U 1 2
  have b2 := sv_bnc g U 2 4
  have b3 := sv_bnc g U 3 8
  have b4 := sv_bnc g U 4 16
  have b5 := sv_bnc g U 5 32
  have bk : ∀ w, sv_bn g U k w = if 0 < g k then w else 0 := fun w => by
    unfold sv_bn
    by_cases c : 0 < g k
    · rw [if_pos ⟨kU, c⟩, if_pos c]
    · rw [if_neg (fun z => c z.2), if_neg c]
  unfold sv_bs
  have k6 : k = 0 ∨ k = 1 ∨ k = 2 ∨ k = 3 ∨ k = 4 ∨ k = 5 := by omega
  rcases k6 with rfl | rfl | rfl | rfl | rfl | rfl
  · have := bk 1
    rw [show (2 : Int) ^ (0 : Int).toNat = 1 from rfl]
    by_cases c : 0 < g 0
    · rw [if_pos c] at this ⊢; omega
    · rw [if_neg c] at this ⊢; omega
  · have := bk 2
    rw [show (2 : Int) ^ (1 : Int).toNat = 2 from rfl]
    by_cases c : 0 < g 1
    · rw [if_pos c] at this ⊢; omega
    · rw [if_neg c] at this ⊢; omega
  · have := bk 4
    rw [show (2 : Int) ^ (2 : Int).toNat = 4 from rfl]
    by_cases c : 0 < g 2
    · rw [if_pos c] at this ⊢; omega
    · rw [if_neg c] at this ⊢; omega
  · have := bk 8
    rw [show (2 : Int) ^ (3 : Int).toNat = 8 from rfl]
    by_cases c : 0 < g 3
    · rw [if_pos c] at this ⊢; omega
    · rw [if_neg c] at this ⊢; omega
  · have := bk 16
    rw [show (2 : Int) ^ (4 : Int).toNat = 16 from rfl]
    by_cases c : 0 < g 4
    · rw [if_pos c] at this ⊢; omega
    · rw [if_neg c] at this ⊢; omega
  · have := bk 32
    rw [show (2 : Int) ^ (5 : Int).toNat = 32 from rfl]
    by_cases c : 0 < g 5
    · rw [if_pos c] at this ⊢; omega
    · rw [if_neg c] at this ⊢; omega
theorem sv_isB {y : az_Hp} {g : Int → Int} {U k : Int} (e : y.2 380 6 = sv_bs g U) (k0 : 0 ≤ k) (k6 : k < 6) (kU : k < U) : fz_X8_isBound y 380 k = some (if 0 < g k then 1 else 0) := by
  have S0 := sv_bs64 g U
  have key := qz_bits ⟨(sv_bs g U).toNat, by omega⟩ ⟨k.toNat, by omega⟩
  have e1 : (((sv_bs g U).toNat : Nat) : Int) = sv_bs g U := by omega
  have e2 : ((k.toNat : Nat) : Int) = k := by omega
  simp only [e1, e2] at key
  unfold fz_X8_isBound
  rw [e, key, sv_bsk k0 k6 kU]
  by_cases c : 0 < g k
  · rw [if_pos c, if_neg (by decide)]
  · rw [if_neg c, if_pos rfl]
/-- one more is something -/
theorem sv_bsone {g g' : Int → Int} {U u : Int} (u0 : 0 ≤ u) (u6 : u < 6) (uU : u < U) (hg : g u ≤ 0) (hg' : 0 < g' u) (he : ∀ k, k ≠ u → g' k = g k) : az_iorV (sv_bs g U) (az_ishlV 1 u) = sv_bs g' U := by
  have S0 := sv_bs64 g U
  have hk := sv_bsk (g := g) u0 u6 uU
  rw [if_neg (by omega)] at hk
  have e1 : (((sv_bs g U).toNat : Nat) : Int) = sv_bs g U := by omega
  have e2 : ((u.toNat : Nat) : Int) = u := by omega
  have key := sv_ior ⟨(sv_bs g U).toNat, by omega⟩ ⟨u.toNat, by omega⟩
  simp only [e1, e2] at key
  rw [key hk]
  have o : ∀ k w, k ≠ u → sv_bn g' U k w = sv_bn g U k w := fun k w q => by unfold sv_bn; rw [he k q]
  have a : ∀ w, sv_bn g' U u w = w := fun w => by unfold sv_bn; rw [if_pos ⟨uU, hg'⟩]
  have b : ∀ w, sv_bn g U u w = 0 := fun w => by unfold sv_bn; rw [if_neg (by omega)]
  unfold sv_bs
  have k6 : u = 0 ∨ u = 1 ∨ u = 2 ∨ u = 3 ∨ u = 4 ∨ u = 5 := by omega
  rcases k6 with rfl | rfl | rfl | rfl | rfl | rfl
  · rw [show (2 : Int) ^ (0 : Int).toNat = 1 from rfl, a, b, o 1 2 (by decide), o 2 4 (by decide), o 3 8 (by decide), o 4 16 (by decide), o 5 32 (by decide)]; omega
  · rw [show (2 : Int) ^ (1 : Int).toNat = 2 from rfl, a, b, o 0 1 (by decide), o 2 4 (by decide), o 3 8 (by decide), o 4 16 (by decide), o 5 32 (by decide)]; omega
  · rw [show (2 : Int) ^ (2 : Int).toNat = 4 from rfl, a, b, o 0 1 (by decide), o 1 2 (by decide), o 3 8 (by decide), o 4 16 (by decide), o 5 32 (by decide)]; omega
  · rw [show (2 : Int) ^ (3 : Int).toNat = 8 from rfl, a, b, o 0 1 (by decide), o 1 2 (by decide), o 2 4 (by decide), o 4 16 (by decide), o 5 32 (by decide)]; omega
  · rw [show (2 : Int) ^ (4 : Int).toNat = 16 from rfl, a, b, o 0 1 (by decide), o 1 2 (by decide), o 2 4 (by decide), o 3 8 (by decide), o 5 32 (by decide)]; omega
  · rw [show (2 : Int) ^ (5 : Int).toNat = 32 from rfl, a, b, o 0 1 (by decide), o 1 2 (by decide), o 2 4 (by decide), o 3 8 (by decide), o 4 16 (by decide)]; omega
end SC
