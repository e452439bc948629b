/-! an EQUALITY is taken apart: takeApart = splits -/
def sv_En (x m : az_Hp) (T s U : Int) (V : Int → Int → Prop) (q p : Int) : Prop := qz_Row x m T s U V (389 + 4 * q) 860 (60 * (2 * p + 0)) (m.2 861 (2 * p + 0)) ∧ qz_Row x m T s U V (391 + 4 * q) 860 (60 * (2 * p + 1)) (m.2 861 (2 * p + 1)) ∧ x.2 384 q = m.2 862 p
def sv_Sl (x : az_Hp) : Prop := (∀ q, 0 ≤ q → q < 100 → 0 ≤ x.2 383 q ∧ x.2 383 q < 100) ∧ ∀ q p, 0 ≤ q → q < 100 → 0 ≤ p → p < 100 → x.2 383 q = x.2 383 p → q = p
/-- n EQUALITIES are left (M with those that have gone); i have been looked at, e is being looked at -/
def sv_L (x m : az_Hp) (T s U : Int) (V : Int → Int → Prop) (n M i e : Int) : Prop := (x.2 380 1 = n ∧ m.2 804 108 = M) ∧ (0 ≤ i ∧ i ≤ M ∧ i ≤ 100 ∧ n ≤ 100 ∧ M ≤ 100 + i) ∧ sv_cnt (m.2 865) M.toNat = n ∧ (∀ p, i ≤ p → p < M → m.2 865 p = 0) ∧ (∀ p, 0 ≤ p → p < M → m.2 865 p = 0 → p ≠ e → sv_En x m T s U V (x.2 383 (sv_cnt (m.2 865) p.toNat)) p) ∧ sv_Sl x
def sv_XN (q a k : Int) : Prop := (a = 380 ∧ k = 1) ∨ (a = 384 ∧ k = q) ∨ yz_S (389 + 4 * q) a k ∨ yz_S (391 + 4 * q) a k
def sv_MN (p a k : Int) : Prop := (a = 804 ∧ k = 108) ∨ (a = 862 ∧ k = p) ∨ (a = 865 ∧ k = p) ∨ sv_PS p 0 60 a k ∨ sv_PS p 1 60 a k
theorem sv_En.cong {x m x' m' : az_Hp} {T s U : Int} {V : Int → Int → Prop} {q p : Int} (h : sv_En x m T s U V q p) (hT : T = 3 ∨ T = 82) (tS : bz_tS m m') (hX : ∀ a k, (389 + 4 * q ≤ a ∧ a ≤ 392 + 4 * q) ∨ (a = 384 ∧ k = q) → x'.2 a k = x.2 a k) (hM : ∀ a k, (a = 861 ∧ (k = 2 * p ∨ k = 2 * p + 1)) ∨ (a = 860 ∧ 60 * (2 * p) ≤ k ∧ k < 60 * (2 * p) + 120) ∨ (a = 862 ∧ k = p) → m'.2 a k = m.2 a k) (hl : az_ln m' 860 = az_ln m 860) : sv_En x' m' T s U V q p := by
  obtain ⟨h1, h2, h3⟩ := h
  have b1 := h1.2.2.1
  have b2 := h2.2.2.1
  unfold sv_En
  rw [hM 861 (2 * p + 0) (by omega), hM 861 (2 * p + 1) (by omega), hX 384 q (by omega), hM 862 p (by omega)]
  exact ⟨h1.cong hT tS (fun k => hX _ _ (by omega)) (fun k => hX _ _ (by omega)) (fun i i0 i1 => hM _ _ (by omega)) hl, h2.cong hT tS (fun k => hX _ _ (by omega)) (fun k => hX _ _ (by omega)) (fun i i0 i1 => hM _ _ (by omega)) hl, h3⟩
section SA
variable {T s U : Int} {V : Int → Int → Prop} {ρ : Int → Nat}
theorem sv_refs {x : az_Hp} {q : Int} (hX : bz_Fx x) (q0 : 0 ≤ q) (q1 : q < 100) : az_arr x 385 q = some (389 + 4 * q) ∧ az_arr x 386 q = some (391 + 4 * q) := by
  obtain ⟨l1, v1⟩ := bz_fxA hX (show ((385 : Int), (100 : Int), (389 : Int), (4 : Int)) ∈ bz_rowsL by decide)
  obtain ⟨l2, v2⟩ := bz_fxA hX (show ((386 : Int), (100 : Int), (391 : Int), (4 : Int)) ∈ bz_rowsL by decide)
  unfold az_arr
  rw [v1 q q0 (by omega), v2 q q0 (by omega), if_pos ⟨⟨by omega, by omega⟩, by omega⟩, if_pos ⟨⟨by omega, by omega⟩, by omega⟩]
  exact ⟨rfl, rfl⟩
/-- one more EQUALITY comes to the end of the list -/
theorem sv_add {x m : az_Hp} {n M i e L R n1 n2 a b sl ar v7 : Int} {z1 z2 : Nat} (h : sv_B x m T s U V ρ) (hL : sv_L x m T s U V n M i e) (e0 : 0 ≤ e) (eM : e < M) (n100 : n < 100) (sl0 : 0 ≤ sl) (sl1 : sl < 100) (eL : L = 389 + 4 * sl) (eR : R = 391 + 4 * sl) (fr : sl ≠ x.2 383 n) (o3 : x.2 384 sl = m.2 862 e) (R1 : rz_R x m T s V L 866 n1) (Q1 : ∀ i, 0 ≤ i → i < n1 → sv_Q m U (m.2 866 i)) (R2 : rz_R x m T s V R 867 n2) (Q2 : ∀ i, 0 ≤ i → i < n2 → sv_Q m U (m.2 867 i)) (a0 : 0 ≤ a) (az : a + z1 ≤ n1) (aS : bz_Sc (bz_ra x L) z1 1 a) (b0 : 0 ≤ b) (bz : b + z2 ≤ n2) (bS : bz_Sc (bz_ra x R) z2 1 b) (v70 : 0 ≤ v7) (v71 : v7 < ar) (v73 : v7 < 100) (tk : fz_X11_takes m 804 (m.2 866 0) = some ar) :
    ∃ x' m', (∀ k : Nat, fz_X8_takeApart_34 2000000 (k + 1) x 380 sl L R ar a b v7 = fz_X8_takeApart_34 2000000 k x' 380 sl L R ar (a + z1) (b + z2) (v7 + 1)) ∧ (∀ k : Nat, fz_X11_splits_7 2000000 (k + 1) m 804 e a b v7 = fz_X11_splits_7 2000000 k m' 804 e (a + z1) (b + z2) (v7 + 1)) ∧ sv_B x' m' T s U V ρ ∧ sv_L x' m' T s U V (n + 1) (M + 1) i e ∧ bz_Upd x x' (sv_XN (x.2 383 n)) ∧ bz_Upd m m' (sv_MN M) := by
  have hH := h.1.1
  have hX := hH.1
  have hM := hH.2.1
  have hT := hH.2.2.1.1
  obtain ⟨⟨l1, l2⟩, ⟨l3, l4, l5, l6, l7⟩, l8, l9, l10, l11⟩ := hL
  have n0 : 0 ≤ n := by have := (sv_cnt.bd (g := m.2 865) M.toNat).1; omega
  have z1p := aS.pos (by omega)
  have z2p := bS.pos (by omega)
  have n1b := R1.2.2.1
  have n2b := R2.2.2.1
  obtain ⟨q, hq⟩ : ∃ q, q = x.2 383 n := ⟨_, rfl⟩
  rw [← hq] at fr
  have qb := l11.1 n n0 n100
  rw [← hq] at qb ⊢
  have cL := sv_cap (r := 389 + 4 * q) (by omega) (by omega)
  have cR := sv_cap (r := 391 + 4 * q) (by omega) (by omega)
  -- the class
  obtain ⟨x1, hx1⟩ : ∃ x1, x1 = az_wr x 380 1 (n + 1) := ⟨_, rfl⟩
  have u1 : bz_Upd x x1 (sv_XN q) := by rw [hx1]; exact bz_Upd.wr bz_Upd.refl (Or.inl ⟨rfl, rfl⟩) (by decide)
  have hX1 := hX.upd u1
  have X1 : ∀ a k, a ≠ 380 → x1.2 a k = x.2 a k := fun a k z => by rw [hx1]; exact az_wr_ne (by omega)
  have rL : bz_rw x1 L := by have := R1.1; unfold bz_rw at this ⊢; simp only [X1 L _ (by omega), X1 (L + 1) _ (by omega)]; exact this
  have raL : bz_ra x1 L = bz_ra x L := funext fun k => by unfold bz_ra; rw [X1 _ _ (by omega)]
  have capL := sv_cap (r := L) (by omega) (by omega)
  have capR := sv_cap (r := R) (by omega) (by omega)
  have sL : x1.2 L 1 = n1 := by rw [X1 _ _ (by omega)]; exact R1.2.1
  obtain ⟨x2, t1, t2, t3, t4⟩ := sv_takePart (x := x1) (t := 389 + 4 * q) (q := L) (a := a) (z := z1) hX1 (by omega) rL (by omega) a0 (by omega) (by omega) (by rw [raL]; exact aS)
  have hX2 := hX1.upd t2
  have X2 : ∀ a k, a ≠ 380 → a ≠ 389 + 4 * q → a ≠ 390 + 4 * q → x2.2 a k = x.2 a k := fun a k z z' z'' => by rw [t2.2.2 a k (fun w => by unfold yz_S at w; omega), X1 a k z]
  have rR : bz_rw x2 R := by have := R2.1; unfold bz_rw at this ⊢; simp only [X2 R _ (by omega) (by omega) (by omega), X2 (R + 1) _ (by omega) (by omega) (by omega)]; exact this
  have raR : bz_ra x2 R = bz_ra x R := funext fun k => by unfold bz_ra; rw [X2 _ _ (by omega) (by omega) (by omega)]
  have sR : x2.2 R 1 = n2 := by rw [X2 _ _ (by omega) (by omega) (by omega)]; exact R2.2.1
  obtain ⟨x3, p1, p2, p3, p4⟩ := sv_takePart (x := x2) (t := 391 + 4 * q) (q := R) (a := b) (z := z2) hX2 (by omega) rR (by omega) b0 (by omega) (by omega) (by rw [raR]; exact bS)
  have hX3 := hX2.upd p2
  have X3 : ∀ a k, a ≠ 380 → (a < 389 + 4 * q ∨ 392 + 4 * q < a) → x3.2 a k = x.2 a k := fun a k z z' => by rw [p2.2.2 a k (fun w => by unfold yz_S at w; omega), X2 a k z (by omega) (by omega)]
  obtain ⟨x4, hx4⟩ : ∃ x4, x4 = az_wr x3 384 q (m.2 862 e) := ⟨_, rfl⟩
  have u4 : bz_Upd x3 x4 (fun a k => a = 384 ∧ k = q) := by rw [hx4]; exact bz_Upd.wr bz_Upd.refl ⟨rfl, rfl⟩ (by unfold bz_isFix; simp [bz_cap, bz_fixL, bz_rowsL])
  have hX4 := hX3.upd u4
  have ux : bz_Upd x x4 (sv_XN q) := ((u1.trans (t2.weak fun _ _ z => Or.inr (Or.inr (Or.inl z)))).trans (p2.weak fun _ _ z => Or.inr (Or.inr (Or.inr z)))).trans (u4.weak fun _ _ z => Or.inr (Or.inl z))
  have X4 : ∀ a k, a ≠ 380 → ¬ (a = 384 ∧ k = q) → (a < 389 + 4 * q ∨ 392 + 4 * q < a) → x4.2 a k = x.2 a k := fun a k z z' z'' => by rw [u4.2.2 a k z', X3 a k z z'']
  have rL4 : bz_rw x4 L := by have := R1.1; unfold bz_rw at this ⊢; simp only [fun k => X4 L k (by omega) (by omega) (by omega), fun k => X4 (L + 1) k (by omega) (by omega) (by omega)]; exact this
  have rR4 : bz_rw x4 R := by have := R2.1; unfold bz_rw at this ⊢; simp only [fun k => X4 R k (by omega) (by omega) (by omega), fun k => X4 (R + 1) k (by omega) (by omega) (by omega)]; exact this
  have raL4 : bz_ra x4 L = bz_ra x L := funext fun k => by unfold bz_ra; rw [X4 _ _ (by omega) (by omega) (by omega)]
  have raR4 : bz_ra x4 R = bz_ra x R := funext fun k => by unfold bz_ra; rw [X4 _ _ (by omega) (by omega) (by omega)]
  have sL4 : x4.2 L 1 = n1 := by rw [X4 _ _ (by omega) (by omega) (by omega)]; exact R1.2.1
  have sR4 : x4.2 R 1 = n2 := by rw [X4 _ _ (by omega) (by omega) (by omega)]; exact R2.2.1
  have enL := bz_end (r := L) (i := a) (d := z1) hX4 rL4 a0 (by omega) (by rw [raL4]; exact aS)
  have enR := bz_end (r := R) (i := b) (d := z2) hX4 rR4 b0 (by omega) (by rw [raR4]; exact bS)
  have w7 : az_w32 (v7 + 1) = v7 + 1 := az_w32_id (by omega) (by omega)
  have runX : ∀ k : Nat, fz_X8_takeApart_34 2000000 (k + 1) x 380 sl L R ar a b v7 = fz_X8_takeApart_34 2000000 k x4 380 sl L R ar (a + z1) (b + z2) (v7 + 1) := fun k => by
    conv => lhs; unfold fz_X8_takeApart_34
    have e3 : x3.2 384 sl = m.2 862 e := by rw [X3 384 sl (by omega) (by omega)]; exact o3
    rw [if_pos v71, l1, if_pos n100, fx_380_10 hX, Option.bind_some, bz_ard n0 (by rw [ln_383 hX]; omega), Option.bind_some, ← hq, az_w32_id (z := n + 1) (by omega) (by omega), ← hx1, fx_380_12 hX1, Option.bind_some, (sv_refs hX1 qb.1 qb.2).1, Option.bind_some, t1, Option.bind_some, fx_380_13 hX2, Option.bind_some, (sv_refs hX2 qb.1 qb.2).2, Option.bind_some, p1, Option.bind_some, fx_380_11 hX3, Option.bind_some, Option.bind_some, bz_ard sl0 (by rw [ln_384 hX3]; omega), Option.bind_some, e3, bz_awr qb.1 (by rw [ln_384 hX3]; omega), Option.bind_some, ← hx4, enL, Option.bind_some, enR, Option.bind_some, w7]
  -- the reference
  have len := sv_len hM l2 (by omega) (by omega)
  rw [l8] at len
  have sz1 := yz_size R1 hH a0 az aS
  have sz2 := yz_size R2 hH b0 bz bS
  obtain ⟨m1, c1, c2, c3, c4⟩ := sv_puts (m := m) (p := M) (sd := 0) (A := 866) (v := a) (z := z1) hM (by omega) (by omega) (by omega) (by omega) (Or.inl rfl) a0 (by omega) (by omega) (by omega)
  have hM1 := hM.upd c2
  have M1 : ∀ a k, a ≠ 860 → a ≠ 861 → m1.2 a k = m.2 a k := fun a k z z' => c2.2.2 a k (fun w => by unfold sv_PS at w; omega)
  obtain ⟨m2, d1, d2, d3, d4⟩ := sv_puts (m := m1) (p := M) (sd := 1) (A := 867) (v := b) (z := z2) hM1 (by omega) (by omega) (by omega) (by omega) (Or.inr rfl) b0 (by omega) (by omega) (by omega)
  have hM2 := hM1.upd d2
  have M2 : ∀ a k, a ≠ 860 → a ≠ 861 → m2.2 a k = m.2 a k := fun a k z z' => by rw [d2.2.2 a k (fun w => by unfold sv_PS at w; omega), M1 a k z z']
  obtain ⟨m3, hm3⟩ : ∃ m3, m3 = az_wr (az_wr m2 862 M (m.2 862 e)) 865 M 0 := ⟨_, rfl⟩
  have um3 : bz_Upd m2 m3 (sv_MN M) := by
    rw [hm3]
    exact bz_Upd.wr (bz_Upd.wr bz_Upd.refl (Or.inr (Or.inl ⟨rfl, rfl⟩)) (by unfold bz_isFix; simp [bz_cap, bz_fixL, bz_rowsL])) (Or.inr (Or.inr (Or.inl ⟨rfl, rfl⟩))) (by unfold bz_isFix; simp [bz_cap, bz_fixL, bz_rowsL])
  obtain ⟨m4, hm4⟩ : ∃ m4, m4 = az_wr m3 804 108 (M + 1) := ⟨_, rfl⟩
  have um4 : bz_Upd m3 m4 (sv_MN M) := by rw [hm4]; exact bz_Upd.wr bz_Upd.refl (Or.inl ⟨rfl, rfl⟩) (by decide)
  have um : bz_Upd m m4 (sv_MN M) := (((c2.weak fun a k z => Or.inr (Or.inr (Or.inr (Or.inl (by unfold sv_PS at z ⊢; omega))))).trans (d2.weak fun a k z => Or.inr (Or.inr (Or.inr (Or.inr (by unfold sv_PS at z ⊢; omega)))))).trans um3).trans um4
  have M4 : ∀ a k, a ≠ 860 → a ≠ 861 → ¬ ((a = 862 ∨ a = 865) ∧ k = M) → a ≠ 804 → m4.2 a k = m.2 a k := fun a k z z' z'' z3 => um.2.2 a k (fun w => by unfold sv_MN sv_PS at w; omega)
  have runM : ∀ k : Nat, fz_X11_splits_7 2000000 (k + 1) m 804 e a b v7 = fz_X11_splits_7 2000000 k m4 804 e (a + z1) (b + z2) (v7 + 1) := fun k => by
    have l866 := ln_866 hM
    have hM3a : bz_Fx (az_wr m2 862 M (m.2 862 e)) := hM2.upd (S := fun _ _ => True) (bz_Upd.wr bz_Upd.refl trivial (by unfold bz_isFix; simp [bz_cap, bz_fixL, bz_rowsL]))
    have e1 : m1.2 804 108 = M := by rw [M1 _ _ (by omega) (by omega)]; exact l2
    have e2 : m2.2 804 108 = M := by rw [M2 _ _ (by omega) (by omega)]; exact l2
    have e3 : (az_wr m2 862 M (m.2 862 e)).2 804 108 = M := by rw [az_wr_ne (by omega)]; exact e2
    have e4 : m3.2 804 108 = M := by rw [hm3, az_wr_ne (by omega)]; exact e3
    have e5 : m2.2 862 e = m.2 862 e := M2 _ _ (by omega) (by omega)
    have l862 := ln_862 hM2
    conv => lhs; unfold fz_X11_splits_7
    rw [fx_804_112 hM, Option.bind_some, bz_ard (by omega) (by omega), Option.bind_some, tk, Option.bind_some, if_pos v71, len, Option.bind_some, if_neg (by omega), Option.bind_some, sz1, Option.bind_some, fx_804_113 hM, Option.bind_some, sz2, Option.bind_some, Option.bind_some, l2, c1, Option.bind_some, fx_804_113 hM1, Option.bind_some, e1, d1, Option.bind_some, fx_804_104 hM2, Option.bind_some, Option.bind_some, bz_ard e0 (by omega), Option.bind_some, e2, e5, bz_awr (by omega) (by omega), Option.bind_some, fx_804_107 hM3a, Option.bind_some, e3, bz_awz (by omega) (by rw [ln_865 hM3a]; omega) (Or.inl rfl), Option.bind_some, ← hm3, e4, az_w32_id (z := M + 1) (by omega) (by omega), ← hm4, az_w32_id (z := a + z1) (by omega) (by omega), az_w32_id (z := b + z2) (by omega) (by omega), w7]
  have B4 : sv_B x4 m4 T s U V ρ := h.upd ux um (fun a k z => by unfold sv_XN yz_S at z; unfold sv_SX; omega) (fun a k z => by unfold sv_MN sv_PS at z; unfold sv_SM; omega)
  have tS : bz_tS m m4 := fun a k q => um.2.2 a k (fun z => by unfold sv_MN sv_PS at z; omega)
  refine ⟨x4, m4, runX, runM, B4, ?_, ux, um⟩
  have g865 : ∀ k, 0 ≤ k → k < M → m4.2 865 k = m.2 865 k := fun k k0 k1 => M4 865 k (by omega) (by omega) (by omega) (by omega)
  have gM : m4.2 865 M = 0 := by rw [hm4, az_wr_ne (by omega), hm3, az_wr_same]
  have cnt : ∀ p : Nat, (p : Int) ≤ M → sv_cnt (m4.2 865) p = sv_cnt (m.2 865) p := fun p hp => sv_cnt.same p (fun k k0 k1 => g865 k k0 (by omega))
  have x383 : ∀ k, x4.2 383 k = x.2 383 k := fun k => X4 383 k (by omega) (by omega) (by omega)
  have x380 : x4.2 380 1 = n + 1 := by rw [u4.2.2 380 1 (fun z => by omega), p2.2.2 380 1 (fun w => by unfold yz_S at w; omega), t2.2.2 380 1 (fun w => by unfold yz_S at w; omega), hx1, az_wr_same]
  have rn := sv_cnt.run (g := m.2 865) (a := i.toNat) (M - i).toNat (fun k k0 k1 => l9 k (by omega) (by omega))
  rw [show i.toNat + (M - i).toNat = M.toNat by omega, l8] at rn
  have ci := (sv_cnt.bd (g := m.2 865) i.toNat).1
  refine ⟨⟨x380, by rw [hm4, az_wr_same]⟩, ⟨l3, by omega, l5, by omega, by omega⟩, ?_, fun p p0 p1 => ?_, fun p p0 p1 pg pe => ?_, ⟨fun k k0 k1 => by rw [x383]; exact l11.1 k k0 k1, fun k p k0 k1 p0 p1 => by rw [x383, x383]; exact l11.2 k p k0 k1 p0 p1⟩⟩
  · rw [show (M + 1).toNat = M.toNat + 1 by omega]
    have : sv_cnt (m4.2 865) (M.toNat + 1) = sv_cnt (m4.2 865) M.toNat + if m4.2 865 ((M.toNat : Nat) : Int) = 0 then 1 else 0 := rfl
    rw [this, show ((M.toNat : Nat) : Int) = M by omega, if_pos gM, cnt _ (by omega), l8]
  · by_cases c : p = M
    · rw [c]; exact gM
    · rw [g865 p (by omega) (by omega)]; exact l9 p p0 (by omega)
  · rw [cnt _ (by omega), x383]
    by_cases c : p = M
    · subst c
      rw [l8, ← hq]
      have k860 : ∀ j, j < 60 * (2 * p + 1) → m4.2 860 j = m2.2 860 j := fun j _ => by rw [hm4, az_wr_ne (by omega), hm3, az_wr_ne (by omega), az_wr_ne (by omega)]
      have k860' : ∀ j, m4.2 860 j = m2.2 860 j := fun j => by rw [hm4, az_wr_ne (by omega), hm3, az_wr_ne (by omega), az_wr_ne (by omega)]
      have k861 : ∀ j, m4.2 861 j = m2.2 861 j := fun j => by rw [hm4, az_wr_ne (by omega), hm3, az_wr_ne (by omega), az_wr_ne (by omega)]
      have k0 : m4.2 861 (2 * p + 0) = z1 := by rw [k861, d2.2.2 861 _ (fun w => by unfold sv_PS at w; omega)]; exact c3
      have k1 : m4.2 861 (2 * p + 1) = z2 := by rw [k861]; exact d3
      have l860 := ln_860 B4.1.1.2.1
      have xl : ∀ j, x4.2 (389 + 4 * q) j = x2.2 (389 + 4 * q) j := fun j => by rw [u4.2.2 _ j (fun z => by omega), p2.2.2 _ j (fun w => by unfold yz_S at w; omega)]
      have xl1 : ∀ j, x4.2 (389 + 4 * q + 1) j = x2.2 (389 + 4 * q + 1) j := fun j => by rw [u4.2.2 _ j (fun z => by omega), p2.2.2 _ j (fun w => by unfold yz_S at w; omega)]
      have xr : ∀ j, x4.2 (391 + 4 * q) j = x3.2 (391 + 4 * q) j := fun j => u4.2.2 _ j (fun z => by omega)
      have xr1 : ∀ j, x4.2 (391 + 4 * q + 1) j = x3.2 (391 + 4 * q + 1) j := fun j => u4.2.2 _ j (fun z => by omega)
      have cdL : ∀ j, 0 ≤ j → j < (z1 : Int) → x4.2 (389 + 4 * q + 1) j = x.2 (L + 1) (a + j) ∧ m4.2 860 (60 * (2 * p + 0) + j) = m.2 866 (a + j) := fun j j0 j1 => by
        rw [xl1, t4 j j0 j1, X1 _ _ (by omega), k860', d2.2.2 860 _ (fun w => by unfold sv_PS at w; omega), c4 j j0 j1]
        exact ⟨rfl, rfl⟩
      have cdR : ∀ j, 0 ≤ j → j < (z2 : Int) → x4.2 (391 + 4 * q + 1) j = x.2 (R + 1) (b + j) ∧ m4.2 860 (60 * (2 * p + 1) + j) = m.2 867 (b + j) := fun j j0 j1 => by
        rw [xr1, p4 j j0 j1, X2 _ _ (by omega) (by omega) (by omega), k860', d4 j j0 j1, M1 _ _ (by omega) (by omega)]
        exact ⟨rfl, rfl⟩
      have rowL : qz_Row x4 m4 T s U V (389 + 4 * q) 860 (60 * (2 * p + 0)) (m4.2 861 (2 * p + 0)) := by
        rw [k0]
        have cd : ∀ j, 0 ≤ j → j < (z1 : Int) → qz_Cd m4 T s U V (x4.2 (389 + 4 * q + 1) j) (m4.2 860 (60 * (2 * p + 0) + j)) := fun j j0 j1 => by
          rw [sv_cd hT tS, (cdL j j0 j1).1, (cdL j j0 j1).2]
          exact ⟨R1.2.2.2.1 (a + j) (by omega) (by omega), fun z => (Q1 (a + j) (by omega) (by omega) z).1⟩
        refine ⟨⟨by omega, by rw [xl]; omega, by rw [xl]; omega, fun j j0 j1 => (cd j j0 (by rw [xl] at j1; omega)).1.I B4.1.1.tb.2.1 h.2.1.1⟩, by rw [xl]; exact t3, by omega, cd, ?_, ⟨by omega, by omega, by omega, by decide, by decide⟩⟩
        refine bz_Sc.shift (fun j j0 j1 => ?_) aS
        unfold bz_ra
        rw [Int.zero_add, (cdL j j0 (by omega)).1]
      have rowR : qz_Row x4 m4 T s U V (391 + 4 * q) 860 (60 * (2 * p + 1)) (m4.2 861 (2 * p + 1)) := by
        rw [k1]
        have cd : ∀ j, 0 ≤ j → j < (z2 : Int) → qz_Cd m4 T s U V (x4.2 (391 + 4 * q + 1) j) (m4.2 860 (60 * (2 * p + 1) + j)) := fun j j0 j1 => by
          rw [sv_cd hT tS, (cdR j j0 j1).1, (cdR j j0 j1).2]
          exact ⟨R2.2.2.2.1 (b + j) (by omega) (by omega), fun z => (Q2 (b + j) (by omega) (by omega) z).1⟩
        refine ⟨⟨by omega, by rw [xr]; omega, by rw [xr]; omega, fun j j0 j1 => (cd j j0 (by rw [xr] at j1; omega)).1.I B4.1.1.tb.2.1 h.2.1.1⟩, by rw [xr]; exact p3, by omega, cd, ?_, ⟨by omega, by omega, by omega, by decide, by decide⟩⟩
        refine bz_Sc.shift (fun j j0 j1 => ?_) bS
        unfold bz_ra
        rw [Int.zero_add, (cdR j j0 (by omega)).1]
      refine ⟨rowL, rowR, ?_⟩
      rw [hx4, az_wr_same, hm4, az_wr_ne (by omega), hm3, az_wr_ne (by omega), az_wr_same]
    · have pM : p < M := by omega
      rw [g865 p p0 pM] at pg
      have en := l10 p p0 pM pg pe
      have cl := sv_cnt.lt (g := m.2 865) (a := p.toNat) (b := M.toNat) (by omega) (by rw [show ((p.toNat : Nat) : Int) = p by omega]; exact pg)
      have cb := (sv_cnt.bd (g := m.2 865) p.toNat).1
      have dq : x.2 383 (sv_cnt (m.2 865) p.toNat) ≠ q := fun z => by
        have := l11.2 _ n cb (by omega) n0 n100 (by rw [z, hq])
        omega
      have sb := l11.1 _ cb (show sv_cnt (m.2 865) p.toNat < 100 by omega)
      generalize x.2 383 (sv_cnt (m.2 865) p.toNat) = q' at *
      exact en.cong hT tS (fun a k z => X4 a k (by omega) (by omega) (by omega)) (fun a k z => um.2.2 a k (fun w => by unfold sv_MN sv_PS at w; omega)) (um.ln _)
end SA
