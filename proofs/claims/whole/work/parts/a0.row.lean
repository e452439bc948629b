/-! a row is printed, side by side -/
section PL
variable {x m : az_Hp} {T s N n r A : Int} {V : Int → Int → Prop}
theorem pz_rowL (hH : mz_H x m T s) (hR : rz_R x m T s V r A n) (nm : pz_Nm m V N) (un : ∀ i, 0 ≤ i → i < n → pz_Un x m (m.2 A i)) (hA : A ≠ 836 ∧ A ≠ 847 ∧ A ≠ 804) : ∀ (d k k' : Nat) (x' m' : az_Hp) (L : List Int) (v4 v5 : Int), d < k → d < k' → 0 ≤ v5 → v5 + d = n → pz_St x m x' m' L v4 → L.length + v4 ≤ 10 * v5 → v4 ≤ v5 →
    ∃ (x'' m'' : az_Hp) (L' : List Int), fz_X3_putRow_6 2000000 k x' 801 r T 381 v4 v5 = some x'' ∧ fz_X11_tellsRow_6 2000000 k' m' 804 A n N v4 v5 = some m'' ∧ pz_U x x'' pz_SX ∧ bz_Upd m m'' pz_SY ∧ pz_O x'' L' ∧ pz_R m'' L' ∧ L'.length ≤ 1000 := by
  have hT := hH.2.2.1.1
  have n60 := hR.2.2.1.2
  have rc := bz_cap_lt hR.1.1
  intro d
  induction d with
  | zero =>
    intro k k' x' m' L v4 v5 hk hk' v50 hv st hl h45
    obtain ⟨k, rfl⟩ : ∃ k', k = k' + 1 := ⟨k - 1, by omega⟩
    obtain ⟨k', rfl⟩ : ∃ k'', k' = k'' + 1 := ⟨k' - 1, by omega⟩
    obtain ⟨s1, s2, s3, s4, s5, s6⟩ := st
    have e1 : x'.2 r 1 = n := by rw [s1.2.2 r 1 (by omega) (by unfold pz_SX pz_SP; omega)]; exact hR.2.1
    refine ⟨x', m', L, ?_, ?_, s1, s2, s3, s4, by omega⟩
    · unfold fz_X3_putRow_6
      rw [if_neg (by omega)]
    · unfold fz_X11_tellsRow_6
      rw [if_neg (by omega)]
  | succ d ih =>
    intro k k' x' m' L v4 v5 hk hk' v50 hv st hl h45
    obtain ⟨k, rfl⟩ : ∃ k', k = k' + 1 := ⟨k - 1, by omega⟩
    obtain ⟨k', rfl⟩ : ∃ k'', k' = k'' + 1 := ⟨k' - 1, by omega⟩
    have st0 := st
    obtain ⟨s1, s2, s3, s4, s5, s6⟩ := st
    have hX' := s1.fx hH.1
    have hM' := hH.2.1.upd s2
    have e1 : x'.2 r 1 = n := by rw [s1.2.2 r 1 (by omega) (by unfold pz_SX pz_SP; omega)]; exact hR.2.1
    have cr := hR.2.2.2.1 v5 v50 (by omega)
    have vv := hR.2.2.2.2.2.2.1
    have hI := cr.I hH.tb.2.1 vv
    obtain ⟨w, x1, m1, w7, a1, a2, a3, a4, a5, a6⟩ := pz_code hH s1 s2 s3 s4 cr vv nm (un v5 v50 (by omega)) (by omega)
    have t1 : pz_U x x1 pz_SX := s1.trans (a3.weak fun _ _ z => Or.inl z)
    have t2 : bz_Upd m m1 pz_SY := s2.trans (a4.weak fun _ _ z => Or.inl z)
    have hX1 := t1.fx hH.1
    have hM1 := hH.2.1.upd t2
    have rowX : ∀ y, pz_U x y pz_SX → az_gref y r 0 = some (r + 1) ∧ az_ard y (r + 1) v5 = some (x.2 (r + 1) v5) := fun y uy => by
      have hy := uy.fx hH.1
      have f := bz_fxR hy hR.1.1
      have cl := hR.1.2.2.1
      refine ⟨bz_gr f.1 (by omega), ?_⟩
      rw [bz_ard v50 (by rw [f.2]; have := hR.2.1; omega), uy.2.2 (r + 1) v5 (by omega) (by unfold pz_SX pz_SP; omega)]
    have eA : ∀ i, m'.2 A i = m.2 A i := fun i => s2.2.2 A i (by unfold pz_SY pz_SR; omega)
    have rdA : az_ard m' A v5 = some (m.2 A v5) := by
      rw [bz_ard v50 (by rw [s2.ln]; have := hR.2.2.2.2.2.1.1; omega), eA]
    have H1 : mz_H x m1 T s := hH.gen (bz_Upd.refl (S := fun _ _ => False)) t2 (fun a k q => q.elim) (fun a k q => by unfold pz_SY pz_SR at q; unfold nz_t; omega)
    have R1 : rz_R x m1 T s V r A n := yz_gR hR hT (bz_Upd.refl (S := fun _ _ => False)) t2 (fun a k q => q.elim) (fun a k q => by unfold pz_SY pz_SR at q; unfold nz_t; omega)
    have En : lz_En (bz_ct m1 s) (bz_ft m1 s) (m1.2 T 0) (m1.2 T 1) (fun _ => V) r 0 0 0 n A 0 x m1 := R1.en H1 (Or.inl rfl) rfl (by omega) (by omega)
    have tk := (En.tk v50 (by omega)).2.1
    rw [Int.zero_add, t2.2.2 A v5 (by unfold pz_SY pz_SR; omega)] at tk
    have arr := bz_ar_rng (c := x.2 (r + 1) v5)
    have l803 := ln_803 hX1
    have l847 := ln_847 hM1
    have ll : (L ++ w).length = L.length + w.length := List.length_append
    have w5 : az_w32 (v5 + 1) = v5 + 1 := az_w32_id (by omega) (by omega)
    have w4 : az_w32 (v4 + 1) = v4 + 1 := az_w32_id (by omega) (by omega)
    have u2 : bz_Upd m (az_wr m1 847 v4 (bz_ar (x.2 (r + 1) v5))) pz_SY := bz_Upd.wr t2 (Or.inr rfl) (by unfold bz_isFix; simp [bz_cap, bz_fixL, bz_rowsL])
    have hM2 := hH.2.1.upd u2
    have R2 := a6.wr (i := v4) (v := bz_ar (x.2 (r + 1) v5))
    have stk : ∀ i, 0 ≤ i → i < v4 → x1.2 803 i = (az_wr m1 847 v4 (bz_ar (x.2 (r + 1) v5))).2 847 i ∧ 1 ≤ x1.2 803 i ∧ x1.2 803 i ≤ 3 := fun i i0 i1 => by
      rw [az_wr_ne (by omega), a4.2.2 847 i (by unfold pz_SR; omega), a3.2.2 803 i (by omega) (by unfold pz_SP; omega)]
      exact s6 i i0 i1
    have runM : fz_X11_tellsRow_6 2000000 (k' + 1) m' 804 A n N v4 v5 = (if 0 < bz_ar (x.2 (r + 1) v5) then ((fz_X11_tellsByte (az_wr m1 847 v4 (bz_ar (x.2 (r + 1) v5))) 804 40).bind fun r6 => fz_X11_tellsRow_6 2000000 k' r6 804 A n N (v4 + 1) (v5 + 1)) else fz_X11_tellsRow_126 2000000 (fz_X11_tellsRow_6 2000000 k') 2000000 (az_wr m1 847 v4 (bz_ar (x.2 (r + 1) v5))) 804 A n N v4 v5) := by
      conv => lhs; unfold fz_X11_tellsRow_6
      rw [if_pos (by omega), rdA, Option.bind_some, a2]
      unfold fz_X11_tellsRow_91
      rw [fx_804_84 hM1, Option.bind_some, tk, Option.bind_some, bz_awr (by omega) (by omega), Option.bind_some, fx_804_84 hM2, Option.bind_some, bz_ard (by omega) (by rw [ln_847 hM2]; omega), Option.bind_some, az_wr_same, w4, w5]
    have runX : fz_X3_putRow_6 2000000 (k + 1) x' 801 r T 381 v4 v5 = (if 0 < bz_ar (x.2 (r + 1) v5) then ((fz_X3_put x1 801 40).bind fun r8 => ((az_gref r8 801 2).bind fun x9 => ((az_awr r8 x9 v4 (bz_ar (x.2 (r + 1) v5))).bind fun s10 => fz_X3_putRow_6 2000000 k s10 801 r T 381 (v4 + 1) (v5 + 1)))) else fz_X3_putRow_82 2000000 (fz_X3_putRow_6 2000000 k) 2000000 x1 801 r T 381 v4 v5 (v4 - 1)) := by
      conv => lhs; unfold fz_X3_putRow_6
      rw [if_pos (by omega), (rowX x' s1).1, Option.bind_some, (rowX x' s1).2, Option.bind_some, a1, Option.bind_some, (rowX x1 t1).1, Option.bind_some, (rowX x1 t1).2, Option.bind_some, bz_arity hI, Option.bind_some, fx_801_2 hX1, Option.bind_some, if_pos (show v4 < az_ln x1 803 by omega), w4, w5, az_w32_id (z := v4 - 1) (by omega) (by omega)]
    have k1 : d < k := by omega
    have k2 : d < k' := by omega
    have k3 : 0 ≤ v5 + 1 := by omega
    have k4 : v5 + 1 + d = n := by omega
    have k5 : v4.toNat < 2000000 := by omega
    have k6 : (L ++ w).length + v4.toNat < 90000 := by omega
    have k7 : ∀ a b : Int, a + b ≤ ((L ++ w).length : Int) + (v4.toNat : Int) + 1 → b ≤ (v4.toNat : Int) → a + b ≤ 10 * (v5 + 1) ∧ b ≤ v5 + 1 := fun a b h1 h2 => by omega
    have k8 : ((v4.toNat : Nat) : Int) = v4 := by omega
    rw [runX, runM]
    by_cases c : 0 < bz_ar (x.2 (r + 1) v5)
    · rw [if_pos c, if_pos c]
      obtain ⟨x2, b1, b2, b3⟩ := pz_put (c := 40) hX1 a5 (by omega)
      obtain ⟨m3, d1, d2, d3⟩ := pz_tell (c := 40) hM2 R2 (by omega) (by decide) (by decide)
      have t3 : pz_U x x2 pz_SX := t1.trans (b2.weak fun _ _ z => Or.inl z)
      have hX2 := t3.fx hH.1
      have t4 : pz_U x (az_wr x2 803 v4 (bz_ar (x.2 (r + 1) v5))) pz_SX := t3.trans (pz_U.of (bz_Upd.wr bz_Upd.refl (Or.inr rfl) (by unfold bz_isFix; simp [bz_cap, bz_fixL, bz_rowsL])))
      rw [b1, Option.bind_some, fx_801_2 hX2, Option.bind_some, bz_awr (by omega) (by rw [ln_803 hX2]; omega), Option.bind_some, d1, Option.bind_some]
      have l3 : (L ++ w ++ [(40 : Int)]).length = L.length + w.length + 1 := by rw [List.length_append, ll]; rfl
      exact ih k k' _ m3 (L ++ w ++ [40]) (v4 + 1) (v5 + 1) (by omega) (by omega) (by omega) (by omega) ⟨t4, u2.trans (d2.weak fun _ _ z => Or.inl z), b3.wr, d3, ⟨by omega, by omega⟩, fun i i0 i1 => by
        by_cases e : i = v4
        · rw [e, az_wr_same, d2.2.2 847 _ (by unfold pz_SR; omega), az_wr_same]; exact ⟨rfl, by omega, by omega⟩
        · rw [az_wr_ne (by omega), d2.2.2 847 i (by unfold pz_SR; omega), b2.2.2 803 i (by omega) (by unfold pz_SP; omega)]
          exact stk i i0 (by omega)⟩ (by omega) (by omega)
    · rw [if_neg c, if_neg c]
      obtain ⟨x2, m3, L', D', y1, y2, y3, y4, y5⟩ := pz_close (r := r) (T := T) (U := 381) (A := A) (n' := n) (N := N) (k6 := fz_X3_putRow_6 2000000 k) (k6' := fz_X11_tellsRow_6 2000000 k') hH.1 hH.2.1 w5 v4.toNat 2000000 2000000 x1 _ (L ++ w) k5 k5 (by rw [k8]; exact ⟨t1, u2, a5, R2, s5, stk⟩) k6
      rw [k8] at y1 y2
      rw [y1, y2]
      exact ih k k' x2 m3 L' D' (v5 + 1) k1 k2 k3 k4 y3 (k7 _ _ y4 y5).1 (k7 _ _ y4 y5).2
theorem pz_row (hH : mz_H x m T s) (hR : rz_R x m T s V r A n) (nm : pz_Nm m V N) (un : ∀ i, 0 ≤ i → i < n → pz_Un x m (m.2 A i)) (hA : A ≠ 836 ∧ A ≠ 847 ∧ A ≠ 804) (hO : pz_O x []) (hQ : pz_R m []) :
    ∃ (x'' m'' : az_Hp) (L' : List Int), fz_X3_putRow 2000000 x 801 r T 381 = some x'' ∧ fz_X11_tellsRow 2000000 m 804 A n N = some m'' ∧ pz_U x x'' pz_SX ∧ bz_Upd m m'' pz_SY ∧ pz_O x'' L' ∧ pz_R m'' L' ∧ L'.length ≤ 1000 := by
  have n60 := hR.2.2.1
  exact pz_rowL hH hR nm un hA n.toNat 2000000 2000000 x m [] 0 0 (by omega) (by omega) (by omega) (by omega) ⟨pz_U.refl, bz_Upd.refl, hO, hQ, ⟨by omega, by omega⟩, fun i i0 i1 => by omega⟩ (by simp) (by omega)
end PL
