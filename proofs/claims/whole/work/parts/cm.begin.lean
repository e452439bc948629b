/-! what is WANTED is taken: takesWanted and begin -/
def tw_A (a k : Int) : Prop := (848 ≤ a ∧ a ≤ 851) ∨ (858 ≤ a ∧ a ≤ 862) ∨ a = 864 ∨ (a = 804 ∧ (k = 85 ∨ k = 87 ∨ k = 101 ∨ k = 108))
theorem tw_all {m : az_Hp} {ng nv nu nw : Int} (hM : bz_Fx m) (h100 : m.2 804 100 = ng) (h37 : m.2 804 37 = nv) (h38 : m.2 804 38 = nu) (h86 : m.2 804 86 = nw) (g0 : 0 ≤ ng) (g6 : ng ≤ 6) (v0 : 0 ≤ nv) (v450 : nv ≤ 450) (u0 : 0 ≤ nu) (u6 : nu ≤ 6) (w0 : 0 ≤ nw) (w8 : nw ≤ 8) (hz : ∀ v sd, 0 ≤ v → v < nw → 0 ≤ sd → sd < 2 → 0 ≤ m.2 857 (2 * v + sd) ∧ m.2 857 (2 * v + sd) ≤ 30) : ∃ m', fz_X11_takesWanted 2000000 m 804 = some m' ∧ bz_Upd m m' tw_A ∧ (m'.2 804 85 = ng ∧ m'.2 804 87 = 1 ∧ m'.2 804 101 = nu ∧ m'.2 804 108 = nw) ∧ (∀ i, 0 ≤ i → i < ng → m'.2 850 i = m.2 854 i ∧ m'.2 851 i = m.2 855 i) ∧ (∀ i, 0 ≤ i → i < 180 → m'.2 848 i = m.2 852 i ∧ m'.2 849 i = m.2 853 i) ∧ (∀ i, 0 ≤ i → i < nv → m'.2 858 i = m.2 821 i) ∧ (∀ i, 0 ≤ i → i < nu → m'.2 859 i = m.2 822 i ∧ m'.2 864 i = 0) ∧ ∀ v, 0 ≤ v → v < nw → tw_E m m' v := by
  obtain ⟨m0, hm0⟩ : ∃ y, y = az_wr m 804 85 ng := ⟨_, rfl⟩
  have u0' : bz_Upd m m0 (fun a k => a = 804 ∧ k = 85) := by rw [hm0]; exact bz_Upd.wr bz_Upd.refl ⟨rfl, rfl⟩ (by decide)
  have hM0 := hM.upd u0'
  obtain ⟨m1, a1, a2, a3⟩ := tw_10 (m := m0) (n := ng) hM0 g6 (by rw [hm0, az_wr_same]) ng.toNat 2000000 m0 0 (by omega) (by omega) (by omega) bz_Upd.refl (fun i i0 i1 => by omega)
  have hM1 := hM0.upd a2
  obtain ⟨m2, b1, b2, b3⟩ := tw_50 (m := m1) hM1 180 2000000 m1 0 (by omega) (by omega) (by omega) bz_Upd.refl (fun i i0 i1 => by omega)
  have hM2 := hM1.upd b2
  have v02 : bz_Upd m m2 (fun a k => (848 ≤ a ∧ a ≤ 851) ∨ (a = 804 ∧ k = 85)) := ((u0'.weak fun _ _ z => Or.inr z).trans (a2.weak fun a k z => Or.inl (by omega))).trans (b2.weak fun a k z => Or.inl (by omega))
  obtain ⟨m3, c1, c2, c3⟩ := tw_89 (m := m2) (n := nv) hM2 v450 (by rw [v02.2.2 804 37 (fun z => by omega)]; exact h37) nv.toNat 2000000 m2 0 (by omega) (by omega) (by omega) bz_Upd.refl (fun i i0 i1 => by omega)
  have hM3 := hM2.upd c2
  have v03 : bz_Upd m m3 (fun a k => (848 ≤ a ∧ a ≤ 851) ∨ (a = 804 ∧ k = 85) ∨ a = 858) := (v02.weak fun a k z => by omega).trans (c2.weak fun a k z => by omega)
  obtain ⟨m4, d1, d2, d3⟩ := tw_117 (m := m3) (n := nu) (w := nw) hM3 u6 (by rw [v03.2.2 804 38 (fun z => by omega)]; exact h38) (by rw [v03.2.2 804 86 (fun z => by omega)]; exact h86) nu.toNat 2000000 m3 0 (by omega) (by omega) (by omega) bz_Upd.refl (fun i i0 i1 => by omega)
  obtain ⟨m5, hm5⟩ : ∃ y, y = az_wr (az_wr m4 804 101 nu) 804 108 nw := ⟨_, rfl⟩
  have u5 : bz_Upd m4 m5 (fun a k => a = 804 ∧ (k = 101 ∨ k = 108)) := by rw [hm5]; exact bz_Upd.wr (bz_Upd.wr bz_Upd.refl ⟨rfl, Or.inl rfl⟩ (by decide)) ⟨rfl, Or.inr rfl⟩ (by decide)
  have v05 : bz_Upd m m5 (fun a k => (848 ≤ a ∧ a ≤ 851) ∨ (858 ≤ a ∧ a ≤ 859) ∨ a = 864 ∨ (a = 804 ∧ (k = 85 ∨ k = 101 ∨ k = 108))) := ((v03.weak fun a k z => by omega).trans (d2.weak fun a k z => by omega)).trans (u5.weak fun a k z => by omega)
  have hM5 := hM.upd v05
  obtain ⟨m6, e1, e2, e3, e4⟩ := tw_168 (m := m5) (w := nw) hM5 w8 (by rw [v05.2.2 804 86 (fun z => by omega)]; exact h86) (fun v sd v0 v1 s0 s1 => by rw [v05.2.2 857 _ (fun z => by omega)]; exact hz v sd v0 v1 s0 s1) nw.toNat 2000000 m5 0 (by omega) (by omega) (by omega) bz_Upd.refl (fun v v0 v1 => by omega)
  have k6 : ∀ a k, ¬ ((860 ≤ a ∧ a ≤ 862) ∨ (a = 804 ∧ k = 87)) → m6.2 a k = m5.2 a k := fun a k z => e2.2.2 a k z
  have k5 : ∀ a k, a ≠ 804 → m5.2 a k = m4.2 a k := fun a k z => u5.2.2 a k (fun w => z w.1)
  refine ⟨m6, ?_, (v05.weak fun a k z => by unfold tw_A; omega).trans (e2.weak fun a k z => by unfold tw_A; omega), ⟨?_, e3, ?_, ?_⟩, fun i i0 i1 => ?_, fun i i0 i1 => ?_, fun i i0 i1 => ?_, fun i i0 i1 => ?_, fun v v0 v1 => ?_⟩
  · unfold fz_X11_takesWanted
    rw [h100, ← hm0, a1, b1, c1, d1, ← hm5, e1]
  · rw [k6 804 85 (by omega), u5.2.2 804 85 (fun z => by omega), d2.2.2 804 85 (fun z => by omega), c2.2.2 804 85 (fun z => by omega), b2.2.2 804 85 (fun z => by omega), a2.2.2 804 85 (fun z => by omega), hm0, az_wr_same]
  · rw [k6 804 101 (by omega), hm5, az_wr_ne (by omega), az_wr_same]
  · rw [k6 804 108 (by omega), hm5, az_wr_same]
  · rw [k6 850 i (by omega), k6 851 i (by omega), k5 850 i (by omega), k5 851 i (by omega), d2.2.2 850 i (fun z => by omega), d2.2.2 851 i (fun z => by omega), c2.2.2 850 i (fun z => by omega), c2.2.2 851 i (fun z => by omega), b2.2.2 850 i (fun z => by omega), b2.2.2 851 i (fun z => by omega), (a3 i i0 i1).1, (a3 i i0 i1).2, u0'.2.2 854 i (fun z => by omega), u0'.2.2 855 i (fun z => by omega)]
    exact ⟨rfl, rfl⟩
  · rw [k6 848 i (by omega), k6 849 i (by omega), k5 848 i (by omega), k5 849 i (by omega), d2.2.2 848 i (fun z => by omega), d2.2.2 849 i (fun z => by omega), c2.2.2 848 i (fun z => by omega), c2.2.2 849 i (fun z => by omega), (b3 i i0 i1).1, (b3 i i0 i1).2, a2.2.2 852 i (fun z => by omega), a2.2.2 853 i (fun z => by omega), u0'.2.2 852 i (fun z => by omega), u0'.2.2 853 i (fun z => by omega)]
    exact ⟨rfl, rfl⟩
  · rw [k6 858 i (by omega), k5 858 i (by omega), d2.2.2 858 i (fun z => by omega), c3 i i0 i1, v02.2.2 821 i (fun z => by omega)]
  · rw [k6 859 i (by omega), k6 864 i (by omega), k5 859 i (by omega), k5 864 i (by omega), (d3 i i0 i1).1, (d3 i i0 i1).2, v03.2.2 822 i (fun z => by omega)]
    exact ⟨rfl, rfl⟩
  · obtain ⟨q1, q2⟩ := e4 v v0 v1
    refine ⟨fun sd s0 s1 => ?_, q2⟩
    obtain ⟨q3, q4⟩ := q1 sd s0 s1
    rw [v05.2.2 857 _ (fun z => by omega)] at q3 q4
    exact ⟨q3, fun i i0 i1 => by rw [q4 i i0 i1, v05.2.2 856 _ (fun z => by omega)]⟩
/-- a WANTED of the class lies in its slot -/
def sb_E (x τ : az_Hp) (q p : Int) : Prop := (τ.2 (389 + 4 * q) 1 = x.2 (191 + 4 * p) 1 ∧ ∀ i, 0 ≤ i → i < x.2 (191 + 4 * p) 1 → τ.2 (389 + 4 * q + 1) i = x.2 (191 + 4 * p + 1) i) ∧ (τ.2 (391 + 4 * q) 1 = x.2 (193 + 4 * p) 1 ∧ ∀ i, 0 ≤ i → i < x.2 (193 + 4 * p) 1 → τ.2 (391 + 4 * q + 1) i = x.2 (193 + 4 * p + 1) i) ∧ τ.2 384 q = p
def sb_X (a : Int) : Prop := a = 384 ∨ (389 ≤ a ∧ a ≤ 788)
theorem sb_63 {x : az_Hp} {w : Int} (hX : bz_Fx x) (h1 : x.2 380 1 = w) (w8 : w ≤ 8) (hS : sv_Sl x) (hz : ∀ p, 0 ≤ p → p < w → (0 ≤ x.2 (191 + 4 * p) 1 ∧ x.2 (191 + 4 * p) 1 ≤ 30) ∧ (0 ≤ x.2 (193 + 4 * p) 1 ∧ x.2 (193 + 4 * p) 1 ≤ 30)) : ∀ (d k : Nat) (τ : az_Hp) (j : Int), d < k → 0 ≤ j → j + d = w → bz_Upd x τ (fun a _ => sb_X a) → (∀ p, 0 ≤ p → p < j → sb_E x τ (x.2 383 p) p) → ∃ τ', fz_X8_begin_63 2000000 k τ 380 161 j = some τ' ∧ bz_Upd x τ' (fun a _ => sb_X a) ∧ ∀ p, 0 ≤ p → p < w → sb_E x τ' (x.2 383 p) p := by
  intro d
  induction d with
  | zero =>
    intro k τ j hk j0 hj ut h
    obtain ⟨k, rfl⟩ : ∃ k', k = k' + 1 := ⟨k - 1, by omega⟩
    have e : τ.2 380 1 = w := by rw [ut.2.2 380 1 (fun z => by unfold sb_X at z; omega)]; exact h1
    refine ⟨τ, ?_, ut, fun p p0 p1 => h p p0 (by omega)⟩
    unfold fz_X8_begin_63
    rw [if_neg (by omega)]
  | succ d ih =>
    intro k τ j hk j0 hj ut h
    obtain ⟨k, rfl⟩ : ∃ k', k = k' + 1 := ⟨k - 1, by omega⟩
    have hF := hX.upd ut
    have e : τ.2 380 1 = w := by rw [ut.2.2 380 1 (fun z => by unfold sb_X at z; omega)]; exact h1
    have e3 : τ.2 383 j = x.2 383 j := ut.2.2 383 j (fun z => by unfold sb_X at z; omega)
    have qb := hS.1 j j0 (by omega)
    obtain ⟨q, hq⟩ : ∃ q, q = x.2 383 j := ⟨_, rfl⟩
    rw [← hq] at e3 qb
    have zj := hz j j0 (by omega)
    have cL := sv_cap (r := 389 + 4 * q) (by omega) (by omega)
    have cR := sv_cap (r := 391 + 4 * q) (by omega) (by omega)
    have cw := (wq_cap j0).2 (by omega)
    have K : ∀ a k, 191 ≤ a ∧ a ≤ 222 → τ.2 a k = x.2 a k := fun a k z => ut.2.2 a k (fun y => by unfold sb_X at y; omega)
    obtain ⟨x1, t1, t2, t3, t4⟩ := yz_take (σ := τ) (r := 389 + 4 * q) (q := 191 + 4 * j) hF (by omega) (by omega) (by omega) (by rw [K _ _ (by omega)]; omega) (by rw [K _ _ (by omega)]; omega) (by rw [K _ _ (by omega)]; omega)
    have hF1 := hF.upd t2
    have K1 : ∀ a k, 191 ≤ a ∧ a ≤ 222 → x1.2 a k = x.2 a k := fun a k z => by rw [t2.2.2 a k (fun y => by unfold yz_S at y; omega), K a k z]
    obtain ⟨x2, p1, p2, p3, p4⟩ := yz_take (σ := x1) (r := 391 + 4 * q) (q := 193 + 4 * j) hF1 (by omega) (by omega) (by omega) (by rw [K1 _ _ (by omega)]; omega) (by rw [K1 _ _ (by omega)]; omega) (by rw [K1 _ _ (by omega)]; omega)
    have hF2 := hF1.upd p2
    rw [K _ _ (by omega)] at t3 t4
    rw [K1 _ _ (by omega)] at p3 p4
    have u3 : bz_Upd x (az_wr x2 384 q j) (fun a _ => sb_X a) := bz_Upd.wr ((ut.trans (t2.weak fun a k z => by unfold yz_S at z; unfold sb_X; omega)).trans (p2.weak fun a k z => by unfold yz_S at z; unfold sb_X; omega)) (Or.inl rfl) (by unfold bz_isFix; simp [bz_cap, bz_fixL, bz_rowsL])
    obtain ⟨τ', r1, r2⟩ := ih k (az_wr x2 384 q j) (j + 1) (by omega) (by omega) (by push_cast at hj; omega) u3 (fun p q0 q1 => by
      by_cases c : p = j
      · subst c
        rw [← hq]
        refine ⟨⟨?_, fun i i0 i1 => ?_⟩, ⟨?_, fun i i0 i1 => ?_⟩, az_wr_same⟩
        · rw [az_wr_ne (by omega), p2.2.2 _ _ (fun y => by unfold yz_S at y; omega)]; exact t3
        · rw [az_wr_ne (by omega), p2.2.2 _ _ (fun y => by unfold yz_S at y; omega), t4 i i0 i1, K _ _ (by omega)]
        · rw [az_wr_ne (by omega)]; exact p3
        · rw [az_wr_ne (by omega), p4 i i0 i1, K1 _ _ (by omega)]
      · have h' := h p q0 (by omega)
        have ne : x.2 383 p ≠ q := fun z => c (hS.2 p j q0 (by omega) j0 (by omega) (by rw [z, hq]))
        have sb := hS.1 p q0 (by omega)
        generalize x.2 383 p = q' at *
        obtain ⟨⟨h1, h2⟩, ⟨h3, h4⟩, h5⟩ := h'
        have F : ∀ a k, (389 + 4 * q' ≤ a ∧ a ≤ 392 + 4 * q') ∨ (a = 384 ∧ k = q') → (az_wr x2 384 q j).2 a k = τ.2 a k := fun a k z => by
          rw [az_wr_ne (by omega), p2.2.2 _ _ (fun y => by unfold yz_S at y; omega), t2.2.2 _ _ (fun y => by unfold yz_S at y; omega)]
        exact ⟨⟨by rw [F _ _ (by omega)]; exact h1, fun i i0 i1 => by rw [F _ _ (by omega)]; exact h2 i i0 i1⟩, ⟨by rw [F _ _ (by omega)]; exact h3, fun i i0 i1 => by rw [F _ _ (by omega)]; exact h4 i i0 i1⟩, by rw [F _ _ (by omega)]; exact h5⟩)
    refine ⟨τ', ?_, r2⟩
    rw [← r1]
    have ar := (wq_arr hF j0).2 (by omega)
    have ar1 := (wq_arr hF1 j0).2 (by omega)
    conv => lhs; unfold fz_X8_begin_63
    rw [if_pos (by omega), fx_380_10 hF, Option.bind_some, bz_ard j0 (by rw [ln_383 hF]; omega), Option.bind_some, e3, fx_380_12 hF, Option.bind_some, (sv_refs hF qb.1 qb.2).1, Option.bind_some, fx_161_5 hF, Option.bind_some, ar.1, Option.bind_some, t1, Option.bind_some, fx_380_13 hF1, Option.bind_some, (sv_refs hF1 qb.1 qb.2).2, Option.bind_some, fx_161_6 hF1, Option.bind_some, ar1.2, Option.bind_some, p1, Option.bind_some, fx_380_11 hF2, Option.bind_some, bz_awr qb.1 (by rw [ln_384 hF2]; omega), Option.bind_some, az_w32_id (z := j + 1) (by omega) (by omega)]
theorem sb_all {x : az_Hp} {nw nu : Int} (hX : bz_Fx x) (h1 : x.2 161 1 = nw) (h2 : x.2 161 2 = nu) (w0 : 0 ≤ nw) (w8 : nw ≤ 8) (hS : sv_Sl x) (hz : ∀ p, 0 ≤ p → p < nw → (0 ≤ x.2 (191 + 4 * p) 1 ∧ x.2 (191 + 4 * p) 1 ≤ 30) ∧ (0 ≤ x.2 (193 + 4 * p) 1 ∧ x.2 (193 + 4 * p) 1 ≤ 30)) : ∃ x', fz_X8_begin 2000000 x 380 161 = some x' ∧ bz_Upd x x' (fun a k => sb_X a ∨ a = 381 ∨ (a = 380 ∧ (k ≤ 6 ∨ k = 9))) ∧ (x'.2 380 0 = 1 ∧ x'.2 380 1 = nw ∧ x'.2 380 2 = 0 ∧ x'.2 380 3 = -1 ∧ x'.2 380 4 = 0 ∧ x'.2 380 5 = nu ∧ x'.2 380 6 = 0 ∧ x'.2 380 9 = 1) ∧ (∀ i, 0 ≤ i → i < 6 → x'.2 381 i = x.2 166 i) ∧ ∀ p, 0 ≤ p → p < nw → sb_E x x' (x.2 383 p) p := by
  obtain ⟨y, hy⟩ : ∃ y, y = az_wr (az_wr (az_wr (az_wr (az_wr (az_wr (az_wr x 380 0 1) 380 2 0) 380 3 (-1)) 380 4 0) 380 6 0) 380 9 1) 380 5 nu := ⟨_, rfl⟩
  have uy : bz_Upd x y (fun a k => a = 380 ∧ (k ≤ 6 ∨ k = 9)) := by
    rw [hy]
    exact bz_Upd.wr (bz_Upd.wr (bz_Upd.wr (bz_Upd.wr (bz_Upd.wr (bz_Upd.wr (bz_Upd.wr bz_Upd.refl ⟨rfl, by omega⟩ (by decide)) ⟨rfl, by omega⟩ (by decide)) ⟨rfl, by omega⟩ (by decide)) ⟨rfl, by omega⟩ (by decide)) ⟨rfl, by omega⟩ (by decide)) ⟨rfl, by omega⟩ (by decide)) ⟨rfl, by omega⟩ (by decide)
  have hY := hX.upd uy
  obtain ⟨z, hz'⟩ : ∃ z, z = az_cpyV y 166 0 381 0 6 := ⟨_, rfl⟩
  have uz : bz_Upd y z (fun a _ => a = 381) := by
    rw [hz']
    refine ⟨rfl, fun b k hb => ?_, fun b k hb => ?_⟩
    · simp only [az_cpyV]
      rw [if_neg]
      rintro ⟨rfl, -⟩
      have : bz_isFix 381 k = false := by unfold bz_isFix; simp [bz_cap, bz_fixL, bz_rowsL]
      rw [this] at hb
      cases hb
    · simp only [az_cpyV]
      rw [if_neg]
      rintro ⟨e, -⟩
      exact hb e
  have z381 : ∀ i, 0 ≤ i → i < 6 → z.2 381 i = x.2 166 i := fun i i0 i1 => by
    rw [hz']
    simp only [az_cpyV]
    rw [if_pos ⟨trivial, by omega, by omega⟩, show (0 : Int) + (i - 0) = i by omega, uy.2.2 166 i (fun w => by omega)]
  obtain ⟨z1, hz1⟩ : ∃ q, q = az_wr z 380 1 nw := ⟨_, rfl⟩
  have u1 : bz_Upd z z1 (fun a k => a = 380 ∧ k = 1) := by rw [hz1]; exact bz_Upd.wr bz_Upd.refl ⟨rfl, rfl⟩ (by decide)
  have uA : bz_Upd x z1 (fun a k => a = 381 ∨ (a = 380 ∧ (k ≤ 6 ∨ k = 9))) := ((uy.weak fun a k w => Or.inr w).trans (uz.weak fun a k w => Or.inl w)).trans (u1.weak fun a k w => Or.inr ⟨w.1, by omega⟩)
  have hZ1 := hX.upd uA
  have K : ∀ a k, a ≠ 380 → a ≠ 381 → z1.2 a k = x.2 a k := fun a k q q' => uA.2.2 a k (fun w => by omega)
  have S1 : sv_Sl z1 := ⟨fun q q0 q1 => by rw [K 383 q (by omega) (by omega)]; exact hS.1 q q0 q1, fun q p q0 q1 p0 p1 => by rw [K 383 q (by omega) (by omega), K 383 p (by omega) (by omega)]; exact hS.2 q p q0 q1 p0 p1⟩
  obtain ⟨x', t1, t2, t3⟩ := sb_63 (x := z1) (w := nw) hZ1 (by rw [hz1, az_wr_same]) w8 S1 (fun p p0 p1 => by rw [K _ _ (by omega) (by omega), K _ _ (by omega) (by omega)]; exact hz p p0 p1) nw.toNat 2000000 z1 0 (by omega) (by omega) (by omega) bz_Upd.refl (fun p p0 p1 => by omega)
  have F : ∀ a k, a = 380 ∨ a = 381 → x'.2 a k = z1.2 a k := fun a k q => t2.2.2 a k (fun w => by unfold sb_X at w; omega)
  have Z : ∀ k, k ≠ 1 → z1.2 380 k = y.2 380 k := fun k q => by rw [u1.2.2 380 k (fun w => q w.2), uz.2.2 380 k (fun w => by omega)]
  refine ⟨x', ?_, (uA.weak fun a k w => Or.inr w).trans (t2.weak fun a k w => Or.inl w), ⟨?_, ?_, ?_, ?_, ?_, ?_, ?_, ?_⟩, fun i i0 i1 => ?_, fun p p0 p1 => ?_⟩
  · have e2 : (az_wr (az_wr (az_wr (az_wr (az_wr (az_wr x 380 0 1) 380 2 0) 380 3 (-1)) 380 4 0) 380 6 0) 380 9 1).2 161 2 = nu := by
      rw [az_wr_ne (by omega), az_wr_ne (by omega), az_wr_ne (by omega), az_wr_ne (by omega), az_wr_ne (by omega), az_wr_ne (by omega)]; exact h2
    have e1 : z.2 161 1 = nw := by rw [uz.2.2 161 1 (fun w => by omega), uy.2.2 161 1 (fun w => by omega)]; exact h1
    unfold fz_X8_begin
    simp only [e2, ← hy]
    rw [fx_161_7 hY, Option.bind_some, fx_380_7 hY, Option.bind_some]
    unfold az_cpy
    rw [if_pos ⟨by decide, by omega, by omega, by omega, by rw [ln_166 hY]; omega, by rw [ln_381 hY]; omega⟩, Option.bind_some, ← hz', e1, ← hz1]
    exact t1
  · rw [F _ _ (by omega), Z 0 (by omega), hy, az_wr_ne (by omega), az_wr_ne (by omega), az_wr_ne (by omega), az_wr_ne (by omega), az_wr_ne (by omega), az_wr_ne (by omega), az_wr_same]
  · rw [F _ _ (by omega), hz1, az_wr_same]
  · rw [F _ _ (by omega), Z 2 (by omega), hy, az_wr_ne (by omega), az_wr_ne (by omega), az_wr_ne (by omega), az_wr_ne (by omega), az_wr_ne (by omega), az_wr_same]
  · rw [F _ _ (by omega), Z 3 (by omega), hy, az_wr_ne (by omega), az_wr_ne (by omega), az_wr_ne (by omega), az_wr_ne (by omega), az_wr_same]
  · rw [F _ _ (by omega), Z 4 (by omega), hy, az_wr_ne (by omega), az_wr_ne (by omega), az_wr_ne (by omega), az_wr_same]
  · rw [F _ _ (by omega), Z 5 (by omega), hy, az_wr_same]
  · rw [F _ _ (by omega), Z 6 (by omega), hy, az_wr_ne (by omega), az_wr_ne (by omega), az_wr_same]
  · rw [F _ _ (by omega), Z 9 (by omega), hy, az_wr_ne (by omega), az_wr_same]
  · rw [F _ _ (by omega), u1.2.2 381 i (fun w => by omega)]; exact z381 i i0 i1
  · have := t3 p p0 p1
    rw [K 383 p (by omega) (by omega)] at this
    obtain ⟨⟨q1, q2⟩, ⟨q3, q4⟩, q5⟩ := this
    rw [K _ _ (by omega) (by omega)] at q1 q2 q3 q4
    exact ⟨⟨q1, fun i i0 i1 => by rw [q2 i i0 i1, K _ _ (by omega) (by omega)]⟩, ⟨q3, fun i i0 i1 => by rw [q4 i i0 i1, K _ _ (by omega) (by omega)]⟩, q5⟩
