/-! what is told depends on the Told and the side in use alone -/
theorem bz_TR.loc {σ σ' : az_Hp} {T s : Int} (q : bz_TR σ T s) (hX : mz_cS T σ σ') (hM : mz_mS s σ σ') : bz_TR σ' T s := by
  obtain ⟨hT, hs, ⟨n0, n1, tb, nc, nf, nd⟩, ⟨e1, e2, e3⟩, hE⟩ := q
  obtain ⟨t1, t2, t3, t4, t5, t6⟩ := tb
  have x0 : σ'.2 T 0 = σ.2 T 0 := hX _ _ (by omega)
  have x1 : σ'.2 T 1 = σ.2 T 1 := hX _ _ (by omega)
  have x2 : σ'.2 T 2 = σ.2 T 2 := hX _ _ (by omega)
  have ct : ∀ k, 0 ≤ k → k < σ.2 T 0 → bz_ct σ' s k = bz_ct σ s k := fun k k0 k1 => hM _ _ (by omega)
  have ft : ∀ k, 0 ≤ k → k < σ.2 T 1 → bz_ft σ' s k = bz_ft σ s k := fun k k0 k1 => hM _ _ (by omega)
  refine ⟨hT, hs, ⟨by rw [x0, hM 806 s (by omega)]; exact n0, by rw [x1, hM 807 s (by omega)]; exact n1, ⟨by omega, by omega, by omega, by omega, fun k k0 k1 => ?_, fun k k0 k1 => ?_⟩, fun k k0 k1 => ?_, fun k k0 k1 => ?_, fun k j k0 k1 j0 j1 => ?_⟩, by rw [x2, hM 808 s (by omega)]; exact ⟨e1, e2, e3⟩, fun e e0 e1' => ?_⟩
  · rw [x0] at k1; rw [ct k k0 k1]; exact t5 k k0 k1
  · rw [x1] at k1; rw [ft k k0 k1]; exact t6 k k0 k1
  · rw [x0] at k1
    rw [hX (T + 1) k (by omega), hX (T + 2) k (by omega), hM 809 _ (by omega), ct k k0 k1]
    exact nc k k0 k1
  · rw [x1] at k1
    rw [hX (T + 3) k (by omega), hX (T + 4) k (by omega), hX (T + 5) k (by omega), hX (T + 6) k (by omega), hM 810 _ (by omega), hM 813 _ (by omega), hM 814 _ (by omega), ft k k0 k1]
    exact nf k k0 k1
  · rw [x0] at k1
    rw [x1] at j1
    rw [hX (T + 1) k (by omega), hX (T + 3) j (by omega)]
    exact nd k j k0 k1 j0 j1
  · rw [x2] at e1'
    obtain ⟨q1, q2, q3, q4, q5, q6, q7, q8, q9, q10, q11⟩ := hE e e0 e1'
    have L : ∀ k, σ'.2 (T + 15 + 4 * e) k = σ.2 (T + 15 + 4 * e) k := fun k => hX _ _ (by omega)
    have L' : ∀ k, σ'.2 (T + 15 + 4 * e + 1) k = σ.2 (T + 15 + 4 * e + 1) k := fun k => hX _ _ (by omega)
    have R : ∀ k, σ'.2 (T + 17 + 4 * e) k = σ.2 (T + 17 + 4 * e) k := fun k => hX _ _ (by omega)
    have R' : ∀ k, σ'.2 (T + 17 + 4 * e + 1) k = σ.2 (T + 17 + 4 * e + 1) k := fun k => hX _ _ (by omega)
    have a7 : σ'.2 (T + 7) e = σ.2 (T + 7) e := hX _ _ (by omega)
    have a8 : σ'.2 (T + 8) e = σ.2 (T + 8) e := hX _ _ (by omega)
    have m5 : ∀ i, 0 ≤ i → i < 16 → σ'.2 815 (16 * (16 * s + e) + i) = σ.2 815 (16 * (16 * s + e) + i) := fun i i0 i1 => hM _ _ (by omega)
    have m6 : ∀ i, 0 ≤ i → i < 16 → σ'.2 816 (16 * (16 * s + e) + i) = σ.2 816 (16 * (16 * s + e) + i) := fun i i0 i1 => hM _ _ (by omega)
    have m50 : σ'.2 815 (16 * (16 * s + e)) = σ.2 815 (16 * (16 * s + e)) := hM _ _ (by omega)
    have raL : bz_ra σ' (T + 15 + 4 * e) = bz_ra σ (T + 15 + 4 * e) := funext fun k => by unfold bz_ra; rw [L']
    have raR : bz_ra σ' (T + 17 + 4 * e) = bz_ra σ (T + 17 + 4 * e) := funext fun k => by unfold bz_ra; rw [R']
    unfold bz_ER
    rw [L, R, a7, a8, raL, raR, m50, hM 817 _ (by omega), hM 818 _ (by omega), hM 819 _ (by omega)]
    refine ⟨q1, q2, q3, fun i i0 i1 => ?_, fun i i0 i1 => ?_, q6, q7, q8, fun i i0 i1 => ?_, fun i i0 i1 => ?_, fun v v0 v1 => ?_⟩
    · rw [L', m5 i i0 (by omega), x0, x1]
      exact (q4 i i0 i1).more ct ft (Int.le_refl _) (Int.le_refl _)
    · rw [R', m6 i i0 (by omega), x0, x1]
      exact (q5 i i0 i1).more ct ft (Int.le_refl _) (Int.le_refl _)
    · rw [m5 i (by omega) (by omega)]; exact q9 i i0 i1
    · rw [m6 i i0 (by omega)]; exact q10 i i0 i1
    · obtain ⟨i, i1, i2, i3⟩ := q11 v v0 v1
      exact ⟨i, i1, i2, by rw [m5 i (by omega) (by omega)]; exact i3⟩
/-! a whole TEXT, read by both -/
def wl_M (s a k : Int) : Prop := ld_MB s a k ∨ (a = 804 ∧ (k = 1 ∨ (5 ≤ k ∧ k ≤ 13) ∨ k = 15))
theorem ld_text {x m : az_Hp} {T s N : Int} {tp : Int → Int} (hX : bz_Fx x) (hM : bz_Fx m) (hTX : lx_tapeX x tp N) (hTM : ∀ i, 0 ≤ i → i < N → m.2 805 i = tp i) (hT : T = 3 ∨ T = 82) (hs : s = 0 ∨ s = 1) (h14 : m.2 804 14 = 1 - s) (hN : N ≤ m.2 804 1) :
    ∃ (w : Int) (x' m' : az_Hp), (w = 0 ∨ w = 1) ∧ fz_X4_readTold 2000000 x 223 2 N T = some (w, x') ∧ fz_X11_load 2000000 m 804 N = fz_X11_load_84 2000000 m' 804 w ∧ bz_Upd x x' (ld_X T) ∧ bz_Upd m m' (wl_M s) ∧ m'.2 804 1 = 0 ∧ m'.2 804 15 = s ∧ (w = 0 → lx_fault x' m') ∧ (w = 1 → ld_T x' m' T s ∧ m'.2 804 11 = 0 ∧ m'.2 804 12 = -1) := by
  have N0 := hTX.1.1
  obtain ⟨x0, hx0⟩ : ∃ x0, x0 = az_wr (az_wr (az_wr x T 0 0) T 1 0) T 2 0 := ⟨_, rfl⟩
  have fT : ∀ k, 0 ≤ k → k ≤ 2 → bz_isFix T k = false := fun k k0 k2 => by
    have : k = 0 ∨ k = 1 ∨ k = 2 := by omega
    rcases hT with rfl | rfl <;> rcases this with rfl | rfl | rfl <;> decide
  have u0 : bz_Upd x x0 (fun a k => a = T ∧ 0 ≤ k ∧ k ≤ 2) := by
    rw [hx0]
    exact bz_Upd.wr (bz_Upd.wr (bz_Upd.wr bz_Upd.refl ⟨rfl, by omega, by omega⟩ (fT 0 (by omega) (by omega))) ⟨rfl, by omega, by omega⟩ (fT 1 (by omega) (by omega))) ⟨rfl, by omega, by omega⟩ (fT 2 (by omega) (by omega))
  have hX0 := hX.upd u0
  have hTX0 : lx_tapeX x0 tp N := ⟨hTX.1, fun i i0 i1 => by rw [u0.2.2 2 i (fun z => by omega)]; exact hTX.2 i i0 i1⟩
  obtain ⟨x1, m1, J, b1, b2, C1, ux1, um1, x11, -, m11, m01⟩ := rd_begin (T := T) hX0 hM hTX0 hTM hT
  have hM1 := hM.upd um1
  have m114 : m1.2 804 14 = 1 - s := by rw [um1.2.2 804 14 (fun z => by omega)]; exact h14
  obtain ⟨m2, hm2⟩ : ∃ m2, m2 = az_wr m1 804 15 s := ⟨_, rfl⟩
  have u2 : bz_Upd m1 m2 (fun a k => a = 804 ∧ k = 15) := by rw [hm2]; exact bz_Upd.wr bz_Upd.refl ⟨rfl, rfl⟩ (by decide)
  have hM2 := hM1.upd u2
  obtain ⟨m3, hm3⟩ : ∃ m3, m3 = az_wr m2 806 s 0 := ⟨_, rfl⟩
  have u3 : bz_Upd m2 m3 (fun a k => (806 ≤ a ∧ a ≤ 808) ∧ k = s) := by rw [hm3]; exact bz_Upd.wr bz_Upd.refl ⟨⟨by omega, by omega⟩, rfl⟩ (by unfold bz_isFix; simp [bz_cap, bz_fixL, bz_rowsL])
  have hM3 := hM2.upd u3
  obtain ⟨m4, hm4⟩ : ∃ m4, m4 = az_wr m3 807 s 0 := ⟨_, rfl⟩
  have u4 : bz_Upd m3 m4 (fun a k => (806 ≤ a ∧ a ≤ 808) ∧ k = s) := by rw [hm4]; exact bz_Upd.wr bz_Upd.refl ⟨⟨by omega, by omega⟩, rfl⟩ (by unfold bz_isFix; simp [bz_cap, bz_fixL, bz_rowsL])
  have hM4 := hM3.upd u4
  obtain ⟨m5, hm5⟩ : ∃ m5, m5 = az_wr m4 808 s 0 := ⟨_, rfl⟩
  have u5 : bz_Upd m4 m5 (fun a k => (806 ≤ a ∧ a ≤ 808) ∧ k = s) := by rw [hm5]; exact bz_Upd.wr bz_Upd.refl ⟨⟨by omega, by omega⟩, rfl⟩ (by unfold bz_isFix; simp [bz_cap, bz_fixL, bz_rowsL])
  have hM5 := hM4.upd u5
  have u35 := (u3.trans u4).trans u5
  have m215 : m2.2 804 15 = s := by rw [hm2, az_wr_same]
  have m315 : m3.2 804 15 = s := by rw [u3.2.2 804 15 (fun z => by omega)]; exact m215
  have m415 : m4.2 804 15 = s := by rw [u4.2.2 804 15 (fun z => by omega)]; exact m315
  have m515 : m5.2 804 15 = s := by rw [u5.2.2 804 15 (fun z => by omega)]; exact m415
  have runM : fz_X11_load 2000000 m 804 N = fz_X11_load_65 2000000 2000000 m5 804 1 := by
    unfold fz_X11_load fz_X11_isFrom
    rw [if_neg (by omega), if_neg (by omega), Option.bind_some, if_neg (show ¬ (1 : Int) = 0 by decide), b2, Option.bind_some, m114, az_w32_id (by omega) (by omega), show (1 : Int) - (1 - s) = s by omega, ← hm2, fx_804_16 hM2, Option.bind_some, m215, bz_awr (by omega) (by rw [ln_806 hM2]; omega), Option.bind_some, ← hm3, fx_804_17 hM3, Option.bind_some, m315, bz_awr (by omega) (by rw [ln_807 hM3]; omega), Option.bind_some, ← hm4, fx_804_18 hM4, Option.bind_some, m415, bz_awr (by omega) (by rw [ln_808 hM4]; omega), Option.bind_some, ← hm5]
  have runX : fz_X4_readTold 2000000 x 223 2 N T = fz_X4_readTold_14 2000000 2000000 x1 223 T 0 := by
    unfold fz_X4_readTold fz_X9_clear
    rw [← hx0, Option.bind_some, b1, Option.bind_some]
  have xT : ∀ k, 0 ≤ k → k ≤ 2 → x1.2 T k = 0 := fun k k0 k2 => by
    rw [ux1.2.2 T k (fun z => by unfold lx_SX at z; omega), hx0]
    have : k = 0 ∨ k = 1 ∨ k = 2 := by omega
    rcases this with rfl | rfl | rfl
    · rw [az_wr_ne (by omega), az_wr_ne (by omega), az_wr_same]
    · rw [az_wr_ne (by omega), az_wr_same]
    · rw [az_wr_same]
  have c0 := xT 0 (by omega) (by omega)
  have c1 := xT 1 (by omega) (by omega)
  have c2 := xT 2 (by omega) (by omega)
  have d6 : m5.2 806 s = 0 := by rw [hm5, az_wr_ne (by omega), hm4, az_wr_ne (by omega), hm3, az_wr_same]
  have d7 : m5.2 807 s = 0 := by rw [hm5, az_wr_ne (by omega), hm4, az_wr_same]
  have d8 : m5.2 808 s = 0 := by rw [hm5, az_wr_same]
  have S0 : ld_S tp N x1 m5 T s J 0 := by
    refine ⟨⟨hX0.upd ux1, hM5⟩, (C1.upd (bz_Upd.refl (S := fun _ _ => False)) u2 (fun a k z => z.elim) (fun a k z => by unfold lx_KM; omega)).upd (bz_Upd.refl (S := fun _ _ => False)) u35 (fun a k z => z.elim) (fun a k z => by unfold lx_KM; omega), ?_, x11⟩
    exact ⟨⟨hT, hs, m515, ⟨by omega, by omega⟩, ⟨by omega, by omega, by omega, by omega, fun k k0 k1 => by omega, fun k k0 k1 => by omega⟩, fun k k0 k1 => by omega, fun k k0 k1 => by omega, fun k j k0 k1 => by omega⟩, fun k k0 k1 => by omega, ⟨by omega, by omega, by omega⟩, fun e e0 e1 => by omega⟩
  have J9 := C1.1.2.1
  have um5 : bz_Upd m m5 (wl_M s) := ((um1.weak fun a k z => Or.inr (by omega)).trans (u2.weak fun a k z => Or.inr (by omega))).trans (u35.weak fun a k z => Or.inl (Or.inl (Or.inr (by omega))))
  have ux1' : bz_Upd x x1 (ld_X T) := (u0.weak fun a k z => Or.inl (by omega)).trans (ux1.weak fun a k z => Or.inr (Or.inl (by unfold lx_SX at z; omega)))
  have m51 : m5.2 804 1 = 0 := by rw [u35.2.2 804 1 (fun z => by omega), u2.2.2 804 1 (fun z => by omega)]; exact m01
  have m511 : m5.2 804 11 = 0 ∧ m5.2 804 12 = -1 := by
    rw [u35.2.2 804 11 (fun z => by omega), u2.2.2 804 11 (fun z => by omega), u35.2.2 804 12 (fun z => by omega), u2.2.2 804 12 (fun z => by omega)]
    exact m11
  rcases ld_loop J 2000000 2000000 x1 m5 0 0 (by omega) (by omega) (by omega) S0 (by omega) (by omega) with ⟨x', m', e1, e2, e3, e4, e5⟩ | ⟨x', m', e1, e2, e3, e4, e5, e6⟩
  · refine ⟨0, x', m', Or.inl rfl, by rw [runX, e1], by rw [runM, e2], ux1'.trans e3, um5.trans (e4.weak fun a k z => Or.inl z), ?_, ?_, fun _ => e5, fun z => by omega⟩
    · rw [e4.2.2 804 1 (fun z => by unfold ld_MB ld_M at z; omega)]; exact m51
    · rw [e4.2.2 804 15 (fun z => by unfold ld_MB ld_M at z; omega)]; exact m515
  · refine ⟨1, x', m', Or.inr rfl, by rw [runX, e1], by rw [runM, e2], ux1'.trans e3, um5.trans (e4.weak fun a k z => Or.inl (Or.inl z)), ?_, ?_, fun z => by omega, fun _ => ⟨e5, ?_, ?_⟩⟩
    · rw [e4.2.2 804 1 (fun z => by unfold ld_M at z; omega)]; exact m51
    · rw [e4.2.2 804 15 (fun z => by unfold ld_M at z; omega)]; exact m515
    · rw [e4.2.2 804 11 (fun z => by unfold ld_M at z; omega)]; exact m511.1
    · rw [e4.2.2 804 12 (fun z => by unfold ld_M at z; omega)]; exact m511.2
