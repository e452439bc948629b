/-! a constructor, a family more -/
theorem ld_con {x m x' m' : az_Hp} {T s v w ar : Int} (h : ld_T x m T s) (n8 : x.2 T 0 < 8) (wr : bz_WR 64 v w) (a0 : 0 ≤ ar) (a3 : ar ≤ 3) (new : ∀ k, 0 ≤ k → k < x.2 T 1 → x.2 (T + 3) k ≠ v) (c1 : x'.2 T 0 = x.2 T 0 + 1) (c2 : x'.2 (T + 1) (x.2 T 0) = v) (c3 : x'.2 (T + 2) (x.2 T 0) = x.2 T 0 * 16 + ar * 4 + 1) (cX : ∀ a k, T ≤ a → a ≤ T + 78 → ¬ (a = T ∧ k = 0) → ¬ ((a = T + 1 ∨ a = T + 2) ∧ k = x.2 T 0) → x'.2 a k = x.2 a k) (d1 : m'.2 806 s = x.2 T 0 + 1) (d2 : m'.2 809 (8 * s + x.2 T 0) = w) (d3 : m'.2 811 (8 * s + x.2 T 0) = ar) (dM : ∀ a k, 806 ≤ a → a ≤ 819 → ¬ (a = 806 ∧ k = s) → ¬ ((a = 809 ∨ a = 811) ∧ k = 8 * s + x.2 T 0) → m'.2 a k = m.2 a k) (d15 : m'.2 804 15 = m.2 804 15) : ld_T x' m' T s := by
  obtain ⟨⟨hT, hs, n15, ⟨n4, n4'⟩, ⟨t1, t2, t3, t4, t5, t6⟩, n6, n7, n8'⟩, h2, h3, h4⟩ := h
  have x1 : x'.2 T 1 = x.2 T 1 := cX T 1 (by omega) (by omega) (by omega) (by omega)
  have x2 : x'.2 T 2 = x.2 T 2 := cX T 2 (by omega) (by omega) (by omega) (by omega)
  have ct : ∀ k, 0 ≤ k → k < x.2 T 0 → bz_ct m' s k = bz_ct m s k := fun k k0 k1 => dM 811 _ (by omega) (by omega) (by omega) (by omega)
  have ctn : bz_ct m' s (x.2 T 0) = ar := d3
  have ft : bz_ft m' s = bz_ft m s := funext fun k => dM 812 _ (by omega) (by omega) (by omega) (by omega)
  refine ⟨⟨hT, hs, by rw [d15]; exact n15, ⟨by rw [c1, d1], by rw [x1, dM 807 s (by omega) (by omega) (by omega) (by omega)]; exact n4'⟩, ⟨by omega, by omega, by rw [x1]; exact t3, by rw [x1]; exact t4, fun k k0 k1 => ?_, fun k k0 k1 => by rw [ft]; rw [x1] at k1; exact t6 k k0 k1⟩, fun k k0 k1 => ?_, fun k k0 k1 => ?_, fun k j k0 k1 j0 j1 => ?_⟩, fun k k0 k1 => ?_, by rw [x2, dM 808 s (by omega) (by omega) (by omega) (by omega)]; exact h3, fun e e0 e1 => ?_⟩
  · by_cases ez : k = x.2 T 0
    · rw [ez, ctn]; exact ⟨a0, a3⟩
    · rw [ct k k0 (by omega)]; exact t5 k k0 (by omega)
  · by_cases ez : k = x.2 T 0
    · rw [ez, c2, c3, d2, ctn]; exact ⟨wr, rfl⟩
    · rw [cX (T + 1) k (by omega) (by omega) (by omega) (by omega), cX (T + 2) k (by omega) (by omega) (by omega) (by omega), dM 809 _ (by omega) (by omega) (by omega) (by omega), ct k k0 (by omega)]
      exact n6 k k0 (by omega)
  · rw [x1] at k1
    rw [cX (T + 3) k (by omega) (by omega) (by omega) (by omega), cX (T + 4) k (by omega) (by omega) (by omega) (by omega), dM 810 _ (by omega) (by omega) (by omega) (by omega), ft]
    exact n7 k k0 k1
  · rw [x1] at j1
    rw [cX (T + 3) j (by omega) (by omega) (by omega) (by omega)]
    by_cases ez : k = x.2 T 0
    · rw [ez, c2]; exact fun q => new j j0 j1 q.symm
    · rw [cX (T + 1) k (by omega) (by omega) (by omega) (by omega)]; exact n8' k j k0 (by omega) j0 j1
  · rw [x1] at k1
    rw [cX (T + 5) k (by omega) (by omega) (by omega) (by omega), cX (T + 6) k (by omega) (by omega) (by omega) (by omega), dM 813 _ (by omega) (by omega) (by omega) (by omega), dM 814 _ (by omega) (by omega) (by omega) (by omega)]
    exact h2 k k0 k1
  · rw [x2] at e1
    exact (h4 e e0 e1).more e0 (by omega) hT (fun a k q => cX a k (by omega) (by omega) (by omega) (by omega)) (fun a k p q => dM a k (by omega) q (by omega) (by omega)) ct (fun k _ _ => by rw [ft]) (by omega) (by omega)
theorem ld_fam {x m x' m' : az_Hp} {T s v w ar cl bk : Int} (h : ld_T x m T s) (n5' : x.2 T 1 < 5) (wr : bz_WR 64 v w) (a0 : 1 ≤ ar) (a3 : ar ≤ 3) (hcl : cl = 0 ∨ cl = 1) (hbk : bk = 0 ∨ bk = 1) (new : ∀ k, 0 ≤ k → k < x.2 T 0 → x.2 (T + 1) k ≠ v) (c1 : x'.2 T 1 = x.2 T 1 + 1) (c2 : x'.2 (T + 3) (x.2 T 1) = v) (c3 : x'.2 (T + 4) (x.2 T 1) = x.2 T 1 * 16 + ar * 4 + 2) (c4 : x'.2 (T + 5) (x.2 T 1) = cl) (c5 : x'.2 (T + 6) (x.2 T 1) = bk) (cX : ∀ a k, T ≤ a → a ≤ T + 78 → ¬ (a = T ∧ k = 1) → ¬ ((T + 3 ≤ a ∧ a ≤ T + 6) ∧ k = x.2 T 1) → x'.2 a k = x.2 a k) (d1 : m'.2 807 s = x.2 T 1 + 1) (d2 : m'.2 810 (5 * s + x.2 T 1) = w) (d3 : m'.2 812 (5 * s + x.2 T 1) = ar) (d4 : m'.2 813 (5 * s + x.2 T 1) = cl) (d5 : m'.2 814 (5 * s + x.2 T 1) = bk) (dM : ∀ a k, 806 ≤ a → a ≤ 819 → ¬ (a = 807 ∧ k = s) → ¬ ((a = 810 ∨ (812 ≤ a ∧ a ≤ 814)) ∧ k = 5 * s + x.2 T 1) → m'.2 a k = m.2 a k) (d15 : m'.2 804 15 = m.2 804 15) : ld_T x' m' T s := by
  obtain ⟨⟨hT, hs, n15, ⟨n4, n4'⟩, ⟨t1, t2, t3, t4, t5, t6⟩, n6, n7, n8'⟩, h2, h3, h4⟩ := h
  have x0 : x'.2 T 0 = x.2 T 0 := cX T 0 (by omega) (by omega) (by omega) (by omega)
  have x2 : x'.2 T 2 = x.2 T 2 := cX T 2 (by omega) (by omega) (by omega) (by omega)
  have ft : ∀ k, 0 ≤ k → k < x.2 T 1 → bz_ft m' s k = bz_ft m s k := fun k k0 k1 => dM 812 _ (by omega) (by omega) (by omega) (by omega)
  have ftn : bz_ft m' s (x.2 T 1) = ar := d3
  have ct : bz_ct m' s = bz_ct m s := funext fun k => dM 811 _ (by omega) (by omega) (by omega) (by omega)
  refine ⟨⟨hT, hs, by rw [d15]; exact n15, ⟨by rw [x0, dM 806 s (by omega) (by omega) (by omega) (by omega)]; exact n4, by rw [c1, d1]⟩, ⟨by rw [x0]; exact t1, by rw [x0]; exact t2, by omega, by omega, fun k k0 k1 => by rw [ct]; rw [x0] at k1; exact t5 k k0 k1, fun k k0 k1 => ?_⟩, fun k k0 k1 => ?_, fun k k0 k1 => ?_, fun k j k0 k1 j0 j1 => ?_⟩, fun k k0 k1 => ?_, by rw [x2, dM 808 s (by omega) (by omega) (by omega) (by omega)]; exact h3, fun e e0 e1 => ?_⟩
  · by_cases ez : k = x.2 T 1
    · rw [ez, ftn]; exact ⟨a0, a3⟩
    · rw [ft k k0 (by omega)]; exact t6 k k0 (by omega)
  · rw [x0] at k1
    rw [cX (T + 1) k (by omega) (by omega) (by omega) (by omega), cX (T + 2) k (by omega) (by omega) (by omega) (by omega), dM 809 _ (by omega) (by omega) (by omega) (by omega), ct]
    exact n6 k k0 k1
  · by_cases ez : k = x.2 T 1
    · rw [ez, c2, c3, d2, ftn]; exact ⟨wr, rfl⟩
    · rw [cX (T + 3) k (by omega) (by omega) (by omega) (by omega), cX (T + 4) k (by omega) (by omega) (by omega) (by omega), dM 810 _ (by omega) (by omega) (by omega) (by omega), ft k k0 (by omega)]
      exact n7 k k0 (by omega)
  · rw [x0] at k1
    rw [cX (T + 1) k (by omega) (by omega) (by omega) (by omega)]
    by_cases ez : j = x.2 T 1
    · rw [ez, c2]; exact new k k0 k1
    · rw [cX (T + 3) j (by omega) (by omega) (by omega) (by omega)]; exact n8' k j k0 k1 j0 (by omega)
  · by_cases ez : k = x.2 T 1
    · rw [ez, c4, c5, d4, d5]; exact ⟨⟨rfl, hcl⟩, ⟨rfl, hbk⟩⟩
    · rw [cX (T + 5) k (by omega) (by omega) (by omega) (by omega), cX (T + 6) k (by omega) (by omega) (by omega) (by omega), dM 813 _ (by omega) (by omega) (by omega) (by omega), dM 814 _ (by omega) (by omega) (by omega) (by omega)]
      exact h2 k k0 (by omega)
  · rw [x2] at e1
    exact (h4 e e0 e1).more e0 (by omega) hT (fun a k q => cX a k (by omega) (by omega) (by omega) (by omega)) (fun a k p q => dM a k (by omega) q (by omega) (by omega)) (fun k _ _ => by rw [ct]) ft (by omega) (by omega)
/-- the class adds one -/
theorem ld_addCon {x : az_Hp} {T v ar : Int} (hF : bz_Fx x) (hT : T = 3 ∨ T = 82) (n0 : 0 ≤ x.2 T 0) (n8 : x.2 T 0 < 8) (a0 : 0 ≤ ar) (a3 : ar ≤ 3) : fz_X9_addCon x T v ar = some (az_wr (az_wr (az_wr x (T + 1) (x.2 T 0) v) (T + 2) (x.2 T 0) (x.2 T 0 * 16 + ar * 4 + 1)) T 0 (x.2 T 0 + 1)) := by
  have fa : ∀ k, bz_isFix (T + 1) k = false ∧ bz_isFix (T + 2) k = false := fun k => by
    rcases hT with rfl | rfl
    · exact ⟨by unfold bz_isFix; simp [bz_cap, bz_fixL, bz_rowsL], by unfold bz_isFix; simp [bz_cap, bz_fixL, bz_rowsL]⟩
    · exact ⟨by unfold bz_isFix; simp [bz_cap, bz_fixL, bz_rowsL], by unfold bz_isFix; simp [bz_cap, bz_fixL, bz_rowsL]⟩
  have h1 : bz_Fx (az_wr x (T + 1) (x.2 T 0) v) := hF.upd (S := fun _ _ => True) (bz_Upd.wr bz_Upd.refl trivial (fa _).1)
  have g := bz_tg hF hT
  have l := bz_tl hF hT
  have g1 := bz_tg h1 hT
  have l1 := bz_tl h1 hT
  have mk : ∀ y : az_Hp, fz_X7_make y 1 ar (x.2 T 0) = some (x.2 T 0 * 16 + ar * 4 + 1) := fun y => by
    unfold fz_X7_make
    rw [bz_make n0 (by omega) a0 (by omega) (by omega) (by omega)]
  unfold fz_X9_addCon
  rw [if_pos n8, g.1, Option.bind_some, bz_awr n0 (by omega), Option.bind_some, g1.2.1, Option.bind_some, az_wr_ne (by omega), mk, Option.bind_some, bz_awr n0 (by omega), Option.bind_some, az_wr_ne (by omega), az_wr_ne (by omega), az_w32_id (by omega) (by omega)]
theorem ld_addFam {x : az_Hp} {T v ar cl bk : Int} (hF : bz_Fx x) (hT : T = 3 ∨ T = 82) (n0 : 0 ≤ x.2 T 1) (n5 : x.2 T 1 < 5) (a0 : 0 ≤ ar) (a3 : ar ≤ 3) (hcl : cl = 0 ∨ cl = 1) (hbk : bk = 0 ∨ bk = 1) : fz_X9_addFam x T v ar cl bk = some (az_wr (az_wr (az_wr (az_wr (az_wr x (T + 3) (x.2 T 1) v) (T + 4) (x.2 T 1) (x.2 T 1 * 16 + ar * 4 + 2)) (T + 5) (x.2 T 1) cl) (T + 6) (x.2 T 1) bk) T 1 (x.2 T 1 + 1)) := by
  have fa : ∀ i k, 3 ≤ i → i ≤ 6 → bz_isFix (T + i) k = false := fun i k i0 i1 => by
    have : i = 3 ∨ i = 4 ∨ i = 5 ∨ i = 6 := by omega
    rcases hT with rfl | rfl <;> rcases this with rfl | rfl | rfl | rfl <;> (unfold bz_isFix; simp [bz_cap, bz_fixL, bz_rowsL])
  have ua : bz_Upd x (az_wr x (T + 3) (x.2 T 1) v) (fun _ _ => True) := bz_Upd.wr bz_Upd.refl trivial (fa 3 _ (by omega) (by omega))
  have ub : bz_Upd x (az_wr (az_wr x (T + 3) (x.2 T 1) v) (T + 4) (x.2 T 1) (x.2 T 1 * 16 + ar * 4 + 2)) (fun _ _ => True) := bz_Upd.wr ua trivial (fa 4 _ (by omega) (by omega))
  have uc : bz_Upd x (az_wr (az_wr (az_wr x (T + 3) (x.2 T 1) v) (T + 4) (x.2 T 1) (x.2 T 1 * 16 + ar * 4 + 2)) (T + 5) (x.2 T 1) cl) (fun _ _ => True) := bz_Upd.wr ub trivial (fa 5 _ (by omega) (by omega))
  have g := bz_tg hF hT
  have l := bz_tl hF hT
  have g1 := bz_tg (hF.upd ua) hT
  have l1 := bz_tl (hF.upd ua) hT
  have g2 := bz_tg (hF.upd ub) hT
  have l2 := bz_tl (hF.upd ub) hT
  have g3 := bz_tg (hF.upd uc) hT
  have l3 := bz_tl (hF.upd uc) hT
  have mk : ∀ y : az_Hp, fz_X7_make y 2 ar (x.2 T 1) = some (x.2 T 1 * 16 + ar * 4 + 2) := fun y => by
    unfold fz_X7_make
    rw [bz_make n0 (by omega) a0 (by omega) (by omega) (by omega)]
  unfold fz_X9_addFam
  rw [if_pos n5, g.2.2.1, Option.bind_some, bz_awr n0 (by omega), Option.bind_some, g1.2.2.2.1, Option.bind_some, az_wr_ne (by omega), mk, Option.bind_some, bz_awr n0 (by omega), Option.bind_some, g2.2.2.2.2.1, Option.bind_some, az_wr_ne (by omega), az_wr_ne (by omega), bz_awz n0 (by omega) hcl, Option.bind_some, g3.2.2.2.2.2.1, Option.bind_some, az_wr_ne (by omega), az_wr_ne (by omega), az_wr_ne (by omega), bz_awz n0 (by omega) hbk, Option.bind_some, az_wr_ne (by omega), az_wr_ne (by omega), az_wr_ne (by omega), az_wr_ne (by omega), az_w32_id (by omega) (by omega)]
