/-! the call load: both read, both judge -/
theorem cz_nk804 {a k : Int} (q : a = 804 ∧ ((5 ≤ k ∧ k ≤ 13) ∨ (16 ≤ k ∧ k ≤ 56))) : cz_nk a k := Or.inr (Or.inr (Or.inr (Or.inr (Or.inr (Or.inr (Or.inr (Or.inr (Or.inr (Or.inl ⟨q.1, by omega⟩)))))))))
theorem cz_nk820 {a k : Int} (q : 820 ≤ a ∧ a ≤ 833) : cz_nk a k := Or.inr (Or.inr (Or.inr (Or.inr (Or.inr (Or.inr (Or.inr (Or.inr (Or.inr (Or.inr (Or.inl q))))))))))
theorem cz_nk161 {a k : Int} (q : 161 ≤ a ∧ a ≤ 242) : cz_nk a k := Or.inr (Or.inl q)
theorem wl_M_nt {T s r a k : Int} (h : wl_M r a k) : cz_nt a k ∨ wl_O T s a k ∨ (a = 804 ∧ k = 15) := by
  have : (a = 804 ∧ k = 15) ∨ (a = 804 ∧ k = 1) ∨ (a = 804 ∧ ((5 ≤ k ∧ k ≤ 13) ∨ (16 ≤ k ∧ k ≤ 56))) ∨ (820 ≤ a ∧ a ≤ 833) ∨ (806 ≤ a ∧ a ≤ 819) := by
    unfold wl_M ld_MB ld_M at h
    omega
  rcases this with q | q | q | q | q
  · exact Or.inr (Or.inr q)
  · exact Or.inl (Or.inr (Or.inr (Or.inr (Or.inl ⟨q.1, Or.inl q.2⟩))))
  · exact Or.inl (Or.inl (Or.inl (cz_nk804 q)))
  · exact Or.inl (Or.inl (Or.inl (cz_nk820 q)))
  · exact Or.inr (Or.inl (Or.inr q))
theorem ld_X_nt {T s a k : Int} (h : ld_X (85 - T) a k) : cz_nt a k ∨ wl_O T s a k := by
  unfold ld_X at h
  rcases h with q | q | q | q
  · exact Or.inr (Or.inl (by omega))
  · exact Or.inl (Or.inl (Or.inl (cz_nk161 (by omega))))
  · exact Or.inl (Or.inl (Or.inl (cz_nk161 (by omega))))
  · exact Or.inl (Or.inl (Or.inl (cz_nk161 (by omega))))
theorem wl_M_mS {s a k : Int} (hs : s = 0 ∨ s = 1) (q : (806 ≤ a ∧ a ≤ 808 ∧ k = s) ∨ ((a = 809 ∨ a = 811) ∧ 8 * s ≤ k ∧ k < 8 * s + 8) ∨ ((a = 810 ∨ (812 ≤ a ∧ a ≤ 814)) ∧ 5 * s ≤ k ∧ k < 5 * s + 5) ∨ ((a = 815 ∨ a = 816) ∧ 256 * s ≤ k ∧ k < 256 * s + 256) ∨ (817 ≤ a ∧ a ≤ 819 ∧ 16 * s ≤ k ∧ k < 16 * s + 16)) : ¬ wl_M (1 - s) a k := by
  intro h
  unfold wl_M ld_MB ld_M at h
  rcases q with q | q | q | q | q <;> omega
/-- the class judges what it has read -/
def ld_tX (x2 : az_Hp) : Option (Int × az_Hp) := ((az_gref x2 1 5).bind fun x7 => ((az_gref x2 1 6).bind fun x8 => ((az_gref (az_wr (az_wr x2 1 5 x8) 1 6 x7) 1 10).bind fun x9 => ((az_gref (az_wr (az_wr x2 1 5 x8) 1 6 x7) 1 5).bind fun x10 => ((fz_X1_judgeAll 2000000 (az_wr (az_wr x2 1 5 x8) 1 6 x7) x9 x10).bind fun r11 => ((az_gref r11 1 11).bind fun x12 => ((az_gref r11 1 5).bind fun x13 => ((az_gref (az_wr r11 x12 2 x13) 1 12).bind fun x14 => ((az_gref (az_wr (az_wr (az_wr r11 x12 2 x13) x14 1 0) 1 15 (-1)) 1 16).bind fun x15 => ((fz_X8_forget (az_wr (az_wr (az_wr r11 x12 2 x13) x14 1 0) 1 15 (-1)) x15).bind fun r16 => ((az_gref r16 1 5).bind fun x17 => ((fz_X10_give r16 1 (r16.2 x17 2)).bind fun r18 => (some (r18.1, r18.2))))))))))))))
def ld_J11 (x y : az_Hp) (U : Int) : Prop := ∀ j i, 0 ≤ j → j < x.2 U 2 → 0 ≤ i → i ≤ j → (y.2 (U + 11) (16 * j + i) = 0 ∨ y.2 (U + 11) (16 * j + i) = 1) ∧ y.2 (U + 11) (16 * i + j) = y.2 (U + 11) (16 * j + i) ∧ (x.2 (U + 7) j = x.2 (U + 7) i → nz_Ag x U i j (y.2 (U + 11) (16 * j + i)))
def ld_J12 (x y : az_Hp) (U : Int) : Prop := ∀ j, 0 ≤ j → j < x.2 U 1 → ∃ u u', bz_Fx u ∧ mz_cS U x u ∧ fz_X1_judgeBackwards 2000000 u 242 U j = some u' ∧ y.2 (U + 12) j = u'.2 (U + 12) j ∧ y.2 (U + 13) j = u'.2 (U + 13) j ∧ y.2 (U + 14) j = u'.2 (U + 14) j
def ld_YX (U a k : Int) : Prop := nz_C U a k ∨ (a = 1 ∧ (k = 2 ∨ k = 5 ∨ k = 6 ∨ k = 15)) ∨ (a = 243 ∧ k = 2) ∨ (a = 375 ∧ k = 1) ∨ (a = 380 ∧ (k = 0 ∨ k = 1 ∨ k = 5 ∨ k = 6))
theorem ld_classX {x2 σv : az_Hp} {T U r : Int} (hv : mz_H x2 σv U r) (x25 : x2.2 1 5 = T) (x26 : x2.2 1 6 = U) (hT : 0 < T) : ∃ y, ld_tX x2 = some (y.2 U 2, y) ∧ bz_Upd x2 y (ld_YX U) ∧ (y.2 1 2 = 0 ∧ y.2 1 5 = U ∧ y.2 1 6 = T ∧ y.2 1 15 = -1 ∧ y.2 375 1 = 0 ∧ y.2 243 2 = U ∧ y.2 380 0 = 0 ∧ y.2 380 5 = 0 ∧ y.2 380 6 = 0) ∧ ld_J11 x2 y U ∧ ld_J12 x2 y U := by
  have hU3 := hv.2.2.1.1
  have hX2 := hv.1
  obtain ⟨x3, hx3⟩ : ∃ x3, x3 = az_wr (az_wr x2 1 5 U) 1 6 T := ⟨_, rfl⟩
  have u3 : bz_Upd x2 x3 (fun a k => a = 1 ∧ (k = 5 ∨ k = 6)) := by rw [hx3]; exact bz_Upd.wr (bz_Upd.wr bz_Upd.refl ⟨rfl, by omega⟩ (by decide)) ⟨rfl, by omega⟩ (by decide)
  have hX3 := hX2.upd u3
  have x3x : ∀ a k, a ≠ 1 → x3.2 a k = x2.2 a k := fun a k q => u3.2.2 a k (fun z => q z.1)
  have x35 : x3.2 1 5 = U := by rw [hx3, az_wr_ne (by omega), az_wr_same]
  have c23 : mz_cS U x2 x3 := fun a k q => x3x a k (by omega)
  have hV : mz_H x3 σv U r := hv.x hX3 c23
  have nbV := mz_nb hV
  obtain ⟨x4, j1, j2, -, j4, j5⟩ := nz_ja2 (x3.2 U 2).toNat 2000000 x3 0 hV (by omega) (by omega) (by omega)
  have hX4 := hX3.upd j2
  have x4k : ∀ k, x4.2 1 k = x3.2 1 k := fun k => j2.2.2 1 k (fun z => by unfold nz_C cz_SJ at z; omega)
  have x45 : x4.2 1 5 = U := by rw [x4k]; exact x35
  obtain ⟨x5, hx5⟩ : ∃ x5, x5 = az_wr x4 243 2 U := ⟨_, rfl⟩
  have u5 : bz_Upd x4 x5 (fun a k => a = 243 ∧ k = 2) := by rw [hx5]; exact bz_Upd.wr bz_Upd.refl ⟨rfl, rfl⟩ (by decide)
  have hX5 := hX4.upd u5
  obtain ⟨x7, hx7⟩ : ∃ x7, x7 = az_wr (az_wr x5 375 1 0) 1 15 (-1) := ⟨_, rfl⟩
  have u7 : bz_Upd x5 x7 (fun a k => (a = 375 ∧ k = 1) ∨ (a = 1 ∧ k = 15)) := by rw [hx7]; exact bz_Upd.wr (bz_Upd.wr bz_Upd.refl (Or.inl ⟨rfl, rfl⟩) (by decide)) (Or.inr ⟨rfl, rfl⟩) (by decide)
  have hX7 := hX5.upd u7
  obtain ⟨x8, hx8⟩ : ∃ x8, x8 = az_wr (az_wr (az_wr (az_wr x7 380 0 0) 380 1 0) 380 5 0) 380 6 0 := ⟨_, rfl⟩
  have u8 : bz_Upd x7 x8 (fun a k => a = 380 ∧ (k = 0 ∨ k = 1 ∨ k = 5 ∨ k = 6)) := by
    rw [hx8]
    exact bz_Upd.wr (bz_Upd.wr (bz_Upd.wr (bz_Upd.wr bz_Upd.refl ⟨rfl, by omega⟩ (by decide)) ⟨rfl, by omega⟩ (by decide)) ⟨rfl, by omega⟩ (by decide)) ⟨rfl, by omega⟩ (by decide)
  obtain ⟨y, hy⟩ : ∃ y, y = az_wr x8 1 2 0 := ⟨_, rfl⟩
  have u9 : bz_Upd x8 y (fun a k => a = 1 ∧ k = 2) := by rw [hy]; exact bz_Upd.wr bz_Upd.refl ⟨rfl, rfl⟩ (by decide)
  have u49 : bz_Upd x4 y (fun a k => (a = 243 ∧ k = 2) ∨ (a = 375 ∧ k = 1) ∨ (a = 1 ∧ (k = 2 ∨ k = 15)) ∨ (a = 380 ∧ (k = 0 ∨ k = 1 ∨ k = 5 ∨ k = 6))) := (((u5.weak fun a k z => Or.inl z).trans (u7.weak fun a k z => by rcases z with z | z; exact Or.inr (Or.inl z); exact Or.inr (Or.inr (Or.inl (by omega))))).trans (u8.weak fun a k z => Or.inr (Or.inr (Or.inr z)))).trans (u9.weak fun a k z => Or.inr (Or.inr (Or.inl (by omega))))
  have yT : ∀ a k, U ≤ a → a ≤ U + 78 → y.2 a k = x4.2 a k := fun a k q q' => u49.2.2 a k (fun z => by omega)
  have x85 : x8.2 1 5 = U := by rw [u8.2.2 1 5 (fun z => by omega), u7.2.2 1 5 (fun z => by omega), u5.2.2 1 5 (fun z => by omega)]; exact x45
  have jA : fz_X1_judgeAll 2000000 x3 242 U = some x4 := j1
  have x7f : fz_X8_forget x7 380 = some x8 := by unfold fz_X8_forget; rw [hx8]
  have y2 : y.2 U 2 = x8.2 U 2 := by rw [hy, az_wr_ne (by omega)]
  refine ⟨y, ?_, ((u3.weak fun a k z => Or.inr (Or.inl (by omega))).trans (j2.weak fun a k z => Or.inl z)).trans (u49.weak fun a k z => ?_), ⟨by rw [hy, az_wr_same], by rw [hy, az_wr_ne (by omega)]; exact x85, ?_, ?_, ?_, ?_, ?_, ?_, ?_⟩, ?_, ?_⟩
  · unfold ld_tX
    rw [bz_gr x25 hT, Option.bind_some, bz_gr x26 (by omega), Option.bind_some, ← hx3, fx_1_10 hX3, Option.bind_some, bz_gr x35 (by omega), Option.bind_some, jA, Option.bind_some, fx_1_11 hX4, Option.bind_some, bz_gr x45 (by omega), Option.bind_some, ← hx5, fx_1_12 hX5, Option.bind_some, ← hx7, fx_1_16 hX7, Option.bind_some, x7f, Option.bind_some, bz_gr x85 (by omega), Option.bind_some, y2, hy]
    rfl
  · rcases z with z | z | z | z
    · exact Or.inr (Or.inr (Or.inl z))
    · exact Or.inr (Or.inr (Or.inr (Or.inl z)))
    · exact Or.inr (Or.inl (by omega))
    · exact Or.inr (Or.inr (Or.inr (Or.inr z)))
  · rw [u49.2.2 1 6 (fun z => by omega), x4k, hx3, az_wr_same]
  · rw [hy, az_wr_ne (by omega), u8.2.2 1 15 (fun z => by omega), hx7, az_wr_same]
  · rw [hy, az_wr_ne (by omega), u8.2.2 375 1 (fun z => by omega), hx7, az_wr_ne (by omega), az_wr_same]
  · rw [hy, az_wr_ne (by omega), u8.2.2 243 2 (fun z => by omega), u7.2.2 243 2 (fun z => by omega), hx5, az_wr_same]
  · rw [hy, az_wr_ne (by omega), hx8, az_wr_ne (by omega), az_wr_ne (by omega), az_wr_ne (by omega), az_wr_same]
  · rw [hy, az_wr_ne (by omega), hx8, az_wr_ne (by omega), az_wr_same]
  · rw [hy, az_wr_ne (by omega), hx8, az_wr_same]
  · intro j i j0 jn i0 ij
    obtain ⟨a1, a2, a3⟩ := j4 j i j0 (by rw [x3x U 2 (by omega)]; exact jn) i0 ij
    rw [yT (U + 11) _ (by omega) (by omega), yT (U + 11) _ (by omega) (by omega)]
    exact ⟨a1, a2, fun q => (a3 (by rw [x3x (U + 7) j (by omega), x3x (U + 7) i (by omega)]; exact q)).cong c23⟩
  · intro j j0 jn
    obtain ⟨u, u', a1, a2, a3, a4, a5, a6⟩ := j5 j j0 (by rw [x3x U 1 (by omega)]; exact jn)
    refine ⟨u, u', a1, c23.trans a2, a3, ?_, ?_, ?_⟩
    · rw [yT (U + 12) _ (by omega) (by omega)]; exact a4
    · rw [yT (U + 13) _ (by omega) (by omega)]; exact a5
    · rw [yT (U + 14) _ (by omega) (by omega)]; exact a6
/-- the reference judges what it has read -/
def ld_FM (a k : Int) : Prop := (a = 804 ∧ (k = 2 ∨ k = 3 ∨ k = 4 ∨ k = 14 ∨ k = 81 ∨ k = 82 ∨ k = 87 ∨ k = 101 ∨ (49 ≤ k ∧ k ≤ 52))) ∨ (823 ≤ a ∧ a ≤ 835)
theorem ld_classM {m : az_Hp} {U r : Int} (hM : bz_Fx m) (hR : bz_TR m U r) (e15 : m.2 804 15 = r) (m11 : m.2 804 11 = 0) (m12 : m.2 804 12 = -1) : ∃ f, fz_X11_load_84 2000000 m 804 1 = some (m.2 U 2, f) ∧ bz_Upd m f ld_FM ∧ (f.2 804 2 = 0 ∧ f.2 804 3 = 0 ∧ f.2 804 4 = -1 ∧ f.2 804 14 = r ∧ f.2 804 81 = 0 ∧ f.2 804 82 = -1 ∧ f.2 804 87 = 0 ∧ f.2 804 101 = 0) ∧ ∀ j i, 0 ≤ j → j < m.2 U 2 → 0 ≤ i → i < m.2 U 2 → nz_Tb m U r j i (f.2 834 (16 * j + i)) (f.2 835 (16 * j + i)) := by
  have hU3 := hR.1
  have hr01 := hR.2.1
  obtain ⟨z0, hz0⟩ : ∃ z0, z0 = az_wr (az_wr (az_wr (az_wr (az_wr (az_wr (az_wr m 804 3 0) 804 4 (-1)) 804 14 r) 804 81 0) 804 87 0) 804 101 0) 804 82 (-1) := ⟨_, rfl⟩
  have uz0 : bz_Upd m z0 (fun a k => a = 804 ∧ (k = 3 ∨ k = 4 ∨ k = 14 ∨ k = 81 ∨ k = 87 ∨ k = 101 ∨ k = 82)) := by
    rw [hz0]
    exact bz_Upd.wr (bz_Upd.wr (bz_Upd.wr (bz_Upd.wr (bz_Upd.wr (bz_Upd.wr (bz_Upd.wr bz_Upd.refl ⟨rfl, by omega⟩ (by decide)) ⟨rfl, by omega⟩ (by decide)) ⟨rfl, by omega⟩ (by decide)) ⟨rfl, by omega⟩ (by decide)) ⟨rfl, by omega⟩ (by decide)) ⟨rfl, by omega⟩ (by decide)) ⟨rfl, by omega⟩ (by decide)
  have hZ0 := hM.upd uz0
  have t0 : bz_tS m z0 := fun a k q => uz0.2.2 a k (fun z => by omega)
  have TRz : bz_TR z0 U r := hR.cong t0
  have z015 : z0.2 804 15 = r := by rw [uz0.2.2 804 15 (fun z => by omega)]; exact e15
  have hZ : mz_H z0 z0 U r := ⟨hZ0, hZ0, TRz, mz_cS.refl, z015⟩
  have nbZ := mz_nb hZ
  have n2 : z0.2 U 2 = m.2 U 2 := t0 U 2 (by omega)
  obtain ⟨z1, l1, l2, -, l4⟩ := nz_lc2 (z0.2 U 2).toNat 2000000 z0 0 hZ (by omega) (by omega) (by omega)
  have hZ1 := hZ0.upd l2
  obtain ⟨f, hf⟩ : ∃ f, f = az_wr z1 804 2 0 := ⟨_, rfl⟩
  have uf : bz_Upd z1 f (fun a k => a = 804 ∧ k = 2) := by rw [hf]; exact bz_Upd.wr bz_Upd.refl ⟨rfl, rfl⟩ (by decide)
  have f4 : ∀ k, k ≠ 2 → ¬ (49 ≤ k ∧ k ≤ 52) → f.2 804 k = z0.2 804 k := fun k q q' => by
    rw [uf.2.2 804 k (fun z => q z.2), l2.2.2 804 k (fun z => by unfold nz_D cz_SM at z; omega)]
  have z114 : z1.2 804 14 = r := by rw [l2.2.2 804 14 (fun z => by unfold nz_D cz_SM at z; omega), hz0, az_wr_ne (by omega), az_wr_ne (by omega), az_wr_ne (by omega), az_wr_ne (by omega), az_wr_same]
  have n8 : z1.2 808 r = m.2 U 2 := by rw [l2.2.2 808 r (fun z => by unfold nz_D cz_SM at z; omega), ← TRz.2.2.2.1.1, n2]
  have eE : az_wr (az_wr m 804 3 (m.2 804 11)) 804 4 ((az_wr m 804 3 (m.2 804 11)).2 804 12) = az_wr (az_wr m 804 3 0) 804 4 (-1) := by
    rw [az_wr_ne (b := 804) (j := 12) (by omega), m11, m12]
  have e15' : (az_wr (az_wr m 804 3 0) 804 4 (-1)).2 804 15 = r := by rw [az_wr_ne (by omega), az_wr_ne (by omega)]; exact e15
  have lc : fz_X11_laysCompatible 2000000 z0 804 = some z1 := l1
  refine ⟨f, ?_, ((uz0.weak fun a k z => Or.inl ⟨z.1, by omega⟩).trans (l2.weak fun a k z => ?_)).trans (uf.weak fun a k z => Or.inl ⟨z.1, by omega⟩), ⟨by rw [hf, az_wr_same], ?_, ?_, ?_, ?_, ?_, ?_, ?_⟩, fun j i j0 jn i0 i1 => ?_⟩
  · unfold fz_X11_load_84
    rw [if_neg (show ¬ (1 : Int) = 0 by decide)]
    unfold fz_X11_load_96 fz_X11_ends
    rw [if_pos (Or.inr rfl), Option.bind_some, if_neg (show ¬ (1 : Int) = 0 by decide)]
    simp only [eE, e15']
    rw [← hz0, lc, Option.bind_some, fx_804_18 hZ1, Option.bind_some, z114, bz_ard (by omega) (by rw [ln_808 hZ1]; omega), Option.bind_some, n8, hf]
    rfl
  · unfold nz_D cz_SM at z
    omega
  · rw [f4 3 (by omega) (by omega), hz0, az_wr_ne (by omega), az_wr_ne (by omega), az_wr_ne (by omega), az_wr_ne (by omega), az_wr_ne (by omega), az_wr_ne (by omega), az_wr_same]
  · rw [f4 4 (by omega) (by omega), hz0, az_wr_ne (by omega), az_wr_ne (by omega), az_wr_ne (by omega), az_wr_ne (by omega), az_wr_ne (by omega), az_wr_same]
  · rw [f4 14 (by omega) (by omega), hz0, az_wr_ne (by omega), az_wr_ne (by omega), az_wr_ne (by omega), az_wr_ne (by omega), az_wr_same]
  · rw [f4 81 (by omega) (by omega), hz0, az_wr_ne (by omega), az_wr_ne (by omega), az_wr_ne (by omega), az_wr_same]
  · rw [f4 82 (by omega) (by omega), hz0, az_wr_same]
  · rw [f4 87 (by omega) (by omega), hz0, az_wr_ne (by omega), az_wr_ne (by omega), az_wr_same]
  · rw [f4 101 (by omega) (by omega), hz0, az_wr_ne (by omega), az_wr_same]
  · have q := (l4 j i j0 (by omega) i0 (by omega)).cong t0
    rw [uf.2.2 834 _ (fun z => by omega), uf.2.2 835 _ (fun z => by omega)]
    exact q
/-- J behind a load -/
theorem ld_K {σ y f : az_Hp} {T U r : Int} (hW : cz_Wan σ T r ∨ ∃ s, cz_Wan σ T s) (hO : cz_Out σ) (hF : bz_Fx f) (all : f.1 = σ.1) (hU : U = 85 - T) (hR : bz_TR f U r) (tab : cz_Tab f U r)
    (fY : ∀ a k, a < 804 → f.2 a k = y.2 a k) (yS : ∀ a k, a = 383 ∨ a = 801 ∨ a = 802 ∨ (a = 243 ∧ k = 4) → y.2 a k = σ.2 a k) (fS : ∀ a k, a = 836 ∨ 867 < a ∨ (a = 804 ∧ (k = 57 ∨ k = 58)) → f.2 a k = σ.2 a k) (c4 : σ.2 243 4 = 0)
    (y1 : y.2 1 1 = 0) (y3 : y.2 1 3 = 0) (y4 : y.2 1 4 = -1) (yy : y.2 1 2 = 0 ∧ y.2 1 5 = U ∧ y.2 1 6 = T ∧ y.2 1 15 = -1 ∧ y.2 375 1 = 0 ∧ y.2 243 2 = U ∧ y.2 380 0 = 0 ∧ y.2 380 5 = 0 ∧ y.2 380 6 = 0)
    (ff : f.2 804 2 = 0 ∧ f.2 804 3 = 0 ∧ f.2 804 4 = -1 ∧ f.2 804 14 = r ∧ f.2 804 81 = 0 ∧ f.2 804 82 = -1 ∧ f.2 804 87 = 0 ∧ f.2 804 101 = 0) (f1 : f.2 804 1 = 0) (f15 : f.2 804 15 = r) : cz_K f U r := by
  obtain ⟨g2, g5, g6, g15, g375, g243, g0, g55, g66⟩ := yy
  obtain ⟨k2, k3, k4, k14, k81, k82, k87, k101⟩ := ff
  have w0 : f.2 380 0 = 0 := by rw [fY 380 0 (by omega)]; exact g0
  have w5 : f.2 380 5 = 0 := by rw [fY 380 5 (by omega)]; exact g55
  have w6 : f.2 380 6 = 0 := by rw [fY 380 6 (by omega)]; exact g66
  have a1 : f.2 1 1 = 0 := by rw [fY 1 1 (by omega)]; exact y1
  have a375 : f.2 375 1 = 0 := by rw [fY 375 1 (by omega)]; exact g375
  have s383 : ∀ k, f.2 383 k = σ.2 383 k := fun k => by rw [fY 383 k (by omega)]; exact yS 383 k (by omega)
  have q78 : (∀ q, 0 ≤ q → q < 100 → 0 ≤ σ.2 383 q ∧ σ.2 383 q < 100) ∧ ∀ q p, 0 ≤ q → q < 100 → 0 ≤ p → p < 100 → σ.2 383 q = σ.2 383 p → q = p := by
    rcases hW with ⟨-, -, -, -, -, -, q7, q8⟩ | ⟨s, -, -, -, -, -, -, q7, q8⟩
    · exact ⟨q7, q8⟩
    · exact ⟨q7, q8⟩
  refine ⟨⟨hF, by rw [fY 1 5 (by omega)]; exact g5, by rw [fY 1 6 (by omega)]; omega, k14, f15, by rw [fY 243 2 (by omega)]; exact g243, by rw [fY 243 4 (by omega), yS 243 4 (by omega)]; exact c4, hR⟩, ⟨by omega, by omega, by omega, fun i i0 i1 => by omega⟩, ⟨by rw [fY 1 3 (by omega)]; omega, by rw [fY 1 4 (by omega)]; omega, by rw [fY 1 15 (by omega)]; omega⟩, tab, ⟨⟨by omega, by omega, by omega⟩, fun q => by omega⟩, ?_, ?_⟩
  · refine ⟨⟨by omega, by omega⟩, ⟨by omega, by omega, by omega⟩, fun z => absurd z (by omega), ?_, fun k k0 k1 => absurd k1 (by omega), ⟨fun _ => 0, fun _ => (by decide : (0 : Nat) < 6), fun k i k0 k1 => absurd k1 (by omega)⟩, fun q q0 q1 => by rw [s383]; exact q78.1 q q0 q1, fun q p q0 q1 p0 p1 e => ?_⟩
    · unfold cz_bn
      rw [w6, if_neg (by omega), if_neg (by omega), if_neg (by omega), if_neg (by omega), if_neg (by omega), if_neg (by omega)]
      decide
    · rw [s383, s383] at e
      exact q78.2 q p q0 q1 p0 p1 e
  · refine hO.cong all ?_ ?_ (fun a k q => ?_) (fS 804 57 (by omega)) (fS 804 58 (by omega))
    · rw [fY 801 0 (by omega)]; exact yS 801 0 (by omega)
    · rw [fY 801 1 (by omega)]; exact yS 801 1 (by omega)
    · rcases q with q | q | q
      · rw [q, fY 802 k (by omega)]; exact yS 802 k (by omega)
      · exact fS a k (by omega)
      · exact fS a k (by omega)
