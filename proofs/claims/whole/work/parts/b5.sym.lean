/-! right sides agree, whichever equation is the first -/
theorem sy_union {m n : az_Hp} {Fe Fo : Int → Int → Prop} {a b a2 b2 c c' : Int} (h1 : sy_S m n Fe a b c c') (h2 : sy_S m n Fo a2 b2 c c') (ht : bz_tk n = bz_tk m) (dis : ∀ x y x' y', Fe x y → Fo x' y' → x ≠ x' ∧ y ≠ y') (cov : ∀ x, dz_In c x → ∃ y, Fe x y ∨ Fo x y) (cov' : ∀ y, dz_In c' y → ∃ x, Fe x y ∨ Fo x y) : sy_I (lz_g m c) (lz_g n c') (fun x y => Fe x y ∨ Fo x y) := by
  have key : ∀ (G : Int → Int → Prop) (u v : Int), sy_S m n G u v c c' → (∀ x y, G x y → Fe x y ∨ Fo x y) → ∀ x y, G x y → dz_In c x ∧ dz_In c' y ∧ (dz_iv (lz_g m c) x ↔ dz_iv (lz_g n c') y) ∧ (¬ dz_iv (lz_g m c) x → dz_sy (lz_g m c) x = dz_sy (lz_g n c') y ∧ dz_ar (lz_g m c) x = dz_ar (lz_g n c') y ∧ ∀ k, 0 ≤ k → k < dz_ar (lz_g m c) x → (Fe (dz_kd (lz_g m c) x k) (dz_kd (lz_g n c') y k) ∨ Fo (dz_kd (lz_g m c) x k) (dz_kd (lz_g n c') y k))) := by
    intro G u v hS hG x y hxy
    obtain ⟨r1, r2, r3, r4⟩ := hS.2.2.1.1 x y hxy
    refine ⟨r1, r2, ?_, fun nv => ⟨r3, ?_, fun k k0 k1 => hG _ _ (r4 (by have : ¬ (1000 : Int) ≤ m.2 823 x := nv; omega) k k0 k1).2⟩⟩
    · show (1000 : Int) ≤ m.2 823 x ↔ (1000 : Int) ≤ n.2 823 y
      rw [r3]
    · show bz_tk m (m.2 823 x) = bz_tk n (n.2 823 y)
      rw [ht, r3]
  refine ⟨cov, cov', fun x y hxy => ?_, fun x y x' y' h h' => ?_⟩
  · rcases hxy with q | q
    · exact key Fe a b h1 (fun _ _ z => Or.inl z) x y q
    · exact key Fo a2 b2 h2 (fun _ _ z => Or.inr z) x y q
  · rcases h with h | h
    · rcases h' with h' | h'
      · exact h1.2.2.1.2 x y x' y' h h'
      · have := dis x y x' y' h h'
        exact ⟨fun z => absurd z this.1, fun z => absurd z this.2⟩
    · rcases h' with h' | h'
      · have := dis x' y' x y h' h
        exact ⟨fun z => absurd z.symm this.1, fun z => absurd z.symm this.2⟩
      · exact h2.2.2.1.2 x y x' y' h h'
theorem sy_det {α : Type} {o : Option α} {a b : α} (h : o = some a) (h' : o = some b) : a = b := by
  rw [h] at h'
  exact Option.some.inj h'
theorem sy_iso {σx σ0 m1 m2 m3 m4 n1 n2 n3 n4 : az_Hp} {T s e o cE c1 c3 c4 a b p q f dO d1 d3 d4 a' b' p' q' f' : Int} (h : mz_H σx σ0 T s) (e0 : 0 ≤ e) (e1 : e < σx.2 T 2) (o0 : 0 ≤ o) (o1 : o < σx.2 T 2) (z49 : σ0.2 804 49 = 0) (z50 : σ0.2 804 50 = 0)
    (hA : sy_Ag e o T s σ0 m1 m2 m3 m4 cE c1 c3 c4 a b p q f) (hB : sy_Ag o e T s σ0 n1 n2 n3 n4 dO d1 d3 d4 a' b' p' q' f') :
    ∃ F2 F4 : Int → Int → Prop, sy_I (lz_g m2 c1) (lz_g n2 d1) F2 ∧ sy_I (lz_g m4 c4) (lz_g n4 d4) F4 ∧ F2 a b' ∧ F2 b a' ∧ F4 p q' ∧ F4 q p' ∧ ∀ x y, F2 x y → F4 x y := by
  obtain ⟨⟨A1, A2, A3, A4⟩, ⟨ac1, ac2, ac3, ac4⟩, ⟨ab0, ab1, ab2, ab3, ab4, ab5, ab6, ab7⟩, -, -⟩ := hA
  obtain ⟨⟨B1, B2, B3, B4⟩, ⟨bc1, bc2, bc3, bc4⟩, ⟨bb0, bb1, bb2, bb3, bb4, bb5, bb6, bb7⟩, -, -⟩ := hB
  have S00 : sy_S σ0 σ0 (fun _ _ => False) 0 0 0 0 := ⟨⟨z49, z49, by omega, by omega⟩, ⟨by omega, by omega, by omega, by omega⟩, ⟨fun x y z => z.elim, fun x y x' y' z => z.elim⟩, ⟨fun q p q0 q1 => by omega, fun q q0 q1 => by omega, fun q q0 q1 => by omega⟩⟩
  -- what is laid first, alone
  have one : ∀ (i c ρ : Int) (m' : az_Hp), 0 ≤ i → i < σx.2 T 2 → fz_X11_leftNode 2000000 σ0 804 i 0 = some (ρ, m') → m'.2 804 49 = c → bz_Upd σ0 m' cz_SM ∧ sy_K σ0 m' 0 0 (fun _ => False) ∧ (0 ≤ m'.2 804 50 ∧ m'.2 804 50 ≤ c) := by
    intro i c ρ m' i0 i1 hr hc
    obtain ⟨x1, y1, F1, k1, k1', r, r', t1, t2, t3, -⟩ := sy_left h (bz_Upd.refl (S := cz_SM)) (bz_Upd.refl (S := cz_SM)) i0 i1 S00 (by omega) (by omega)
    have := sy_det hr t1
    simp only [Prod.mk.injEq] at this
    obtain ⟨rfl, rfl⟩ := this
    obtain ⟨u1, -, -, S1, -, -, -, K1, -⟩ := t3
    have q1 := S1.1.1
    have q2 := S1.2.1
    exact ⟨u1.weak fun _ _ z => mz_SM z, K1, q2.1, by omega⟩
  obtain ⟨um1, Km1, tm1⟩ := one e cE a m1 e0 e1 A1 ac1
  obtain ⟨un1, Kn1, tn1⟩ := one o dO a' n1 o0 o1 B1 bc1
  -- left e
  have S1 : sy_S σ0 n1 (fun _ _ => False) 0 1 0 dO := ⟨⟨z49, bc1, by omega, by omega⟩, ⟨by omega, by omega, by omega, by omega⟩, ⟨fun x y z => z.elim, fun x y x' y' z => z.elim⟩, ⟨fun q p q0 q1 => by omega, fun q q0 q1 => by omega, fun q q0 q1 qb => by have := Kn1.2.2.2.2 q (by omega) q1; omega⟩⟩
  obtain ⟨x1, y1, Fe, k1, k1', r1, r1', t1, t1', Pe, fe⟩ := sy_left h (bz_Upd.refl (S := cz_SM)) un1 e0 e1 S1 (by omega) (by omega)
  have d1' := sy_det A1 t1
  have d1'' := sy_det B2 t1'
  simp only [Prod.mk.injEq] at d1' d1''
  obtain ⟨rfl, rfl⟩ := d1'
  obtain ⟨rfl, rfl⟩ := d1''
  obtain ⟨ue1, ue2, ⟨ce1, ce2, ce3⟩, Se, -, ge, ⟨ve, ve'⟩, Ke1, Ke2⟩ := Pe
  have ek : k1 = cE := by have := Se.1.1; omega
  have ek' : k1' = d1 := by have := Se.1.2.1; omega
  subst ek
  subst ek'
  have un2 : bz_Upd σ0 n2 cz_SM := un1.trans (ue2.weak fun _ _ z => mz_SM z)
  -- left o
  have S2 : sy_S m1 σ0 (fun _ _ => False) 1 0 k1 0 := ⟨⟨ac1, z49, by omega, by omega⟩, ⟨by omega, by omega, by omega, by omega⟩, ⟨fun x y z => z.elim, fun x y x' y' z => z.elim⟩, ⟨fun q p q0 q1 p0 p1 => by omega, fun q q0 q1 qb => by have := Km1.2.2.2.2 q (by omega) q1; omega, fun q q0 q1 => by omega⟩⟩
  obtain ⟨x2, y2, Fo, k2, k2', r2, r2', t2, t2', Po, fo⟩ := sy_left h um1 (bz_Upd.refl (S := cz_SM)) o0 o1 S2 (by omega) (by omega)
  have d2' := sy_det A2 t2
  have d2'' := sy_det B1 t2'
  simp only [Prod.mk.injEq] at d2' d2''
  obtain ⟨rfl, rfl⟩ := d2'
  obtain ⟨rfl, rfl⟩ := d2''
  obtain ⟨uo1, uo2, ⟨co1, co2, co3⟩, So, -, go, ⟨vo, vo'⟩, Ko1, Ko2⟩ := Po
  have ek2 : k2 = c1 := by have := So.1.1; omega
  have ek2' : k2' = dO := by have := So.1.2.1; omega
  subst ek2
  subst ek2'
  have um2 : bz_Upd σ0 m2 cz_SM := um1.trans (uo1.weak fun _ _ z => mz_SM z)
  have bE : ∀ x y, Fe x y → (0 ≤ x ∧ x < k1) ∧ (k2' ≤ y ∧ y < k1') := fun x y z => by
    obtain ⟨i1, i2, -⟩ := Se.2.2.1.1 x y z
    have g := ge x y z
    have l1 := i1.1
    have l2 := i1.2
    have l3 := i2.2
    rcases g with g | g
    · exact g.elim
    · omega
  have bO : ∀ x y, Fo x y → (k1 ≤ x ∧ x < k2) ∧ (0 ≤ y ∧ y < k2') := fun x y z => by
    obtain ⟨i1, i2, -⟩ := So.2.2.1.1 x y z
    have g := go x y z
    have l1 := i1.2
    have l2 := i2.1
    have l3 := i2.2
    rcases g with g | g
    · exact g.elim
    · omega
  have te := Se.2.1
  have to' := So.2.1
  have SE : sy_S m2 n2 Fe 0 1 k2 k1' := Se.move (sy_tk uo1) Ko1 (sy_K.refl (a := 0)) (by decide) (by decide) ac2 bc2 (by omega) (by omega) (by omega) (by omega)
  have SO : sy_S m2 n2 Fo 1 0 k2 k1' := So.move rfl (sy_K.refl (a := 0)) Ke2 (by decide) (by decide) ac2 bc2 (by omega) (by omega) (by omega) (by omega)
  have tk2 : bz_tk n2 = bz_tk m2 := by rw [sy_tkU un2, sy_tkU um2]
  have I2 : sy_I (lz_g m2 k2) (lz_g n2 k1') (fun x y => Fe x y ∨ Fo x y) := by
    refine sy_union SE SO tk2 (fun x y x' y' z z' => ?_) (fun x hx => ?_) (fun y hy => ?_)
    · have := bE x y z
      have := bO x' y' z'
      omega
    · have l1 := hx.1
      have l2 := hx.2
      by_cases z : x < k1
      · obtain ⟨y, w⟩ := ve x (by omega) z
        exact ⟨y, Or.inl w⟩
      · obtain ⟨y, w⟩ := vo x (by omega) l2
        exact ⟨y, Or.inr w⟩
    · have l1 := hy.1
      have l2 := hy.2
      by_cases z : y < k2'
      · obtain ⟨x, w⟩ := vo' y (by omega) z
        exact ⟨x, Or.inr w⟩
      · obtain ⟨x, w⟩ := ve' y (by omega) l2
        exact ⟨x, Or.inl w⟩
  -- right e beside nothing else
  obtain ⟨x3, y3, F3, k3, k3', r3, r3', t3, t3', P3, -⟩ := sy_right h um2 un2 e0 e1 SE (by omega) (by omega)
  have d3' := sy_det A3 t3
  simp only [Prod.mk.injEq] at d3'
  obtain ⟨rfl, rfl⟩ := d3'
  obtain ⟨u31, -, ⟨c31, c32, c33⟩, S3, -, -, -, K3, -⟩ := P3
  have ek3 : k3 = c3 := by have := S3.1.1; omega
  subst ek3
  have um3 : bz_Upd σ0 m3 cz_SM := um2.trans (u31.weak fun _ _ z => mz_SM z)
  have t3b := S3.2.1
  -- right o
  have S4 : sy_S m3 n2 Fo 1 0 k3 k1' := SO.move (sy_tk u31) K3 (sy_K.refl (a := 1)) (by decide) (by decide) ac3 bc2 (by omega) (by omega) (by omega) (by omega)
  obtain ⟨x4, y4, Fo4, k4, k4', r4, r4', t4, t4', P4, fo4⟩ := sy_right h um3 un2 o0 o1 S4 (by omega) (by omega)
  have d4' := sy_det A4 t4
  have d4'' := sy_det B3 t4'
  simp only [Prod.mk.injEq] at d4' d4''
  obtain ⟨rfl, rfl⟩ := d4'
  obtain ⟨rfl, rfl⟩ := d4''
  obtain ⟨u41, u42, ⟨c41, c42, c43⟩, So4, fo4', go4, ⟨vo4, vo4'⟩, Ko41, Ko42⟩ := P4
  have ek4 : k4 = c4 := by have := So4.1.1; omega
  have ek4' : k4' = d3 := by have := So4.1.2.1; omega
  subst ek4
  subst ek4'
  have un3 : bz_Upd σ0 n3 cz_SM := un2.trans (u42.weak fun _ _ z => mz_SM z)
  have to4 := So4.2.1
  -- right e
  have S5 : sy_S m2 n3 Fe 0 1 k2 k4' := SE.move rfl (sy_K.refl (a := 1)) Ko42 (by decide) (by decide) ac2 bc3 (by omega) (by omega) (by omega) (by omega)
  obtain ⟨x5, y5, Fe5, k5, k5', r5, r5', t5, t5', P5, fe5⟩ := sy_right h um2 un3 e0 e1 S5 (by omega) (by omega)
  have d5' := sy_det A3 t5
  have d5'' := sy_det B4 t5'
  simp only [Prod.mk.injEq] at d5' d5''
  obtain ⟨rfl, rfl⟩ := d5'
  obtain ⟨rfl, rfl⟩ := d5''
  obtain ⟨u51, u52, ⟨c51, c52, c53⟩, Se5, fe5', ge5, ⟨ve5, ve5'⟩, Ke51, Ke52⟩ := P5
  have ek5 : k5 = k3 := by have := Se5.1.1; omega
  have ek5' : k5' = d4 := by have := Se5.1.2.1; omega
  subst ek5
  subst ek5'
  have te5 := Se5.2.1
  have um4 : bz_Upd σ0 m4 cz_SM := um3.trans (u41.weak fun _ _ z => mz_SM z)
  have un4 : bz_Upd σ0 n4 cz_SM := un3.trans (u52.weak fun _ _ z => mz_SM z)
  have tk4 : bz_tk n4 = bz_tk m4 := by rw [sy_tkU un4, sy_tkU um4]
  have SE4 : sy_S m4 n4 Fe5 0 1 k4 k5' := Se5.move (sy_tk u41) Ko41 (sy_K.refl (a := 0)) (by decide) (by decide) ac4 bc4 (by omega) (by omega) (by omega) (by omega)
  have SO4 : sy_S m4 n4 Fo4 1 0 k4 k5' := So4.move rfl (sy_K.refl (a := 0)) Ke52 (by decide) (by decide) ac4 bc4 (by omega) (by omega) (by omega) (by omega)
  have bE5 : ∀ x y, Fe5 x y → ((0 ≤ x ∧ x < k1) ∧ (k2' ≤ y ∧ y < k1')) ∨ ((k2 ≤ x ∧ x < k5) ∧ (k4' ≤ y ∧ y < k5')) := fun x y z => by
    obtain ⟨i1, i2, -⟩ := Se5.2.2.1.1 x y z
    have l2 := i1.2
    have l3 := i2.2
    rcases ge5 x y z with g | g
    · exact Or.inl (bE x y g)
    · exact Or.inr (by omega)
  have bO4 : ∀ x y, Fo4 x y → ((k1 ≤ x ∧ x < k2) ∧ (0 ≤ y ∧ y < k2')) ∨ ((k5 ≤ x ∧ x < k4) ∧ (k1' ≤ y ∧ y < k4')) := fun x y z => by
    obtain ⟨i1, i2, -⟩ := So4.2.2.1.1 x y z
    have l2 := i1.2
    have l3 := i2.2
    rcases go4 x y z with g | g
    · exact Or.inl (bO x y g)
    · exact Or.inr (by omega)
  have I4 : sy_I (lz_g m4 k4) (lz_g n4 k5') (fun x y => Fe5 x y ∨ Fo4 x y) := by
    refine sy_union SE4 SO4 tk4 (fun x y x' y' z z' => ?_) (fun x hx => ?_) (fun y hy => ?_)
    · have := bE5 x y z
      have := bO4 x' y' z'
      omega
    · have l1 := hx.1
      have l2 := hx.2
      by_cases z : x < k1
      · obtain ⟨y, w⟩ := ve x (by omega) z
        exact ⟨y, Or.inl (fe5' x y w)⟩
      · by_cases z2 : x < k2
        · obtain ⟨y, w⟩ := vo x (by omega) z2
          exact ⟨y, Or.inr (fo4' x y w)⟩
        · by_cases z3 : x < k5
          · obtain ⟨y, w⟩ := ve5 x (by omega) z3
            exact ⟨y, Or.inl w⟩
          · obtain ⟨y, w⟩ := vo4 x (by omega) l2
            exact ⟨y, Or.inr w⟩
    · have l1 := hy.1
      have l2 := hy.2
      by_cases z : y < k2'
      · obtain ⟨x, w⟩ := vo' y (by omega) z
        exact ⟨x, Or.inr (fo4' x y w)⟩
      · by_cases z2 : y < k1'
        · obtain ⟨x, w⟩ := ve' y (by omega) z2
          exact ⟨x, Or.inl (fe5' x y w)⟩
        · by_cases z3 : y < k4'
          · obtain ⟨x, w⟩ := vo4' y (by omega) z3
            exact ⟨x, Or.inr w⟩
          · obtain ⟨x, w⟩ := ve5' y (by omega) l2
            exact ⟨x, Or.inl w⟩
  refine ⟨_, _, I2, I4, Or.inl fe, Or.inr fo, Or.inl fe5, Or.inr fo4, fun x y z => ?_⟩
  rcases z with z | z
  · exact Or.inl (fe5' x y z)
  · exact Or.inr (fo4' x y z)
theorem sy_half {σx σ0 m1 m2 m3 m4 n1 n2 n3 n4 : az_Hp} {T s e o cE c1 c3 c4 a b p q f dO d1 d3 d4 a' b' p' q' f' : Int} (h : mz_H σx σ0 T s) (e0 : 0 ≤ e) (e1 : e < σx.2 T 2) (o0 : 0 ≤ o) (o1 : o < σx.2 T 2) (z49 : σ0.2 804 49 = 0) (z50 : σ0.2 804 50 = 0)
    (hA : sy_Ag e o T s σ0 m1 m2 m3 m4 cE c1 c3 c4 a b p q f) (hB : sy_Ag o e T s σ0 n1 n2 n3 n4 dO d1 d3 d4 a' b' p' q' f') (hf : f = 1) : f' = 1 := by
  obtain ⟨F2, F4, I2, I4, fa, fb, fp, fq, f24⟩ := sy_iso h e0 e1 o0 o1 z49 z50 hA hB
  obtain ⟨-, -, -, ⟨ok2, ok4⟩, iA⟩ := hA
  obtain ⟨-, -, -, ⟨ok2', ok4'⟩, iB⟩ := hB
  have nclash : ¬ dz_Clash (lz_g m2 c1) a b → ¬ dz_Clash (lz_g n2 d1) a' b' := fun nc z => nc (I2.symm.clash ok2' fb fa z).swap
  rw [iB]
  rcases iA.mp hf with hc | ⟨hn, hnc, hsm⟩
  · exact Or.inl (I2.clash ok2 fa fb hc).swap
  · refine Or.inr ⟨nclash hn, (I2.nc ok2' fa fb hnc).swap, ?_⟩
    have hP : ∀ x y x' y', F4 x x' → F4 y y' → sy_P (lz_g m2 c1) c1 a b x y → sy_P (lz_g n2 d1) d1 b' a' x' y' := by
      intro x y x' y' hx hy hp
      rcases hp with hp | ⟨ix, iy, cl⟩
      · exact Or.inl ((I4.2.2.2 x x' y y' hx hy).mp hp)
      · obtain ⟨x'', gx⟩ := I2.1 x ix
        obtain ⟨y'', gy⟩ := I2.1 y iy
        have ex : x'' = x' := (I4.2.2.2 x x'' x x' (f24 _ _ gx) hx).mp rfl
        have ey : y'' = y' := (I4.2.2.2 y y'' y y' (f24 _ _ gy) hy).mp rfl
        subst ex
        subst ey
        exact Or.inr ⟨(I2.2.2.1 x x'' gx).2.1, (I2.2.2.1 y y'' gy).2.1, I2.cl ok2 fa fb gx gy cl⟩
    have s1 := I4.sm ok4 hP fp fq hsm
    exact ((s1.flip ok4' (fun _ _ z => z.flip)).mono (fun _ _ z => z.swap))
/-- rightsAgree is the same both ways -/
theorem sy_sym {x y σm : az_Hp} {T s e o f f' : Int} {x' y' : az_Hp} (hx : mz_H x σm T s) (hy : mz_H y σm T s) (e0 : 0 ≤ e) (e1 : e < σm.2 T 2) (o0 : 0 ≤ o) (o1 : o < σm.2 T 2) (rx : fz_X1_rightsAgree 2000000 x 242 T e o = some (f, x')) (ry : fz_X1_rightsAgree 2000000 y 242 T o e = some (f', y')) : f = f' := by
  have um : bz_Upd σm (az_wr (az_wr σm 804 49 0) 804 50 0) cz_SM := bz_Upd.wr (bz_Upd.wr bz_Upd.refl (by unfold cz_SM; omega) (by decide)) (by unfold cz_SM; omega) (by decide)
  have Hx := hx.upd (bz_Upd.refl (S := cz_SJ)) um (fun _ _ q => q) (fun _ _ q => q)
  have Hy := hy.upd (bz_Upd.refl (S := cz_SJ)) um (fun _ _ q => q) (fun _ _ q => q)
  have z49 : (az_wr (az_wr σm 804 49 0) 804 50 0).2 804 49 = 0 := by rw [az_wr_ne (by omega), az_wr_same]
  have z50 : (az_wr (az_wr σm 804 49 0) 804 50 0).2 804 50 = 0 := az_wr_same
  have nx := hx.n
  have ny := hy.n
  obtain ⟨g, x1, m1, m2, m3, m4, cE, c1, c3, c4, a, b, p, q, r1, g01, A⟩ := sy_agree Hx e0 (by omega) o0 (by omega) z49 z50
  obtain ⟨g', y1, n1, n2, n3, n4, dO, d1, d3, d4, a', b', p', q', r2, g01', B⟩ := sy_agree Hy o0 (by omega) e0 (by omega) z49 z50
  have d1' := sy_det rx r1
  have d2' := sy_det ry r2
  simp only [Prod.mk.injEq] at d1' d2'
  have i1 := sy_half Hx e0 (by omega) o0 (by omega) z49 z50 A B
  have i2 := sy_half Hy o0 (by omega) e0 (by omega) z49 z50 B A
  rw [d1'.1, d2'.1]
  rcases g01 with z | z
  · rcases g01' with w | w
    · omega
    · have := i2 w; omega
  · have := i1 z; omega
