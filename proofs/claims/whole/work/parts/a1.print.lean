/-! the call print -/
theorem pz_gH {σ x y : az_Hp} {T s : Int} {S S' : Int → Int → Prop} (h : mz_H σ σ T s) (hx : pz_U σ x S) (hm : pz_U σ y S') (hs : ∀ a k, S a k → ¬ nz_t a) (hs' : ∀ a k, S' a k → ¬ nz_t a ∧ ¬ (806 ≤ a ∧ a ≤ 819) ∧ ¬ (a = 804 ∧ k = 15)) : mz_H x y T s := by
  have tS : bz_tS σ y := fun a k q => hm.2.2 a k (by omega) (fun c => by have := hs' a k c; unfold nz_t at this; omega)
  have hT := h.2.2.1.1
  refine ⟨hx.fx h.1, hm.fx h.2.1, h.2.2.1.cong tS, fun a k q => ?_, ?_⟩
  · rw [hx.2.2 a k (by omega) (fun c => by have := hs a k c; unfold nz_t at this; omega), tS a k (by omega)]
  · rw [hm.2.2 804 15 (by omega) (fun c => by have := hs' _ _ c; omega)]
    exact h.2.2.2.2
theorem pz_gR {σ x y : az_Hp} {T s n r A : Int} {V : Int → Int → Prop} {S S' : Int → Int → Prop} (h : rz_R σ σ T s V r A n) (hT : T = 3 ∨ T = 82) (hA : A ≤ 867) (hx : pz_U σ x S) (hm : pz_U σ y S') (hs : ∀ a k, S a k → a ≠ r ∧ a ≠ r + 1) (hs' : ∀ a k, S' a k → ¬ nz_t a ∧ ¬ (806 ≤ a ∧ a ≤ 819) ∧ a ≠ A) : rz_R x y T s V r A n := by
  obtain ⟨a1, a2, a3, a4, a5, a6, a7, a8⟩ := h
  have rc := bz_cap_lt a1.1
  have k1 : ∀ k, x.2 r k = σ.2 r k := fun k => hx.2.2 _ _ (by omega) (fun c => by have := hs _ _ c; omega)
  have k2 : ∀ k, x.2 (r + 1) k = σ.2 (r + 1) k := fun k => hx.2.2 _ _ (by omega) (fun c => by have := hs _ _ c; omega)
  have k3 : bz_ra x r = bz_ra σ r := funext fun k => by unfold bz_ra; rw [k2]
  have tS : bz_tS σ y := fun a k q => hm.2.2 a k (by omega) (fun c => by have := hs' _ _ c; unfold nz_t at this; omega)
  refine ⟨by unfold bz_rw at a1 ⊢; simp only [k1, k2]; exact a1, by rw [k1]; exact a2, a3, fun i i0 i1 => ?_, by rw [k3]; exact a5, by rw [hm.1 A hA]; exact a6, a7, a8⟩
  rw [bz_ct_tS tS, bz_ft_tS tS, tS T 0 (by omega), tS T 1 (by omega), k2, hm.2.2 A i hA (fun c => by have := hs' _ _ c; omega)]
  exact a4 i i0 i1
def cz_np (a k : Int) : Prop := cz_ns a k ∨ (a = 801 ∧ (k = 0 ∨ k = 1)) ∨ a = 802 ∨ a = 836 ∨ (a = 804 ∧ (k = 57 ∨ k = 58))
theorem cz_keepP {σ σ' : az_Hp} {T s : Int} (hU : pz_U σ σ' cz_np) (h : cz_K σ T s) (ho : cz_Out σ') : cz_K σ' T s := by
  obtain ⟨hc, h1, h2, h3, h4, h5, h6⟩ := h
  have hF : bz_Fx σ' := hU.fx hc.1
  have E : ∀ a k, a ≤ 867 → ¬ cz_nk a k → ¬ (a = 1 ∧ k = 2) → ¬ (a = 804 ∧ (k = 2 ∨ k = 57 ∨ k = 58)) → ¬ (801 ≤ a ∧ a ≤ 802) → a ≠ 836 → σ'.2 a k = σ.2 a k := fun a k qa q n1 n2 n3 n4 => hU.2.2 a k qa (fun c => by
    rcases c with (c | c | c) | c | c | c | c
    · exact q c
    · omega
    · omega
    · omega
    · omega
    · omega
    · omega)
  obtain ⟨c1, c2, c3, c4, c5, c6, c7, c8⟩ := hc
  have hT := c8.1
  have ht : bz_tS σ σ' := fun a k q => E a k (by omega) (cz_nk1 (by omega)) (by omega) (by omega) (by omega) (by omega)
  have g5 : ∀ k, k = 1 ∨ k = 3 ∨ k = 4 ∨ k = 14 ∨ k = 15 ∨ k = 81 ∨ k = 82 ∨ k = 87 ∨ k = 101 ∨ (108 ≤ k ∧ k ≤ 111) → σ'.2 804 k = σ.2 804 k := fun k q => E 804 k (by omega) (cz_nk5 (by omega)) (by omega) (by omega) (by omega) (by omega)
  have g6 : ∀ k, k = 1 ∨ (3 ≤ k ∧ k ≤ 6) ∨ k = 15 → σ'.2 1 k = σ.2 1 k := fun k q => E 1 k (by omega) (cz_nk6 (by omega)) (by omega) (by omega) (by omega) (by omega)
  refine ⟨⟨hF, ?_, ?_, ?_, ?_, ?_, ?_, c8.cong ht⟩, ?_, ?_, ?_, ?_, ?_, ho⟩
  · rw [g6 5 (by omega)]; exact c2
  · rw [g6 6 (by omega)]; exact c3
  · rw [g5 14 (by omega)]; exact c4
  · rw [g5 15 (by omega)]; exact c5
  · rw [E 243 2 (by omega) (cz_nk8 (by omega)) (by omega) (by omega) (by omega) (by omega)]; exact c6
  · rw [E 243 4 (by omega) (cz_nk8 (by omega)) (by omega) (by omega) (by omega) (by omega)]; exact c7
  · exact h1.cong (g6 1 (by omega)) (g5 1 (by omega)) (fun i => E 2 i (by omega) (cz_nk1 (by omega)) (by omega) (by omega) (by omega) (by omega)) (fun i => E 805 i (by omega) (cz_nk1 (by omega)) (by omega) (by omega) (by omega) (by omega))
  · refine ⟨?_, ?_, ?_⟩
    · rw [g6 3 (by omega), g5 3 (by omega)]; exact h2.1
    · rw [g6 4 (by omega), g5 4 (by omega)]; exact h2.2.1
    · rw [g6 15 (by omega), g5 82 (by omega)]; exact h2.2.2
  · refine h3.cong hT ht (fun a k q => ?_)
    rcases q with q | q | q | q
    · exact E a k (by omega) (cz_nk1 (by omega)) (by omega) (by omega) (by omega) (by omega)
    · exact E a k (by omega) (cz_nk1 (by omega)) (by omega) (by omega) (by omega) (by omega)
    · exact E a k (by omega) (cz_nk2 (by omega)) (by omega) (by omega) (by omega) (by omega)
    · exact E a k (by omega) (cz_nk2 (by omega)) (by omega) (by omega) (by omega) (by omega)
  · exact h4.cong hT ht (fun a k q => E a k (by omega) (cz_nk2 (by omega)) (by omega) (by omega) (by omega) (by omega)) (g5 81 (by omega))
  · exact h5.cong hT ht (fun k q0 q1 => E 380 k (by omega) (cz_nk7 ⟨q0, q1⟩) (by omega) (by omega) (by omega) (by omega)) (fun a k q => E a k (by omega) (cz_nk3 q) (by omega) (by omega) (by omega) (by omega)) (fun k q => g5 k (by omega))
/-- both have printed the same -/
theorem pz_done {σ : az_Hp} {L : List Int} (hO : pz_O σ L) (hR : pz_R σ L) (h58 : σ.2 804 58 = 1) : cz_Out σ := by
  obtain ⟨j, j1, j2, j3, j4, j5, j6, j7, j8⟩ := hO
  obtain ⟨r1, r2, r3⟩ := hR
  refine ⟨⟨j, j1, j2, j3, j4, j5⟩, ⟨by omega, by rw [j4]; omega, by omega, by omega⟩, fun q => by omega, Or.inr h58, fun i i0 i1 => ?_⟩
  have a1 := j8 i.toNat (by omega)
  have a2 := r3 i.toNat (by omega)
  rw [show ((i.toNat : Nat) : Int) = i by omega] at a1 a2
  rw [a1] at a2
  simpa using a2
theorem pz_start {σ : az_Hp} {T s : Int} (h : cz_K σ T s) : pz_O (az_wr σ 801 0 0) [] := by
  obtain ⟨⟨j, j1, j2, j3, j4, j5⟩, -⟩ := h.2.2.2.2.2.2
  have e : (az_wr σ 801 0 0).2 801 1 = σ.2 801 1 := az_wr_ne (by omega)
  have pw := pz_pow j1
  refine ⟨j, j1, j2, j3, by rw [e]; exact j4, by rw [e]; exact j5, by rw [az_wr_same]; rfl, by show ((0 : Nat) : Int) ≤ _; omega, fun i hi => absurd hi (by simp)⟩
theorem pz_O.cong {σ σ' : az_Hp} {L : List Int} (h : pz_O σ L) (e0 : σ'.1 = σ.1) (e1 : ∀ k, σ'.2 801 k = σ.2 801 k) (e2 : ∀ a k, a = 802 ∨ 867 < a → σ'.2 a k = σ.2 a k) : pz_O σ' L := by
  obtain ⟨j, j1, j2, j3, j4, j5, j6, j7, j8⟩ := h
  have B : (σ.2 801 1 = 802 ∨ 867 < σ.2 801 1) := by
    rw [j5]
    by_cases e : j = 0
    · rw [if_pos e]; exact Or.inl rfl
    · rw [if_neg e]; omega
  have hl : ∀ a, az_ln σ' a = az_ln σ a := fun a => by unfold az_ln; rw [e0]
  exact ⟨j, j1, by rw [e0]; exact j2, by rw [e0]; exact j3, by rw [e1, hl]; exact j4, by rw [e1]; exact j5, by rw [e1]; exact j6, j7, fun i hi => by rw [e1, e2 _ _ B]; exact j8 i hi⟩
theorem cz_op_print : bz_op_print cz_J := by
  rintro σ ⟨T, s, h, eq⟩
  have hF := h.1.1
  have hT := h.1.2.2.2.2.2.2.2.1
  obtain ⟨⟨s1, s2, s3⟩, sT⟩ := h.2.2.2.2.1
  have g12 := fx_1_12 hF
  by_cases z : σ.2 375 1 = 0
  · refine cz_rd (f := fun σ => fz_X10_print 2000000 σ 1) (g := fun σ => fz_X11_print 2000000 σ 804) h (r := -1) (v := 3) ?_ ?_
    · simp only [fz_X10_print, fz_X10_refuse, g12, Option.bind_some, if_pos z]
    · simp only [fz_X11_print, fz_X11_refuse]
      rw [az_wr_ne (by omega), s3, if_pos z, Option.bind_some]
  obtain ⟨C0, R0⟩ := cz_rzC h (bz_Upd.refl (σ := σ))
  have R0 := R0 (by omega)
  have uX : bz_Upd σ (az_wr σ 801 0 0) (fun a k => a = 801 ∧ k = 0) := bz_Upd.wr bz_Upd.refl ⟨rfl, rfl⟩ (by decide)
  have hX0 := hF.upd uX
  have O0 := pz_start h
  -- a run of the reference from y
  have ref : ∀ y, pz_U σ y (fun a k => pz_SX a k ∨ (a = 1 ∧ k = 2)) → ∃ (x'' m'' : az_Hp) (L : List Int), fz_X3_putRow 2000000 (az_wr σ 801 0 0) 801 375 T 381 = some x'' ∧ fz_X11_tellsRow 2000000 (az_wr (az_wr y 804 57 0) 804 58 1) 804 844 (σ.2 375 1) 845 = some m'' ∧ pz_U (az_wr σ 801 0 0) x'' pz_SX ∧ bz_Upd (az_wr (az_wr y 804 57 0) 804 58 1) m'' pz_SY ∧ pz_O x'' L ∧ pz_R m'' L := by
    intro y hy
    have um : pz_U σ (az_wr (az_wr y 804 57 0) 804 58 1) (fun a k => (pz_SX a k ∨ (a = 1 ∧ k = 2)) ∨ (a = 804 ∧ (k = 57 ∨ k = 58))) := (hy.weak fun _ _ q => Or.inl q).trans (pz_U.of (bz_Upd.wr (bz_Upd.wr bz_Upd.refl (Or.inr ⟨rfl, Or.inl rfl⟩) (by decide)) (Or.inr ⟨rfl, Or.inr rfl⟩) (by decide)))
    have H := pz_gH C0.1 (pz_U.of uX) um (fun a k q => by unfold nz_t; omega) (fun a k q => by unfold pz_SX pz_SP at q; unfold nz_t; omega)
    have R := pz_gR R0 hT (by omega) (pz_U.of uX) um (fun a k q => by omega) (fun a k q => by unfold pz_SX pz_SP at q; unfold nz_t; omega)
    have E : ∀ a k, a = 844 ∨ a = 845 → (az_wr (az_wr y 804 57 0) 804 58 1).2 a k = σ.2 a k := fun a k q => um.2.2 a k (by omega) (fun q => by unfold pz_SX pz_SP at q; omega)
    have l845 := ln_845 H.2.1
    obtain ⟨x2, m2, L, y1, y2, y3, y4, y5, y6, -⟩ := pz_row (N := 845) H R ⟨fun a b q => ⟨by rw [E 845 b (by omega)]; exact q.2.2.2.1, q.1, by have := q.2.1; omega⟩, by decide, by decide, by decide, by omega⟩ (fun i i0 i1 q => by
      rw [E 844 i (by omega)] at q
      have := (sT (by omega)).2.2 i i0 i1
      omega) ⟨by decide, by decide, by decide⟩ O0 ⟨by rw [az_wr_ne (by omega), az_wr_same]; rfl, by simp, fun i hi => absurd hi (by simp)⟩
    exact ⟨x2, m2, L, y1, y2, y3, y4, y5, y6⟩
  obtain ⟨x2, -, -, y1, -, y3, -, -, -⟩ := ref σ pz_U.refl
  have ux2 : pz_U σ x2 pz_SX := (pz_U.of (uX.weak fun a k q => Or.inl (Or.inl ⟨q.1, Or.inl q.2⟩))).trans y3
  have hX2 := ux2.fx hF
  have uy : pz_U σ (az_wr x2 1 2 0) (fun a k => pz_SX a k ∨ (a = 1 ∧ k = 2)) := (ux2.weak fun _ _ q => Or.inl q).trans (pz_U.of (bz_Upd.wr bz_Upd.refl (Or.inr ⟨rfl, rfl⟩) (by decide)))
  obtain ⟨x2', m2, L, z1, z2, -, z4, z5, z6⟩ := ref _ uy
  rw [y1] at z1
  simp only [Option.some.injEq] at z1
  subst z1
  have hY := uy.fx hF
  have e81 : (az_wr x2 1 2 0).2 804 81 = σ.2 375 1 := by
    rw [uy.2.2 804 81 (by omega) (fun q => by unfold pz_SX pz_SP at q; omega)]; exact s3
  have hM0 : bz_Fx (az_wr (az_wr (az_wr x2 1 2 0) 804 57 0) 804 58 1) := hY.upd (S := fun _ _ => True) (bz_Upd.wr (bz_Upd.wr bz_Upd.refl trivial (by decide)) trivial (by decide))
  have um : bz_Upd (az_wr x2 1 2 0) (az_wr m2 804 2 0) (fun a k => pz_SY a k ∨ (a = 804 ∧ (k = 2 ∨ k = 58))) := bz_Upd.wr (bz_Upd.trans (bz_Upd.wr (bz_Upd.wr bz_Upd.refl (Or.inl (Or.inl (Or.inl ⟨rfl, rfl⟩))) (by decide)) (Or.inr ⟨rfl, Or.inr rfl⟩) (by decide)) (z4.weak fun _ _ q => Or.inl q)) (Or.inr ⟨rfl, Or.inl rfl⟩) (by decide)
  have E : ∀ a k, ¬ (a = 804) → a ≠ 836 → a ≠ 847 → ¬ (a = 1 ∧ k = 2) → (az_wr m2 804 2 0).2 a k = x2.2 a k := fun a k n1 n2 n3 n4 => by
    rw [um.2.2 a k (fun q => by unfold pz_SY pz_SR at q; omega), az_wr_ne (by omega)]
  have O2 : pz_O (az_wr m2 804 2 0) L := z5.cong (um.1.trans rfl) (fun k => E 801 k (by omega) (by omega) (by omega) (by omega)) (fun a k q => E a k (by omega) (by omega) (by omega) (by omega))
  have R2 : pz_R (az_wr m2 804 2 0) L := ⟨by rw [az_wr_ne (by omega)]; exact z6.1, z6.2.1, fun i hi => by rw [az_wr_ne (by omega)]; exact z6.2.2 i hi⟩
  have e58 : (az_wr m2 804 2 0).2 804 58 = 1 := by
    rw [az_wr_ne (by omega), z4.2.2 804 58 (fun q => by unfold pz_SY pz_SR at q; omega), az_wr_same]
  have uz : pz_U σ (az_wr m2 804 2 0) cz_np := by
    refine (uy.weak fun a k q => ?_).trans (pz_U.of (um.weak fun a k q => ?_))
    · rcases q with ((q | q) | q) | q
      · exact Or.inr (Or.inl q)
      · exact Or.inr (Or.inr (Or.inl q))
      · exact Or.inl (Or.inl (Or.inr (Or.inr (Or.inr (Or.inr (Or.inr (Or.inr (Or.inr (Or.inr (Or.inl q))))))))))
      · exact Or.inl (Or.inr (Or.inl q))
    · rcases q with ((q | q) | q) | ⟨q, q' | q'⟩
      · exact Or.inr (Or.inr (Or.inr (Or.inr (by omega))))
      · exact Or.inr (Or.inr (Or.inr (Or.inl q)))
      · exact Or.inl (Or.inl (yz_nkM (by omega)))
      · exact Or.inl (Or.inr (Or.inr ⟨q, q'⟩))
      · exact Or.inr (Or.inr (Or.inr (Or.inr (by omega))))
  refine ⟨(L.length : Int), az_wr x2 1 2 0, az_wr m2 804 2 0, ?_, ?_, T, s, cz_keepP uz h (pz_done O2 R2 e58), ?_⟩
  · show fz_X10_print 2000000 σ 1 = _
    have g5 : az_gref (az_wr σ 801 0 0) 1 5 = some T := bz_gr (by rw [az_wr_ne (by omega)]; exact h.1.2.1) (by omega)
    have e0 : x2.2 801 0 = L.length := by obtain ⟨j, -, -, -, -, -, j6, -⟩ := z5; exact j6
    unfold fz_X10_print
    rw [g12, Option.bind_some, if_neg z, fx_1_17 hF, Option.bind_some, fx_1_17 hX0, Option.bind_some, fx_1_12 hX0, Option.bind_some, g5, Option.bind_some, fx_1_16 hX0, Option.bind_some, fx_380_7 hX0, Option.bind_some, y1, Option.bind_some, fx_1_17 hX2, Option.bind_some, e0]
    rfl
  · show fz_X11_print 2000000 (az_wr x2 1 2 0) 804 = _
    have e81' : (az_wr (az_wr (az_wr x2 1 2 0) 804 57 0) 804 58 1).2 804 81 = σ.2 375 1 := by
      rw [az_wr_ne (by omega), az_wr_ne (by omega)]; exact e81
    unfold fz_X11_print
    rw [e81, if_neg z, fx_804_79 hM0, Option.bind_some, fx_804_80 hM0, Option.bind_some, e81', z2, Option.bind_some, z6.1]
    rfl
  · rw [az_wr_same, um.2.2 1 2 (fun q => by unfold pz_SY pz_SR at q; omega), az_wr_same]
