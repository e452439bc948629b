/-! the call step -/
theorem yz_isFrom {σ : az_Hp} {a : Int} (h : a = 0 ∨ a = 1) : fz_X11_isFrom σ a 0 1 = some 1 := by
  unfold fz_X11_isFrom
  rw [if_neg (by omega), if_neg (by omega)]
theorem yz_isNot {σ : az_Hp} {a : Int} (h : ¬ (a = 0 ∨ a = 1)) : fz_X11_isFrom σ a 0 1 = some 0 := by
  unfold fz_X11_isFrom
  by_cases c : a < 0
  · rw [if_pos c]
  · rw [if_neg c, if_pos (by omega)]
/-- the real run of the reference: it starts where the class ended -/
theorem yz_real {σ x2 : az_Hp} {T s o w v : Int} {xa x1 : az_Hp} (h : cz_K σ T s) (hN : 0 < σ.2 375 1) (ho : o = 0 ∨ o = 1) (t1 : fz_X7_take σ 244 375 = some xa) (hc : yz_cs xa o = some (w, x1)) (ux : bz_Upd σ x2 yz_cl) :
    ∃ τa τ1 n', fz_X11_laysTerm 2000000 (az_wr x2 1 2 v) 804 = some τa ∧ fz_X11_steps 2000000 τa 804 o = some (w, τ1) ∧ bz_Upd (az_wr x2 1 2 v) τ1 cz_nk ∧ yz_I x1 τ1 T s (cz_VT σ) (fun q => q < 2000) n' := by
  have uy : bz_Upd σ (az_wr x2 1 2 v) yz_cl := bz_Upd.wr ux (Or.inl ⟨rfl, Or.inl rfl⟩) (by decide)
  obtain ⟨b1, b2, b3, b4, b5⟩ := cz_base h hN uy
  obtain ⟨xa', τa, y1, y2, y3, y4, I1⟩ := yz_begin (Q := fun q => q < 2000) b1 b2 b3 b4 (fun _ q => q) b5
  rw [t1] at y1
  simp only [Option.some.injEq] at y1
  subst y1
  obtain ⟨w', x1', τ1, n', z1, z2, z3, z4, z5, I2, z6⟩ := yz_step ho I1
  have := yz_csOf z6
  rw [hc] at this
  simp only [Option.some.injEq, Prod.mk.injEq] at this
  obtain ⟨rfl, rfl⟩ := this
  exact ⟨τa, τ1, n', y2, z1, (y4.weak fun _ _ q => yz_lays_nk q).trans (z3.weak fun _ _ q => yz_TM_nk q), I2⟩
theorem cz_op_step : bz_op_step cz_J := by
  rintro a ha σ ⟨T, s, h, eq⟩
  have hF := h.1.1
  have hT := h.1.2.2.2.2.2.2.2.1
  obtain ⟨⟨s1, s2, s3⟩, -⟩ := h.2.2.2.2.1
  have g12 := fx_1_12 hF
  have g11 := fx_1_11 hF
  by_cases c01 : a = 0 ∨ a = 1
  rotate_left
  · refine cz_rd (f := fun σ => fz_X10_step 2000000 σ 1 a) (g := fun σ => fz_X11_step 2000000 σ 804 a) h (r := -1) (v := 1) ?_ ?_
    · simp only [fz_X10_step, fz_X10_refuse]
      rw [if_neg (by omega), if_neg (by omega), Option.bind_some]
    · simp only [fz_X11_step, fz_X11_refuse, yz_isNot c01, Option.bind_some, if_pos]
  have eX : fz_X10_step 2000000 σ 1 a = fz_X10_step_15 2000000 σ 1 a := by
    unfold fz_X10_step
    rcases c01 with rfl | rfl
    · rw [if_pos rfl]
    · rw [if_neg (by decide), if_pos rfl]
  by_cases z : σ.2 375 1 = 0
  · refine cz_rd (f := fun σ => fz_X10_step 2000000 σ 1 a) (g := fun σ => fz_X11_step 2000000 σ 804 a) h (r := -1) (v := 3) ?_ ?_
    · rw [eX]
      simp only [fz_X10_step_15, fz_X10_refuse, g12, Option.bind_some, if_pos z]
    · simp only [fz_X11_step, fz_X11_refuse, yz_isFrom c01, Option.bind_some]
      rw [if_neg (show ¬ (1 : Int) = 0 by decide), az_wr_ne (by omega), s3, if_pos z]
  have hN : 0 < σ.2 375 1 := by omega
  obtain ⟨b1, b2, b3, b4, b5⟩ := cz_base h hN (bz_Upd.refl (σ := σ))
  obtain ⟨xa, τ0, t1, -, t3, -, I1⟩ := yz_begin (Q := fun q => q < 2000) b1 b2 b3 b4 (fun _ q => q) b5
  obtain ⟨w, x1, τ1, n1, -, z2, -, z4, z5, I2, z6⟩ := yz_step c01 I1
  have cs := yz_csOf z6
  have hFa := hF.upd t3
  have ua : bz_Upd σ x1 cz_nk := (t3.weak fun a k q => yz_nkX (by unfold yz_S at q; omega)).trans (z2.weak fun _ _ q => yz_TX_nk q)
  have uc : bz_Upd σ x1 yz_cl := (t3.weak fun a k q => yz_nk_cl (by unfold yz_S at q; omega)).trans (z2.weak fun _ _ q => yz_RX_cl (Or.inl q))
  have runX : fz_X10_step 2000000 σ 1 a = ((fz_X5_findPlace 2000000 xa 243 a).bind fun r7 => (if r7.1 = 0 then ((fz_X10_refuse r7.2 1 5).bind fun r17 => (some (r17.1, r17.2))) else ((az_gref r7.2 1 11).bind fun x8 => ((fz_X5_rewrite 2000000 r7.2 x8).bind fun r9 => (if r9.1 = 0 then ((fz_X10_refuse r9.2 1 6).bind fun r16 => (some (r16.1, r16.2))) else ((az_gref r9.2 1 12).bind fun x10 => ((az_gref r9.2 1 11).bind fun x11 => ((az_gref r9.2 x11 3).bind fun x12 => ((fz_X7_take r9.2 x10 x12).bind fun r13 => ((az_gref r13 1 11).bind fun x14 => ((fz_X10_give r13 1 (r13.2 x14 5)).bind fun r15 => (some (r15.1, r15.2))))))))))))) := by
    rw [eX]
    unfold fz_X10_step_15
    rw [g12, Option.bind_some, if_neg z, g11, Option.bind_some, fx_243_3 hF, Option.bind_some, Option.bind_some, t1, Option.bind_some, fx_1_11 hFa, Option.bind_some]
  have runM : ∀ y τa w' τ1', fz_X11_laysTerm 2000000 y 804 = some τa → y.2 804 81 = σ.2 375 1 → fz_X11_steps 2000000 τa 804 a = some (w', τ1') → fz_X11_step 2000000 y 804 a = (if w' < 0 then (if w' = (-1) then some (-1, az_wr τ1' 804 2 5) else some (-1, az_wr τ1' 804 2 6)) else ((fz_X11_keepsTerm 2000000 τ1' 804).bind fun r4 => some (w', az_wr r4 804 2 0))) := by
    intro y τa w' τ1' h1 h2 h3
    unfold fz_X11_step
    rw [yz_isFrom c01, Option.bind_some, if_neg (show ¬ (1 : Int) = 0 by decide), h2, if_neg z, h1, Option.bind_some, h3, Option.bind_some]
    rfl
  have e81 : ∀ x2 v, bz_Upd σ x2 yz_cl → (az_wr x2 1 2 v).2 804 81 = σ.2 375 1 := fun x2 v u => by
    rw [az_wr_ne (by omega), u.2.2 804 81 (fun q => by unfold yz_cl at q; omega)]; exact s3
  rcases z6 with ⟨hw, q1⟩ | ⟨x0, q1, ⟨hw, q2⟩ | ⟨hw, q2, q3⟩⟩
  · obtain ⟨τa, τ1', n', r1, r2, r3, -⟩ := yz_real (v := 5) h hN c01 t1 cs uc
    refine cz_rw (f := fun σ => fz_X10_step 2000000 σ 1 a) (g := fun σ => fz_X11_step 2000000 σ 804 a) h (r := -1) (v := 5) ua ?_ r3 ?_
    · rw [runX, q1, Option.bind_some, if_pos rfl]
      rfl
    · rw [runM _ _ _ _ r1 (e81 _ _ uc) r2, hw, if_pos (by decide), if_pos rfl]
  · obtain ⟨τa, τ1', n', r1, r2, r3, -⟩ := yz_real (v := 6) h hN c01 t1 cs uc
    have hFx0 : az_gref x0 1 11 = some 243 := by
      obtain ⟨q', σx', σm', p1, -, p3, -⟩ := yz_first c01 I1
      rw [q1] at p1
      simp only [Option.some.injEq, Prod.mk.injEq] at p1
      rw [p1.2]
      exact fx_1_11 (hFa.upd p3)
    refine cz_rw (f := fun σ => fz_X10_step 2000000 σ 1 a) (g := fun σ => fz_X11_step 2000000 σ 804 a) h (r := -1) (v := 6) ua ?_ r3 ?_
    · rw [runX, q1, Option.bind_some, if_neg (show ¬ (1 : Int) = 0 by decide), hFx0, Option.bind_some, q2, Option.bind_some, if_pos rfl]
      rfl
    · rw [runM _ _ _ _ r1 (e81 _ _ uc) r2, hw, if_pos (by decide), if_neg (by decide)]
  · have hFx0 : az_gref x0 1 11 = some 243 := by
      obtain ⟨q', σx', σm', p1, -, p3, -⟩ := yz_first c01 I1
      rw [q1] at p1
      simp only [Option.some.injEq, Prod.mk.injEq] at p1
      rw [p1.2]
      exact fx_1_11 (hFa.upd p3)
    have hF1 := hF.upd uc
    have c375 : bz_cap 375 = 60 := by decide
    have c244 : bz_cap 244 = 60 := by decide
    have rr := I2.1.2.1
    have rn := rr.2.2.1
    obtain ⟨x2, k1, k2, k3, k4⟩ := yz_take (σ := x1) (r := 375) (q := 244) hF1 (by omega) (by omega) (by omega) (by rw [rr.2.1]; omega) (by rw [rr.2.1]; omega) (by rw [rr.2.1]; omega)
    have ub : bz_Upd σ x2 yz_cl := uc.trans (k2.weak fun a k q => yz_nk_cl (by unfold yz_S at q; omega))
    obtain ⟨τa, τ1', n', r1, r2, r3, I3⟩ := yz_real (v := 0) h hN c01 t1 cs ub
    have hM := I3.1.1.1.2.1
    have rn' := I3.1.2.1.2.2.1
    obtain ⟨τ2, j1, j2, j3, j4⟩ := yz_keepsTerm hM I3.1.2.2.2.2 (by omega) (by omega)
    have e5 : x2.2 243 5 = w := by rw [k2.2.2 243 5 (fun q => by unfold yz_S at q; omega)]; exact q3
    have hF2 := hF.upd ub
    have en : n1 = n' := by rw [← rr.2.1, I3.1.2.1.2.1]
    rw [rr.2.1] at k3 k4
    subst en
    have ut : bz_Upd σ (az_wr τ2 804 2 0) cz_nm := by
      refine bz_Upd.wr (bz_Upd.trans (bz_Upd.trans (bz_Upd.wr ((ua.weak fun _ _ q => Or.inl (Or.inl q)).trans (k2.weak fun a k q => ?_)) (Or.inl (Or.inr (Or.inl ⟨rfl, rfl⟩))) (by decide)) (r3.weak fun _ _ q => Or.inl (Or.inl q))) (j2.weak fun a k q => ?_)) (Or.inl (Or.inr (Or.inr ⟨rfl, rfl⟩))) (by decide)
      · rcases q with q | q
        · exact Or.inr (Or.inl q)
        · exact Or.inr (Or.inr (Or.inl (by omega)))
      · rcases q with q | q
        · exact Or.inr (Or.inr (Or.inr (Or.inl q)))
        · exact Or.inr (Or.inr (Or.inr (Or.inr (Or.inl (by omega)))))
    have fr : ∀ a k, ¬ cz_nk a k → ¬ yz_keeps a k → ¬ (a = 804 ∧ k = 2) → ¬ (a = 1 ∧ k = 2) → (az_wr τ2 804 2 0).2 a k = x2.2 a k := fun a k n1 n2 n3 n4 => by
      rw [az_wr_ne (by omega), j2.2.2 a k n2, r3.2.2 a k n1, az_wr_ne (by omega)]
    refine ⟨w, az_wr x2 1 2 0, az_wr τ2 804 2 0, ?_, ?_, T, s, cz_keepM ut h ?_ ?_, ?_⟩
    · show fz_X10_step 2000000 σ 1 a = _
      rw [runX, q1, Option.bind_some, if_neg (show ¬ (1 : Int) = 0 by decide), hFx0, Option.bind_some, q2, Option.bind_some, if_neg (show ¬ (1 : Int) = 0 by decide), fx_1_12 hF1, Option.bind_some, fx_1_11 hF1, Option.bind_some, fx_243_3 hF1, Option.bind_some, k1, Option.bind_some, fx_1_11 hF2, Option.bind_some, e5]
      rfl
    · show fz_X11_step 2000000 (az_wr x2 1 2 0) 804 a = _
      rw [runM _ _ _ _ r1 (e81 _ _ ub) r2, if_neg (by omega), j1, Option.bind_some]
    · rw [fr 1 15 (cz_nk6 (by omega)) (by unfold yz_keeps; omega) (by omega) (by omega), fr 804 82 (cz_nk5 (by omega)) (by unfold yz_keeps; omega) (by omega) (by omega), k2.2.2 1 15 (by unfold yz_S; omega), k2.2.2 804 82 (by unfold yz_S; omega), ua.2.2 1 15 (cz_nk6 (by omega)), ua.2.2 804 82 (cz_nk5 (by omega))]
      exact h.2.2.1.2.2
    · refine yz_term I3 ?_ ?_ (fun i i0 i1 => ?_) (fun i i0 i1 => ?_) ?_ ?_
      · rw [fr 375 1 (cz_nk2 (by omega)) (by unfold yz_keeps; omega) (by omega) (by omega)]; exact k3
      · rw [az_wr_ne (by omega)]; exact j3
      · rw [fr 376 i (cz_nk2 (by omega)) (by unfold yz_keeps; omega) (by omega) (by omega)]; exact k4 i i0 i1
      · rw [az_wr_ne (by omega)]; exact j4 i i0 i1
      · intro a k q
        rw [az_wr_ne (by omega), j2.2.2 a k (by unfold yz_keeps; omega)]
      · refine cz_VT.cong (fun i => ?_) (fun i => ?_)
        · rw [fr 379 i (cz_nk2 (by omega)) (by unfold yz_keeps; omega) (by omega) (by omega), ub.2.2 379 i (by unfold yz_cl; omega)]
        · rw [fr 845 i (cz_nk2 (by omega)) (by unfold yz_keeps; omega) (by omega) (by omega), ub.2.2 845 i (by unfold yz_cl; omega)]
    · rw [az_wr_same, az_wr_ne (by omega), j2.2.2 1 2 (by unfold yz_keeps; omega), r3.2.2 1 2 (cz_nk6 (by omega)), az_wr_same]
