/-! the call reduce -/
theorem yz_realR {σ y : az_Hp} {T s o w : Int} {xa x1 : az_Hp} (h : cz_K σ T s) (hN : 0 < σ.2 375 1) (ho : o = 0 ∨ o = 1) (t1 : fz_X7_take σ 244 375 = some xa) (hc : fz_X5_reduceAll 2000000 xa 243 o = some (w, x1)) (uy : bz_Upd σ y yz_cl) :
    ∃ τa τ1 n', fz_X11_laysTerm 2000000 y 804 = some τa ∧ fz_X11_reduces 2000000 τa 804 o = some (w, τ1) ∧ bz_Upd y τ1 cz_nk ∧ yz_I x1 τ1 T s (cz_VT σ) (fun q => q < 2000) n' ∧ (w = 0 ∨ w = 6 ∨ w = 7 ∨ w = 8) ∧ (w = 0 → x1.2 243 6 = τ1.2 804 77) ∧ (w = 7 → x1.2 243 7 = az_w32 (τ1.2 804 77 - τ1.2 804 78)) := by
  obtain ⟨b1, b2, b3, b4, b5⟩ := cz_base h hN uy
  obtain ⟨xa', τa, y1, y2, y3, y4, I1⟩ := yz_begin (Q := fun q => q < 2000) b1 b2 b3 b4 (fun _ q => q) b5
  rw [t1] at y1
  simp only [Option.some.injEq] at y1
  subst y1
  obtain ⟨w', x1', τ1, n', z1, z2, z3, z4, I2, z5, z6, z7⟩ := yz_reduce ho I1
  rw [hc] at z1
  simp only [Option.some.injEq, Prod.mk.injEq] at z1
  obtain ⟨rfl, rfl⟩ := z1
  exact ⟨τa, τ1, n', y2, z2, (y4.weak fun _ _ q => yz_lays_nk q).trans (z4.weak fun _ _ q => yz_RM_nk q), I2, z5, z6, z7⟩
theorem cz_op_reduce : bz_op_reduce cz_J := by
  rintro a ha σ ⟨T, s, h, eq⟩
  have hF := h.1.1
  have hT := h.1.2.2.2.2.2.2.2.1
  obtain ⟨⟨s1, s2, s3⟩, -⟩ := h.2.2.2.2.1
  have g12 := fx_1_12 hF
  have g11 := fx_1_11 hF
  by_cases c01 : a = 0 ∨ a = 1
  rotate_left
  · refine cz_rd (f := fun σ => fz_X10_reduce 2000000 σ 1 a) (g := fun σ => fz_X11_reduce 2000000 σ 804 a) h (r := -1) (v := 1) ?_ ?_
    · simp only [fz_X10_reduce, fz_X10_refuse]
      rw [if_neg (by omega), if_neg (by omega), Option.bind_some]
    · simp only [fz_X11_reduce, fz_X11_refuse, yz_isNot c01, Option.bind_some, if_pos]
  have eX : fz_X10_reduce 2000000 σ 1 a = fz_X10_reduce_15 2000000 σ 1 a := by
    unfold fz_X10_reduce
    rcases c01 with rfl | rfl
    · rw [if_pos rfl]
    · rw [if_neg (by decide), if_pos rfl]
  by_cases z : σ.2 375 1 = 0
  · refine cz_rd (f := fun σ => fz_X10_reduce 2000000 σ 1 a) (g := fun σ => fz_X11_reduce 2000000 σ 804 a) h (r := -1) (v := 3) ?_ ?_
    · rw [eX]
      simp only [fz_X10_reduce_15, fz_X10_refuse, g12, Option.bind_some, if_pos z]
    · simp only [fz_X11_reduce, fz_X11_refuse, yz_isFrom c01, Option.bind_some]
      rw [if_neg (show ¬ (1 : Int) = 0 by decide), az_wr_ne (by omega), s3, if_pos z]
  have hN : 0 < σ.2 375 1 := by omega
  obtain ⟨b1, b2, b3, b4, b5⟩ := cz_base h hN (bz_Upd.refl (σ := σ))
  obtain ⟨xa, τ0, t1, -, t3, -, I1⟩ := yz_begin (Q := fun q => q < 2000) b1 b2 b3 b4 (fun _ q => q) b5
  obtain ⟨w, x1, τ1, n1, z1, -, z2, -, I2, z5, -, -⟩ := yz_reduce c01 I1
  have hFa := hF.upd t3
  have ua : bz_Upd σ x1 cz_nk := (t3.weak fun a k q => yz_nkX (by unfold yz_S at q; omega)).trans (z2.weak fun _ _ q => yz_RX_nk q)
  have uc : bz_Upd σ x1 yz_cl := (t3.weak fun a k q => yz_nk_cl (by unfold yz_S at q; omega)).trans (z2.weak fun _ _ q => yz_RX_cl q)
  have hF1 := hF.upd uc
  have c375 : bz_cap 375 = 60 := by decide
  have c244 : bz_cap 244 = 60 := by decide
  have rr := I2.1.2.1
  have rn := rr.2.2.1
  obtain ⟨x2, k1, k2, k3, k4⟩ := yz_take (σ := x1) (r := 375) (q := 244) hF1 (by omega) (by omega) (by omega) (by rw [rr.2.1]; omega) (by rw [rr.2.1]; omega) (by rw [rr.2.1]; omega)
  have ub : bz_Upd σ x2 yz_cl := uc.trans (k2.weak fun a k q => yz_nk_cl (by unfold yz_S at q; omega))
  have hF2 := hF.upd ub
  have e6 : x2.2 243 6 = x1.2 243 6 := k2.2.2 243 6 (by unfold yz_S; omega)
  have e7 : x2.2 243 7 = x1.2 243 7 := k2.2.2 243 7 (by unfold yz_S; omega)
  have runX : fz_X10_reduce 2000000 σ 1 a = (if w = 7 then fz_X10_reduce_85 2000000 (az_wr x2 1 15 (x2.2 243 7)) 1 w else fz_X10_reduce_85 2000000 x2 1 w) := by
    rw [eX]
    unfold fz_X10_reduce_15
    rw [g12, Option.bind_some, if_neg z, g11, Option.bind_some, fx_243_3 hF, Option.bind_some, Option.bind_some, t1, Option.bind_some, fx_1_11 hFa, Option.bind_some, z1, Option.bind_some, fx_1_12 hF1, Option.bind_some, fx_1_11 hF1, Option.bind_some, fx_243_3 hF1, Option.bind_some, k1, Option.bind_some, fx_1_11 hF2, Option.bind_some]
  have r85 : ∀ x3, bz_Fx x3 → fz_X10_reduce_85 2000000 x3 1 w = some (if w = 0 then x3.2 243 6 else -1, az_wr x3 1 2 w) := fun x3 hF3 => by
    unfold fz_X10_reduce_85 fz_X10_give fz_X10_refuse
    by_cases e : w = 0
    · rw [if_pos e, fx_1_11 hF3, Option.bind_some, Option.bind_some, if_pos e, e]
    · rw [if_neg e, Option.bind_some, if_neg e]
  obtain ⟨x3, f1, f2, f3, f4, f5⟩ : ∃ x3, fz_X10_reduce 2000000 σ 1 a = some (if w = 0 then x1.2 243 6 else -1, az_wr x3 1 2 w) ∧ bz_Upd x2 x3 (fun a k => a = 1 ∧ k = 15) ∧ (w = 7 → x3.2 1 15 = x1.2 243 7) ∧ (w ≠ 7 → x3 = x2) ∧ True := by
    rw [runX]
    by_cases e : w = 7
    · have u : bz_Upd x2 (az_wr x2 1 15 (x2.2 243 7)) (fun a k => a = 1 ∧ k = 15) := bz_Upd.wr bz_Upd.refl ⟨rfl, rfl⟩ (by decide)
      refine ⟨az_wr x2 1 15 (x2.2 243 7), ?_, u, fun _ => by rw [az_wr_same]; exact e7, fun q => absurd e q, trivial⟩
      rw [if_pos e, r85 _ (hF2.upd u), az_wr_ne (by omega), e6]
    · refine ⟨x2, ?_, bz_Upd.refl, fun q => absurd q e, fun _ => rfl, trivial⟩
      rw [if_neg e, r85 _ hF2, e6]
  have ux3 : bz_Upd σ x3 yz_cl := ub.trans (f2.weak fun a k q => Or.inl ⟨q.1, Or.inr q.2⟩)
  have uy : bz_Upd σ (az_wr x3 1 2 w) yz_cl := bz_Upd.wr ux3 (Or.inl ⟨rfl, Or.inl rfl⟩) (by decide)
  obtain ⟨τa, τ1', n', r1, r2, r3, I3, -, r6, r7⟩ := yz_realR h hN c01 t1 z1 uy
  have hM := I3.1.1.1.2.1
  have rn' := I3.1.2.1.2.2.1
  obtain ⟨τ2, j1, j2, j3, j4⟩ := yz_keepsTerm hM I3.1.2.2.2.2 (by omega) (by omega)
  have en : n1 = n' := by rw [← rr.2.1, I3.1.2.1.2.1]
  rw [rr.2.1] at k3 k4
  subst en
  have h77 : τ2.2 804 77 = τ1'.2 804 77 := j2.2.2 804 77 (by unfold yz_keeps; omega)
  have h78 : τ2.2 804 78 = τ1'.2 804 78 := j2.2.2 804 78 (by unfold yz_keeps; omega)
  have e81 : (az_wr x3 1 2 w).2 804 81 = σ.2 375 1 := by
    rw [uy.2.2 804 81 (fun q => by unfold yz_cl at q; omega)]; exact s3
  have runM : fz_X11_reduce 2000000 (az_wr x3 1 2 w) 804 a = (if w = 7 then fz_X11_reduce_61 2000000 (az_wr τ2 804 82 (az_w32 (τ2.2 804 77 - τ2.2 804 78))) 804 w else fz_X11_reduce_61 2000000 τ2 804 w) := by
    unfold fz_X11_reduce
    rw [yz_isFrom c01, Option.bind_some, if_neg (show ¬ (1 : Int) = 0 by decide), e81, if_neg z, r1, Option.bind_some, r2, Option.bind_some, j1, Option.bind_some]
  have r61 : ∀ x3, fz_X11_reduce_61 2000000 x3 804 w = some (if w = 0 then x3.2 804 77 else -1, az_wr x3 804 2 w) := fun x3 => by
    unfold fz_X11_reduce_61 fz_X11_gives fz_X11_refuse
    by_cases e : w = 0
    · rw [if_pos e, Option.bind_some, if_pos e, e]
    · rw [if_neg e, Option.bind_some, if_neg e]
  obtain ⟨τ3, p1, p2, p3, p4⟩ : ∃ τ3, fz_X11_reduce 2000000 (az_wr x3 1 2 w) 804 a = some (if w = 0 then τ1'.2 804 77 else -1, az_wr τ3 804 2 w) ∧ bz_Upd τ2 τ3 (fun a k => a = 804 ∧ k = 82) ∧ (w = 7 → τ3.2 804 82 = az_w32 (τ1'.2 804 77 - τ1'.2 804 78)) ∧ (w ≠ 7 → τ3 = τ2) := by
    rw [runM]
    by_cases e : w = 7
    · have u : bz_Upd τ2 (az_wr τ2 804 82 (az_w32 (τ2.2 804 77 - τ2.2 804 78))) (fun a k => a = 804 ∧ k = 82) := bz_Upd.wr bz_Upd.refl ⟨rfl, rfl⟩ (by decide)
      refine ⟨az_wr τ2 804 82 (az_w32 (τ2.2 804 77 - τ2.2 804 78)), ?_, u, fun _ => by rw [az_wr_same, h77, h78], fun q => absurd e q⟩
      rw [if_pos e, r61, az_wr_ne (by omega), h77]
    · refine ⟨τ2, ?_, bz_Upd.refl, fun q => absurd q e, fun _ => rfl⟩
      rw [if_neg e, r61, h77]
  have er : (if w = 0 then x1.2 243 6 else -1) = (if w = 0 then τ1'.2 804 77 else -1) := by
    by_cases e : w = 0
    · rw [if_pos e, if_pos e]; exact r6 e
    · rw [if_neg e, if_neg e]
  have ut : bz_Upd σ (az_wr τ3 804 2 w) cz_nm := by
    have u1 : bz_Upd σ x2 cz_nm := (ua.weak fun _ _ q => Or.inl (Or.inl q)).trans (k2.weak fun a k q => by
      rcases q with q | q
      · exact Or.inr (Or.inl q)
      · exact Or.inr (Or.inr (Or.inl (by omega))))
    have u2 : bz_Upd σ (az_wr x3 1 2 w) cz_nm := bz_Upd.wr (u1.trans (f2.weak fun a k q => Or.inr (Or.inr (Or.inr (Or.inr (Or.inr q)))))) (Or.inl (Or.inr (Or.inl ⟨rfl, rfl⟩))) (by decide)
    have u3 : bz_Upd σ τ2 cz_nm := (u2.trans (r3.weak fun _ _ q => Or.inl (Or.inl q))).trans (j2.weak fun a k q => by
      rcases q with q | q
      · exact Or.inr (Or.inr (Or.inr (Or.inl q)))
      · exact Or.inr (Or.inr (Or.inr (Or.inr (Or.inl (by omega))))))
    exact bz_Upd.wr (u3.trans (p2.weak fun a k q => Or.inr (Or.inr (Or.inr (Or.inr (Or.inl (by omega))))))) (Or.inl (Or.inr (Or.inr ⟨rfl, rfl⟩))) (by decide)
  have fr : ∀ a k, ¬ cz_nk a k → ¬ yz_keeps a k → ¬ (a = 804 ∧ (k = 2 ∨ k = 82)) → ¬ (a = 1 ∧ k = 2) → (az_wr τ3 804 2 w).2 a k = x3.2 a k := fun a k n1 n2 n3 n4 => by
    rw [az_wr_ne (by omega), p2.2.2 a k (by omega), j2.2.2 a k n2, r3.2.2 a k n1, az_wr_ne (by omega)]
  have fx3 : ∀ a k, ¬ (a = 1 ∧ k = 15) → x3.2 a k = x2.2 a k := fun a k q => f2.2.2 a k q
  have fm : ∀ a k, ¬ (a = 804 ∧ (k = 2 ∨ k = 82)) → (az_wr τ3 804 2 w).2 a k = τ2.2 a k := fun a k q => by
    rw [az_wr_ne (by omega), p2.2.2 a k (by omega)]
  refine ⟨_, az_wr x3 1 2 w, az_wr τ3 804 2 w, f1, p1.trans (by rw [er]), T, s, cz_keepM ut h ?_ ?_, ?_⟩
  · rw [fr 1 15 (cz_nk6 (by omega)) (by unfold yz_keeps; omega) (by omega) (by omega), az_wr_ne (by omega)]
    by_cases e : w = 7
    · rw [f3 e, p3 e]
      exact r7 e
    · rw [f4 e, p4 e, k2.2.2 1 15 (by unfold yz_S; omega), ua.2.2 1 15 (cz_nk6 (by omega)), j2.2.2 804 82 (by unfold yz_keeps; omega), r3.2.2 804 82 (cz_nk5 (by omega)), az_wr_ne (by omega), fx3 804 82 (by omega), k2.2.2 804 82 (by unfold yz_S; omega), ua.2.2 804 82 (cz_nk5 (by omega))]
      exact h.2.2.1.2.2
  · refine yz_term I3 ?_ ?_ (fun i i0 i1 => ?_) (fun i i0 i1 => ?_) ?_ ?_
    · rw [fr 375 1 (cz_nk2 (by omega)) (by unfold yz_keeps; omega) (by omega) (by omega), fx3 375 1 (by omega)]; exact k3
    · rw [fm 804 81 (by omega)]; exact j3
    · rw [fr 376 i (cz_nk2 (by omega)) (by unfold yz_keeps; omega) (by omega) (by omega), fx3 376 i (by omega)]; exact k4 i i0 i1
    · rw [fm 844 i (by omega)]; exact j4 i i0 i1
    · intro a k q
      rw [fm a k (by omega), j2.2.2 a k (by unfold yz_keeps; omega)]
    · refine cz_VT.cong (fun i => ?_) (fun i => ?_)
      · rw [fr 379 i (cz_nk2 (by omega)) (by unfold yz_keeps; omega) (by omega) (by omega), ux3.2.2 379 i (by unfold yz_cl; omega)]
      · rw [fr 845 i (cz_nk2 (by omega)) (by unfold yz_keeps; omega) (by omega) (by omega), ux3.2.2 845 i (by unfold yz_cl; omega)]
  · rw [az_wr_same, fm 1 2 (by omega), j2.2.2 1 2 (by unfold yz_keeps; omega), r3.2.2 1 2 (cz_nk6 (by omega)), az_wr_same]
