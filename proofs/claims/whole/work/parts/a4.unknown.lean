/-! the call unknown -/
def qz_yS (a k : Int) : Prop := (a = 1 ∧ k = 2) ∨ (377 ≤ a ∧ a ≤ 378) ∨ a = 387 ∨ a = 388 ∨ (801 ≤ a ∧ a ≤ 803)
theorem qz_env {σ y : az_Hp} {T s : Int} (h : cz_K σ T s) (hU : pz_U σ y qz_yS) : mz_H σ y T s ∧ ∃ ρ : Int → Nat, (∀ k, ρ k < 6) ∧ qz_Env σ y T s (σ.2 380 5) (cz_VW σ) ρ := by
  obtain ⟨C0, -⟩ := cz_rzC h (bz_Upd.refl (σ := σ))
  have hT := h.1.2.2.2.2.2.2.2.1
  have H := pz_gH C0.1 (pz_U.refl (S := fun _ _ => False)) hU (fun a k q => q.elim) (fun a k q => by unfold qz_yS at q; unfold nz_t; omega)
  have tS : bz_tS σ y := fun a k q => hU.2.2 a k (by omega) (fun z => by unfold qz_yS at z; omega)
  have W := h.2.2.2.2.2.1
  obtain ⟨q1, q2, q3, q4, q5, ⟨ρ, r1, r2⟩, -⟩ := W
  have e864 : ∀ k, y.2 864 k = σ.2 864 k := fun k => hU.2.2 _ _ (by omega) (fun z => by unfold qz_yS at z; omega)
  have e863 : ∀ k, y.2 863 k = σ.2 863 k := fun k => hU.2.2 _ _ (by omega) (fun z => by unfold qz_yS at z; omega)
  refine ⟨H, ρ, r1, ⟨q2.2.1, q2.2.2⟩, fun z e k k0 k1 => ?_, fun k k0 k1 kp => ?_, fun k i u k0 k1 i0 i1 u0 e e' => ?_⟩
  · rw [e864]
    exact qz_bound (s := s) h.2.2.2.2.2.1 e k0 k1
  · rw [e864] at kp ⊢
    obtain ⟨v1, v2, v3, v4⟩ := (q5 k k0 k1).2.2 kp
    have cap : bz_cap (789 + 2 * k) = 60 := by
      unfold bz_cap
      rw [if_neg (by omega), if_neg (by omega), if_neg (by omega), if_neg (by omega), if_neg (by omega), if_pos (by omega)]
    have l863 := ln_863 H.2.1
    have cr : ∀ i, 0 ≤ i → i < σ.2 864 k → bz_cr (bz_ct y s) (bz_ft y s) (y.2 T 0) (y.2 T 1) (cz_VW σ) (σ.2 (789 + 2 * k + 1) i) (y.2 863 (60 * k + i)) := fun i i0 i1 => by
      rw [bz_ct_tS tS, bz_ft_tS tS, tS T 0 (by omega), tS T 1 (by omega), e863]
      exact v3 i i0 i1
    refine ⟨⟨by omega, by omega, by omega, fun i i0 i1 => (cr i i0 (by omega)).I H.tb.2.1 cz_VW.vv.1⟩, v1, ⟨by omega, v2⟩, fun i i0 i1 => ⟨cr i i0 i1, fun q => ?_⟩, v4, by omega, by omega, by omega, by decide, by decide⟩
    rw [e863] at q ⊢
    exact (r2 k i k0 k1 i0 i1 q).1
  · rw [e864] at i1 e'
    rw [e863] at e
    have := (r2 k i k0 k1 i0 i1 (by omega)).2
    rw [e, show 2000 + u - 2000 = u by omega] at this
    exact this e'
/-- a value told -/
theorem qz_ref {σ y : az_Hp} {T s a : Int} (h : cz_K σ T s) (hU : pz_U σ y qz_yS) (a0 : 0 ≤ a) (a1 : a < σ.2 380 5) (ap : 0 < σ.2 864 a) :
    (∃ x' m', fz_X8_expand 2000000 σ 380 (789 + 2 * a) 377 = some (0, x') ∧ fz_X11_expands 2000000 y 804 863 (60 * a) (σ.2 864 a) = some (0, m') ∧ bz_Upd σ x' (qz_SX 377) ∧ bz_Upd y m' yz_next) ∨
    (∃ (x' m' x'' m'' : az_Hp) (L : List Int), fz_X8_expand 2000000 σ 380 (789 + 2 * a) 377 = some (1, x') ∧ fz_X11_expands 2000000 y 804 863 (60 * a) (σ.2 864 a) = some (1, m') ∧ bz_Upd σ x' (qz_SX 377) ∧ bz_Upd y m' yz_next ∧ fz_X3_putRow 2000000 (az_wr x' 801 0 0) 801 377 T 381 = some x'' ∧ fz_X11_tellsRow 2000000 (az_wr (az_wr m' 804 57 0) 804 58 1) 804 840 (m'.2 804 70) 858 = some m'' ∧ pz_U (az_wr x' 801 0 0) x'' pz_SX ∧ bz_Upd (az_wr (az_wr m' 804 57 0) 804 58 1) m'' pz_SY ∧ pz_O x'' L ∧ pz_R m'' L) := by
  have hF := h.1.1
  have hT := h.1.2.2.2.2.2.2.2.1
  obtain ⟨H, ρ, ρ6, E⟩ := qz_env h hU
  have W := h.2.2.2.2.2.1
  obtain ⟨q1, q2, q3, q4, q5, -⟩ := W
  have e864 : ∀ k, y.2 864 k = σ.2 864 k := fun k => hU.2.2 _ _ (by omega) (fun z => by unfold qz_yS at z; omega)
  have hr := E.2.2.1 a a0 a1 (by rw [e864]; exact ap)
  rw [e864] at hr
  rcases qz_expand (t := 377) H.1 H.2.1 H.tb.2.1 cz_VW.vv.1 E ρ6 (by decide) (by decide) hr (by omega) with ⟨x', m', i1, i2, i3, i4⟩ | ⟨x', m', sz, i1, i2, i3, i4, i5, i6, i7⟩
  · exact Or.inl ⟨x', m', i1, i2, i3, i4⟩
  · right
    obtain ⟨t1, t2, t3, t4⟩ := i5
    obtain ⟨C0, -⟩ := cz_rzC h (bz_Upd.refl (σ := σ))
    have ux : pz_U σ (az_wr x' 801 0 0) (fun a k => qz_SX 377 a k ∨ (a = 801 ∧ k = 0)) := pz_U.of (bz_Upd.wr (i3.weak fun _ _ z => Or.inl z) (Or.inr ⟨rfl, rfl⟩) (by decide))
    have um : pz_U σ (az_wr (az_wr m' 804 57 0) 804 58 1) (fun a k => (qz_yS a k ∨ yz_next a k) ∨ (a = 804 ∧ (k = 57 ∨ k = 58))) := ((hU.weak fun _ _ z => Or.inl (Or.inl z)).trans (pz_U.of (i4.weak fun _ _ z => Or.inl (Or.inr z)))).trans (pz_U.of (bz_Upd.wr (bz_Upd.wr bz_Upd.refl (Or.inr ⟨rfl, Or.inl rfl⟩) (by decide)) (Or.inr ⟨rfl, Or.inr rfl⟩) (by decide)))
    have H2 : mz_H (az_wr x' 801 0 0) (az_wr (az_wr m' 804 57 0) 804 58 1) T s := pz_gH C0.1 ux um (fun a k q => by unfold qz_SX yz_S at q; unfold nz_t; omega) (fun a k q => by unfold qz_yS yz_next at q; unfold nz_t; omega)
    have tS : bz_tS y (az_wr (az_wr m' 804 57 0) 804 58 1) := fun a k q => by
      rw [az_wr_ne (by omega), az_wr_ne (by omega), i4.2.2 a k (fun z => by unfold yz_next at z; omega)]
    have cd : ∀ i, 0 ≤ i → i < sz → bz_cr (bz_ct (az_wr (az_wr m' 804 57 0) 804 58 1) s) (bz_ft (az_wr (az_wr m' 804 57 0) 804 58 1) s) ((az_wr (az_wr m' 804 57 0) 804 58 1).2 T 0) ((az_wr (az_wr m' 804 57 0) 804 58 1).2 T 1) (cz_VW σ) ((az_wr x' 801 0 0).2 (377 + 1) i) ((az_wr (az_wr m' 804 57 0) 804 58 1).2 840 i) ∧ (2000 ≤ (az_wr (az_wr m' 804 57 0) 804 58 1).2 840 i → (az_wr (az_wr m' 804 57 0) 804 58 1).2 840 i - 2000 < σ.2 380 5) := fun i i0 i1 => by
      rw [bz_ct_tS tS, bz_ft_tS tS, tS T 0 (by omega), tS T 1 (by omega), az_wr_ne (by omega), az_wr_ne (by omega), az_wr_ne (by omega)]
      exact (t4 i i0 i1).1
    have l840 := ln_840 H2.2.1
    have c377 : bz_cap 377 = 60 := by decide
    have e377 : (az_wr x' 801 0 0).2 377 1 = sz := by rw [az_wr_ne (by omega)]; exact t1
    have R2 : rz_R (az_wr x' 801 0 0) (az_wr (az_wr m' 804 57 0) 804 58 1) T s (cz_VW σ) 377 840 sz := by
      refine ⟨⟨by omega, by omega, by omega, fun i i0 i1 => (cd i i0 (by omega)).1.I H2.tb.2.1 cz_VW.vv.1⟩, e377, ⟨i6, t3.2⟩, fun i i0 i1 => (cd i i0 i1).1, ?_, ⟨by omega, by omega, by omega⟩, cz_VW.vv.1, cz_VW.vv.2⟩
      refine i7.cong (fun j j0 j1 => ?_)
      unfold bz_ra
      rw [az_wr_ne (by omega)]
    have fm : ∀ a k, a = 858 ∨ a = 859 → (az_wr (az_wr m' 804 57 0) 804 58 1).2 a k = σ.2 a k := fun a k q => um.2.2 a k (by omega) (fun z => by unfold qz_yS yz_next at z; omega)
    have fx : ∀ k, (az_wr x' 801 0 0).2 381 k = σ.2 381 k := fun k => ux.2.2 381 k (by omega) (fun z => by unfold qz_SX yz_S at z; omega)
    have l858 := ln_858 H2.2.1
    have K1 : cz_K x' T s := cz_keep (i3.weak fun a k z => Or.inl (by
      rcases z with z | z | z
      · exact yz_nkX (by unfold yz_S at z; omega)
      · exact Or.inr (Or.inr (Or.inr (Or.inr (Or.inr (Or.inr (Or.inr (Or.inl (by omega))))))))
      · exact Or.inr (Or.inr (Or.inr (Or.inr (Or.inr (Or.inr (Or.inr (Or.inl (by omega))))))))) ) h
    obtain ⟨x2, m2, L, y1, y2, y3, y4, y5, y6, -⟩ := pz_row (N := 858) H2 R2 ⟨fun a b q => ⟨by rw [fm 858 b (by omega)]; exact q.2.2.1, q.1, by have := q.2.1; omega⟩, by decide, by decide, by decide, by omega⟩ (fun i i0 i1 q => by
      have := (cd i i0 i1).2 q
      rw [fx, fm 859 _ (by omega)]
      exact (q5 _ (by omega) this).1) ⟨by decide, by decide, by decide⟩ (pz_start K1) ⟨by rw [az_wr_ne (by omega), az_wr_same]; rfl, by simp, fun i hi => absurd hi (by simp)⟩
    exact ⟨x', m', x2, m2, L, i1, i2, i3, i4, y1, by rw [t2]; exact y2, y3, y4, y5, y6⟩
theorem qz_SX_nk {a k : Int} (z : qz_SX 377 a k) : cz_nk a k := by
  rcases z with z | z | z
  · exact yz_nkX (by unfold yz_S at z; omega)
  · exact Or.inr (Or.inr (Or.inr (Or.inr (Or.inr (Or.inr (Or.inr (Or.inl (by omega))))))))
  · exact Or.inr (Or.inr (Or.inr (Or.inr (Or.inr (Or.inr (Or.inr (Or.inl (by omega))))))))
theorem cz_op_unknown : bz_op_unknown cz_J := by
  rintro a ha σ ⟨T, s, h, eq⟩
  have hF := h.1.1
  have hT := h.1.2.2.2.2.2.2.2.1
  have W := h.2.2.2.2.2.1
  obtain ⟨q1, q2, q3, q4, q5, -⟩ := W
  have g16 := fx_1_16 hF
  have l864 := ln_864 hF
  have isF : ∀ y : az_Hp, y.2 804 101 = σ.2 380 5 → fz_X11_isFrom y a 0 (az_w32 (y.2 804 101 - 1)) = some (if 0 ≤ a ∧ a < σ.2 380 5 then 1 else 0) := fun y e => by
    unfold fz_X11_isFrom
    rw [e, az_w32_id (by omega) (by omega)]
    by_cases c : a < 0
    · rw [if_pos c, if_neg (by omega)]
    · rw [if_neg c]
      by_cases c' : a < σ.2 380 5
      · rw [if_neg (by omega), if_pos (by omega)]
      · rw [if_pos (by omega), if_neg (by omega)]
  by_cases qa : 0 ≤ a ∧ a < σ.2 380 5
  rotate_left
  · refine cz_rd (f := fun σ => fz_X10_unknown 2000000 σ 1 a) (g := fun σ => fz_X11_unknown 2000000 σ 804 a) h (r := -1) (v := 2) ?_ ?_
    · simp only [fz_X10_unknown, fz_X10_refuse]
      by_cases c : a < 0
      · rw [if_pos c, Option.bind_some]
      · rw [if_neg c, g16, Option.bind_some, if_neg (by omega), Option.bind_some]
    · simp only [fz_X11_unknown, fz_X11_refuse]
      rw [isF _ (by rw [az_wr_ne (by omega)]; exact q2.1.symm), Option.bind_some, if_neg qa, if_pos rfl, Option.bind_some]
  have isb := qz_bound (y := σ) (k := a) (T := T) (s := s) h.2.2.2.2.2.1 rfl qa.1 qa.2
  have n0 := (q5 a qa.1 qa.2).2.1
  by_cases ap : 0 < σ.2 864 a
  rotate_left
  · refine cz_rd (f := fun σ => fz_X10_unknown 2000000 σ 1 a) (g := fun σ => fz_X11_unknown 2000000 σ 804 a) h (r := -1) (v := 5) ?_ ?_
    · simp only [fz_X10_unknown, fz_X10_refuse]
      rw [if_neg (by omega), g16, Option.bind_some, if_pos qa.2, Option.bind_some, isb, if_neg ap, Option.bind_some, if_pos rfl, Option.bind_some]
    · have hF1 : bz_Fx (az_wr σ 1 2 5) := (cz_K1 h 5).1.1
      simp only [fz_X11_unknown, fz_X11_refuse]
      rw [isF _ (by rw [az_wr_ne (by omega)]; exact q2.1.symm), Option.bind_some, if_pos qa, if_neg (show ¬ (1 : Int) = 0 by decide), fx_804_106 hF1, Option.bind_some, bz_ard (by omega) (by rw [ln_864 hF1]; omega), Option.bind_some, az_wr_ne (by omega), if_pos (by omega), Option.bind_some]
  rw [if_pos ap] at isb
  obtain ⟨lA, vA⟩ := bz_fxA hF (show ((382 : Int), (6 : Int), (789 : Int), (2 : Int)) ∈ bz_rowsL by decide)
  have a382 : az_arr σ 382 a = some (789 + 2 * a) := by
    unfold az_arr
    rw [vA a (by omega) (by omega), if_pos ⟨⟨by omega, by omega⟩, by omega⟩]
  have runX : fz_X10_unknown 2000000 σ 1 a = ((fz_X8_expand 2000000 σ 380 (789 + 2 * a) 377).bind fun r10 => (if r10.1 = 0 then ((fz_X10_refuse r10.2 1 6).bind fun r20 => (some (r20.1, r20.2))) else ((az_gref r10.2 1 17).bind fun x11 => ((az_gref (az_wr r10.2 x11 0 0) 1 17).bind fun x12 => ((az_gref (az_wr r10.2 x11 0 0) 1 13).bind fun x13 => ((az_gref (az_wr r10.2 x11 0 0) 1 5).bind fun x14 => ((az_gref (az_wr r10.2 x11 0 0) 1 16).bind fun x15 => ((az_gref (az_wr r10.2 x11 0 0) x15 7).bind fun x16 => ((fz_X3_putRow 2000000 (az_wr r10.2 x11 0 0) x12 x13 x14 x16).bind fun r17 => ((az_gref r17 1 17).bind fun x18 => ((fz_X10_give r17 1 (r17.2 x18 0)).bind fun r19 => (some (r19.1, r19.2)))))))))))) ) := by
    unfold fz_X10_unknown
    rw [if_neg (by omega), g16, Option.bind_some, if_pos qa.2, Option.bind_some, isb, Option.bind_some, if_neg (show ¬ (1 : Int) = 0 by decide), Option.bind_some, Option.bind_some, fx_380_8 hF, Option.bind_some, a382, Option.bind_some, fx_1_13 hF, Option.bind_some]
  have runM : ∀ y, pz_U σ y qz_yS → fz_X11_unknown 2000000 y 804 a = ((fz_X11_expands 2000000 y 804 863 (60 * a) (σ.2 864 a)).bind fun r7 => (if r7.1 = 0 then ((fz_X11_refuse r7.2 804 6).bind fun r12 => (some (r12.1, r12.2))) else ((az_gref (az_wr (az_wr r7.2 804 57 0) 804 58 1) 804 68).bind fun x8 => ((az_gref (az_wr (az_wr r7.2 804 57 0) 804 58 1) 804 98).bind fun x9 => ((fz_X11_tellsRow 2000000 (az_wr (az_wr r7.2 804 57 0) 804 58 1) 804 x8 ((az_wr (az_wr r7.2 804 57 0) 804 58 1).2 804 70) x9).bind fun r10 => ((fz_X11_gives r10 804 (r10.2 804 57)).bind fun r11 => (some (r11.1, r11.2)))))))) := fun y hU => by
    have hY := hU.fx hF
    have e864 : ∀ k, y.2 864 k = σ.2 864 k := fun k => hU.2.2 _ _ (by omega) (fun z => by unfold qz_yS at z; omega)
    have e101 : y.2 804 101 = σ.2 380 5 := by rw [hU.2.2 804 101 (by omega) (fun z => by unfold qz_yS at z; omega)]; exact q2.1.symm
    unfold fz_X11_unknown
    rw [isF y e101, Option.bind_some, if_pos qa, if_neg (show ¬ (1 : Int) = 0 by decide), fx_804_106 hY, Option.bind_some, bz_ard (by omega) (by rw [ln_864 hY]; omega), Option.bind_some, e864, if_neg (by omega), fx_804_105 hY, Option.bind_some, Option.bind_some, bz_ard (by omega) (by rw [ln_864 hY]; omega), Option.bind_some, e864, az_w32_id (by omega) (by omega)]
  rcases qz_ref h pz_U.refl qa.1 qa.2 ap with ⟨x', m', i1, i2, i3, i4⟩ | ⟨x', m', x2, m2, L, i1, i2, i3, i4, i5, i6, i7, i8, i9, i10⟩
  · have uy : pz_U σ (az_wr x' 1 2 6) qz_yS := pz_U.of (bz_Upd.wr (i3.weak fun a k z => by unfold qz_SX yz_S at z; unfold qz_yS; omega) (Or.inl ⟨rfl, rfl⟩) (by decide))
    rcases qz_ref h uy qa.1 qa.2 ap with ⟨x2', m2', j1, j2, j3, j4⟩ | ⟨x2', m2', _, _, _, j1, -⟩
    · refine cz_rw (f := fun σ => fz_X10_unknown 2000000 σ 1 a) (g := fun σ => fz_X11_unknown 2000000 σ 804 a) h (r := -1) (v := 6) (i3.weak fun _ _ z => qz_SX_nk z) ?_ (j4.weak fun a k z => yz_nkM (by unfold yz_next at z; omega)) ?_
      · rw [runX, i1, Option.bind_some, if_pos rfl]; rfl
      · rw [runM _ uy, j2, Option.bind_some, if_pos rfl]; rfl
    · rw [i1] at j1
      simp at j1
  · have hX' := hF.upd i3
    have hXp : bz_Fx (az_wr x' 801 0 0) := hX'.upd (S := fun _ _ => True) (bz_Upd.wr bz_Upd.refl trivial (by decide))
    have hX2 := i7.fx hXp
    have ux1 : pz_U σ (az_wr x' 801 0 0) (fun a k => qz_SX 377 a k ∨ pz_SX a k) := pz_U.of (bz_Upd.wr (i3.weak fun _ _ z => Or.inl z) (Or.inr (Or.inl (Or.inl ⟨rfl, Or.inl rfl⟩))) (by decide))
    have ux2 : pz_U σ x2 (fun a k => qz_SX 377 a k ∨ pz_SX a k) := ux1.trans (i7.weak fun _ _ z => Or.inr z)
    have uy0 : pz_U σ (az_wr x2 1 2 0) (fun a k => (qz_SX 377 a k ∨ pz_SX a k) ∨ (a = 1 ∧ k = 2)) := (ux2.weak fun _ _ z => Or.inl z).trans (pz_U.of (bz_Upd.wr bz_Upd.refl (Or.inr ⟨rfl, rfl⟩) (by decide)))
    have uy : pz_U σ (az_wr x2 1 2 0) qz_yS := uy0.weak fun a k z => by unfold qz_SX yz_S pz_SX pz_SP at z; unfold qz_yS; omega
    rcases qz_ref h uy qa.1 qa.2 ap with ⟨x2', m2', j1, j2, j3, j4⟩ | ⟨x'', mm, x2', m2', L', j1, j2, j3, j4, j5, j6, j7, j8, j9, j10⟩
    · rw [i1] at j1
      simp at j1
    · rw [i1] at j1
      simp only [Option.some.injEq, Prod.mk.injEq, true_and] at j1
      subst j1
      rw [i5] at j5
      simp only [Option.some.injEq] at j5
      subst j5
      have hY := uy.fx hF
      have hMm := hY.upd j4
      have hMp : bz_Fx (az_wr (az_wr mm 804 57 0) 804 58 1) := hMm.upd (S := fun _ _ => True) (bz_Upd.wr (bz_Upd.wr bz_Upd.refl trivial (by decide)) trivial (by decide))
      have um : bz_Upd (az_wr x2 1 2 0) (az_wr m2' 804 2 0) (fun a k => (pz_SY a k ∨ yz_next a k) ∨ (a = 804 ∧ (k = 2 ∨ k = 58))) := bz_Upd.wr (bz_Upd.trans (bz_Upd.wr (bz_Upd.wr (j4.weak fun _ _ z => Or.inl (Or.inr z)) (Or.inl (Or.inl (Or.inl (Or.inl ⟨rfl, rfl⟩)))) (by decide)) (Or.inr ⟨rfl, Or.inr rfl⟩) (by decide)) (j8.weak fun _ _ z => Or.inl (Or.inl z))) (Or.inr ⟨rfl, Or.inl rfl⟩) (by decide)
      have E : ∀ a k, ¬ (a = 804) → a ≠ 836 → a ≠ 847 → a ≠ 840 → ¬ (a = 1 ∧ k = 2) → (az_wr m2' 804 2 0).2 a k = x2.2 a k := fun a k n1 n2 n3 n4 n5 => by
        rw [um.2.2 a k (fun q => by unfold pz_SY pz_SR yz_next at q; omega), az_wr_ne (by omega)]
      have O2 : pz_O (az_wr m2' 804 2 0) L' := j9.cong (um.1.trans rfl) (fun k => E 801 k (by omega) (by omega) (by omega) (by omega) (by omega)) (fun a k q => E a k (by omega) (by omega) (by omega) (by omega) (by omega))
      have R2 : pz_R (az_wr m2' 804 2 0) L' := ⟨by rw [az_wr_ne (by omega)]; exact j10.1, j10.2.1, fun i hi => by rw [az_wr_ne (by omega)]; exact j10.2.2 i hi⟩
      have e58 : (az_wr m2' 804 2 0).2 804 58 = 1 := by
        rw [az_wr_ne (by omega), j8.2.2 804 58 (fun q => by unfold pz_SY pz_SR at q; omega), az_wr_same]
      have uz : pz_U σ (az_wr m2' 804 2 0) cz_np := by
        refine (uy0.weak fun a k q => ?_).trans (pz_U.of (um.weak fun a k q => ?_))
        · rcases q with (q | (q | q) | q) | q
          · exact Or.inl (Or.inl (qz_SX_nk q))
          · exact Or.inr (Or.inl q)
          · exact Or.inr (Or.inr (Or.inl q))
          · exact Or.inl (Or.inl (Or.inr (Or.inr (Or.inr (Or.inr (Or.inr (Or.inr (Or.inr (Or.inr (Or.inl q))))))))))
          · exact Or.inl (Or.inr (Or.inl q))
        · rcases q with (((q | q) | q) | q) | ⟨q, q' | q'⟩
          · exact Or.inr (Or.inr (Or.inr (Or.inr (by omega))))
          · exact Or.inr (Or.inr (Or.inr (Or.inl q)))
          · exact Or.inl (Or.inl (yz_nkM (by omega)))
          · exact Or.inl (Or.inl (yz_nkM (by unfold yz_next at q; omega)))
          · exact Or.inl (Or.inr (Or.inr ⟨q, q'⟩))
          · exact Or.inr (Or.inr (Or.inr (Or.inr (by omega))))
      refine ⟨(L'.length : Int), az_wr x2 1 2 0, az_wr m2' 804 2 0, ?_, ?_, T, s, cz_keepP uz h (pz_done O2 R2 e58), ?_⟩
      · show fz_X10_unknown 2000000 σ 1 a = _
        have g5 : az_gref (az_wr x' 801 0 0) 1 5 = some T := bz_gr (by rw [az_wr_ne (by omega), i3.2.2 1 5 (fun z => by unfold qz_SX yz_S at z; omega)]; exact h.1.2.1) (by omega)
        have e0 : x2.2 801 0 = L'.length := by obtain ⟨j, -, -, -, -, -, j6, -⟩ := j9; exact j6
        rw [runX, i1, Option.bind_some, if_neg (show ¬ (1 : Int) = 0 by decide), fx_1_17 hX', Option.bind_some, fx_1_17 hXp, Option.bind_some, fx_1_13 hXp, Option.bind_some, g5, Option.bind_some, fx_1_16 hXp, Option.bind_some, fx_380_7 hXp, Option.bind_some, i5, Option.bind_some, fx_1_17 hX2, Option.bind_some, e0]
        rfl
      · show fz_X11_unknown 2000000 (az_wr x2 1 2 0) 804 a = _
        have e70 : (az_wr (az_wr mm 804 57 0) 804 58 1).2 804 70 = mm.2 804 70 := by rw [az_wr_ne (by omega), az_wr_ne (by omega)]
        rw [runM _ uy, j2, Option.bind_some, if_neg (show ¬ (1 : Int) = 0 by decide), fx_804_68 hMp, Option.bind_some, fx_804_98 hMp, Option.bind_some, e70, j6, Option.bind_some, j10.1]
        rfl
      · rw [az_wr_same, um.2.2 1 2 (fun q => by unfold pz_SY pz_SR yz_next at q; omega), az_wr_same]
