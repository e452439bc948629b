/-! the call would -/
section WO
variable {T s : Int}
theorem cz_base2 {σ y x m : az_Hp} (h : cz_K σ T s) (hN : 0 < σ.2 375 1) (uy : bz_Upd σ y yz_cl) (ux : bz_Upd σ x cz_nk) (um : bz_Upd y m cz_nk) : rz_C x m T s ∧ rz_R x m T s (cz_VT σ) 375 844 (σ.2 375 1) ∧ x.2 243 4 = 0 ∧ m.2 804 81 = σ.2 375 1 ∧ ∀ i, 0 ≤ i → i < σ.2 375 1 → m.2 844 i < 2000 := by
  obtain ⟨b1, b2, b3, b4, b5⟩ := cz_base h hN uy
  have hT := h.1.2.2.2.2.2.2.2.1
  have nn : ∀ a k, cz_nk a k → ¬ (2 ≤ a ∧ a ≤ 160) ∧ ¬ (805 ≤ a ∧ a ≤ 819) ∧ a ≠ 835 ∧ a ≠ 375 ∧ a ≠ 376 ∧ a ≠ 844 := fun a k q =>
    ⟨fun c => cz_nk1 (Or.inl c) q, fun c => cz_nk1 (Or.inr c) q, fun c => cz_nk2 (Or.inl (by omega)) q, fun c => cz_nk2 (Or.inr (Or.inl (by omega))) q, fun c => cz_nk2 (Or.inr (Or.inl (by omega))) q, fun c => cz_nk2 (Or.inr (Or.inr (Or.inr (by omega)))) q⟩
  refine ⟨yz_gC b1 ux um (fun a k q => ⟨fun c => ?_, ?_, ?_, ?_⟩) (fun a k q => ⟨fun c => ?_, ?_, ?_, ?_⟩), yz_gR b2 hT ux um (fun a k q => ⟨?_, ?_⟩) (fun a k q => ⟨fun c => ?_, ?_, ?_⟩), ?_, ?_, fun i i0 i1 => ?_⟩
  · have := nn a k q; unfold nz_t at c; omega
  · have := nn a k q; omega
  · have := nn a k q; omega
  · rintro ⟨rfl, rfl⟩; exact cz_nk8 (by omega) q
  · have := nn a k q; unfold nz_t at c; omega
  · have := nn a k q; omega
  · rintro ⟨rfl, rfl⟩; exact cz_nk5 (by omega) q
  · have := nn a k q; omega
  · have := nn a k q; omega
  · have := nn a k q; omega
  · have := nn a k q; unfold nz_t at c; omega
  · have := nn a k q; omega
  · have := nn a k q; omega
  · rw [ux.2.2 243 4 (cz_nk8 (by omega))]; exact b3
  · rw [um.2.2 804 81 (cz_nk5 (by omega))]; exact b4
  · rw [um.2.2 844 i (cz_nk2 (by omega))]; exact b5 i i0 i1
theorem yz_copyL {σ : az_Hp} {N v3 : Int} (hF : bz_Fx σ) (n60 : N ≤ 60) : ∀ (d k : Nat) (σ1 : az_Hp) (i : Int), d < k → 0 ≤ i → i + d = N → bz_Upd σ σ1 (fun a _ => a = 846) → (∀ j, 0 ≤ j → j < i → σ1.2 846 j = σ.2 840 j) → ∃ σ', fz_X11_would_89 2000000 k σ1 804 v3 N i = fz_X11_would_89 2000000 1 σ' 804 v3 N N ∧ bz_Upd σ σ' (fun a _ => a = 846) ∧ ∀ j, 0 ≤ j → j < N → σ'.2 846 j = σ.2 840 j := by
  have l846 := ln_846 hF
  have l840 := ln_840 hF
  intro d
  induction d with
  | zero =>
    intro k σ1 i hk i0 hi u hj
    obtain ⟨k, rfl⟩ : ∃ k', k = k' + 1 := ⟨k - 1, by omega⟩
    have ei : i = N := by omega
    subst ei
    refine ⟨σ1, ?_, u, hj⟩
    conv => lhs; unfold fz_X11_would_89
    conv => rhs; unfold fz_X11_would_89
    rw [if_neg (by omega), if_neg (by omega)]
  | succ d ih =>
    intro k σ1 i hk i0 hi u hj
    obtain ⟨k, rfl⟩ : ∃ k', k = k' + 1 := ⟨k - 1, by omega⟩
    have hF1 := hF.upd u
    have l6 := u.ln 846
    have l0 := u.ln 840
    have es : σ1.2 840 i = σ.2 840 i := u.2.2 _ _ (by omega)
    obtain ⟨σ', x1, x2, x3⟩ := ih k (az_wr σ1 846 i (σ.2 840 i)) (i + 1) (by omega) (by omega) (by omega) (bz_Upd.wr u rfl (by unfold bz_isFix; simp [bz_cap, bz_fixL, bz_rowsL])) (fun j j0 j1 => by
      by_cases q : j = i
      · rw [q, az_wr_same]
      · rw [az_wr_ne (by omega)]; exact hj j j0 (by omega))
    refine ⟨σ', ?_, x2, x3⟩
    rw [← x1]
    conv => lhs; unfold fz_X11_would_89
    rw [if_pos (by omega), fx_804_83 hF1, Option.bind_some, fx_804_68 hF1, Option.bind_some, bz_ard i0 (by omega), Option.bind_some, es, bz_awr i0 (by omega), Option.bind_some, az_w32_id (by omega) (by omega)]
end WO
theorem cz_op_would : bz_op_would cz_J := by
  rintro a b ha hb σ ⟨T, s, h, eq⟩
  have hF := h.1.1
  have hT := h.1.2.2.2.2.2.2.2.1
  obtain ⟨⟨s1, s2, s3⟩, -⟩ := h.2.2.2.2.1
  have g12 := fx_1_12 hF
  have g11 := fx_1_11 hF
  by_cases c01 : a = 0 ∨ a = 1
  rotate_left
  · refine cz_rd (f := fun σ => fz_X10_would 2000000 σ 1 a b) (g := fun σ => fz_X11_would 2000000 σ 804 a b) h (r := -1) (v := 1) ?_ ?_
    · simp only [fz_X10_would, fz_X10_refuse]
      rw [if_neg (by omega), if_neg (by omega), Option.bind_some]
    · simp only [fz_X11_would, fz_X11_refuse, yz_isNot c01, Option.bind_some, if_pos]
  have eX : fz_X10_would 2000000 σ 1 a b = fz_X10_would_9 2000000 σ 1 a b := by
    unfold fz_X10_would
    rcases c01 with rfl | rfl
    · rw [if_pos rfl]
    · rw [if_neg (by decide), if_pos rfl]
  by_cases d01 : b = 0 ∨ b = 1
  rotate_left
  · refine cz_rd (f := fun σ => fz_X10_would 2000000 σ 1 a b) (g := fun σ => fz_X11_would 2000000 σ 804 a b) h (r := -1) (v := 1) ?_ ?_
    · rw [eX]
      simp only [fz_X10_would_9, fz_X10_refuse]
      rw [if_neg (by omega), if_neg (by omega), Option.bind_some]
    · simp only [fz_X11_would, fz_X11_refuse, yz_isFrom c01, yz_isNot d01, Option.bind_some]
      rw [if_neg (show ¬ (1 : Int) = 0 by decide), if_pos trivial]
  have eY : fz_X10_would_9 2000000 σ 1 a b = fz_X10_would_24 2000000 σ 1 a b := by
    unfold fz_X10_would_9
    rcases d01 with rfl | rfl
    · rw [if_pos rfl]
    · rw [if_neg (by decide), if_pos rfl]
  by_cases z : σ.2 375 1 = 0
  · refine cz_rd (f := fun σ => fz_X10_would 2000000 σ 1 a b) (g := fun σ => fz_X11_would 2000000 σ 804 a b) h (r := -1) (v := 3) ?_ ?_
    · rw [eX, eY]
      simp only [fz_X10_would_24, fz_X10_refuse, g12, Option.bind_some, if_pos z]
    · simp only [fz_X11_would, fz_X11_refuse, yz_isFrom c01, yz_isFrom d01, Option.bind_some]
      rw [if_neg (show ¬ (1 : Int) = 0 by decide), if_neg (show ¬ (1 : Int) = 0 by decide), az_wr_ne (by omega), s3, if_pos z]
  have hN : 0 < σ.2 375 1 := by omega
  obtain ⟨b1, b2, b3, b4, b5⟩ := cz_base h hN (bz_Upd.refl (σ := σ))
  obtain ⟨xa, τ0, t1, -, t3, t4, I1⟩ := yz_begin (Q := fun q => q < 2000) b1 b2 b3 b4 (fun _ q => q) b5
  have hFa := hF.upd t3
  have runX : fz_X10_would 2000000 σ 1 a b = (if b = 0 then ((fz_X5_reduceAll 2000000 xa 243 a).bind fun r9 => (if r9.1 = 0 then ((az_gref r9.2 1 11).bind fun x11 => ((fz_X10_give r9.2 1 (r9.2.2 x11 6)).bind fun r12 => (some (r12.1, r12.2)))) else ((fz_X10_refuse r9.2 1 r9.1).bind fun r10 => (some (r10.1, r10.2))))) else ((fz_X5_reduceAll 2000000 xa 243 0).bind fun r7 => (if r7.1 = 0 then fz_X10_would_107 2000000 r7.2 1 1 else fz_X10_would_107 2000000 r7.2 1 0))) := by
    rw [eX, eY]
    unfold fz_X10_would_24
    rw [g12, Option.bind_some, if_neg z, g11, Option.bind_some, fx_243_3 hF, Option.bind_some, Option.bind_some, t1, Option.bind_some, fx_1_11 hFa, Option.bind_some, Option.bind_some]
  have runM : ∀ y τa w' τ1', fz_X11_laysTerm 2000000 y 804 = some τa → y.2 804 81 = σ.2 375 1 → fz_X11_reduces 2000000 τa 804 (if b = 0 then a else 0) = some (w', τ1') → fz_X11_would 2000000 y 804 a b = (if b = 0 then (if w' = 0 then some (τ1'.2 804 77, az_wr τ1' 804 2 0) else some (-1, az_wr τ1' 804 2 w')) else fz_X11_would_89 2000000 2000000 τ1' 804 w' (τ1'.2 804 70) 0) := by
    intro y τa w' τ1' h1 h2 h3
    unfold fz_X11_would
    rw [yz_isFrom c01, Option.bind_some, if_neg (show ¬ (1 : Int) = 0 by decide), yz_isFrom d01, Option.bind_some, if_neg (show ¬ (1 : Int) = 0 by decide), h2, if_neg z, h1, Option.bind_some]
    by_cases e : b = 0
    · rw [if_pos e] at h3 ⊢
      unfold fz_X11_would_51
      rw [h3, Option.bind_some, if_pos e, if_pos e]
      rfl
    · rw [if_neg e] at h3 ⊢
      unfold fz_X11_would_51
      rw [h3, Option.bind_some, if_neg e, if_neg e]
  have e81 : ∀ x2 v, bz_Upd σ x2 yz_cl → (az_wr x2 1 2 v).2 804 81 = σ.2 375 1 := fun x2 v u => by
    rw [az_wr_ne (by omega), u.2.2 804 81 (fun q => by unfold yz_cl at q; omega)]; exact s3
  by_cases eb : b = 0
  · obtain ⟨w, x1, τ1, n1, z1, -, z2, -, I2, z5, -, -⟩ := yz_reduce c01 I1
    have ua : bz_Upd σ x1 cz_nk := (t3.weak fun a k q => yz_nkX (by unfold yz_S at q; omega)).trans (z2.weak fun _ _ q => yz_RX_nk q)
    have uc : bz_Upd σ x1 yz_cl := (t3.weak fun a k q => yz_nk_cl (by unfold yz_S at q; omega)).trans (z2.weak fun _ _ q => yz_RX_cl q)
    have hF1 := hF.upd uc
    have uy : bz_Upd σ (az_wr x1 1 2 w) yz_cl := bz_Upd.wr uc (Or.inl ⟨rfl, Or.inl rfl⟩) (by decide)
    obtain ⟨τa, τ1', n', r1, r2, r3, I3, -, r6, r7⟩ := yz_realR h hN c01 t1 z1 uy
    refine cz_rw (f := fun σ => fz_X10_would 2000000 σ 1 a b) (g := fun σ => fz_X11_would 2000000 σ 804 a b) h (r := if w = 0 then x1.2 243 6 else -1) (v := w) ua ?_ r3 ?_
    · rw [runX, if_pos eb, z1, Option.bind_some]
      by_cases e : w = 0
      · rw [if_pos e, fx_1_11 hF1, Option.bind_some, if_pos e, e]
        rfl
      · rw [if_neg e, if_neg e]
        rfl
    · rw [runM _ _ _ _ r1 (e81 _ _ uc) (by rw [if_pos eb]; exact r2), if_pos eb]
      by_cases e : w = 0
      · rw [if_pos e, if_pos e, r6 e, e]
      · rw [if_neg e, if_neg e]
  · have c0 : (0 : Int) = 0 ∨ (0 : Int) = 1 := Or.inl rfl
    have c1 : (1 : Int) = 0 ∨ (1 : Int) = 1 := Or.inr rfl
    obtain ⟨w, x1, τ1, n1, z1, -, z2, z3, I2, z5, -, -⟩ := yz_reduce c0 I1
    have ua : bz_Upd σ x1 cz_nk := (t3.weak fun a k q => yz_nkX (by unfold yz_S at q; omega)).trans (z2.weak fun _ _ q => yz_RX_nk q)
    have uc : bz_Upd σ x1 yz_cl := (t3.weak fun a k q => yz_nk_cl (by unfold yz_S at q; omega)).trans (z2.weak fun _ _ q => yz_RX_cl q)
    have um : bz_Upd σ τ1 cz_nk := (t4.weak fun _ _ q => yz_lays_nk q).trans (z3.weak fun _ _ q => yz_RM_nk q)
    have hF1 := hF.upd uc
    have c377 : bz_cap 377 = 60 := by decide
    have c244 : bz_cap 244 = 60 := by decide
    have rr := I2.1.2.1
    have rn := rr.2.2.1
    obtain ⟨x2, k1, k2, k3, k4⟩ := yz_take (σ := x1) (r := 377) (q := 244) hF1 (by omega) (by omega) (by omega) (by rw [rr.2.1]; omega) (by rw [rr.2.1]; omega) (by rw [rr.2.1]; omega)
    rw [rr.2.1] at k3 k4
    have ua2 : bz_Upd σ x2 cz_nk := ua.trans (k2.weak fun a k q => yz_nkX (by unfold yz_S at q; omega))
    have hF2 := hF1.upd k2
    obtain ⟨d1, d2, d3, d4, d5⟩ := cz_base2 h hN (bz_Upd.refl (σ := σ)) ua2 um
    obtain ⟨x3, τb, l1, -, l3, -, I3⟩ := yz_begin (Q := fun q => q < 2000) d1 d2 d3 d4 (fun _ q => q) d5
    obtain ⟨w', x4, τ2, n2, m1, -, m3, -, I4, m5, -, -⟩ := yz_reduce c1 I3
    have hF3 := hF2.upd l3
    have hF4 := hF3.upd m3
    have ua4 : bz_Upd σ x4 cz_nk := (ua2.trans (l3.weak fun a k q => yz_nkX (by unfold yz_S at q; omega))).trans (m3.weak fun _ _ q => yz_RX_nk q)
    have uc4 : bz_Upd σ x4 yz_cl := ((uc.trans (k2.weak fun a k q => yz_nk_cl (by unfold yz_S at q; omega))).trans (l3.weak fun a k q => yz_nk_cl (by unfold yz_S at q; omega))).trans (m3.weak fun _ _ q => yz_RX_cl q)
    -- the reference, really
    have uy : bz_Upd σ (az_wr x4 1 2 0) yz_cl := bz_Upd.wr uc4 (Or.inl ⟨rfl, Or.inl rfl⟩) (by decide)
    obtain ⟨τa, τ1', n1', r1, r2, r3, J2, -, -, -⟩ := yz_realR h hN c0 t1 z1 uy
    have en : n1' = n1 := by rw [← rr.2.1, J2.1.2.1.2.1]
    subst en
    have hM1 := J2.1.1.1.2.1
    obtain ⟨τc, o1, o2, o3⟩ := yz_copyL (v3 := w) hM1 rn.2 n1'.toNat 2000000 τ1' 0 (by omega) (by omega) (by omega) bz_Upd.refl (fun j j0 j1 => by omega)
    have umc : bz_Upd (az_wr x4 1 2 0) τc cz_nk := r3.trans (o2.weak fun a k q => yz_nkM (by omega))
    obtain ⟨f1, f2, f3, f4, f5⟩ := cz_base2 h hN uy ua2 umc
    obtain ⟨x3', τb', l1', l2', -, l4', I3'⟩ := yz_begin (Q := fun q => q < 2000) f1 f2 f3 f4 (fun _ q => q) f5
    rw [l1] at l1'
    simp only [Option.some.injEq] at l1'
    subst l1'
    obtain ⟨w'', x4', τ2', n2', m1', m2', -, m4', I4', -, -, -⟩ := yz_reduce c1 I3'
    rw [m1] at m1'
    simp only [Option.some.injEq, Prod.mk.injEq] at m1'
    obtain ⟨rfl, rfl⟩ := m1'
    have un : bz_Upd (az_wr x4 1 2 0) τ2' cz_nk := (umc.trans (l4'.weak fun _ _ q => yz_lays_nk q)).trans (m4'.weak fun _ _ q => yz_RM_nk q)
    -- both compared
    have q377 : ∀ k, x4.2 377 k = x2.2 377 k := fun k => by
      rw [m3.2.2 377 k (fun q => by unfold yz_RX yz_TX sz_TY sz_TX rz_TX cz_SJ sz_S yz_S at q; omega), l3.2.2 377 k (fun q => by unfold yz_S at q; omega)]
    have q378 : ∀ k, x4.2 (377 + 1) k = x2.2 (377 + 1) k := fun k => by
      rw [m3.2.2 _ k (fun q => by unfold yz_RX yz_TX sz_TY sz_TX rz_TX cz_SJ sz_S yz_S at q; omega), l3.2.2 _ k (fun q => by unfold yz_S at q; omega)]
    have q846 : ∀ k, τ2'.2 846 k = τc.2 846 k := fun k => by
      rw [m4'.2.2 846 k (fun q => by unfold yz_RM yz_TM sz_TM rz_TM cz_SM yz_WM yz_F yz_next yz_past at q; omega), l4'.2.2 846 k (fun q => by unfold yz_lays at q; omega)]
    have tS : bz_tS τ1' τ2' := fun a k q => by
      rw [m4'.2.2 a k (fun q => by unfold yz_RM yz_TM sz_TM rz_TM cz_SM yz_WM yz_F yz_next yz_past at q; omega), l4'.2.2 a k (fun q => by unfold yz_lays at q; omega), o2.2.2 a k (by omega)]
    have cr : ∀ i, 0 ≤ i → i < n1' → bz_cr (bz_ct τ2' s) (bz_ft τ2' s) (τ2'.2 T 0) (τ2'.2 T 1) (cz_VT σ) (x4.2 (377 + 1) i) (τ2'.2 846 (0 + i)) := fun i i0 i1 => by
      rw [bz_ct_tS tS, bz_ft_tS tS, tS T 0 (by omega), tS T 1 (by omega), q378, k4 i i0 i1, Int.zero_add, q846, o3 i i0 i1]
      exact J2.1.2.1.2.2.2.1 i i0 i1
    have l846 := ln_846 I4'.1.1.1.2.1
    obtain ⟨c, hc, e1, e2⟩ := yz_cmpG (r := 377) (A := 846) (off := 0) (N := n1') I4' ⟨by omega, by rw [q377]; omega, by rw [q377]; omega, fun i i0 i1 => (cr i i0 (by rw [q377] at i1; omega)).I I4'.1.1.1.tb.2.1 J2.1.2.1.2.2.2.2.2.2.1⟩ (by rw [q377]; exact k3) rn cr (by
      refine rr.2.2.2.2.1.cong (fun j j0 j1 => ?_)
      unfold bz_ra
      rw [q378, k4 j j0 (by omega)]) (by omega) (by omega) (by omega)
    have e70 : τ2'.2 804 70 = n2' := I4'.1.2.2.2.2
    refine cz_rw (f := fun σ => fz_X10_would 2000000 σ 1 a b) (g := fun σ => fz_X11_would 2000000 σ 804 a b) h (r := if w = 0 then (if w' = 0 then (if c = 0 then 2 else 1) else 0) else 0) (v := 0) ua4 ?_ un ?_
    · have r107 : ∀ w0, fz_X10_would_107 2000000 x1 1 w0 = (if w' = 0 then fz_X10_would_152 2000000 x4 1 w0 1 else fz_X10_would_152 2000000 x4 1 w0 0) := fun w0 => by
        unfold fz_X10_would_107
        rw [fx_1_13 hF1, Option.bind_some, fx_1_11 hF1, Option.bind_some, fx_243_3 hF1, Option.bind_some, k1, Option.bind_some, fx_1_11 hF2, Option.bind_some, fx_243_3 hF2, Option.bind_some, fx_1_12 hF2, Option.bind_some, l1, Option.bind_some, fx_1_11 hF3, Option.bind_some, m1, Option.bind_some]
      have r152 : ∀ w0, fz_X10_would_152 2000000 x4 1 1 w0 = (if w0 = 0 then some (0, az_wr x4 1 2 0) else some (if c = 0 then 2 else 1, az_wr x4 1 2 0)) := fun w0 => by
        unfold fz_X10_would_152
        rw [if_neg (show ¬ (1 : Int) = 0 by decide)]
        by_cases e : w0 = 0
        · rw [if_pos e, if_pos e]; rfl
        · rw [if_neg e, if_neg e, fx_1_13 hF4, Option.bind_some, fx_1_11 hF4, Option.bind_some, fx_243_3 hF4, Option.bind_some, e1, Option.bind_some]
          by_cases e' : c = 0
          · rw [if_pos e', if_pos e']; rfl
          · rw [if_neg e', if_neg e']; rfl
      rw [runX, if_neg eb, z1, Option.bind_some]
      by_cases e : w = 0
      · rw [if_pos e, if_pos e, r107]
        by_cases e' : w' = 0
        · rw [if_pos e', if_pos e', r152, if_neg (by decide)]
        · rw [if_neg e', if_neg e', r152, if_pos rfl]
      · rw [if_neg e, if_neg e, r107]
        have : ∀ w0, fz_X10_would_152 2000000 x4 1 0 w0 = some (0, az_wr x4 1 2 0) := fun w0 => by
          unfold fz_X10_would_152
          rw [if_pos rfl]; rfl
        rw [this, this]
        split <;> rfl
    · rw [runM _ _ _ _ r1 (e81 _ _ uc4) (by rw [if_neg eb]; exact r2), if_neg eb, J2.1.2.2.2.2, o1]
      unfold fz_X11_would_89
      rw [if_neg (by omega), l2', Option.bind_some, m2', Option.bind_some]
      by_cases e : w = 0
      · rw [if_neg (by omega), if_pos e]
        by_cases e' : w' = 0
        · rw [if_neg (by omega), if_pos e', e70]
          by_cases en : n1' = n2'
          · rw [if_pos en] at e2 ⊢
            rw [fx_804_83 I4'.1.1.1.2.1, Option.bind_some, fx_804_68 I4'.1.1.1.2.1, Option.bind_some, en, e2, Option.bind_some]
            by_cases ec : c = 0
            · rw [if_pos ec, if_pos ec]; rfl
            · rw [if_neg ec, if_neg ec]; rfl
          · rw [if_neg en] at e2 ⊢
            have ec : c = 0 := by simp only [Option.some.injEq] at e2; omega
            rw [if_pos ec]; rfl
        · rw [if_pos (by omega), if_neg e']; rfl
      · rw [if_pos (by omega), if_neg e]; rfl
