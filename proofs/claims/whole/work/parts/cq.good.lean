/-! the call want -/
theorem wq_S.gen {tp : Int → Int} {N T s nv nu e : Int} {J j : Nat} {x m x' m' : az_Hp} {S S' : Int → Int → Prop} (h : wq_S tp N x m T s J j nv nu e) (ux : bz_Upd x x' S) (um : bz_Upd m m' S') (hs : ∀ a k, S a k → a = 1 ∧ 1 ≤ k ∧ k ≤ 4) (hs' : ∀ a k, S' a k → a = 804 ∧ (k = 3 ∨ k = 4)) : wq_S tp N x' m' T s J j nv nu e := by
  obtain ⟨⟨hX, hM⟩, hC, hN, h11, ⟨v1, v2, v3, v4, v5, v6, v7⟩, w1, w2, w3, w4⟩ := h
  have hT := hN.1
  have X : ∀ a k, a ≠ 1 → x'.2 a k = x.2 a k := fun a k z => ux.2.2 a k (fun w => z (hs a k w).1)
  have M : ∀ a k, ¬ (a = 804 ∧ (k = 3 ∨ k = 4)) → m'.2 a k = m.2 a k := fun a k z => um.2.2 a k (fun w => z (hs' a k w))
  refine ⟨⟨hX.upd ux, hM.upd um⟩, hC.upd ux um (fun a k z => by have := hs a k z; unfold lx_KX; omega) (fun a k z => by have := hs' a k z; unfold lx_KM; omega), hN.gen ux um (fun a k z => by have := hs a k z; omega) (fun a k z => by have := hs' a k z; omega), by rw [X 223 11 (by omega)]; exact h11, ⟨by rw [M 804 37 (by omega)]; exact v1, v2, fun b c b0 bc c1 => by rw [M 821 b (by omega), M 821 c (by omega)]; exact v3 b c b0 bc c1, by rw [M 804 34 (by omega)]; exact v4, by rw [X 223 3 (by omega)]; exact v5, v6, fun b b0 b1 => by rw [M 821 b (by omega)]; exact v7 b b0 b1⟩, by rw [X 161 2 (by omega)]; exact w1, by rw [M 804 38 (by omega)]; exact w2, w3, fun k k0 k1 => by rw [X 166 k (by omega), M 822 k (by omega)]; exact w4 k k0 k1⟩
def wt_Y (a k : Int) : Prop := (a = 1 ∧ 1 ≤ k ∧ k ≤ 4) ∨ (161 ≤ a ∧ a ≤ 374 ∧ ¬ (a = 243 ∧ k = 2)) ∨ (380 ≤ a ∧ a ≤ 800)
def wt_V (a k : Int) : Prop := wt_M a k ∨ (a = 804 ∧ (k = 3 ∨ k = 4)) ∨ sv_ZM a k ∨ sv_MS a k
theorem sv_XSY {a k : Int} (h : sv_XS a k) : wt_Y a k := by
  rcases h with h | h
  · rcases h with h | h
    · rcases h with h | h
      · have := sv_X1s h; unfold sv_SX at this; unfold wt_Y; omega
      · unfold sv_XB at h; unfold wt_Y; omega
    · unfold wt_Y; omega
  · unfold wt_Y; omega
theorem sv_MSt {a k : Int} (h : sv_MS a k) : (a = 804 ∧ ((42 ≤ k ∧ k ≤ 53) ∨ (63 ≤ k ∧ k ≤ 65) ∨ (70 ≤ k ∧ k ≤ 78) ∨ (108 ≤ k ∧ k ≤ 111) ∨ k = 114 ∨ k = 115)) ∨ (820 ≤ a ∧ a ≤ 834) ∨ (836 ≤ a ∧ a ≤ 847) ∨ (860 ≤ a ∧ a ≤ 867) := by
  rcases h with h | h
  · rcases h with h | h | h
    · have := sv_M1s h; omega
    · unfold cz_SB cz_SM at h; omega
    · omega
  · omega
theorem wt_good {σ y x' x2 : az_Hp} {T s a : Int} (h : cz_K σ T s) (ra : 0 ≤ a ∧ a ≤ σ.2 1 1) (e1 : fz_X4_readRequest 2000000 σ 223 2 a T = some (1, x')) (ex : bz_Upd σ x' wt_X) (hx2 : x2 = az_wr (az_wr (az_wr x' 1 1 0) 1 3 0) 1 4 (-1)) (runX : fz_X10_want 2000000 σ 1 a = ((fz_X8_begin 2000000 x2 380 161).bind fun r9 => ((az_gref r9 1 11).bind fun x10 => fz_X10_want_71 2000000 2000000 (az_wr r9 x10 4 1) 1 0))) (uy : bz_Upd σ y wt_Y) :
    ∃ X' M' U, fz_X10_want 2000000 σ 1 a = fz_X10_want_108 2000000 X' 1 ∧ fz_X11_want 2000000 y 804 a = some (M'.2 804 108, az_wr M' 804 2 0) ∧ sv_End X' M' T s U (cz_VW M') ∧ bz_Upd σ X' wt_Y ∧ bz_Upd y M' wt_V ∧ (X'.2 380 0 = 1 ∧ M'.2 804 87 = 1 ∧ X'.2 380 5 = U ∧ M'.2 804 101 = U ∧ X'.2 380 4 = M'.2 804 111) ∧ (∀ k, 0 ≤ k → k < U → bz_WR 96 (X'.2 381 k) (M'.2 859 k)) ∧ (M'.2 804 1 = 0 ∧ M'.2 804 3 = 0 ∧ M'.2 804 4 = -1) ∧ (X'.2 1 1 = 0 ∧ X'.2 1 3 = 0 ∧ X'.2 1 4 = -1) := by
  have hF := h.1.1
  obtain ⟨-, c15, c16, c14, c5, c2432, c2434, hTR⟩ := h.1
  have hT := hTR.1
  obtain ⟨p1, p2, p3, p4⟩ := h.2.1
  have hTX : lx_tapeX σ (fun i => σ.2 2 i) a := ⟨⟨ra.1, by omega⟩, fun i i0 i1 => ⟨rfl, (p4 i i0 (by omega)).2⟩⟩
  have hY := hF.upd uy
  have Ny : rd_Nm σ y T s := (cz_Nm h).gen (bz_Upd.refl (S := fun _ _ => False)) uy (fun a k z => z.elim) (fun a k z => by unfold wt_Y at z; omega)
  obtain ⟨w', x'', m'', hw', f1, f2, f3, f4, f5, f6, f7⟩ := wt_text (s := s) hF hY hTX (fun i i0 i1 => by rw [uy.2.2 805 i (fun z => by unfold wt_Y at z; omega)]; exact (p4 i i0 (by omega)).1.symm) Ny (by rw [uy.2.2 804 1 (fun z => by unfold wt_Y at z; omega)]; omega)
  have d := sy_det e1 f1
  simp only [Prod.mk.injEq] at d
  obtain ⟨rfl, rfl⟩ := d
  obtain ⟨⟨J, j, nv, nu, ng, nw, hS, hA⟩, m11, m12⟩ := f7 rfl
  obtain ⟨m3, hm3⟩ : ∃ q, q = az_wr (az_wr m'' 804 3 0) 804 4 (-1) := ⟨_, rfl⟩
  have u3 : bz_Upd m'' m3 (fun a k => a = 804 ∧ (k = 3 ∨ k = 4)) := by rw [hm3]; exact bz_Upd.wr (bz_Upd.wr bz_Upd.refl ⟨rfl, by omega⟩ (by decide)) ⟨rfl, by omega⟩ (by decide)
  have u2 : bz_Upd x' x2 (fun a k => a = 1 ∧ 1 ≤ k ∧ k ≤ 4) := by rw [hx2]; exact bz_Upd.wr (bz_Upd.wr (bz_Upd.wr bz_Upd.refl ⟨rfl, by omega, by omega⟩ (by decide)) ⟨rfl, by omega, by omega⟩ (by decide)) ⟨rfl, by omega, by omega⟩ (by decide)
  have S2 := hS.gen u2 u3 (fun _ _ z => z) (fun _ _ z => z)
  have A2 : wq_A x2 m3 T s nv nu ng nw := hA.keep hT (wq_Mo.upd u2 u3 (fun k z => by omega) (fun k => ⟨fun z => by omega, fun z => by omega⟩)) (fun a k z => u2.2.2 a k (fun w => by omega)) (fun a k z => u3.2.2 a k (fun w => by omega))
  have uf2 : bz_Upd σ x2 (fun a k => (161 ≤ a ∧ a ≤ 230) ∨ (a = 1 ∧ 1 ≤ k ∧ k ≤ 4)) := (ex.weak fun a k z => Or.inl z).trans (u2.weak fun a k z => Or.inr z)
  have ux2 : bz_Upd σ x2 wt_Y := uf2.weak fun a k z => by unfold wt_Y; omega
  have um3 : bz_Upd σ m3 (fun a k => wt_Y a k ∨ wt_M a k ∨ (a = 804 ∧ (k = 3 ∨ k = 4))) := ((uy.weak fun _ _ z => Or.inl z).trans (f4.weak fun _ _ z => Or.inr (Or.inl z))).trans (u3.weak fun _ _ z => Or.inr (Or.inr z))
  have tS3 : bz_tS σ m3 := fun a k q => um3.2.2 a k (fun z => by unfold wt_Y wt_M at z; omega)
  have C : rz_C x2 m3 T s := yz_gC (cz_rzC h (bz_Upd.refl (σ := σ))).1 ux2 um3 (fun a k z => by unfold wt_Y at z; unfold nz_t; omega) (fun a k z => by unfold wt_Y wt_M at z; unfold nz_t; omega)
  have Bd : sv_Bd x2 m3 T s := fun f f0 f1 mm hFm tSm h15 => by
    rw [uf2.2.2 T 1 (fun z => by omega)] at f1
    obtain ⟨σ', q1, q2, -⟩ := h.2.2.2.1.2 f f0 f1 mm hFm ((tS3.trans tSm).cS hT) ((tS3.trans tSm).mS) h15
    exact ⟨σ', by rw [uf2.2.2 (T + 12) f (fun z => by omega)]; exact q1, q2⟩
  have Sl : sv_Sl x2 := by
    obtain ⟨-, -, -, -, -, -, q7, q8⟩ := h.2.2.2.2.2.1
    exact ⟨fun q q0 q1 => by rw [uf2.2.2 383 q (fun z => by omega)]; exact q7 q q0 q1, fun q p q0 q1 p0 p1 => by rw [uf2.2.2 383 q (fun z => by omega), uf2.2.2 383 p (fun z => by omega)]; exact q8 q p q0 q1 p0 p1⟩
  obtain ⟨xb, mb, X, M, b1, hXe, b2, hMe, E, uX, uM, ⟨k0, k87, k5, k101, k9, k4, k111, k109⟩, nub, words⟩ := sv_start C Bd S2 A2 Sl
  have X1 : ∀ k, X.2 1 k = x2.2 1 k := fun k => uX.2.2 1 k (fun z => by unfold sv_ZX sb_X at z; omega)
  have X15 : X.2 1 5 = T := by rw [X1, uf2.2.2 1 5 (fun z => by omega)]; exact c15
  obtain ⟨X', M', z1, z2, z3, z4, z5, z6⟩ := sv_solve 20 2000000 2000000 X M 0 1 (by omega) (by omega) (by omega) (by omega) E X15 k9 (Or.inr rfl) k4 k111
  have hFX : bz_Fx X := E.1.choose_spec.1.1.1
  have g11 : az_gref xb 1 11 = some 243 := by
    have := fx_1_11 hFX
    rw [hXe, bz_gref_wr (by omega)] at this
    exact this
  have ZX : ∀ a k, a = 1 ∨ a = 381 ∨ (a = 380 ∧ (k = 0 ∨ k = 5)) → X'.2 a k = X.2 a k := fun a k q => z5.2.2 a k (fun w => by
    rcases w with w | w
    · have w' := sv_XR380 w
      rcases w with w | w
      · rcases w with w | w
        · have := sv_X1s w; unfold sv_SX at this; omega
        · unfold sv_XB at w; omega
      · omega
    · omega)
  have ZM : ∀ a k, a = 858 ∨ a = 859 ∨ (a = 804 ∧ (k = 1 ∨ k = 3 ∨ k = 4 ∨ k = 87 ∨ k = 101)) → M'.2 a k = M.2 a k := fun a k q => z6.2.2 a k (fun w => by have := sv_MSt w; omega)
  have MM : ∀ k, k = 1 ∨ k = 3 ∨ k = 4 → M.2 804 k = m3.2 804 k := fun k q => uM.2.2 804 k (fun z => by unfold sv_ZM tw_A at z; omega)
  have eV : cz_VW M' = cz_VW M := by
    funext a b
    unfold cz_VW
    simp only [fun k => ZM 858 k (by omega)]
  refine ⟨X', M', nu, ?_, ?_, by rw [eV]; exact z3, (ux2.trans (uX.weak fun a k z => by unfold sv_ZX sb_X at z; unfold wt_Y; omega)).trans (z5.weak fun a k z => sv_XSY z), (((f4.weak fun _ _ z => Or.inl z).trans (u3.weak fun _ _ z => Or.inr (Or.inl z))).trans (uM.weak fun _ _ z => Or.inr (Or.inr (Or.inl z)))).trans (z6.weak fun _ _ z => Or.inr (Or.inr (Or.inr z))), ⟨by rw [ZX 380 0 (by omega)]; exact k0, by rw [ZM 804 87 (by omega)]; exact k87, by rw [ZX 380 5 (by omega)]; exact k5, by rw [ZM 804 101 (by omega)]; exact k101, z4⟩, fun k q0 q1 => by rw [ZX 381 k (by omega), ZM 859 k (by omega)]; exact words k q0 q1, ⟨?_, ?_, ?_⟩, ?_, ?_, ?_⟩
  · rw [runX, b1, Option.bind_some, g11, Option.bind_some, ← hXe]
    exact z1
  · rw [f2]
    unfold fz_X11_want_71 fz_X11_ends
    rw [if_pos (Or.inr rfl), Option.bind_some, m11, az_wr_ne (by omega), m12, ← hm3, if_neg (show ¬ (1 : Int) = 0 by decide), b2, Option.bind_some]
    unfold fz_X11_solves
    rw [← hMe, z2, Option.bind_some]
    rfl
  · rw [ZM 804 1 (by omega), MM 1 (by omega), u3.2.2 804 1 (fun z => by omega)]; exact f5
  · rw [ZM 804 3 (by omega), MM 3 (by omega), hm3, az_wr_ne (by omega), az_wr_same]
  · rw [ZM 804 4 (by omega), MM 4 (by omega), hm3, az_wr_same]
  · rw [ZX 1 1 (by omega), X1, hx2, az_wr_ne (by omega), az_wr_ne (by omega), az_wr_same]
  · rw [ZX 1 3 (by omega), X1, hx2, az_wr_ne (by omega), az_wr_same]
  · rw [ZX 1 4 (by omega), X1, hx2, az_wr_same]
