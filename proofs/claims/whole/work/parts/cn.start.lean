/-! solving begins -/
theorem sv_bs0 {g : Int → Int} {U : Int} (h : ∀ k, 0 ≤ k → k < U → ¬ 0 < g k) : sv_bs g U = 0 := by
  have b : ∀ k w, 0 ≤ k → sv_bn g U k w = 0 := fun k w k0 => by unfold sv_bn; rw [if_neg (fun z => h k k0 z.1 z.2)]
  unfold sv_bs
  rw [b 0 1 (by decide), b 1 2 (by decide), b 2 4 (by decide), b 3 8 (by decide), b 4 16 (by decide), b 5 32 (by decide)]
  rfl
section BG
variable {T s : Int}
theorem sv_row0 {x m X M : az_Hp} {r A off nv nu sz R O : Int} {V : Int → Int → Prop} (h : wq_R x m T s r A off nv nu sz) (hH : mz_H X M T s) (eT0 : M.2 T 0 = x.2 T 0) (eT1 : M.2 T 1 = x.2 T 1) (ec : bz_ct M s = bz_ct m s) (ef : bz_ft M s = bz_ft m s) (hV : ∀ a b, wq_V m nv a b → V a b) (vv : bz_VV V) (cap : bz_cap R = 60) (h1 : X.2 R 1 = sz) (h2 : ∀ i, 0 ≤ i → i < sz → X.2 (R + 1) i = x.2 (r + 1) i) (h3 : ∀ i, 0 ≤ i → i < sz → M.2 860 (O + i) = m.2 A (off + i)) (o0 : 0 ≤ O) (o1 : O + 60 ≤ 24480) : qz_Row X M T s nu V R 860 O sz := by
  obtain ⟨⟨q1, q2, q3⟩, q4, q5⟩ := h
  have l860 := ln_860 hH.2.1
  have cd : ∀ i, 0 ≤ i → i < sz → qz_Cd M T s nu V (X.2 (R + 1) i) (M.2 860 (O + i)) := fun i i0 i1 => by
    unfold qz_Cd
    rw [ec, ef, eT0, eT1, h2 i i0 i1, h3 i i0 i1]
    exact ⟨(q4 i i0 i1).1.weak hV, (q4 i i0 i1).2⟩
  refine ⟨⟨by omega, by omega, by omega, fun i i0 i1 => (cd i i0 (by omega)).1.I hH.tb.2.1 vv⟩, h1, ⟨q2, by omega⟩, cd, ?_, ⟨o0, by omega, by omega, by decide, by decide⟩⟩
  refine q5.cong (fun j j0 j1 => ?_)
  unfold bz_ra
  rw [h2 j j0 (by omega)]
theorem sv_row1 {x m X M : az_Hp} {r A off nv sz B : Int} {V : Int → Int → Prop} (h : wq_R x m T s r A off nv 0 sz) (hH : mz_H X M T s) (eT0 : M.2 T 0 = x.2 T 0) (eT1 : M.2 T 1 = x.2 T 1) (ec : bz_ct M s = bz_ct m s) (ef : bz_ft M s = bz_ft m s) (hV : ∀ a b, wq_V m nv a b → V a b) (vv : bz_VV V) (cap : bz_cap r = 30) (h1 : X.2 r 1 = x.2 r 1) (h2 : ∀ i, X.2 (r + 1) i = x.2 (r + 1) i) (h3 : ∀ i, 0 ≤ i → i < 30 → M.2 B (off + i) = m.2 A (off + i)) : gv_Row X M T s V (fun q => q < 2000) r B off sz := by
  obtain ⟨⟨q1, q2, q3⟩, q4, q5⟩ := h
  have cd : ∀ i, 0 ≤ i → i < sz → yz_rl M T s V (fun q => q < 2000) (X.2 (r + 1) i) (M.2 B (off + i)) := fun i i0 i1 => by
    unfold yz_rl
    rw [ec, ef, eT0, eT1, h2 i, h3 i i0 (by omega)]
    refine ⟨(q4 i i0 i1).1.weak hV, ?_⟩
    have := (q4 i i0 i1).2
    by_cases c : m.2 A (off + i) < 2000
    · exact c
    · have := this (by omega); omega
  refine ⟨⟨by omega, by omega, by omega, fun i i0 i1 => (cd i i0 (by omega)).1.I hH.tb.2.1 vv⟩, by omega, ⟨q2, q3⟩, cd, ?_⟩
  refine q5.cong (fun j j0 j1 => ?_)
  unfold bz_ra
  rw [h2 j]
def sv_ZX (a k : Int) : Prop := sb_X a ∨ a = 381 ∨ (a = 380 ∧ (k ≤ 6 ∨ k = 9)) ∨ (a = 243 ∧ k = 4)
def sv_ZM (a k : Int) : Prop := tw_A a k ∨ (a = 804 ∧ 109 ≤ k ∧ k ≤ 111)
theorem sv_start {x m : az_Hp} {tp : Int → Int} {N nv nu ng nw : Int} {J j : Nat} (C : rz_C x m T s) (Bd : sv_Bd x m T s) (S : wq_S tp N x m T s J j nv nu 0) (A : wq_A x m T s nv nu ng nw) (Sl : sv_Sl x) :
    ∃ x' m' X M, fz_X8_begin 2000000 x 380 161 = some x' ∧ X = az_wr x' 243 4 1 ∧ fz_X11_takesWanted 2000000 m 804 = some m' ∧ M = az_wr (az_wr (az_wr m' 804 109 0) 804 110 (-1)) 804 111 0 ∧ sv_End X M T s nu (cz_VW M) ∧ bz_Upd x X sv_ZX ∧ bz_Upd m M sv_ZM ∧ (X.2 380 0 = 1 ∧ M.2 804 87 = 1 ∧ X.2 380 5 = nu ∧ M.2 804 101 = nu ∧ X.2 380 9 = 1 ∧ X.2 380 4 = 0 ∧ M.2 804 111 = 0 ∧ M.2 804 109 = 0) ∧ (0 ≤ nu ∧ nu ≤ 6) ∧ ∀ k, 0 ≤ k → k < nu → bz_WR 96 (X.2 381 k) (M.2 859 k) := by
  have hH := C.1
  have hT := hH.2.2.1.1
  obtain ⟨⟨hX, hM⟩, hCur, hN, h11, ⟨v1, v2, v3, v4, v5, v6, v7⟩, w1, w2, w3, w4⟩ := S
  obtain ⟨⟨g1, g2, g3, g4⟩, ⟨d1, d2, d3, d4⟩, aG, aN⟩ := A
  obtain ⟨x', b1, b2, ⟨b3, b4, b5, b6, b7, b8, b9, b10⟩, b11, b12⟩ := sb_all hX d1 w1 d3 d4 Sl (fun p p0 p1 => by
    obtain ⟨⟨e1, -⟩, ⟨e2, -⟩⟩ := aN p p0 p1
    omega)
  obtain ⟨m', c1, c2, ⟨c3, c4, c5, c6⟩, c7, c8, c9, c10, c11⟩ := tw_all hM g2 v1 w2 d2 g3 g4 v2.1 v2.2 w3.1 w3.2 d3 d4 (fun v sd v0 v1 s0 s1 => by
    obtain ⟨⟨e1, -⟩, ⟨e2, -⟩⟩ := aN v v0 v1
    have : sd = 0 ∨ sd = 1 := by omega
    rcases this with rfl | rfl
    · rw [Int.add_zero]; omega
    · omega)
  obtain ⟨X, hX'⟩ : ∃ y, y = az_wr x' 243 4 1 := ⟨_, rfl⟩
  obtain ⟨M, hM'⟩ : ∃ y, y = az_wr (az_wr (az_wr m' 804 109 0) 804 110 (-1)) 804 111 0 := ⟨_, rfl⟩
  have uX1 : bz_Upd x' X (fun a k => a = 243 ∧ k = 4) := by rw [hX']; exact bz_Upd.wr bz_Upd.refl ⟨rfl, rfl⟩ (by decide)
  have uM1 : bz_Upd m' M (fun a k => a = 804 ∧ 109 ≤ k ∧ k ≤ 111) := by rw [hM']; exact bz_Upd.wr (bz_Upd.wr (bz_Upd.wr bz_Upd.refl ⟨rfl, by omega⟩ (by decide)) ⟨rfl, by omega⟩ (by decide)) ⟨rfl, by omega⟩ (by decide)
  have uX : bz_Upd x X sv_ZX := (b2.weak fun a k z => z.imp id (fun z => z.imp id Or.inl)).trans (uX1.weak fun a k z => Or.inr (Or.inr (Or.inr z)))
  have uM : bz_Upd m M sv_ZM := (c2.weak fun a k z => Or.inl z).trans (uM1.weak fun a k z => Or.inr z)
  have KX : ∀ a k, ¬ (a = 243 ∧ k = 4) → X.2 a k = x'.2 a k := fun a k z => uX1.2.2 a k z
  have KM : ∀ a k, a ≠ 804 → M.2 a k = m'.2 a k := fun a k z => uM1.2.2 a k (fun w => z w.1)
  have KM4 : ∀ k, k < 109 → M.2 804 k = m'.2 804 k := fun k z => uM1.2.2 804 k (fun w => by omega)
  have tS : bz_tS m M := fun a k q => uM.2.2 a k (fun z => by unfold sv_ZM tw_A at z; omega)
  have C' : rz_C X M T s := yz_gC C uX uM (fun a k z => by unfold sv_ZX sb_X at z; unfold nz_t; omega) (fun a k z => by unfold sv_ZM tw_A at z; unfold nz_t; omega)
  have hn := hH.n
  have ec := bz_ct_tS tS s
  have ef := bz_ft_tS tS s
  have eT0 : M.2 T 0 = x.2 T 0 := by rw [tS T 0 (by omega)]; omega
  have eT1 : M.2 T 1 = x.2 T 1 := by rw [tS T 1 (by omega)]; omega
  have e858 : ∀ b, 0 ≤ b → b < nv → M.2 858 b = m.2 821 b := fun b b0 b1 => by rw [KM 858 b (by omega)]; exact c9 b b0 b1
  have hV : ∀ a b, wq_V m nv a b → cz_VW M a b := fun a b z => by
    obtain ⟨z1, z2, z3⟩ := z
    refine ⟨z1, by omega, by rw [e858 b z1 z2]; exact z3, fun i i0 i1 => ?_⟩
    rw [e858 i i0 (by omega), e858 b z1 z2]
    exact v3 i b i0 i1 z2
  have vv := cz_VW.vv (σ := M)
  have z864 : ∀ k, 0 ≤ k → k < nu → M.2 864 k = 0 := fun k k0 k1 => by rw [KM 864 k (by omega)]; exact (c10 k k0 k1).2
  have bits : X.2 380 6 = sv_bs (M.2 864) nu := by
    rw [sv_bs0 (fun k k0 k1 => by rw [z864 k k0 k1]; omega), KX 380 6 (by omega)]
    exact b9
  have KXr : ∀ a k, 161 ≤ a ∧ a ≤ 190 → X.2 a k = x.2 a k := fun a k z => uX.2.2 a k (fun w => by unfold sv_ZX sb_X at w; omega)
  have X383 : ∀ k, X.2 383 k = x.2 383 k := fun k => uX.2.2 383 k (fun w => by unfold sv_ZX sb_X at w; omega)
  have B : sv_B X M T s nu (cz_VW M) (fun _ => 0) := by
    refine ⟨C', vv, ⟨⟨w3, fun y e k k0 k1 => sv_isB (e.trans bits) k0 (by omega) k1, fun k k0 k1 kp => ?_, fun k i u k0 k1 i0 i1 u0 q q' => ?_⟩, fun _ => by show 0 < 6; decide⟩, ⟨by rw [hX', az_wr_same], ng, ⟨by rw [KXr 161 0 (by omega)]; exact g1, by rw [KM4 85 (by omega)]; exact c3, g3, g4⟩, fun g q0 q1 => ?_⟩, Bd.gen tS (uX.2.2 _ _ (fun w => by unfold sv_ZX sb_X at w; omega)) (fun k => uX.2.2 _ _ (fun w => by unfold sv_ZX sb_X at w; omega)), fun k k0 k1 => by rw [z864 k k0 k1]; omega, fun k => Or.inr ⟨fun z => by have := z864 k z.1 z.2.1; omega, rfl⟩, bits⟩
    · rw [z864 k k0 k1] at kp; omega
    · rw [z864 k k0 k1] at i1; omega
    · obtain ⟨e1, e2, -⟩ := aG g q0 q1
      have cp := (wq_cap q0).1 (by omega)
      rw [KM 850 g (by omega), KM 851 g (by omega), (c7 g q0 q1).1, (c7 g q0 q1).2]
      exact ⟨sv_row1 e1 C'.1 eT0 eT1 ec ef hV vv.1 cp.1 (KXr _ _ (by omega)) (fun i => KXr _ _ (by omega)) (fun i i0 i1 => by rw [KM 848 _ (by omega)]; exact (c8 _ (by omega) (by omega)).1), sv_row1 e2 C'.1 eT0 eT1 ec ef hV vv.1 cp.2 (KXr _ _ (by omega)) (fun i => KXr _ _ (by omega)) (fun i i0 i1 => by rw [KM 849 _ (by omega)]; exact (c8 _ (by omega) (by omega)).2)⟩
  have e109 : M.2 804 109 = 0 := by rw [hM', az_wr_ne (by omega), az_wr_ne (by omega), az_wr_same]
  have e110 : M.2 804 110 = -1 := by rw [hM', az_wr_ne (by omega), az_wr_same]
  have e111 : M.2 804 111 = 0 := by rw [hM', az_wr_same]
  refine ⟨x', m', X, M, b1, hX', c1, hM', ⟨⟨_, B⟩, by rw [KX 380 2 (by omega), b5, e109], by rw [KX 380 3 (by omega), b6, e110], Or.inl ⟨e109, nw, ⟨by rw [KX 380 1 (by omega)]; exact b4, by rw [KM4 108 (by omega)]; exact c6, d3, by omega⟩, fun p p0 p1 => ?_, ⟨fun k k0 k1 => by rw [X383]; exact Sl.1 k k0 k1, fun k p k0 k1 p0 p1 => by rw [X383, X383]; exact Sl.2 k p k0 k1 p0 p1⟩⟩⟩, uX, uM, ⟨by rw [KX 380 0 (by omega)]; exact b3, by rw [KM4 87 (by omega)]; exact c4, by rw [KX 380 5 (by omega)]; exact b8, by rw [KM4 101 (by omega)]; exact c5, by rw [KX 380 9 (by omega)]; exact b10, by rw [KX 380 4 (by omega)]; exact b7, e111, e109⟩, w3, fun k k0 k1 => by rw [KX 381 k (by omega), b11 k k0 (by omega), KM 859 k (by omega), (c10 k k0 k1).1]; exact w4 k k0 k1⟩
  rw [X383]
  obtain ⟨e1, e2⟩ := aN p p0 p1
  have sb := Sl.1 p p0 (by omega)
  have t1 := b12 p p0 p1
  obtain ⟨t2, t3⟩ := c11 p p0 p1
  generalize x.2 383 p = q at *
  obtain ⟨⟨r1, r2⟩, ⟨r3, r4⟩, r5⟩ := t1
  obtain ⟨y1, y2⟩ := t2 0 (by omega) (by omega)
  obtain ⟨y3, y4⟩ := t2 1 (by omega) (by omega)
  have s1 := e1.1
  have s2 := e2.1
  have cL := sv_cap (r := 389 + 4 * q) (by omega) (by omega)
  have cR := sv_cap (r := 391 + 4 * q) (by omega) (by omega)
  refine ⟨?_, ?_, by rw [KX 384 q (by omega), r5, KM 862 p (by omega), t3]⟩
  · rw [KM 861 _ (by omega), y1, Int.add_zero]
    rw [Int.add_zero] at y2
    exact sv_row0 e1 C'.1 eT0 eT1 ec ef hV vv.1 cL (by rw [KX _ _ (by omega), r1]; exact s1.1) (fun i i0 i1 => by rw [KX _ _ (by omega)]; exact r2 i i0 (by omega)) (fun i i0 i1 => by rw [KM 860 _ (by omega), y2 i i0 i1, show 30 * (2 * p) = 60 * p by omega]) (by omega) (by omega)
  · rw [KM 861 _ (by omega), y3]
    exact sv_row0 e2 C'.1 eT0 eT1 ec ef hV vv.1 cR (by rw [KX _ _ (by omega), r3]; exact s2.1) (fun i i0 i1 => by rw [KX _ _ (by omega)]; exact r4 i i0 (by omega)) (fun i i0 i1 => by rw [KM 860 _ (by omega), y4 i i0 i1, show 30 * (2 * p + 1) = 60 * p + 30 by omega]) (by omega) (by omega)
end BG
