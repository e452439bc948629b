/-! THE TERM is read -/
theorem rd_Nm.gen {x m x' m' : az_Hp} {T s : Int} {S S' : Int → Int → Prop} (h : rd_Nm x m T s) (ux : bz_Upd x x' S) (um : bz_Upd m m' S') (hs : ∀ a k, S a k → ¬ (T ≤ a ∧ a ≤ T + 4)) (hs' : ∀ a k, S' a k → ¬ (806 ≤ a ∧ a ≤ 812) ∧ ¬ (a = 804 ∧ k = 15)) : rd_Nm x' m' T s := by
  obtain ⟨h1, h2, h3, h4, h5, h6, h7, h8⟩ := h
  have X : ∀ a k, a = T ∨ (T + 1 ≤ a ∧ a ≤ T + 4) → x'.2 a k = x.2 a k := fun a k q => ux.2.2 a k (fun z => by have := hs a k z; omega)
  have M : ∀ a k, (806 ≤ a ∧ a ≤ 812) ∨ (a = 804 ∧ k = 15) → m'.2 a k = m.2 a k := fun a k q => um.2.2 a k (fun z => by have := hs' a k z; omega)
  have ec : bz_ct m' s = bz_ct m s := funext fun k => M _ _ (by omega)
  have ef : bz_ft m' s = bz_ft m s := funext fun k => M _ _ (by omega)
  refine ⟨h1, h2, by rw [M 804 15 (by omega)]; exact h3, ⟨by rw [X T 0 (by omega), M 806 s (by omega)]; exact h4.1, by rw [X T 1 (by omega), M 807 s (by omega)]; exact h4.2⟩, by rw [ec, ef, X T 0 (by omega), X T 1 (by omega)]; exact h5, fun k k0 k1 => ?_, fun k k0 k1 => ?_, fun k j k0 k1 j0 j1 => ?_⟩
  · rw [X T 0 (by omega)] at k1
    rw [X (T + 1) k (by omega), M 809 _ (by omega), X (T + 2) k (by omega), ec]
    exact h6 k k0 k1
  · rw [X T 1 (by omega)] at k1
    rw [X (T + 3) k (by omega), M 810 _ (by omega), X (T + 4) k (by omega), ef]
    exact h7 k k0 k1
  · rw [X T 0 (by omega)] at k1
    rw [X T 1 (by omega)] at j1
    rw [X (T + 1) k (by omega), X (T + 3) j (by omega)]
    exact h8 k j k0 k1 j0 j1
def wh_X (a k : Int) : Prop := (223 ≤ a ∧ a ≤ 230) ∨ (a = 377 ∧ k = 1) ∨ a = 378 ∨ (a = 161 ∧ k = 2) ∨ a = 166
def wh_M (a k : Int) : Prop := (a = 804 ∧ (k = 1 ∨ (5 ≤ k ∧ k ≤ 13) ∨ (31 ≤ k ∧ k ≤ 34) ∨ k = 37 ∨ k = 38)) ∨ (820 ≤ a ∧ a ≤ 822) ∨ a = 841
def wh_E (m : az_Hp) (N : Int) : Option (Int × az_Hp) := ((fz_X11_begins 2000000 m 804 N).bind fun r2 => ((az_gref (az_wr (az_wr r2 804 37 0) 804 34 12) 804 69).bind fun x3 => ((fz_X11_readWhole 2000000 (az_wr (az_wr r2 804 37 0) 804 34 12) 804 2 60 (-1) 0 x3 0).bind fun r4 => (if r4.1 = (-1) then fz_X11_term_74 2000000 r4.2 804 r4.1 0 else (if (r4.2.2 804 8) = 0 then fz_X11_term_74 2000000 r4.2 804 r4.1 1 else ((fz_X11_bad r4.2 804 2).bind fun r5 => (if r5.1 = 0 then fz_X11_term_74 2000000 r5.2 804 r4.1 0 else fz_X11_term_74 2000000 r5.2 804 r4.1 1)))))))
section WH
variable {tp : Int → Int} {N : Int} {T s : Int}
def wh_ok (x m : az_Hp) (T s sz : Int) : Prop := (m.2 804 11 = 0 ∧ m.2 804 12 = -1) ∧ (1 ≤ sz ∧ sz ≤ 60) ∧ x.2 377 1 = sz ∧ bz_Sc (bz_ra x 377) sz.toNat 1 0 ∧ (∀ i, 0 ≤ i → i < sz → bz_cr (bz_ct m s) (bz_ft m s) (x.2 T 0) (x.2 T 1) (rd_V 2 m (m.2 804 37)) (x.2 378 i) (m.2 841 i) ∧ m.2 841 i < 2000) ∧ ((0 ≤ m.2 804 37 ∧ m.2 804 37 ≤ 12) ∧ (∀ b c, 0 ≤ b → b < c → c < m.2 804 37 → m.2 821 b ≠ m.2 821 c) ∧ ∀ b, 0 ≤ b → b < m.2 804 37 → bz_WR 96 (x.2 224 b) (m.2 821 b))
theorem rd_whole {x m : az_Hp} (hX : bz_Fx x) (hM : bz_Fx m) (hTX : lx_tapeX x tp N) (hTM : ∀ i, 0 ≤ i → i < N → m.2 805 i = tp i) (hN : rd_Nm x m T s) :
    ∃ (w sz : Int) (x' m' : az_Hp), (w = 0 ∨ w = 1) ∧ fz_X4_readWhole 2000000 x 223 2 N T 377 = some (w, x') ∧ wh_E m N = fz_X11_term_74 2000000 m' 804 sz w ∧ bz_Upd x x' wh_X ∧ bz_Upd m m' wh_M ∧ m'.2 804 1 = 0 ∧ (w = 0 → lx_fault x' m') ∧ (w = 1 → wh_ok x' m' T s sz) := by
  have hT := hN.1
  obtain ⟨x1, m1, J, a1, a2, a3, a4, a5, a6, a7, a8, a9⟩ := rd_begin hX hM hTX hTM hT
  obtain ⟨y, hy⟩ : ∃ y, y = az_wr (az_wr (az_wr (az_wr x1 223 3 0) 223 4 12) 377 1 0) 223 5 2 := ⟨_, rfl⟩
  obtain ⟨q, hq⟩ : ∃ q, q = az_wr (az_wr (az_wr (az_wr (az_wr m1 804 37 0) 804 34 12) 804 32 2) 804 33 60) 804 31 0 := ⟨_, rfl⟩
  have uy : bz_Upd x1 y (fun a k => (a = 223 ∧ (k = 3 ∨ k = 4 ∨ k = 5)) ∨ (a = 377 ∧ k = 1)) := by
    rw [hy]
    refine bz_Upd.wr (bz_Upd.wr (bz_Upd.wr (bz_Upd.wr bz_Upd.refl (Or.inl ⟨rfl, by omega⟩) (by decide)) (Or.inl ⟨rfl, by omega⟩) (by decide)) (Or.inr ⟨rfl, rfl⟩) (by decide)) (Or.inl ⟨rfl, by omega⟩) (by decide)
  have uq : bz_Upd m1 q (fun a k => a = 804 ∧ ((31 ≤ k ∧ k ≤ 34) ∨ k = 37)) := by
    rw [hq]
    refine bz_Upd.wr (bz_Upd.wr (bz_Upd.wr (bz_Upd.wr (bz_Upd.wr bz_Upd.refl ⟨rfl, by omega⟩ (by decide)) ⟨rfl, by omega⟩ (by decide)) ⟨rfl, by omega⟩ (by decide)) ⟨rfl, by omega⟩ (by decide)) ⟨rfl, by omega⟩ (by decide)
  have hX1 := hX.upd a4
  have hM1 := hM.upd a5
  have hY := hX1.upd uy
  have hQ := hM1.upd uq
  have C1 : lx_Cur y q tp N J 0 := a3.upd uy uq (fun a k z => by unfold lx_KX; omega) (fun a k z => by unfold lx_KM; omega)
  have Nq : rd_Nm y q T s := (hN.gen a4 a5 (fun a k z => by unfold lx_SX at z; omega) (fun a k z => by omega)).gen uy uq (fun a k z => by omega) (fun a k z => by omega)
  have y3 : y.2 223 3 = 0 := by rw [hy, az_wr_ne (by omega), az_wr_ne (by omega), az_wr_ne (by omega), az_wr_same]
  have y4 : y.2 223 4 = 12 := by rw [hy, az_wr_ne (by omega), az_wr_ne (by omega), az_wr_same]
  have y5 : y.2 223 5 = 2 := by rw [hy, az_wr_same]
  have y377 : y.2 377 1 = 0 := by rw [hy, az_wr_ne (by omega), az_wr_same]
  have q37 : q.2 804 37 = 0 := by rw [hq, az_wr_ne (by omega), az_wr_ne (by omega), az_wr_ne (by omega), az_wr_ne (by omega), az_wr_same]
  have q34 : q.2 804 34 = 12 := by rw [hq, az_wr_ne (by omega), az_wr_ne (by omega), az_wr_ne (by omega), az_wr_same]
  have q32 : q.2 804 32 = 2 := by rw [hq, az_wr_ne (by omega), az_wr_ne (by omega), az_wr_same]
  have q33 : q.2 804 33 = 60 := by rw [hq, az_wr_ne (by omega), az_wr_same]
  have q31 : q.2 804 31 = 0 := by rw [hq, az_wr_same]
  have c377 : bz_cap 377 = 60 := by decide
  have B0 : rd_B tp N y q 2 377 T s J 0 0 0 0 1 := by
    refine ⟨⟨hY, hQ⟩, C1, Nq, ⟨by rw [uy.2.2 223 11 (fun z => by omega)]; exact a6, y5, ⟨by omega, by omega⟩, by rw [q32]; rfl, by rw [q33, c377]⟩, ⟨q37, ⟨by omega, by omega⟩, fun b c b0 b1 c1 => by omega, fun _ => ⟨y3, by rw [y4, q34], by omega, ⟨by omega, by omega⟩, fun b b0 b1 => by omega⟩, fun z => by omega⟩, fun z => by omega, y377, q31, ⟨by omega, by omega⟩, fun i i0 i1 => by omega⟩
  have R := rd_side (r := 377) (en := -1) (by omega) B0 (fun z => by omega) rfl
  rw [show rd_must 2 0 = 0 from rfl] at R
  have runX : ∀ o, fz_X4_readSide_15 2000000 2000000 y 223 377 0 0 = some o → fz_X4_readWhole 2000000 x 223 2 N T 377 = (if o.1 = 0 then (some (0, o.2)) else (if (o.2.2 223 8) = 0 then (some (1, o.2)) else ((fz_X4_fail o.2 223 2).bind fun r4 => (if r4.1 = 0 then (some (0, r4.2)) else (some (1, r4.2)))))) := fun o ho => by
    unfold fz_X4_readWhole
    rw [a1, Option.bind_some]
    show ((fz_X4_readSide 2000000 (az_wr (az_wr x1 223 3 0) 223 4 12) 223 377 2).bind fun r3 => (if r3.1 = 0 then (some (0, r3.2)) else (if (r3.2.2 223 8) = 0 then (some (1, r3.2)) else ((fz_X4_fail r3.2 223 2).bind fun r4 => (if r4.1 = 0 then (some (0, r4.2)) else (some (1, r4.2))))))) = _
    unfold fz_X4_readSide
    rw [← hy, ho, Option.bind_some]
  have hMa : bz_Fx (az_wr (az_wr m1 804 37 0) 804 34 12) := hM1.upd (S := fun _ _ => True) (bz_Upd.wr (bz_Upd.wr bz_Upd.refl trivial (by decide)) trivial (by decide))
  have runM : ∀ o, fz_X11_readTerm 2000000 200 q 804 (-1) 0 0 = some o → fz_X11_readWhole 2000000 (az_wr (az_wr m1 804 37 0) 804 34 12) 804 2 60 (-1) 0 841 0 = (if o.1 = 0 then (some ((-1), o.2)) else fz_X11_readWhole_31 2000000 2000000 o.2 804 841 0 0) := fun o ho => by
    unfold fz_X11_readWhole
    rw [← hq, ho, Option.bind_some]
  have runE : ∀ o, fz_X11_readWhole 2000000 (az_wr (az_wr m1 804 37 0) 804 34 12) 804 2 60 (-1) 0 841 0 = some o → wh_E m N = (if o.1 = (-1) then fz_X11_term_74 2000000 o.2 804 o.1 0 else (if (o.2.2 804 8) = 0 then fz_X11_term_74 2000000 o.2 804 o.1 1 else ((fz_X11_bad o.2 804 2).bind fun r5 => (if r5.1 = 0 then fz_X11_term_74 2000000 r5.2 804 o.1 0 else fz_X11_term_74 2000000 r5.2 804 o.1 1)))) := fun o ho => by
    unfold wh_E
    rw [a2, Option.bind_some, fx_804_69 hMa, Option.bind_some, ho, Option.bind_some]
  have ux : bz_Upd x y wh_X := (a4.weak fun a k z => by unfold lx_SX at z; unfold wh_X; omega).trans (uy.weak fun a k z => by unfold wh_X; omega)
  have um : bz_Upd m q wh_M := (a5.weak fun a k z => by unfold wh_M; omega).trans (uq.weak fun a k z => by unfold wh_M; omega)
  have q1 : q.2 804 1 = 0 := by rw [uq.2.2 804 1 (fun z => by omega)]; exact a9
  rcases R with ⟨x', m', b1, b2, b3, b4, b5⟩ | ⟨x', m', j', nv', nu', sz, t1, t2, t3, t4, t5, t6, t7, t8, t9⟩
  · refine ⟨0, -1, x', m', Or.inl rfl, by rw [runX _ b1, if_pos rfl], by rw [runE (-1, m') (by rw [runM _ b2, if_pos rfl]), if_pos rfl], ux.trans (b3.weak fun a k z => by unfold rd_SX yz_S at z; unfold wh_X; omega), um.trans (b4.weak fun a k z => by unfold rd_SB rd_SM at z; unfold wh_M; omega), ?_, fun _ => b5, fun z => by omega⟩
    rw [b4.2.2 804 1 (fun z => by unfold rd_SB rd_SM at z; omega)]; exact q1
  · have hM' := t3.1.2
    have w3 := t3.2.2.2.2.2.2
    have l841 := ln_841 hM'
    obtain ⟨m2, c1, c2, c3⟩ := rd_copy (A := 841) (off := 0) (n := sz) hM' w3.2.1 (by omega) (by have := w3.2.2.1.2; omega) ⟨by decide, by decide⟩ (fun k => by unfold bz_isFix; simp [bz_cap, bz_fixL, bz_rowsL]) (by omega) (by have := w3.2.2.1.2; omega) (by omega)
    have eW : fz_X11_readWhole 2000000 (az_wr (az_wr m1 804 37 0) 804 34 12) 804 2 60 (-1) 0 841 0 = some (sz, m2) := by rw [runM _ t2, if_neg (show ¬ (1 : Int) = 0 by decide), c1]
    have C2 : lx_Cur x' m2 tp N J j' := t3.2.1.upd (bz_Upd.refl (S := fun _ _ => False)) c2 (fun a k z => z.elim) (fun a k z => by unfold lx_KM; omega)
    have h8 : x'.2 223 8 = lx_kj tp N j' := C2.2.2.1.2.1
    have k0 := (lx_kind C2).1
    have um2 : bz_Upd m m2 wh_M := (um.trans (t8.weak fun a k z => by unfold rd_SM at z; unfold wh_M; omega)).trans (c2.weak fun a k z => by unfold wh_M; omega)
    have ux2 : bz_Upd x x' wh_X := ux.trans (t7.weak fun a k z => by unfold rd_SX yz_S at z; unfold wh_X; omega)
    have e1 : m2.2 804 1 = 0 := by rw [c2.2.2 804 1 (fun z => by omega), t8.2.2 804 1 (fun z => by unfold rd_SM at z; omega)]; exact q1
    by_cases cE : lx_kj tp N j' = 0
    · refine ⟨1, sz, x', m2, Or.inr rfl, by rw [runX _ t1, if_neg (show ¬ (1 : Int) = 0 by decide), if_pos (show x'.2 223 8 = 0 by omega)], by rw [runE _ eW, if_neg (show ¬ sz = -1 by omega), if_pos (k0.mpr cE)], ux2, um2, e1, fun z => by omega, fun _ => ?_⟩
      have F : ∀ k, k = 11 ∨ k = 12 → m2.2 804 k = m1.2 804 k := fun k z => by rw [c2.2.2 804 k (fun z => by omega), t8.2.2 804 k (fun z => by unfold rd_SM at z; omega), uq.2.2 804 k (fun z => by omega)]
      have v := t3.2.2.2.2.1
      have e37 : m2.2 804 37 = nv' := by rw [c2.2.2 804 37 (fun z => by omega)]; exact v.1
      have e821 : ∀ i, m2.2 821 i = m'.2 821 i := fun i => c2.2.2 821 i (fun z => by omega)
      obtain ⟨z1, z2, z3, z4, z5⟩ := v.2.2.2.1 (by omega)
      have ec : bz_ct m2 s = bz_ct m' s := funext fun k => c2.2.2 811 _ (fun z => by omega)
      have ef : bz_ft m2 s = bz_ft m' s := funext fun k => c2.2.2 812 _ (fun z => by omega)
      have eV : rd_V 2 m2 nv' = rd_V 2 m' nv' := by
        funext a b
        unfold rd_V
        rw [e821]
      refine ⟨⟨by rw [F 11 (by omega)]; exact a8.1, by rw [F 12 (by omega)]; exact a8.2⟩, ⟨t6, by have := w3.2.2.1.2; omega⟩, w3.1, t5, fun i i0 i1 => ?_, by rw [e37]; exact ⟨v.2.1.1, by omega⟩, fun b c b0 bc c1 => ?_, fun b b0 b1 => ?_⟩
      · have cc := c3 i i0 i1
        rw [Int.zero_add] at cc
        obtain ⟨p1, p2, -⟩ := w3.2.2.2 i i0 i1
        rw [ec, ef, e37, eV, cc]
        exact ⟨p1, p2 (by omega)⟩
      · rw [e821, e821]; rw [e37] at c1; exact v.2.2.1 b c b0 bc c1
      · rw [e821]; rw [e37] at b1; exact z5 b b0 b1
    · obtain ⟨x3, m3, b1, b2, b3, b4, b5⟩ := lx_fail C2 2
      refine ⟨0, sz, x3, m3, Or.inl rfl, by rw [runX _ t1, if_neg (show ¬ (1 : Int) = 0 by decide), if_neg (show ¬ x'.2 223 8 = 0 by omega), b1, Option.bind_some, if_pos rfl], by rw [runE _ eW, if_neg (show ¬ sz = -1 by omega), if_neg (fun z => cE (k0.mp z)), b2, Option.bind_some, if_pos rfl], ux2.trans (b3.weak fun a k z => by unfold wh_X; omega), um2.trans (b4.weak fun a k z => by unfold wh_M; omega), ?_, fun _ => b5, fun z => by omega⟩
      rw [b4.2.2 804 1 (fun z => by omega)]; exact e1
end WH
