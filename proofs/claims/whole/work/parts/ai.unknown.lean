/-! an UNKNOWN is read, side by side -/
section UN
variable {tp : Int → Int} {N : Int} {x m : az_Hp} {md r T s nv nu sz : Int} {J j : Nat}
theorem rd_wrap0 {m' : az_Hp} : ((some ((0 : Int), m')).bind fun q => (if q.1 = 0 ∨ q.1 = 1 then some (q.1, q.2) else none)) = some (0, m') := by
  rw [Option.bind_some, if_pos (Or.inl rfl)]
theorem rd_nodeUnk {rc : az_Hp → Int → Int → Int → Int → Option (Int × az_Hp)} {en : Int} (h : rd_B tp N x m md r T s J j nv nu sz 1) (hr : 0 < bz_cap r) (hk : lx_kj tp N j = 63) (m3 : 3 ≤ md) :
    rd_Bad r x m (fz_X4_readNode 2000000 x 223 r) (fz_X11_readTerm_e 2000000 rc m 804 en (rd_first1 sz) (rd_must md sz)) ∨
    ∃ x' m' nu' c, fz_X4_readNode 2000000 x 223 r = some (1, x') ∧ fz_X11_readTerm_e 2000000 rc m 804 en (rd_first1 sz) (rd_must md sz) = some (1, m') ∧ rd_B tp N x' m' md r T s J (j + 2) nv nu' (sz + 1) 0 ∧ bz_Upd x x' (rd_SX r) ∧ bz_Upd m m' rd_SM ∧ x'.2 (r + 1) sz = c ∧ bz_ar c = 0 ∧ (∀ i, i < sz → x'.2 (r + 1) i = x.2 (r + 1) i) ∧ sz < bz_cap r ∧ rd_F2 x m x' m' ∧ ∀ i, i ≠ sz → m'.2 820 i = m.2 820 i := by
  have h0 := h
  obtain ⟨⟨hX, hM⟩, hC, hN, ⟨g1, g2, g3, g4, g5⟩, -, hU, ⟨w1, w2, w3, w4⟩⟩ := h
  have h8 : x.2 223 8 = 63 := by rw [hC.2.2.1.2.1]; exact hk
  have rlt := bz_cap_lt hr
  have rn := rd_capn hr
  have fR := bz_fxR hX hr
  have gr : az_gref x r 0 = some (r + 1) := bz_gr fR.1 (by omega)
  have vr := (rd_isVar hC).2
  rw [if_neg (fun z => by omega)] at vr
  have sg := lx_sign (c := 63) hC (by decide)
  rw [if_pos hk] at sg
  have rm : m.2 804 32 = if md ≤ 4 then 3 else 4 := by rw [g4]; unfold rd_rm; rw [if_neg (by omega)]
  have X0 : fz_X4_readNode 2000000 x 223 r = ((fz_X4_readUnknown 2000000 x 223 r).bind fun r1 => (if r1.1 = 0 ∨ r1.1 = 1 then some (r1.1, r1.2) else none)) := by
    unfold fz_X4_readNode
    rw [if_pos h8, g2, if_neg (by omega)]
  have M0 : fz_X11_readTerm_e 2000000 rc m 804 en (rd_first1 sz) (rd_must md sz) = ((fz_X11_readUnknown 2000000 m 804).bind fun r3 => (if r3.1 = 0 ∨ r3.1 = 1 then some (r3.1, r3.2) else none)) := by
    unfold fz_X11_readTerm_e
    rw [vr, Option.bind_some, if_pos rfl, sg, Option.bind_some, if_neg (show ¬ (1 : Int) = 0 by decide), rm]
    by_cases c : md ≤ 4
    · rw [if_pos c, if_pos rfl]
    · rw [if_neg c, if_neg (by decide), if_pos rfl]
  by_cases full : sz = bz_cap r
  · left
    obtain ⟨x', m', b1, b2, b3, b4, b5⟩ := rd_bad1 (r := r) (C := hC) 6
    refine ⟨x', m', ?_, ?_, b3, b4, b5⟩
    · rw [X0]
      unfold fz_X4_readUnknown
      rw [gr, Option.bind_some, if_neg (by rw [fR.2]; omega), b1, rd_wrap0]
    · rw [M0]
      unfold fz_X11_readUnknown
      rw [if_pos (by omega), b2, rd_wrap0]
  · by_cases gv : md ≤ 4
    · left
      obtain ⟨x', m', b1, b2, b3, b4, b5⟩ := rd_bad1 (r := r) (C := hC) 7
      refine ⟨x', m', ?_, ?_, b3, b4, b5⟩
      · rw [X0]
        unfold fz_X4_readUnknown
        rw [gr, Option.bind_some, if_pos (by rw [fR.2]; omega), g2, b1]
        by_cases c : md = 3
        · rw [if_pos c, rd_wrap0]
        · rw [if_neg c, if_pos (by omega), rd_wrap0]
      · rw [M0]
        unfold fz_X11_readUnknown
        rw [if_neg (by omega), rm, if_pos gv, if_pos rfl, b2, rd_wrap0]
    · obtain ⟨x1, m1, n1, n2, B1, un1, un2⟩ := rd_step h0 hr (by omega) (by omega)
      have B10 := B1
      obtain ⟨⟨hX1, hM1⟩, hC1, -, -, -, hU1, ⟨z1, z2, z3, z4⟩⟩ := B1
      obtain ⟨u1, u2, u3, u4⟩ := hU1 m3
      have fkn : rd_F2 x m x1 m1 := ⟨fun i => ⟨un1.2.2 229 i (fun z => by unfold lx_nX at z; omega), un1.2.2 230 i (fun z => by unfold lx_nX at z; omega)⟩, rd_Mo.upd un1 un2 (fun k z => by unfold lx_nX at z; omega) (fun a k z => by unfold lx_S at z; omega)⟩
      have ux1 : bz_Upd x x1 (rd_SX r) := un1.weak fun a k z => Or.inl (by unfold lx_nX at z; omega)
      have um1 : bz_Upd m m1 rd_SM := un2.weak fun a k z => Or.inl (by unfold lx_S at z; omega)
      have k3 := (lx_kind hC1).2.2.2.1
      have h81 : x1.2 223 8 = lx_kj tp N (j + 1) := hC1.2.2.1.2.1
      have X1 : fz_X4_readUnknown 2000000 x 223 r = (if (x1.2 223 8) = 3 then ((az_gref x1 223 12).bind fun x4 => ((fz_X6_unknownOf 2000000 x1 x4 (x1.2 223 9)).bind fun r5 => (if r5 = (-1) then ((az_gref x1 223 12).bind fun x6 => (if (x1.2 x6 2) < 6 then ((az_gref x1 223 12).bind fun x7 => ((az_gref x1 x7 7).bind fun x8 => ((az_awr x1 x8 (x1.2 x6 2) (x1.2 223 9)).bind fun s9 => ((az_gref s9 223 12).bind fun x10 => fz_X4_readUnknown_124 2000000 (az_wr s9 x10 2 (az_w32 ((s9.2 x10 2) + 1))) 223 r (x1.2 x6 2))))) else ((fz_X4_fail x1 223 6).bind fun r11 => (if r11.1 = 0 ∨ r11.1 = 1 then some (r11.1, r11.2) else none)))) else fz_X4_readUnknown_124 2000000 x1 223 r r5))) else ((fz_X4_fail x1 223 2).bind fun r12 => (if r12.1 = 0 ∨ r12.1 = 1 then some (r12.1, r12.2) else none))) := by
        unfold fz_X4_readUnknown
        rw [gr, Option.bind_some, if_pos (by rw [fR.2]; omega), g2, if_neg (by omega), if_neg (by omega), n1, Option.bind_some]
      have M1 : fz_X11_readUnknown 2000000 m 804 = (if (m1.2 804 8) = 3 then ((az_gref m1 804 36).bind fun x2 => ((fz_X11_findIn 2000000 m1 x2 (m1.2 804 38) (m1.2 804 13)).bind fun r3 => (if r3 = (-1) then (if (m1.2 804 38) = 6 then ((fz_X11_bad m1 804 6).bind fun r4 => (if r4.1 = 0 ∨ r4.1 = 1 then some (r4.1, r4.2) else none)) else fz_X11_readUnknown_88 2000000 m1 804 r3) else fz_X11_readUnknown_88 2000000 m1 804 r3))) else ((fz_X11_bad m1 804 2).bind fun r5 => (if r5.1 = 0 ∨ r5.1 = 1 then some (r5.1, r5.2) else none))) := by
        unfold fz_X11_readUnknown
        rw [if_neg (by omega), rm, if_neg gv, if_neg (by decide), n2, Option.bind_some]
      by_cases kw : lx_kj tp N (j + 1) = 3
      · have h91 : x1.2 223 9 = lx_vj tp N (j + 1) := hC1.2.2.1.2.2.1 (by omega) (by omega)
        have wr : bz_WR 96 (lx_vj tp N (j + 1)) (m1.2 804 13) := by
          rcases hC1.2.2.2.2.1.2 with ⟨q, -⟩ | ⟨q, -⟩ | ⟨q, -, -⟩ | ⟨-, -, w⟩ | ⟨q, -, -⟩ | ⟨q, -, -⟩
          · omega
          · omega
          · omega
          · exact w
          · omega
          · rw [lx_sgnP] at q; omega
        have l822 := ln_822 hM1
        obtain ⟨ix, hix⟩ : ∃ ix, ix = rd_first (fun i => decide (m1.2 822 i = m1.2 804 13)) nu.toNat 0 := ⟨_, rfl⟩
        have fI : fz_X11_findIn 2000000 m1 822 nu (m1.2 804 13) = some ix := by rw [hix]; exact rd_findIn u3.1 (by omega) (by omega)
        have fX : fz_X6_unknownOf 2000000 x1 161 (x1.2 223 9) = some ix := by
          rw [rd_unknownOf hX1 u1 u3.1 u3.2, h91, hix]
          congr 1
          exact rd_first_congr _ _ (fun i i0 i1 => decide_eq_decide.mpr ((u4 i i0 (by omega)).inj (Or.inr rfl) wr))
        have spec := rd_first_spec (f := fun i => decide (m1.2 822 i = m1.2 804 13)) nu.toNat 0 (by omega)
        rw [← hix] at spec
        have X2 : fz_X4_readUnknown 2000000 x 223 r = (if ix = (-1) then (if nu < 6 then ((az_awr x1 166 nu (lx_vj tp N (j + 1))).bind fun s9 => ((az_gref s9 223 12).bind fun x10 => fz_X4_readUnknown_124 2000000 (az_wr s9 x10 2 (az_w32 ((s9.2 x10 2) + 1))) 223 r nu)) else ((fz_X4_fail x1 223 6).bind fun r11 => (if r11.1 = 0 ∨ r11.1 = 1 then some (r11.1, r11.2) else none))) else fz_X4_readUnknown_124 2000000 x1 223 r ix) := by
          rw [X1, if_pos (by omega), fx_223_12 hX1, Option.bind_some, fX, Option.bind_some, Option.bind_some, u1, Option.bind_some, fx_161_7 hX1, Option.bind_some, h91]
        have M2 : fz_X11_readUnknown 2000000 m 804 = (if ix = (-1) then (if nu = 6 then ((fz_X11_bad m1 804 6).bind fun r4 => (if r4.1 = 0 ∨ r4.1 = 1 then some (r4.1, r4.2) else none)) else fz_X11_readUnknown_88 2000000 m1 804 ix) else fz_X11_readUnknown_88 2000000 m1 804 ix) := by
          rw [M1, if_pos (k3.mpr kw), fx_804_36 hM1, Option.bind_some, u2, fI, Option.bind_some]
        have mk : ∀ (y : az_Hp) k, 0 ≤ k → k < 6 → fz_X4_readUnknown_124 2000000 y 223 r k = ((fz_X7_add y r (k * 16 + 3)).bind fun r2 => ((fz_X4_next r2.2 223).bind fun r3 => (some ((1 : Int), r3)))) := fun y k k0 k1 => by
          have : fz_X7_make y 3 0 k = some (k * 16 + 3) := by
            have mk0 := bz_make (n := k) (a := 0) (k := 3) k0 (by omega) (by omega) (by omega) (by omega) (by omega)
            unfold fz_X7_make
            rw [mk0]
            congr 1
            omega
          unfold fz_X4_readUnknown_124
          rw [this, Option.bind_some]
        have crU : ∀ (mm : az_Hp) (nc nf : Int) (VV : Int → Int → Prop) k, 0 ≤ k → k < 6 → bz_cr (bz_ct mm s) (bz_ft mm s) nc nf VV (k * 16 + 3) (2000 + k) := fun mm nc nf VV k k0 k1 => Or.inr (Or.inr (Or.inr ⟨by omega, by omega, by rw [show 2000 + k - 2000 = k by omega]⟩))
        have arU : ∀ k : Int, 0 ≤ k → bz_ar (k * 16 + 3) = 0 := fun k k0 => by unfold bz_ar; rw [if_neg (by omega)]; omega
        by_cases old : ix = -1
        · by_cases n6 : nu = 6
          · left
            obtain ⟨x', m', b1, b2, b3, b4, b5⟩ := rd_bad1 (r := r) (C := hC1) 6
            exact ⟨x', m', by rw [X0, X2, if_pos old, if_neg (by omega), b1, rd_wrap0], by rw [M0, M2, if_pos old, if_pos n6, b2, rd_wrap0], ux1.trans b3, (um1.weak fun _ _ z => Or.inl z).trans b4, b5⟩
          · right
            obtain ⟨B2, ux2, um2, fk2⟩ := rd_insU B10 hr m3 wr (by omega)
            have hXa : bz_Fx (az_wr x1 166 nu (lx_vj tp N (j + 1))) := hX1.upd (S := fun _ _ => True) (bz_Upd.wr bz_Upd.refl trivial (by unfold bz_isFix; simp [bz_cap, bz_fixL, bz_rowsL]))
            obtain ⟨x', m', p1, p2, p3, p4, p5, p6, p7, p8, p9, p10⟩ := rd_put B2 hr (by omega) (by omega) (by omega) (crU _ _ _ _ nu u3.1 (by omega)) ⟨fun q => by omega, fun q => by omega, fun q1 q2 => by omega, fun q1 q2 => by omega⟩
            refine ⟨x', m', nu + 1, nu * 16 + 3, ?_, ?_, p3.weak (by omega), (ux1.trans ux2).trans p4, (um1.trans um2).trans p5, p6, arU nu u3.1, fun i hi => ?_, by omega, (fkn.trans fk2).trans p10, fun i hi => by rw [p9 i hi, az_wr_ne (by omega), az_wr_ne (by omega), un2.2.2 820 i (fun z => by unfold lx_S at z; omega)]⟩
            · rw [X0, X2, if_pos old, if_pos (by omega), bz_awr u3.1 (by rw [ln_166 hX1]; omega), Option.bind_some, fx_223_12 hXa, Option.bind_some, az_wr_ne (by omega), u1, az_w32_id (z := nu + 1) (by omega) (by omega), mk _ nu u3.1 (by omega), p1, rd_wrap]
            · rw [M0, M2, if_pos old, if_neg n6]
              unfold fz_X11_readUnknown_88
              rw [if_pos old, fx_804_36 hM1, Option.bind_some, u2, bz_awr u3.1 (by omega), Option.bind_some, az_wr_ne (by omega), u2, az_w32_id (z := nu + 1) (by omega) (by omega), az_w32_id (z := 2000 + nu) (by omega) (by omega), p2, rd_wrap, rd_wrap]
            · rw [p7 i hi, az_wr_ne (by omega), az_wr_ne (by omega), un1.2.2 (r + 1) i (fun z => by unfold lx_nX at z; omega)]
        · right
          rcases spec with sp | ⟨sp1, sp2, sp3, sp4⟩
          · exact absurd sp.1 old
          obtain ⟨x', m', p1, p2, p3, p4, p5, p6, p7, p8, p9, p10⟩ := rd_put B10 hr (by omega) (by omega) (by omega) (crU _ _ _ _ ix sp1 (by omega)) ⟨fun q => by omega, fun q => by omega, fun q1 q2 => by omega, fun q1 q2 => by omega⟩
          refine ⟨x', m', nu, ix * 16 + 3, ?_, ?_, p3.weak (by omega), ux1.trans p4, um1.trans p5, p6, arU ix sp1, fun i hi => ?_, by omega, fkn.trans p10, fun i hi => by rw [p9 i hi, un2.2.2 820 i (fun z => by unfold lx_S at z; omega)]⟩
          · rw [X0, X2, if_neg old, mk _ ix sp1 (by omega), p1, rd_wrap]
          · rw [M0, M2, if_neg old]
            unfold fz_X11_readUnknown_88
            rw [if_neg old, az_w32_id (z := 2000 + ix) (by omega) (by omega), p2, rd_wrap, rd_wrap]
          · rw [p7 i hi, un1.2.2 (r + 1) i (fun z => by unfold lx_nX at z; omega)]
      · left
        obtain ⟨x', m', b1, b2, b3, b4, b5⟩ := rd_bad1 (r := r) (C := hC1) 2
        exact ⟨x', m', by rw [X0, X1, if_neg (by omega), b1, rd_wrap0], by rw [M0, M1, if_neg (fun z => kw (k3.mp z)), b2, rd_wrap0], ux1.trans b3, (um1.weak fun _ _ z => Or.inl z).trans b4, b5⟩
end UN
