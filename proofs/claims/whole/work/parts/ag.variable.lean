/-! a VARIABLE is read, side by side -/
section VS
variable {tp : Int → Int} {N : Int} {x m : az_Hp} {md r T s nv nu sz : Int} {J j : Nat}
theorem rd_wrap {m' : az_Hp} : ((some ((1 : Int), m')).bind fun q => (if q.1 = 0 ∨ q.1 = 1 then some (q.1, q.2) else none)) = some (1, m') := by
  rw [Option.bind_some, if_pos (Or.inr rfl)]
theorem rd_nodeVar {rc : az_Hp → Int → Int → Int → Int → Option (Int × az_Hp)} {en : Int} (h : rd_B tp N x m md r T s J j nv nu sz 1) (hr : 0 < bz_cap r) (hk : lx_kj tp N j = 3) (hnr : rd_nr (lx_vj tp N j) = true) (occ : rd_Occ m md nv sz) (fst : md = 0 → sz = 0 → nv = 0) :
    rd_Bad r x m (fz_X4_readNode 2000000 x 223 r) (fz_X11_readTerm_e 2000000 rc m 804 en (rd_first1 sz) (rd_must md sz)) ∨
    ∃ x' m' nv' c, fz_X4_readNode 2000000 x 223 r = some (1, x') ∧ fz_X11_readTerm_e 2000000 rc m 804 en (rd_first1 sz) (rd_must md sz) = some (1, m') ∧ rd_B tp N x' m' md r T s J (j + 1) nv' nu (sz + 1) 0 ∧ rd_Occ m' md nv' (sz + 1) ∧ bz_Upd x x' (rd_SX r) ∧ bz_Upd m m' rd_SM ∧ x'.2 (r + 1) sz = c ∧ bz_ar c = 0 ∧ (∀ i, i < sz → x'.2 (r + 1) i = x.2 (r + 1) i) ∧ sz < bz_cap r ∧ rd_F2 x m x' m' ∧ (md = 1 → nv' = nv) := by
  have h0 := h
  obtain ⟨⟨hX, hM⟩, hC, hN, ⟨g1, g2, g3, g4, g5⟩, ⟨v1, v2, v3, v4, v5⟩, hU, ⟨w1, w2, w3, w4⟩⟩ := h
  have h8 : x.2 223 8 = 3 := by rw [hC.2.2.1.2.1]; exact hk
  have h9 : x.2 223 9 = lx_vj tp N j := hC.2.2.1.2.2.1 (by omega) (by omega)
  have rlt := bz_cap_lt hr
  have fR := bz_fxR hX hr
  have gr : az_gref x r 0 = some (r + 1) := bz_gr fR.1 (by omega)
  have wr : bz_WR 96 (lx_vj tp N j) (m.2 804 13) := by
    rcases hC.2.2.2.2.1.2 with ⟨q, -⟩ | ⟨q, -⟩ | ⟨q, -, -⟩ | ⟨-, -, w⟩ | ⟨q, -, -⟩ | ⟨q, -, -⟩
    · omega
    · omega
    · omega
    · exact w
    · omega
    · rw [lx_sgnP] at q; omega
  have vrg := wr.rng
  have vr := rd_isVar hC
  rw [if_pos ⟨hk, hnr⟩] at vr
  have l821 := ln_821 hM
  have jb : 3 ≤ md → nv < 450 := fun z => by
    have z3 := (v5 z).2.2.1
    have ps := lx_posN (tp := tp) hC.2.2.2.1.2.1.1 (j + 1) (fun i hi => by
      by_cases e : i = j
      · rw [e]; omega
      · exact hC.1.2.2.2.1 i (by have := hC.2.1; omega))
    have N9 := hC.2.2.2.1.2.1
    push_cast at ps
    omega
  obtain ⟨ix, hix⟩ : ∃ ix, ix = rd_first (fun i => decide (m.2 821 i = m.2 804 13)) nv.toNat 0 := ⟨_, rfl⟩
  have fI : fz_X11_findIn 2000000 m 821 nv (m.2 804 13) = some ix := by rw [hix]; exact rd_findIn v2.1 (by omega) (by omega)
  have spec := rd_first_spec (f := fun i => decide (m.2 821 i = m.2 804 13)) nv.toNat 0 (by omega)
  rw [← hix] at spec
  -- the class's index
  obtain ⟨cx, hcx, hcx2⟩ : ∃ cx, fz_X4_indexOfWord 2000000 x 223 (x.2 223 9) = some cx ∧ ((md ≤ 2 ∧ cx = ix) ∨ (3 ≤ md ∧ cx = -1)) := by
    by_cases z : md ≤ 2
    · obtain ⟨z1, z2, z3, z4, z5⟩ := v4 z
      refine ⟨ix, ?_, Or.inl ⟨z, rfl⟩⟩
      rw [rd_indexOfWord hX z1 v2.1 (by omega), h9, hix]
      congr 1
      exact rd_first_congr _ _ (fun i i0 i1 => decide_eq_decide.mpr ((z5 i i0 (by omega)).inj (Or.inr rfl) wr))
    · refine ⟨-1, ?_, Or.inr ⟨by omega, rfl⟩⟩
      rw [rd_indexOfWord hX (v5 (by omega)).2.1 (by omega) (by omega)]
      rfl
  have X0 : fz_X4_readNode 2000000 x 223 r = fz_X4_readNode_80 2000000 x 223 r 0 cx := by
    unfold fz_X4_readNode
    rw [h8, if_neg (by decide)]
    unfold fz_X4_readNode_23
    rw [h8, if_neg (by decide)]
    unfold fz_X4_readNode_36
    rw [if_pos rfl, vr.1, Option.bind_some, if_neg (show ¬ (1 : Int) = 0 by decide)]
    unfold fz_X4_readNode_54
    rw [if_pos rfl, hcx, Option.bind_some]
  have M0 : fz_X11_readTerm_e 2000000 rc m 804 en (rd_first1 sz) (rd_must md sz) = (if rd_must md sz = 0 then ((fz_X11_readVariable 2000000 m 804).bind fun r5 => (if r5.1 = 0 ∨ r5.1 = 1 then some (r5.1, r5.2) else none)) else ((fz_X11_bad m 804 7).bind fun r6 => (if r6.1 = 0 ∨ r6.1 = 1 then some (r6.1, r6.2) else none))) := by
    unfold fz_X11_readTerm_e
    rw [vr.2, Option.bind_some, if_neg (show ¬ (1 : Int) = 0 by decide)]
  have rm1 : m.2 804 32 = 1 ↔ md = 1 := by
    rw [g4]
    unfold rd_rm
    repeat' split
    all_goals omega
  have MV : fz_X11_readVariable 2000000 m 804 = (if m.2 804 32 = 1 then (if ix = (-1) then ((fz_X11_bad m 804 3).bind fun r3 => (if r3.1 = 0 ∨ r3.1 = 1 then some (r3.1, r3.2) else none)) else fz_X11_readVariable_35 2000000 m 804 ix) else fz_X11_readVariable_35 2000000 m 804 ix) := by
    unfold fz_X11_readVariable
    rw [fx_804_35 hM, Option.bind_some, v1, fI, Option.bind_some]
  -- where the class goes behind its first looks
  have X104 : ¬ (cx = -1 ∧ md = 1) → fz_X4_readNode_80 2000000 x 223 r 0 cx = fz_X4_readNode_126 2000000 x 223 r 0 cx (if cx = -1 ∧ md ≤ 2 then 1 else 0) := fun z => by
    have r104 : fz_X4_readNode_104 2000000 x 223 r 0 cx = fz_X4_readNode_126 2000000 x 223 r 0 cx (if cx = -1 ∧ md ≤ 2 then 1 else 0) := by
      unfold fz_X4_readNode_104
      rw [if_pos rfl, g2]
      by_cases c1 : cx = -1
      · rw [if_pos c1]
        by_cases c2 : 2 < md
        · rw [if_pos c2, if_neg (fun y => by omega)]
        · rw [if_neg c2, if_pos ⟨c1, by omega⟩]
      · rw [if_neg c1, if_neg (fun y => c1 y.1)]
    unfold fz_X4_readNode_80
    rw [r104, g2]
    by_cases c1 : cx = -1
    · rw [if_pos c1, if_pos rfl, if_neg (fun y => z ⟨c1, y⟩)]
    · rw [if_neg c1]
  have X175 : ∀ fr, fz_X4_readNode_163 2000000 x 223 r 0 cx fr = fz_X4_readNode_194 2000000 x 223 r 0 cx fr (if sz = 0 then 1 else 0) 0 := fun fr => by
    unfold fz_X4_readNode_163 fz_X4_readNode_175
    rw [w1]
    by_cases z : sz = 0
    · rw [if_pos z, if_pos z, if_pos rfl]
    · rw [if_neg z, if_neg z, if_pos rfl]
  by_cases must : sz = 0 ∧ (md = 0 ∨ md = 3)
  · left
    obtain ⟨x', m', b1, b2, b3, b4, b5⟩ := rd_bad1 (r := r) (C := hC) 7
    refine ⟨x', m', ?_, ?_, b3, b4, b5⟩
    · have ncx : cx = -1 := by
        rcases hcx2 with ⟨z1, z2⟩ | ⟨z1, z2⟩
        · have := fst (by omega) must.1
          rw [this] at spec
          rcases spec with sp | sp
          · omega
          · have a := sp.1
            have b := sp.2.1
            simp only [Int.toNat_zero, Int.natCast_zero] at b
            omega
        · exact z2
      rw [X0, X104 (fun z => by omega)]
      have e194 : fz_X4_readNode_194 2000000 x 223 r 0 cx (if cx = -1 ∧ md ≤ 2 then 1 else 0) (if sz = 0 then 1 else 0) 0 = some (0, x') := by
        unfold fz_X4_readNode_194
        rw [g2, if_pos must.1]
        by_cases z : md = 0
        · rw [if_pos z, if_neg (by decide), b1]
        · rw [if_neg z]
          unfold fz_X4_readNode_210
          rw [g2, if_pos (show md = 3 by omega), if_neg (by decide), if_pos rfl, b1]
      unfold fz_X4_readNode_126
      rw [gr, Option.bind_some, if_pos (by rw [fR.2]; omega), X175, e194]
      by_cases z : cx = -1 ∧ md ≤ 2
      · rw [if_pos z, if_neg (by decide), if_pos (by have := v4 z.2; have := fst (by omega) must.1; omega)]
      · rw [if_neg z, if_pos rfl]
    · rw [M0]
      unfold rd_must
      rw [if_pos must, if_neg (show ¬ (1 : Int) = 0 by decide), b2]
  · have mu0 : rd_must md sz = 0 := by unfold rd_must; rw [if_neg must]
    have M1 : fz_X11_readTerm_e 2000000 rc m 804 en (rd_first1 sz) (rd_must md sz) = ((fz_X11_readVariable 2000000 m 804).bind fun r5 => (if r5.1 = 0 ∨ r5.1 = 1 then some (r5.1, r5.2) else none)) := by rw [M0, if_pos mu0]
    have wrapB : ∀ m' : az_Hp, ((some ((0 : Int), m')).bind fun q => (if q.1 = 0 ∨ q.1 = 1 then some (q.1, q.2) else none)) = some ((0 : Int), m') := fun m' => by rw [Option.bind_some, if_pos (Or.inl rfl)]
    by_cases miss : ix = -1 ∧ md = 1
    · left
      obtain ⟨x', m', b1, b2, b3, b4, b5⟩ := rd_bad1 (r := r) (C := hC) 3
      refine ⟨x', m', ?_, ?_, b3, b4, b5⟩
      · rw [X0]
        unfold fz_X4_readNode_80
        rw [if_pos (show cx = -1 by omega), if_pos rfl, g2, if_pos miss.2, b1]
      · rw [M1, MV, if_pos (rm1.mpr miss.2), if_pos miss.1, b2, wrapB]
    · have MV2 : fz_X11_readVariable 2000000 m 804 = fz_X11_readVariable_35 2000000 m 804 ix := by
        rw [MV]
        by_cases z : md = 1
        · rw [if_pos (rm1.mpr z), if_neg (fun y => miss ⟨y, z⟩)]
        · rw [if_neg (fun y => z (rm1.mp y))]
      have X1 : fz_X4_readNode 2000000 x 223 r = fz_X4_readNode_126 2000000 x 223 r 0 cx (if cx = -1 ∧ md ≤ 2 then 1 else 0) := by rw [X0, X104 (fun z => by omega)]
      by_cases full : sz = bz_cap r
      · left
        obtain ⟨x', m', b1, b2, b3, b4, b5⟩ := rd_bad1 (r := r) (C := hC) 6
        refine ⟨x', m', ?_, ?_, b3, b4, b5⟩
        · rw [X1]
          unfold fz_X4_readNode_126
          rw [gr, Option.bind_some, if_neg (by rw [fR.2]; omega), b1]
        · rw [M1, MV2]
          unfold fz_X11_readVariable_35
          rw [if_pos (by omega), b2, wrapB]
      · have r268 : ∀ (y : az_Hp) (v3 c : Int), y.2 223 5 = md → y.2 223 9 = lx_vj tp N j → c = (if md ≤ 1 then -v3 - 1 else -(lx_vj tp N j) - 1) → (0 ≤ v3 ∧ v3 < 1000) → fz_X4_readNode_268 2000000 y 223 r 0 v3 = ((fz_X7_add y r c).bind fun r1 => ((fz_X4_next r1.2 223).bind fun r2 => (some ((1 : Int), r2)))) := fun y v3 c y5 y9 hc v3r => by
          unfold fz_X4_readNode_268
          rw [if_pos rfl, y5, y9]
          by_cases z : md ≤ 1
          · rw [if_neg (by omega), bz_xor (by omega) (by omega), hc, if_pos z]
          · rw [if_pos (by omega), bz_xor (by omega) (by omega), hc, if_neg z]
        have r194 : ∀ fr, fz_X4_readNode_194 2000000 x 223 r 0 cx fr (if sz = 0 then 1 else 0) 0 = fz_X4_readNode_235 2000000 x 223 r 0 cx fr := fun fr => by
          have r210 : fz_X4_readNode_210 2000000 x 223 r 0 cx fr (if sz = 0 then 1 else 0) 0 = fz_X4_readNode_235 2000000 x 223 r 0 cx fr := by
            unfold fz_X4_readNode_210
            rw [g2]
            by_cases z : md = 3
            · rw [if_pos z, if_neg (show ¬ sz = 0 by omega), if_pos rfl]
            · rw [if_neg z]
          unfold fz_X4_readNode_194
          rw [r210, g2]
          by_cases z : md = 0
          · rw [if_pos z, if_neg (show ¬ sz = 0 by omega), if_pos rfl]
          · rw [if_neg z]
        by_cases old : ix = -1
        · -- a new one
          have new : ∀ b, 0 ≤ b → b < nv → m.2 821 b ≠ m.2 804 13 := fun b b0 b1 q => by
            rcases spec with sp | sp
            · have := sp.2 b b0 (by omega)
              simp [q] at this
            · omega
          by_cases rm : md ≤ 2 ∧ nv = x.2 223 4
          · left
            obtain ⟨z1, z2, z3, z4, z5⟩ := v4 rm.1
            obtain ⟨x', m', b1, b2, b3, b4, b5⟩ := rd_bad1 (r := r) (C := hC) 6
            refine ⟨x', m', ?_, ?_, b3, b4, b5⟩
            · rw [X1, if_pos ⟨by omega, rm.1⟩]
              unfold fz_X4_readNode_126
              rw [gr, Option.bind_some, if_pos (by rw [fR.2]; omega), if_neg (by decide), if_neg (by omega), b1]
            · rw [M1, MV2]
              unfold fz_X11_readVariable_35
              rw [if_neg (by omega), if_pos old, if_pos (by omega), b2, wrapB]
          · right
            have n450 : nv < 450 := by
              by_cases z : md ≤ 2
              · have := v4 z; omega
              · exact jb (by omega)
            obtain ⟨x1, m1, hx1, hm1, B1, ux1, um1, V1, sm1, s820, fk1⟩ := rd_insert h0 hr wr new (fun z => by have := v4 z; omega) n450
            have c1 : bz_cr (bz_ct m1 s) (bz_ft m1 s) (x1.2 T 0) (x1.2 T 1) (rd_V md m1 (nv + 1)) (if md ≤ 1 then -nv - 1 else -(lx_vj tp N j) - 1) (1000 + nv) := by
              refine Or.inl ⟨by split <;> omega, by omega, by omega, ?_⟩
              rw [show 1000 + nv - 1000 = nv by omega]
              by_cases z : md ≤ 1
              · rw [if_pos z] at V1 ⊢; rw [show -(-nv - 1) - 1 = nv by omega]; exact V1
              · rw [if_neg z] at V1 ⊢; rw [show -(-(lx_vj tp N j) - 1) - 1 = lx_vj tp N j by omega]; exact V1
            have pc : rd_PC md nu sz (1000 + nv) := ⟨fun _ => by omega, fun z => by omega, fun z1 z2 => by omega, fun z1 z2 => by omega⟩
            obtain ⟨x', m', p1, p2, p3, p4, p5, p6, p7, p8, p9, p10⟩ := rd_put B1 hr (by omega) (by omega) (by omega) c1 pc
            refine ⟨x', m', nv + 1, _, ?_, ?_, p3.weak (by omega), fun z b b0 b1 => ?_, ux1.trans p4, um1.trans p5, p6, ?_, fun i hi => by rw [p7 i hi, sm1], by omega, fk1.trans p10, fun z => by omega⟩
            · rw [X1]
              unfold fz_X4_readNode_126
              rw [gr, Option.bind_some, if_pos (by rw [fR.2]; omega), X175, r194]
              by_cases z : md ≤ 2
              · obtain ⟨z1, z2, z3, z4, z5⟩ := v4 z
                rw [if_pos (show cx = -1 ∧ md ≤ 2 from ⟨by omega, z⟩), if_neg (show ¬ (1 : Int) = 0 by decide), if_pos (show x.2 223 3 < x.2 223 4 by omega)]
                unfold fz_X4_readNode_235
                rw [if_neg (by decide), fx_223_2 hX, Option.bind_some, z1, h9, bz_awr v2.1 (by rw [ln_224 hX]; omega), Option.bind_some, az_wr_ne (by omega), z1, az_w32_id (z := nv + 1) (by omega) (by omega)]
                rw [if_pos z] at hx1
                rw [← hx1, r268 x1 nv _ (by rw [ux1.2.2 223 5 (fun y => by unfold rd_SX yz_S at y; have := rd_capn hr; omega)]; exact g2) (by rw [hx1, az_wr_ne (by omega), az_wr_ne (by omega)]; exact h9) rfl ⟨v2.1, by omega⟩]
                exact p1
              · rw [if_neg (show ¬ (cx = -1 ∧ md ≤ 2) from fun y => z y.2), if_pos rfl]
                unfold fz_X4_readNode_235
                rw [if_pos rfl]
                rw [if_neg z] at hx1
                have e268 : fz_X4_readNode_268 2000000 x 223 r 0 cx = ((fz_X7_add x r (if md ≤ 1 then -nv - 1 else -(lx_vj tp N j) - 1)).bind fun r1 => ((fz_X4_next r1.2 223).bind fun r2 => (some ((1 : Int), r2)))) := by
                  unfold fz_X4_readNode_268
                  rw [if_pos rfl, g2, if_pos (by omega), h9, bz_xor (by omega) (by omega), if_neg (show ¬ md ≤ 1 by omega)]
                rw [hx1] at p1
                rw [e268]
                exact p1
            · rw [M1, MV2]
              unfold fz_X11_readVariable_35
              have n34 : ¬ m.2 804 37 = m.2 804 34 := by
                by_cases z : md ≤ 2
                · have := v4 z; omega
                · have := v5 (by omega); omega
              rw [if_neg (by omega), if_pos old, if_neg n34]
              unfold fz_X11_readVariable_69
              rw [if_pos old, fx_804_35 hM, Option.bind_some, v1, bz_awr v2.1 (by omega), Option.bind_some, az_wr_ne (by omega), v1, az_w32_id (z := nv + 1) (by omega) (by omega), az_w32_id (z := 1000 + nv) (by omega) (by omega), ← hm1, p2, rd_wrap, rd_wrap]
            · by_cases eb : b = nv
              · exact ⟨sz, by omega, by omega, by rw [p8, eb]⟩
              · obtain ⟨i, i1, i2, i3⟩ := occ z b b0 (by omega)
                exact ⟨i, i1, by omega, by rw [p9 i (by omega), s820]; exact i3⟩
            · unfold bz_ar
              rw [if_pos]
              split <;> omega
        · -- one that is known
          right
          rcases spec with sp | ⟨sp1, sp2, sp3, sp4⟩
          · exact absurd sp.1 old
          have ixn : ix < nv := by omega
          have e821 : m.2 821 ix = m.2 804 13 := by simpa using sp3
          have n1000 : ix < 450 := by omega
          have V1 : rd_V md m nv (if md ≤ 1 then ix else lx_vj tp N j) ix := by
            unfold rd_V
            by_cases z : md ≤ 1
            · rw [if_pos z, if_pos z]; unfold bz_VE; omega
            · rw [if_neg z, if_neg z]; exact ⟨sp1, ixn, by rw [e821]; exact wr⟩
          have c1 : bz_cr (bz_ct m s) (bz_ft m s) (x.2 T 0) (x.2 T 1) (rd_V md m nv) (if md ≤ 1 then -ix - 1 else -(lx_vj tp N j) - 1) (1000 + ix) := by
            refine Or.inl ⟨by split <;> omega, by omega, by omega, ?_⟩
            rw [show 1000 + ix - 1000 = ix by omega]
            by_cases z : md ≤ 1
            · rw [if_pos z] at V1 ⊢; rw [show -(-ix - 1) - 1 = ix by omega]; exact V1
            · rw [if_neg z] at V1 ⊢; rw [show -(-(lx_vj tp N j) - 1) - 1 = lx_vj tp N j by omega]; exact V1
          have pc : rd_PC md nu sz (1000 + ix) := ⟨fun _ => by omega, fun z => by omega, fun z1 z2 => by omega, fun z1 z2 => by omega⟩
          obtain ⟨x', m', p1, p2, p3, p4, p5, p6, p7, p8, p9, p10⟩ := rd_put h0 hr (by omega) (by omega) (by omega) c1 pc
          refine ⟨x', m', nv, _, ?_, ?_, p3.weak (by omega), fun z b b0 b1 => ?_, p4, p5, p6, ?_, p7, by omega, p10, fun _ => rfl⟩
          · rw [X1]
            unfold fz_X4_readNode_126
            have nf : ¬ (cx = -1 ∧ md ≤ 2) := fun y => by omega
            rw [if_neg nf, gr, Option.bind_some, if_pos (by rw [fR.2]; omega), if_pos rfl, X175, r194]
            unfold fz_X4_readNode_235
            rw [if_pos rfl]
            have e268 : fz_X4_readNode_268 2000000 x 223 r 0 cx = ((fz_X7_add x r (if md ≤ 1 then -ix - 1 else -(lx_vj tp N j) - 1)).bind fun r1 => ((fz_X4_next r1.2 223).bind fun r2 => (some ((1 : Int), r2)))) := by
              by_cases z : md ≤ 2
              · exact r268 x cx _ g2 h9 (by rw [show cx = ix by omega]) (by omega)
              · unfold fz_X4_readNode_268
                rw [if_pos rfl, g2, if_pos (by omega), h9, bz_xor (by omega) (by omega), if_neg (show ¬ md ≤ 1 by omega)]
            rw [e268]
            exact p1
          · rw [M1, MV2]
            unfold fz_X11_readVariable_35
            rw [if_neg (by omega), if_neg old]
            unfold fz_X11_readVariable_69
            rw [if_neg old, az_w32_id (z := 1000 + ix) (by omega) (by omega), p2, rd_wrap, rd_wrap]
          · obtain ⟨i, i1, i2, i3⟩ := occ z b b0 b1
            exact ⟨i, i1, by omega, by rw [p9 i (by omega)]; exact i3⟩
          · unfold bz_ar
            rw [if_pos]
            split <;> omega
end VS
