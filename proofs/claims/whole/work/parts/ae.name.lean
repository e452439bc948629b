/-! one node is read -/
section ND
variable {tp : Int → Int} {N : Int} {x m : az_Hp} {md r T s nv nu sz : Int} {J j : Nat}
def rd_first1 (sz : Int) : Int := if sz = 0 then 0 else 1
def rd_must (md sz : Int) : Int := if sz = 0 ∧ (md = 0 ∨ md = 3) then 1 else 0
def rd_Bad (r : Int) (x m : az_Hp) (A B : Option (Int × az_Hp)) : Prop := ∃ x' m', A = some (0, x') ∧ B = some (0, m') ∧ bz_Upd x x' (rd_SX r) ∧ bz_Upd m m' rd_SB ∧ lx_fault x' m'
theorem rd_bad1 {C : lx_Cur x m tp N J j} (k : Int) : ∃ x' m', ((fz_X4_fail x 223 k).bind fun q => (if q.1 = 0 ∨ q.1 = 1 then some (q.1, q.2) else none)) = some (0, x') ∧ ((fz_X11_bad m 804 k).bind fun q => (if q.1 = 0 ∨ q.1 = 1 then some (q.1, q.2) else none)) = some (0, m') ∧ bz_Upd x x' (rd_SX r) ∧ bz_Upd m m' rd_SB ∧ lx_fault x' m' := by
  obtain ⟨x', m', a, b, c, d, e⟩ := lx_fail C k
  exact ⟨x', m', by rw [a, Option.bind_some, if_pos (Or.inl rfl)], by rw [b, Option.bind_some, if_pos (Or.inl rfl)], c.weak fun a k z => Or.inl (by omega), d.weak fun a k z => Or.inr z, e⟩
theorem rd_nodeName {rc : az_Hp → Int → Int → Int → Int → Option (Int × az_Hp)} {en : Int} (h : rd_B tp N x m md r T s J j nv nu sz 1) (hr : 0 < bz_cap r) (hk : lx_kj tp N j = 2) (occ : rd_Occ m md nv sz) :
    rd_Bad r x m (fz_X4_readNode 2000000 x 223 r) (fz_X11_readTerm_e 2000000 rc m 804 en (rd_first1 sz) (rd_must md sz)) ∨
    ∃ x' m' c, fz_X4_readNode 2000000 x 223 r = some (1, x') ∧ fz_X11_readTerm_e 2000000 rc m 804 en (rd_first1 sz) (rd_must md sz) = ((fz_X11_readArguments 2000000 rc m' 804 (bz_ar c) en (rd_first1 sz)).bind fun r3 => (if r3.1 = 0 ∨ r3.1 = 1 then some (r3.1, r3.2) else none)) ∧ rd_B tp N x' m' md r T s J (j + 1) nv nu (sz + 1) 1 ∧ rd_Occ m' md nv (sz + 1) ∧ bz_Upd x x' (rd_SX r) ∧ bz_Upd m m' rd_SM ∧ x'.2 (r + 1) sz = c ∧ (∀ i, i < sz → x'.2 (r + 1) i = x.2 (r + 1) i) ∧ sz < bz_cap r ∧ rd_F2 x m x' m' := by
  have h0 := h
  obtain ⟨⟨hX, hM⟩, hC, hN, ⟨g1, g2, g3, g4, g5⟩, hV, hU, ⟨w1, w2, w3, w4⟩⟩ := h
  have h8 : x.2 223 8 = 2 := by rw [hC.2.2.1.2.1]; exact hk
  have m8 : m.2 804 8 = 2 := (lx_kind hC).2.2.1.mpr hk
  have hN0 := hN
  obtain ⟨hT, hs, n15, -, ⟨t1, t2, t3, t4, t5, t6⟩, -⟩ := hN
  have rlt := bz_cap_lt hr
  have fR := bz_fxR hX hr
  obtain ⟨c, f, fo, co, cases'⟩ := rd_name hX hM hC hk hN0
  have vr := (rd_isVar hC).2
  rw [if_neg (fun z => by omega)] at vr
  have sg := lx_sign (c := 63) hC (by decide)
  rw [if_neg (by omega)] at sg
  have M0 : fz_X11_readTerm_e 2000000 rc m 804 en (rd_first1 sz) (rd_must md sz) = (if f = (-1) then (if c = (-1) then ((fz_X11_bad m 804 3).bind fun r3 => (if r3.1 = 0 ∨ r3.1 = 1 then some (r3.1, r3.2) else none)) else fz_X11_readTerm_107 2000000 rc m 804 en (rd_first1 sz) (rd_must md sz) f c) else fz_X11_readTerm_107 2000000 rc m 804 en (rd_first1 sz) (rd_must md sz) f c) := by
    unfold fz_X11_readTerm_e
    rw [vr, Option.bind_some, if_pos rfl, sg, Option.bind_some, if_pos rfl]
    unfold fz_X11_readTerm_55
    rw [if_pos m8, fo, Option.bind_some, co, Option.bind_some]
  have gT : az_gref x 223 11 = some T := bz_gr g1 (by omega)
  have X0 : ∀ code, fz_X9_codeOf 2000000 x T (x.2 223 9) = some code → fz_X4_readNode 2000000 x 223 r = fz_X4_readNode_80 2000000 x 223 r 1 code := fun code hc => by
    unfold fz_X4_readNode
    rw [h8, if_neg (by decide)]
    unfold fz_X4_readNode_23
    rw [if_pos h8]
    unfold fz_X4_readNode_36
    rw [if_neg (by decide)]
    unfold fz_X4_readNode_54
    rw [if_neg (by decide), gT, Option.bind_some, hc, Option.bind_some]
  by_cases none' : c = -1 ∧ f = -1
  · left
    have hc : fz_X9_codeOf 2000000 x T (x.2 223 9) = some (-1) := by
      rcases cases' with z | z | z
      · exact z.2.2
      · omega
      · omega
    obtain ⟨x', m', b1, b2, b3, b4, b5⟩ := rd_bad1 (r := r) (C := hC) 3
    refine ⟨x', m', ?_, ?_, b3, b4, b5⟩
    · rw [X0 _ hc]
      unfold fz_X4_readNode_80
      rw [if_pos rfl, if_neg (by decide), b1]
    · rw [M0, if_pos none'.2, if_pos none'.1, b2]
  · -- a name that is known
    obtain ⟨code, q, fam, hc, cr, kd, hq, hfam, hI⟩ : ∃ code q fam : Int, fz_X9_codeOf 2000000 x T (x.2 223 9) = some code ∧ bz_cr (bz_ct m s) (bz_ft m s) (x.2 T 0) (x.2 T 1) (rd_V md m nv) code q ∧ bz_kd code = (if fam = 1 then 2 else 1) ∧ q = (if f = -1 then 100 + c else 200 + f) ∧ ((fam = 1 ∧ f ≠ -1 ∧ 200 ≤ q ∧ q < 205) ∨ (fam = 0 ∧ f = -1 ∧ 100 ≤ q ∧ q < 108)) ∧ (0 ≤ code ∧ code < 10000) := by
      rcases cases' with z | z | z
      · exact absurd ⟨z.1, z.2.1⟩ none'
      · have tt := t5 c z.1 z.2.1
        refine ⟨_, 100 + c, 0, z.2.2.2, Or.inr (Or.inl ⟨by omega, by omega, by rw [show 100 + c - 100 = c by omega]⟩), ?_, by rw [if_pos z.2.2.1], Or.inr ⟨rfl, z.2.2.1, by omega, by omega⟩, by omega, by omega⟩
        unfold bz_kd
        rw [if_neg (by omega), if_neg (by decide)]
        omega
      · have tt := t6 f z.2.1 z.2.2.1
        refine ⟨_, 200 + f, 1, z.2.2.2, Or.inr (Or.inr (Or.inl ⟨by omega, by omega, by rw [show 200 + f - 200 = f by omega]⟩)), ?_, by rw [if_neg (by omega)], Or.inl ⟨rfl, by omega, by omega, by omega⟩, by omega, by omega⟩
        unfold bz_kd
        rw [if_neg (by omega), if_pos rfl]
        omega
    have M1 : fz_X11_readTerm_e 2000000 rc m 804 en (rd_first1 sz) (rd_must md sz) = fz_X11_readTerm_107 2000000 rc m 804 en (rd_first1 sz) (rd_must md sz) f c := by
      rw [M0]
      by_cases z : f = -1
      · rw [if_pos z, if_neg (fun y => none' ⟨y, z⟩)]
      · rw [if_neg z]
    have X1 : fz_X4_readNode 2000000 x 223 r = fz_X4_readNode_126 2000000 x 223 r 1 code 0 := by
      rw [X0 _ hc]
      unfold fz_X4_readNode_80
      rw [if_neg (by omega)]
      unfold fz_X4_readNode_104
      rw [if_neg (by decide)]
    have gr : az_gref x r 0 = some (r + 1) := bz_gr fR.1 (by omega)
    by_cases full : sz = bz_cap r
    · left
      obtain ⟨x', m', b1, b2, b3, b4, b5⟩ := rd_bad1 (r := r) (C := hC) 6
      refine ⟨x', m', ?_, ?_, b3, b4, b5⟩
      · rw [X1]
        unfold fz_X4_readNode_126
        rw [gr, Option.bind_some, if_neg (by rw [fR.2]; omega), b1]
      · rw [M1]
        unfold fz_X11_readTerm_107
        rw [if_pos (by omega), b2]
    · have kdv : fz_X7_kind x code = some (bz_kd code) := bz_kind ⟨by omega, by omega⟩
      have X2 : fz_X4_readNode 2000000 x 223 r = fz_X4_readNode_194 2000000 x 223 r 1 code 0 (if sz = 0 then 1 else 0) fam := by
        rw [X1]
        unfold fz_X4_readNode_126
        rw [gr, Option.bind_some, if_pos (by rw [fR.2]; omega), if_pos rfl]
        unfold fz_X4_readNode_163
        rw [w1]
        have r175 : ∀ w, fz_X4_readNode_175 2000000 x 223 r 1 code 0 w = fz_X4_readNode_194 2000000 x 223 r 1 code 0 w fam := fun w => by
          unfold fz_X4_readNode_175
          rw [if_neg (by decide), kdv, Option.bind_some, kd]
          rcases hfam with z | z
          · rw [if_pos z.1, if_pos rfl, z.1]
          · rw [if_neg (show ¬ fam = 1 by omega), if_neg (by decide), z.1]
        by_cases z : sz = 0
        · rw [if_pos z, if_pos z, r175]
        · rw [if_neg z, if_neg z, r175]
      have M2 : fz_X11_readTerm_e 2000000 rc m 804 en (rd_first1 sz) (rd_must md sz) = (if rd_must md sz = 0 then fz_X11_readTerm_135 2000000 rc m 804 en (rd_first1 sz) f c else (if f = (-1) then ((fz_X11_bad m 804 7).bind fun r1 => (if r1.1 = 0 ∨ r1.1 = 1 then some (r1.1, r1.2) else none)) else fz_X11_readTerm_135 2000000 rc m 804 en (rd_first1 sz) f c)) := by
        rw [M1]
        unfold fz_X11_readTerm_107
        rw [if_neg (by omega)]
      have rm0 : m.2 804 32 = 0 ↔ md = 0 := by
        rw [g4]
        unfold rd_rm
        repeat' split
        all_goals omega
      by_cases wrong : (sz = 0 ∧ (md = 0 ∨ md = 3) ∧ fam = 0) ∨ (md = 0 ∧ sz ≠ 0 ∧ fam = 1)
      · left
        obtain ⟨x', m', b1, b2, b3, b4, b5⟩ := rd_bad1 (r := r) (C := hC) 7
        refine ⟨x', m', ?_, ?_, b3, b4, b5⟩
        · rw [X2]
          unfold fz_X4_readNode_194
          rw [g2]
          by_cases z : md = 0
          · rw [if_pos z, if_neg (by by_cases y : sz = 0; rw [if_pos y]; omega; rw [if_neg y]; omega), b1]
          · rw [if_neg z]
            unfold fz_X4_readNode_210
            rw [g2, if_pos (by omega), if_pos (show sz = 0 by omega), if_neg (by decide), if_pos (by omega), b1]
        · rw [M2]
          unfold rd_must
          by_cases y : sz = 0
          · rw [if_pos (show sz = 0 ∧ (md = 0 ∨ md = 3) from ⟨y, by omega⟩), if_neg (show ¬ (1 : Int) = 0 by decide), if_pos (show f = -1 by omega), b2]
          · rw [if_neg (show ¬ (sz = 0 ∧ (md = 0 ∨ md = 3)) from fun z => y z.1), if_pos rfl]
            unfold fz_X11_readTerm_135
            rw [if_pos (rm0.mpr (by omega))]
            unfold rd_first1
            rw [if_neg y, if_neg (by decide), if_neg (by omega), b2]
      · right
        have pc : rd_PC md nu sz q := ⟨fun _ => by omega, fun z => by omega, fun z1 z2 => by omega, fun z1 z2 => by omega⟩
        obtain ⟨x', m', p1, p2, p3, p4, p5, p6, p7, p8, p9, p10⟩ := rd_put h0 hr (by omega) (by omega) (by omega) cr pc
        have X3 : fz_X4_readNode 2000000 x 223 r = fz_X4_readNode_268 2000000 x 223 r 1 code := by
          have r235 : fz_X4_readNode_235 2000000 x 223 r 1 code 0 = fz_X4_readNode_268 2000000 x 223 r 1 code := by
            unfold fz_X4_readNode_235
            rw [if_pos rfl]
          have r210 : fz_X4_readNode_210 2000000 x 223 r 1 code 0 (if sz = 0 then 1 else 0) fam = fz_X4_readNode_268 2000000 x 223 r 1 code := by
            unfold fz_X4_readNode_210
            rw [r235, g2]
            by_cases z : md = 3
            · rw [if_pos z]
              by_cases y : sz = 0
              · rw [if_pos y, if_neg (by decide), if_neg (by omega)]
              · rw [if_neg y, if_pos rfl]
            · rw [if_neg z]
          rw [X2]
          unfold fz_X4_readNode_194
          rw [r210, g2]
          by_cases z : md = 0
          · rw [if_pos z, if_pos (by by_cases y : sz = 0; rw [if_pos y]; omega; rw [if_neg y]; omega)]
          · rw [if_neg z]
        have M3 : fz_X11_readTerm_e 2000000 rc m 804 en (rd_first1 sz) (rd_must md sz) = fz_X11_readTerm_179 2000000 rc m 804 en (rd_first1 sz) q := by
          have r159 : fz_X11_readTerm_159 2000000 rc m 804 en (rd_first1 sz) f c = fz_X11_readTerm_179 2000000 rc m 804 en (rd_first1 sz) q := by
            unfold fz_X11_readTerm_159
            by_cases z : f = -1
            · rw [if_pos z] at hq ⊢; rw [hq, az_w32_id (by omega) (by omega)]
            · rw [if_neg z] at hq ⊢; rw [hq, az_w32_id (by omega) (by omega)]
          have r135 : fz_X11_readTerm_135 2000000 rc m 804 en (rd_first1 sz) f c = fz_X11_readTerm_179 2000000 rc m 804 en (rd_first1 sz) q := by
            unfold fz_X11_readTerm_135
            rw [r159]
            by_cases z : md = 0
            · rw [if_pos (rm0.mpr z)]
              by_cases y : rd_first1 sz = 0
              · rw [if_pos y]
              · rw [if_neg y, if_pos (by unfold rd_first1 at y; by_cases y' : sz = 0; rw [if_pos y'] at y; omega; omega)]
            · rw [if_neg (fun y => z (rm0.mp y))]
          rw [M2, r135]
          by_cases y : rd_must md sz = 0
          · rw [if_pos y]
          · rw [if_neg y, if_neg (by unfold rd_must at y; by_cases y' : sz = 0 ∧ (md = 0 ∨ md = 3); omega; rw [if_neg y'] at y; omega)]
        have B2 := p3
        obtain ⟨⟨hX2, hM2⟩, -, hN2, -⟩ := B2
        have sd2 : bz_sd m' := by unfold bz_sd; rw [hN2.2.2.1]; exact hs
        have crq : bz_cr (bz_ct m' s) (bz_ft m' s) (x'.2 T 0) (x'.2 T 1) (rd_V md m' nv) (x'.2 (r + 1) sz) (m'.2 820 sz) := (p3.2.2.2.2.2.2.2.2.2 sz w3.1 (by omega)).1
        rw [p6, p8] at crq
        have tkq : fz_X11_takes m' 804 q = some (bz_ar code) := by
          have ar := crq.ar hN2.2.2.2.2.1
          unfold fz_X11_takes
          have iv := (ez_isVarM (σ := m') (m := q)).2 (by omega)
          rw [iv, Option.bind_some, if_pos rfl, mz_isFam, Option.bind_some, ar, hN2.2.2.1]
          have l811 := ln_811 hM2
          have l812 := ln_812 hM2
          by_cases z : 200 ≤ q ∧ q < 1000
          · rw [if_pos z, if_neg (show ¬ (1 : Int) = 0 by decide), fx_804_22 hM2, Option.bind_some, az_w32_id (z := 5 * s) (by omega) (by omega), az_w32_id (z := 5 * s + q) (by omega) (by omega), az_w32_id (by omega) (by omega), bz_ard (by omega) (by omega), Option.bind_some, if_neg (by omega), if_pos z.1]
            show some (m'.2 812 (5 * s + q - 200)) = some (m'.2 812 (5 * s + (q - 200)))
            rw [show 5 * s + q - 200 = 5 * s + (q - 200) by omega]
          · rw [if_neg z, if_pos rfl, fx_804_21 hM2, Option.bind_some, az_w32_id (z := 8 * s) (by omega) (by omega), az_w32_id (z := 8 * s + q) (by omega) (by omega), az_w32_id (by omega) (by omega), bz_ard (by omega) (by omega), Option.bind_some, if_neg (by omega), if_neg (by omega)]
            show some (m'.2 811 (8 * s + q - 100)) = some (m'.2 811 (8 * s + (q - 100)))
            rw [show 8 * s + q - 100 = 8 * s + (q - 100) by omega]
        refine ⟨x', m', code, ?_, ?_, p3.weak (by omega), fun z b b0 b1 => ?_, p4, p5, p6, p7, by omega, p10⟩
        · rw [X3]
          unfold fz_X4_readNode_268
          rw [if_neg (by decide)]
          exact p1
        · rw [M3]
          unfold fz_X11_readTerm_179
          rw [p2, Option.bind_some, tkq, Option.bind_some]
        · obtain ⟨i, i1, i2, i3⟩ := occ z b b0 b1
          exact ⟨i, i1, by omega, by rw [p9 i (by omega)]; exact i3⟩
end ND
