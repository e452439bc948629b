/-! node -/
theorem tz_mk {σ : az_Hp} {m : Int} (hm : bz_mc m) (h2 : m < 2000) : fz_X11_isVar σ m = some (if 1000 ≤ m then 1 else 0) ∧ fz_X11_isCon σ m = some (if m < 200 then 1 else 0) := by
  unfold fz_X11_isVar fz_X11_isCon
  unfold bz_mc at hm
  constructor
  · by_cases c : 1000 ≤ m
    · rw [if_neg (by omega), if_pos c]
    · rw [if_pos (by omega), if_neg c]
  · rw [if_neg (by omega)]
    by_cases c : m < 200
    · rw [if_pos c, if_pos c]
    · rw [if_neg c, if_neg c]
theorem cz_op_node : bz_op_node cz_J := by
  rintro a b ha hb σ ⟨T, s, h, eq⟩
  have hF := h.1.1
  have hT := h.1.2.2.2.2.2.2.2.1
  obtain ⟨⟨s1, s2, s3⟩, st⟩ := h.2.2.2.2.1
  have g12 := fx_1_12 hF
  have g11 := fx_1_11 hF
  have hA : rz_A 844 := ⟨by decide, by decide, by decide⟩
  by_cases q : b < 0 ∨ 4 < b
  · refine cz_rd (f := fun σ => fz_X10_node 2000000 σ 1 a b) (g := fun σ => fz_X11_node 2000000 σ 804 a b) h (r := -1) (v := 1) ?_ ?_
    · simp only [fz_X10_node, fz_X10_refuse, Option.bind_some]
      by_cases q' : b < 0
      · rw [if_pos q']
      · rw [if_neg q', if_pos (by omega)]
    · simp only [fz_X11_node, fz_X11_refuse, fz_X11_isFrom]
      by_cases q' : b < 0
      · rw [if_pos q']; rfl
      · rw [if_neg q', if_pos (by omega)]; rfl
  have n1 : ¬ b < 0 := by omega
  have n2 : ¬ 4 < b := by omega
  by_cases z : σ.2 375 1 = 0
  · refine cz_rd (f := fun σ => fz_X10_node 2000000 σ 1 a b) (g := fun σ => fz_X11_node 2000000 σ 804 a b) h (r := -1) (v := 3) ?_ ?_
    · simp only [fz_X10_node, fz_X10_refuse, if_neg n1, if_neg n2, g12, Option.bind_some, if_pos z]
    · simp only [fz_X11_node, fz_X11_refuse, fz_X11_isFrom, if_neg n1, if_neg n2, Option.bind_some]
      rw [if_neg (by decide), az_wr_ne (by omega), s3, if_pos z]
  by_cases qa : 0 ≤ a ∧ a < σ.2 375 1
  · obtain ⟨C1, R1⟩ := cz_rzC h (bz_Upd.refl (σ := σ))
    have R := R1 (by omega)
    obtain ⟨u1, k1, sM, eT, e375⟩ := tz_at (v := 0) h (bz_Upd.refl (σ := σ))
    have nM := cz_isNode (k := a) k1
    rw [e375, if_pos qa] at nM
    have xr := bz_fxR hF R.1.1
    have gr : az_gref σ 375 0 = some 376 := bz_gr xr.1 (by omega)
    have l376 : az_ln σ 376 = 60 := xr.2.trans (by decide)
    have l844 := ln_844 hF
    have ar : az_ard σ 376 a = some (σ.2 376 a) := bz_ard qa.1 (by omega)
    have arM : az_ard (az_wr σ 1 2 0) 844 a = some (σ.2 844 a) := by
      have e : (az_wr σ 1 2 0).2 844 a = σ.2 844 a := az_wr_ne (by omega)
      rw [← e]
      have l := ln_844 k1.1.1
      exact bz_ard qa.1 (by omega)
    have hq : bz_cr (bz_ct σ s) (bz_ft σ s) (σ.2 T 0) (σ.2 T 1) (cz_VT σ) (σ.2 376 a) (σ.2 844 a) := R.2.2.2.1 a qa.1 qa.2
    have tb := C1.1.tb.2.1
    have qI : bz_I (σ.2 376 a) := hq.I tb R.2.2.2.2.2.2.1
    have kd := hq.kd tb
    have mc := hq.mc tb
    have m2 : σ.2 844 a < 2000 := (st (by omega)).2.2 a qa.1 qa.2
    have tk := fun τ => tz_mk (σ := τ) mc m2
    by_cases b0 : b = 0
    · refine cz_rd (f := fun σ => fz_X10_node 2000000 σ 1 a b) (g := fun σ => fz_X11_node 2000000 σ 804 a b) h (r := bz_kd (σ.2 376 a)) (v := 0) ?_ ?_
      · simp only [fz_X10_node, fz_X10_give, if_neg n1, if_neg n2, g12, Option.bind_some, if_neg z, if_pos b0, gr, ar, bz_kind qI]
        rw [if_neg (by omega), if_pos qa.2]
      · simp only [fz_X11_node, fz_X11_gives, fz_X11_isFrom, if_neg n1, if_neg n2, Option.bind_some]
        rw [if_neg (by decide), sM, if_neg z, nM, Option.bind_some, if_neg (by decide), fx_804_79 k1.1.1, Option.bind_some, arM, Option.bind_some, if_pos b0, (tk _).1, (tk _).2, kd]
        simp only [Option.bind_some]
        by_cases c1 : σ.2 844 a < 200
        · rw [if_neg (show ¬ 1000 ≤ σ.2 844 a by omega), if_pos rfl, if_pos c1, if_pos c1, if_neg (show ¬ (1 : Int) = 0 by decide)]
        · by_cases c2 : σ.2 844 a < 1000
          · rw [if_neg (show ¬ 1000 ≤ σ.2 844 a by omega), if_pos rfl, if_neg c1, if_pos rfl, if_neg c1, if_pos c2]
          · rw [if_pos (show 1000 ≤ σ.2 844 a by omega), if_neg (show ¬ (1 : Int) = 0 by decide), if_neg c1, if_neg c2, if_pos m2]
    by_cases b1 : b = 1
    · refine cz_rd (f := fun σ => fz_X10_node 2000000 σ 1 a b) (g := fun σ => fz_X11_node 2000000 σ 804 a b) h (r := if σ.2 844 a < 200 then σ.2 844 a - 100 else if σ.2 844 a < 1000 then σ.2 844 a - 200 else σ.2 844 a - 1000) (v := 0) ?_ ?_
      · simp only [fz_X10_node, fz_X10_give, if_neg n1, if_neg n2, g12, Option.bind_some, if_neg z, if_neg b0, if_pos b1, gr, ar]
        rw [if_neg (show ¬ a < 0 by omega), if_pos qa.2]
        by_cases c : σ.2 376 a < 0
        · have hv : 1000 ≤ σ.2 844 a ∧ cz_VT σ (-σ.2 376 a - 1) (σ.2 844 a - 1000) := by
            obtain ⟨t1, t2, t3, t4, t5, t6⟩ := tb
            rcases hq with p | p | p | p
            · exact ⟨p.2.1, p.2.2.2⟩
            · have := t5 (σ.2 844 a - 100) (by omega) (by omega); omega
            · have := t6 (σ.2 844 a - 200) (by omega) (by omega); omega
            · omega
          obtain ⟨v1, v2, v3, v4, v5, v6⟩ := hv
          have tv := tz_var hF v2 v3 v4 v6 (σ.2 844 a - 1000).toNat 2000000 0 (by omega) (by omega) (by omega)
          rw [if_pos c, bz_xor qI.1 qI.2]
          unfold fz_X10_termVariable
          rw [tv, Option.bind_some, if_neg (by omega), if_neg (by omega)]
        · have nr := hq.nr tb (by omega)
          rw [if_neg c, bz_number qI, Option.bind_some, nr]
          congr 2
          by_cases c1 : σ.2 844 a < 200
          · rw [if_pos c1, if_pos c1]
          · by_cases c2 : σ.2 844 a < 1000
            · rw [if_neg c1, if_neg c1, if_pos c2, if_pos c2]
            · exfalso
              obtain ⟨t1, t2, t3, t4, t5, t6⟩ := tb
              rcases hq with p | p | p | p <;> omega
      · simp only [fz_X11_node, fz_X11_gives, fz_X11_isFrom, if_neg n1, if_neg n2, Option.bind_some]
        rw [if_neg (by decide), sM, if_neg z, nM, Option.bind_some, if_neg (by decide), fx_804_79 k1.1.1, Option.bind_some, arM, Option.bind_some, if_neg b0, if_pos b1, (tk _).1, (tk _).2]
        simp only [Option.bind_some]
        unfold bz_mc at mc
        by_cases c1 : σ.2 844 a < 200
        · rw [if_neg (show ¬ 1000 ≤ σ.2 844 a by omega), if_pos rfl, if_pos c1, if_pos c1, if_neg (show ¬ (1 : Int) = 0 by decide), az_w32_id (by omega) (by omega)]
        · by_cases c2 : σ.2 844 a < 1000
          · rw [if_neg (show ¬ 1000 ≤ σ.2 844 a by omega), if_pos rfl, if_neg c1, if_pos rfl, if_neg c1, if_pos c2, az_w32_id (by omega) (by omega)]
          · rw [if_pos (show 1000 ≤ σ.2 844 a by omega), if_neg (show ¬ (1 : Int) = 0 by decide), if_neg c1, if_neg c2, az_w32_id (by omega) (by omega)]
    have u1' := u1
    obtain ⟨C3, R3⟩ := cz_rzC h u1
    have R' := R3 (by omega)
    by_cases b2 : b = 2
    · obtain ⟨d, d0, d1, d2⟩ := R.sub qa.1 qa.2
      have hend := bz_end hF R.1 qa.1 (by omega) d2
      have hEn : lz_En (bz_ct (az_wr σ 1 2 0) s) (bz_ft (az_wr σ 1 2 0) s) ((az_wr σ 1 2 0).2 T 0) ((az_wr σ 1 2 0).2 T 1) (fun _ => cz_VT σ) 375 0 0 0 (σ.2 375 1) 844 0 σ (az_wr σ 1 2 0) := R'.en C3.1 (Or.inl rfl) rfl (by omega) (by omega)
      have hsize := hEn.size qa.1 d1 d2
      rw [Int.zero_add] at hsize
      refine cz_rd (f := fun σ => fz_X10_node 2000000 σ 1 a b) (g := fun σ => fz_X11_node 2000000 σ 804 a b) h (r := (d : Int)) (v := 0) ?_ ?_
      · simp only [fz_X10_node, fz_X10_give, if_neg n1, if_neg n2, g12, Option.bind_some, if_neg z, if_neg b0, if_neg b1, if_pos b2, gr, ar, hend]
        rw [if_neg (show ¬ a < 0 by omega), if_pos qa.2, az_w32_id (by omega) (by omega)]
        congr 2
        omega
      · simp only [fz_X11_node, fz_X11_gives, fz_X11_isFrom, if_neg n1, if_neg n2, Option.bind_some]
        rw [if_neg (by decide), sM, if_neg z, nM, Option.bind_some, if_neg (by decide), fx_804_79 k1.1.1, Option.bind_some, arM, Option.bind_some, if_neg b0, if_neg b1, if_pos b2, Option.bind_some, hsize, Option.bind_some]
    by_cases b3 : b = 3
    · obtain ⟨w, x1, -, y1, -, y3, -, -⟩ := rz_firing C1 R hA qa.1 qa.2
      have uk : bz_Upd σ x1 cz_nk := y3.weak fun _ _ q => cz_TX_nk q
      obtain ⟨u2, k2, sM2, eT2, e3752⟩ := tz_at (v := 0) h uk
      obtain ⟨C2, R2⟩ := cz_rzC h u2
      obtain ⟨w', x1', m1, y1', y2', -, y4', -⟩ := rz_firing C2 (R2 (by omega)) hA qa.1 qa.2
      rw [y1] at y1'
      simp only [Option.some.injEq, Prod.mk.injEq] at y1'
      obtain ⟨rfl, rfl⟩ := y1'
      have nM2 := cz_isNode (k := a) k2
      rw [e3752, if_pos qa] at nM2
      have arM2 : az_ard (az_wr x1 1 2 0) 844 a = some ((az_wr x1 1 2 0).2 844 a) := by
        have l := ln_844 k2.1.1
        exact bz_ard qa.1 (by omega)
      refine cz_rw (f := fun σ => fz_X10_node 2000000 σ 1 a b) (g := fun σ => fz_X11_node 2000000 σ 804 a b) h (r := w) (v := 0) (σ' := x1) (σ'' := m1) uk ?_ (y4'.weak fun _ _ q => cz_TM_nk q) ?_
      · simp only [fz_X10_node, fz_X10_give, if_neg n1, if_neg n2, g12, g11, Option.bind_some, if_neg z, if_neg b0, if_neg b1, if_neg b2, if_pos b3, gr, ar, y1]
        rw [if_neg (show ¬ a < 0 by omega), if_pos qa.2]
      · simp only [fz_X11_node, fz_X11_gives, fz_X11_isFrom, if_neg n1, if_neg n2, Option.bind_some]
        rw [if_neg (by decide), sM2, if_neg z, nM2, Option.bind_some, if_neg (by decide), fx_804_79 k2.1.1, Option.bind_some, arM2, Option.bind_some, if_neg b0, if_neg b1, if_neg b2, if_pos b3, Option.bind_some, y2', Option.bind_some]
    · obtain ⟨v, -, -, w1, -⟩ := tz_depth C1.1 R qa.1 qa.2
      obtain ⟨v', -, -, w1', w2'⟩ := tz_depth C3.1 R' qa.1 qa.2
      rw [w1] at w1'
      simp only [Option.some.injEq] at w1'
      subst w1'
      refine cz_rd (f := fun σ => fz_X10_node 2000000 σ 1 a b) (g := fun σ => fz_X11_node 2000000 σ 804 a b) h (r := v) (v := 0) ?_ ?_
      · simp only [fz_X10_node, fz_X10_give, if_neg n1, if_neg n2, g12, Option.bind_some, if_neg z, if_neg b0, if_neg b1, if_neg b2, if_neg b3, gr, ar, w1]
        rw [if_neg (show ¬ a < 0 by omega), if_pos qa.2]
      · simp only [fz_X11_node, fz_X11_gives, fz_X11_isFrom, if_neg n1, if_neg n2, Option.bind_some]
        rw [if_neg (by decide), sM, if_neg z, nM, Option.bind_some, if_neg (by decide), fx_804_79 k1.1.1, Option.bind_some, arM, Option.bind_some, if_neg b0, if_neg b1, if_neg b2, if_neg b3, w2', Option.bind_some]
  · have k1 := cz_K1 h 2
    have nM := cz_isNode (k := a) k1
    rw [az_wr_ne (by omega), if_neg qa] at nM
    refine cz_rd (f := fun σ => fz_X10_node 2000000 σ 1 a b) (g := fun σ => fz_X11_node 2000000 σ 804 a b) h (r := -1) (v := 2) ?_ ?_
    · simp only [fz_X10_node, fz_X10_refuse, if_neg n1, if_neg n2, g12, Option.bind_some, if_neg z]
      by_cases q : a < 0
      · rw [if_pos q]
      · rw [if_neg q, if_neg (by omega)]
    · simp only [fz_X11_node, fz_X11_refuse, fz_X11_isFrom, if_neg n1, if_neg n2, Option.bind_some]
      rw [if_neg (by decide), az_wr_ne (by omega), s3, if_neg z, nM, Option.bind_some, if_pos rfl]
