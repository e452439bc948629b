/-! calls that read alone -/
theorem cz_t5 {σ : az_Hp} {T s : Int} (h : cz_K σ T s) : az_gref σ 1 5 = some T := by
  have := h.1.2.2.2.2.2.2.2.1
  exact bz_gr h.1.2.1 (by omega)
theorem cz_isEqX {σ : az_Hp} {T s e : Int} (h : cz_K σ T s) : fz_X10_isEquation σ 1 e = some (if 0 ≤ e ∧ e < σ.2 T 2 then 1 else 0) := by
  unfold fz_X10_isEquation
  by_cases h0 : e < 0
  · rw [if_pos h0, if_neg (by omega)]
  · rw [if_neg h0, cz_t5 h, Option.bind_some]
    by_cases h1 : e < σ.2 T 2
    · rw [if_pos h1, if_pos (by omega)]
    · rw [if_neg h1, if_neg (by omega)]
theorem cz_isEqM {σ : az_Hp} {T s e : Int} (h : cz_K σ T s) : fz_X11_isEquation σ 804 e = some (if 0 ≤ e ∧ e < σ.2 T 2 then 1 else 0) := by
  obtain ⟨c1, c2, c3, c4, c5, c6, c7, hT, hs, hN, ⟨n1, n2, n3⟩, hE⟩ := h.1
  have l := ln_808 c1
  unfold fz_X11_isEquation fz_X11_isFrom
  rw [fx_804_18 c1, Option.bind_some, c4, bz_ard (by omega) (by omega), Option.bind_some, ← n1, az_w32_id (by omega) (by omega)]
  by_cases h0 : e < 0
  · rw [if_pos h0, if_neg (by omega)]; rfl
  · rw [if_neg h0]
    by_cases h1 : e < σ.2 T 2
    · rw [if_neg (by omega), if_pos (by omega)]; rfl
    · rw [if_pos (by omega), if_neg (by omega)]; rfl
theorem cz_isFamM {σ : az_Hp} {T s e : Int} (h : cz_K σ T s) : fz_X11_isFamily σ 804 e = some (if 0 ≤ e ∧ e < σ.2 T 1 then 1 else 0) := by
  obtain ⟨c1, c2, c3, c4, c5, c6, c7, hT, hs, ⟨m0, m1, m2, -⟩, -, -⟩ := h.1
  have l := ln_807 c1
  have := m2.2.2.1
  have := m2.2.2.2.1
  unfold fz_X11_isFamily fz_X11_isFrom
  rw [fx_804_17 c1, Option.bind_some, c4, bz_ard (by omega) (by omega), Option.bind_some, ← m1, az_w32_id (by omega) (by omega)]
  by_cases h0 : e < 0
  · rw [if_pos h0, if_neg (by omega)]; rfl
  · rw [if_neg h0]
    by_cases h1 : e < σ.2 T 1
    · rw [if_neg (by omega), if_pos (by omega)]; rfl
    · rw [if_pos (by omega), if_neg (by omega)]; rfl
theorem cz_TRs {σ : az_Hp} {T s : Int} (h : cz_K σ T s) : bz_TR σ T (σ.2 804 15) := by
  rw [h.1.2.2.2.2.1]
  exact h.1.2.2.2.2.2.2.2
theorem cz_op_status : bz_op_status cz_J := by
  rintro σ ⟨T, s, h, e⟩
  exact ⟨_, rfl, by unfold fz_X11_status; rw [e]⟩
theorem cz_op_fault : bz_op_fault cz_J := by
  rintro a ha σ ⟨T, s, h, e⟩
  obtain ⟨e3, e4, -⟩ := h.2.2.1
  refine ⟨if a = 0 then σ.2 1 3 else if a = 1 then σ.2 1 4 else -1, ?_, ?_⟩
  · simp only [fz_X10_fault]
    split
    · rfl
    · split <;> rfl
  · simp only [fz_X11_fault, ← e3, ← e4]
    split
    · rfl
    · split <;> rfl
theorem cz_op_period : bz_op_period cz_J := by
  rintro σ ⟨T, s, h, e⟩
  have e15 := h.2.2.1.2.2
  by_cases q : σ.2 1 15 = -1
  · refine cz_rd (f := fun σ => fz_X10_period σ 1) (g := fun σ => fz_X11_period σ 804) h (r := -1) (v := 5) ?_ ?_
    · simp only [fz_X10_period, fz_X10_refuse, if_pos q, Option.bind_some]
    · simp only [fz_X11_period, fz_X11_refuse]
      rw [az_wr_ne (by omega), ← e15, if_pos q, Option.bind_some]
  · refine cz_rd (f := fun σ => fz_X10_period σ 1) (g := fun σ => fz_X11_period σ 804) h (r := σ.2 1 15) (v := 0) ?_ ?_
    · simp only [fz_X10_period, fz_X10_give, if_neg q, Option.bind_some]
    · simp only [fz_X11_period, fz_X11_gives]
      rw [az_wr_ne (by omega), ← e15, if_neg q, Option.bind_some]
theorem cz_op_many : bz_op_many cz_J := by
  rintro a ha σ ⟨T, s, h, e⟩
  have g := cz_t5 h
  obtain ⟨c1, c2, c3, c4, c5, c6, c7, hT, hs, ⟨m0, m1, m2, -⟩, ⟨n1, n2, n3⟩, -⟩ := h.1
  have l0 := ln_806 c1
  have l1 := ln_807 c1
  have l2 := ln_808 c1
  have f0 := fx_804_16 c1
  have f1 := fx_804_17 c1
  have f2 := fx_804_18 c1
  by_cases q0 : a = 0
  · refine cz_rd (f := fun σ => fz_X10_many σ 1 a) (g := fun σ => fz_X11_many σ 804 a) h (r := σ.2 T 0) (v := 0) ?_ ?_
    · simp only [fz_X10_many, fz_X10_give, if_pos q0, g, Option.bind_some]
    · simp only [fz_X11_many, fz_X11_gives, if_pos q0]
      rw [bz_gref_wr (by omega), f0, Option.bind_some, az_wr_ne (by omega), c4, bz_ard (by omega) (by rw [bz_ln_wr]; omega), Option.bind_some, az_wr_ne (by omega), ← m0, Option.bind_some]
  by_cases q1 : a = 1
  · refine cz_rd (f := fun σ => fz_X10_many σ 1 a) (g := fun σ => fz_X11_many σ 804 a) h (r := σ.2 T 1) (v := 0) ?_ ?_
    · simp only [fz_X10_many, fz_X10_give, if_neg q0, if_pos q1, g, Option.bind_some]
    · simp only [fz_X11_many, fz_X11_gives, if_neg q0, if_pos q1]
      rw [bz_gref_wr (by omega), f1, Option.bind_some, az_wr_ne (by omega), c4, bz_ard (by omega) (by rw [bz_ln_wr]; omega), Option.bind_some, az_wr_ne (by omega), ← m1, Option.bind_some]
  by_cases q2 : a = 2
  · refine cz_rd (f := fun σ => fz_X10_many σ 1 a) (g := fun σ => fz_X11_many σ 804 a) h (r := σ.2 T 2) (v := 0) ?_ ?_
    · simp only [fz_X10_many, fz_X10_give, if_neg q0, if_neg q1, if_pos q2, g, Option.bind_some]
    · simp only [fz_X11_many, fz_X11_gives, if_neg q0, if_neg q1, if_pos q2]
      rw [bz_gref_wr (by omega), f2, Option.bind_some, az_wr_ne (by omega), c4, bz_ard (by omega) (by rw [bz_ln_wr]; omega), Option.bind_some, az_wr_ne (by omega), ← n1, Option.bind_some]
  · refine cz_rd (f := fun σ => fz_X10_many σ 1 a) (g := fun σ => fz_X11_many σ 804 a) h (r := -1) (v := 1) ?_ ?_
    · simp only [fz_X10_many, fz_X10_refuse, if_neg q0, if_neg q1, if_neg q2, Option.bind_some]
    · simp only [fz_X11_many, fz_X11_refuse, if_neg q0, if_neg q1, if_neg q2, Option.bind_some]
theorem cz_op_out : bz_op_out cz_J := by
  rintro a ha σ ⟨T, s, h, e⟩
  obtain ⟨⟨j, j1, j2, j3, j4, j5⟩, ⟨o1, o2, o3, o4⟩, o5, o6, o7⟩ := h.2.2.2.2.2.2
  have hF := h.1.1
  have g := fx_1_17 hF
  have f := fx_804_56 hF
  have l := ln_836 hF
  have hB : az_gref σ 801 1 = some (σ.2 801 1) := bz_gr rfl (by rw [j5]; split <;> omega)
  by_cases q0 : a < 0
  · refine cz_rd (f := fun σ => fz_X10_out σ 1 a) (g := fun σ => fz_X11_out σ 804 a) h (r := -1) (v := 1) ?_ ?_
    · simp only [fz_X10_out, fz_X10_refuse, if_pos q0, Option.bind_some]
    · simp only [fz_X11_out, fz_X11_refuse, if_pos q0, Option.bind_some]
  by_cases q1 : a < σ.2 801 0
  · have ga : az_ard σ (σ.2 801 1) a = some (σ.2 801 1 |> fun B => σ.2 B a) := bz_ard (by omega) (by omega)
    refine cz_rd (f := fun σ => fz_X10_out σ 1 a) (g := fun σ => fz_X11_out σ 804 a) h (r := σ.2 (σ.2 801 1) a) (v := 0) ?_ ?_
    · simp only [fz_X10_out, fz_X10_give, if_neg q0, g, Option.bind_some, if_pos q1, hB, ga]
    · simp only [fz_X11_out, fz_X11_gives, if_neg q0]
      rw [az_wr_ne (by omega), if_neg (by omega), az_wr_ne (by omega), if_pos (by omega), bz_gref_wr (by omega), f, Option.bind_some, bz_ard (by omega) (by rw [bz_ln_wr]; omega), Option.bind_some, az_wr_ne (by omega), ← o7 a (by omega) q1, Option.bind_some]
  · refine cz_rd (f := fun σ => fz_X10_out σ 1 a) (g := fun σ => fz_X11_out σ 804 a) h (r := -1) (v := 5) ?_ ?_
    · simp only [fz_X10_out, fz_X10_refuse, if_neg q0, g, Option.bind_some, if_neg q1]
    · simp only [fz_X11_out, fz_X11_refuse, if_neg q0]
      rw [az_wr_ne (by omega), az_wr_ne (by omega), o4, if_neg q1, Option.bind_some]
      split <;> rfl
theorem cz_op_compatible : bz_op_compatible cz_J := by
  rintro a b ha hb σ ⟨T, s, h, e⟩
  have h1 : ∀ v, cz_K (az_wr σ 1 2 v) T s := fun v => cz_K1 h v
  have g := cz_t5 h
  have hR := cz_TRs h
  have hF := h.1.1
  have hT := h.1.2.2.2.2.2.2.2.1
  have n3 := h.1.2.2.2.2.2.2.2.2.2.2.1
  have eX1 := cz_isEqX (e := a) h
  have eX2 := cz_isEqX (e := b) h
  have eM1 := fun v => cz_isEqM (e := a) (h1 v)
  have eM2 := fun v => cz_isEqM (e := b) (h1 v)
  have et : ∀ v, (az_wr σ 1 2 v).2 T 2 = σ.2 T 2 := fun v => az_wr_ne (by omega)
  simp only [et] at eM1 eM2
  by_cases qa : 0 ≤ a ∧ a < σ.2 T 2
  · by_cases qb : 0 ≤ b ∧ b < σ.2 T 2
    · rw [if_pos qa] at eX1 eM1
      rw [if_pos qb] at eX2 eM2
      obtain ⟨o1, o2⟩ := bz_owner hF hR qa.1 qa.2
      obtain ⟨-, o3⟩ := bz_owner hF hR qb.1 qb.2
      have fa : ∀ v, fz_X11_familyOf (az_wr σ 1 2 v) 804 a = some (σ.2 (T + 7) a) := fun v => by
        rw [bz_familyOf (T := T) (h1 v).1.1 (cz_TRs (h1 v)) qa.1 (by rw [et]; exact qa.2), az_wr_ne (by omega)]
      have fb : ∀ v, fz_X11_familyOf (az_wr σ 1 2 v) 804 b = some (σ.2 (T + 7) b) := fun v => by
        rw [bz_familyOf (T := T) (h1 v).1.1 (cz_TRs (h1 v)) qb.1 (by rw [et]; exact qb.2), az_wr_ne (by omega)]
      by_cases qo : σ.2 (T + 7) a = σ.2 (T + 7) b
      · obtain ⟨t1, t2⟩ := (h.2.2.2.1.1 a b qa.1 qa.2 qb.1 qb.2).2 qo
        have l1 := (bz_tl hF hT).2.2.2.2.2.2.2.2.1
        have l2 := ln_835 hF
        have g13 := (bz_tg hF hT).2.2.2.2.2.2.2.2.2.2.1
        have f55 := fx_804_55 hF
        have ag : fz_X9_agree σ T a b = some (σ.2 835 (16 * a + b)) := by
          unfold fz_X9_agree
          rw [g13, Option.bind_some, az_w32_id (z := a * 16) (by omega) (by omega), az_w32_id (by omega) (by omega), bz_ard (by omega) (by omega), Option.bind_some, show a * 16 + b = 16 * a + b by omega, t1, if_pos t2]
        have am : ∀ v, az_ard (az_wr σ 1 2 v) 835 (az_w32 (az_w32 (16 * a) + b)) = some (σ.2 835 (16 * a + b)) := fun v => by
          rw [az_w32_id (z := 16 * a) (by omega) (by omega), az_w32_id (by omega) (by omega), bz_ard (by omega) (by rw [bz_ln_wr]; omega), az_wr_ne (by omega)]
        have r55 : ∀ v, az_gref (az_wr σ 1 2 v) 804 55 = some 835 := fun v => by rw [bz_gref_wr (by omega), f55]
        by_cases qz : σ.2 835 (16 * a + b) = 0
        · refine cz_rd (f := fun σ => fz_X10_compatible σ 1 a b) (g := fun σ => fz_X11_compatible σ 804 a b) h (r := 0) (v := 0) ?_ ?_
          · simp only [fz_X10_compatible, fz_X10_give, eX1, eX2, g, o1, o2, o3, ag, qz, Option.bind_some, if_pos qo, if_true, Int.reduceEq, if_false]
          · simp only [fz_X11_compatible, fz_X11_gives, eM1, eM2, fa, fb, r55, am, qz, Option.bind_some, if_pos qo, if_true, Int.reduceEq, if_false]
        · refine cz_rd (f := fun σ => fz_X10_compatible σ 1 a b) (g := fun σ => fz_X11_compatible σ 804 a b) h (r := 1) (v := 0) ?_ ?_
          · simp only [fz_X10_compatible, fz_X10_give, eX1, eX2, g, o1, o2, o3, ag, if_neg qz, Option.bind_some, if_pos qo, if_true, Int.reduceEq, if_false]
          · simp only [fz_X11_compatible, fz_X11_gives, eM1, eM2, fa, fb, r55, am, if_neg qz, Option.bind_some, if_pos qo, if_true, Int.reduceEq, if_false]
      · refine cz_rd (f := fun σ => fz_X10_compatible σ 1 a b) (g := fun σ => fz_X11_compatible σ 804 a b) h (r := -1) (v := 5) ?_ ?_
        · simp only [fz_X10_compatible, fz_X10_refuse, eX1, eX2, g, o1, o2, o3, Option.bind_some, if_neg qo, Int.reduceEq, if_false]
        · simp only [fz_X11_compatible, fz_X11_refuse, eM1, eM2, fa, fb, Option.bind_some, if_neg qo, Int.reduceEq, if_false]
    · rw [if_pos qa] at eX1 eM1
      rw [if_neg qb] at eX2 eM2
      refine cz_rd (f := fun σ => fz_X10_compatible σ 1 a b) (g := fun σ => fz_X11_compatible σ 804 a b) h (r := -1) (v := 2) ?_ ?_
      · simp only [fz_X10_compatible, fz_X10_refuse, eX1, eX2, Option.bind_some, Int.reduceEq, if_false, if_true]
      · simp only [fz_X11_compatible, fz_X11_refuse, eM1, eM2, Option.bind_some, Int.reduceEq, if_false, if_true]
  · rw [if_neg qa] at eX1 eM1
    refine cz_rd (f := fun σ => fz_X10_compatible σ 1 a b) (g := fun σ => fz_X11_compatible σ 804 a b) h (r := -1) (v := 2) ?_ ?_
    · simp only [fz_X10_compatible, fz_X10_refuse, eX1, Option.bind_some, if_true]
    · simp only [fz_X11_compatible, fz_X11_refuse, eM1, Option.bind_some, if_true]
