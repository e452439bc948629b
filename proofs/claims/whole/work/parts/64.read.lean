/-! rank; families on right sides -/
theorem bz_rankL {σ : az_Hp} {T e : Int} (hF : bz_Fx σ) (hR : bz_TR σ T (σ.2 804 15)) (e0 : 0 ≤ e) (e1 : e < σ.2 T 2) {n : Nat} : ∀ (d k : Nat) (c i : Int), d < k → 0 ≤ i → i + d = e → 0 ≤ c → c ≤ 1000 - d → ∃ r, c ≤ r ∧ r ≤ c + d ∧ fz_X9_rank_4 n k σ T e c i = some r ∧ fz_X11_equation_79 n k σ 804 e c i = some (r, az_wr σ 804 2 0) := by
  have hoe := bz_owner hF hR e0 e1
  have hfe := bz_familyOf hF hR e0 e1
  have hb := hR.2.2.2.1
  intro d
  induction d with
  | zero =>
    intro k c i hk h0 hi c0 c1
    obtain ⟨k, rfl⟩ : ∃ k', k = k' + 1 := ⟨k - 1, by omega⟩
    refine ⟨c, by omega, by omega, ?_, ?_⟩
    · unfold fz_X9_rank_4
      rw [if_neg (by omega)]
    · unfold fz_X11_equation_79 fz_X11_gives
      rw [if_neg (by omega), Option.bind_some]
  | succ d ih =>
    intro k c i hk h0 hi c0 c1
    obtain ⟨k, rfl⟩ : ∃ k', k = k' + 1 := ⟨k - 1, by omega⟩
    have ho := bz_owner hF hR h0 (by omega)
    have hf := bz_familyOf hF hR h0 (by omega)
    by_cases he : σ.2 (T + 7) i = σ.2 (T + 7) e
    · obtain ⟨r, r0, r1, r2, r3⟩ := ih k (c + 1) (i + 1) (by omega) (by omega) (by omega) (by omega) (by omega)
      refine ⟨r, by omega, by omega, ?_, ?_⟩
      · unfold fz_X9_rank_4
        rw [if_pos (by omega)]
        simp only [ho.1, ho.2, hoe.2, Option.bind_some]
        rw [if_pos he, az_w32_id (by omega) (by omega), az_w32_id (by omega) (by omega)]
        exact r2
      · unfold fz_X11_equation_79
        rw [if_pos (by omega), hf, hfe, Option.bind_some, Option.bind_some, if_pos he, az_w32_id (by omega) (by omega), az_w32_id (by omega) (by omega)]
        exact r3
    · obtain ⟨r, r0, r1, r2, r3⟩ := ih k c (i + 1) (by omega) (by omega) (by omega) (by omega) (by omega)
      refine ⟨r, by omega, by omega, ?_, ?_⟩
      · unfold fz_X9_rank_4
        rw [if_pos (by omega)]
        simp only [ho.1, ho.2, hoe.2, Option.bind_some]
        rw [if_neg he, az_w32_id (by omega) (by omega)]
        exact r2
      · unfold fz_X11_equation_79
        rw [if_pos (by omega), hf, hfe, Option.bind_some, Option.bind_some, if_neg he, az_w32_id (by omega) (by omega), az_w32_id (by omega) (by omega), Int.add_zero]
        exact r3
/-- what a place of an equation's right side is to both -/
theorem bz_right {σ : az_Hp} {T e i : Int} (hF : bz_Fx σ) (hR : bz_TR σ T (σ.2 804 15)) (e0 : 0 ≤ e) (e1 : e < σ.2 T 2) (i0 : 0 ≤ i) (i1 : i < σ.2 (T + 17 + 4 * e) 1) :
    az_ard σ (T + 17 + 4 * e + 1) i = some (σ.2 (T + 17 + 4 * e + 1) i) ∧ az_ard σ 816 (az_w32 (az_w32 (16 * (16 * σ.2 804 15 + e)) + i)) = some (σ.2 816 (16 * (16 * σ.2 804 15 + e) + i)) ∧ bz_I (σ.2 (T + 17 + 4 * e + 1) i) ∧
    bz_cr (bz_ct σ (σ.2 804 15)) (bz_ft σ (σ.2 804 15)) (σ.2 T 0) (σ.2 T 1) (bz_VE (σ.2 (T + 8) e)) (σ.2 (T + 17 + 4 * e + 1) i) (σ.2 816 (16 * (16 * σ.2 804 15 + e) + i)) ∧ σ.2 816 (16 * (16 * σ.2 804 15 + e) + i) < 2000 := by
  have hw := (bz_ER.rw hR e0 e1).2
  obtain ⟨hT, hs, hN, ⟨n1, n2, n3⟩, hE⟩ := hR
  obtain ⟨q1, q2, q3, q4, q5, q6, q7, q8, q9, q10, q11⟩ := hE e e0 e1
  have cp := bz_tcap hT e0 (by omega)
  have lx := (bz_fxR hF hw.1).2
  have l := ln_816 hF
  refine ⟨bz_ard i0 (by omega), ?_, hw.2.2.2 i i0 i1, q5 i i0 i1, q10 i i0 i1⟩
  rw [az_w32_id (z := 16 * (16 * _ + e)) (by omega) (by omega), az_w32_id (by omega) (by omega), bz_ard (by omega) (by omega)]
theorem bz_rightRef {σ : az_Hp} {T e : Int} (hF : bz_Fx σ) (hR : bz_TR σ T (σ.2 804 15)) (e0 : 0 ≤ e) (e1 : e < σ.2 T 2) :
    az_gref σ T 12 = some (T + 10) ∧ az_arr σ (T + 10) e = some (T + 17 + 4 * e) ∧ az_gref σ (T + 17 + 4 * e) 0 = some (T + 17 + 4 * e + 1) ∧ fz_X11_eqAt σ 804 e = some (16 * σ.2 804 15 + e) ∧ az_gref σ 804 28 = some 818 ∧ az_gref σ 804 26 = some 816 ∧ az_ard σ 818 (16 * σ.2 804 15 + e) = some (σ.2 (T + 17 + 4 * e) 1) := by
  have hw := (bz_ER.rw hR e0 e1).2
  obtain ⟨hT, hs, hN, ⟨n1, n2, n3⟩, hE⟩ := hR
  obtain ⟨q1, q2, q3, q4, q5, q6, q7, q8, q9, q10, q11⟩ := hE e e0 e1
  have lx := (bz_fxR hF hw.1)
  have l := ln_818 hF
  refine ⟨(bz_tg hF hT).2.2.2.2.2.2.2.2.2.1, (bz_tr hF hT e0 (by omega)).2, bz_gr lx.1 (by omega), bz_eqAt hs e0 (by omega), fx_804_28 hF, fx_804_26 hF, ?_⟩
  rw [bz_ard (by omega) (by omega), q2.1]
theorem bz_calledL {σ : az_Hp} {T e f : Int} (hF : bz_Fx σ) (hR : bz_TR σ T (σ.2 804 15)) (e0 : 0 ≤ e) (e1 : e < σ.2 T 2) (hf : σ.2 (T + 7) e = f) {n : Nat} {k4 k4' : az_Hp → Int → Int → Int → Int → Option Int} : ∀ (d k : Nat) (v i : Int), d < k → 0 ≤ i → i + d = σ.2 (T + 17 + 4 * e) 1 → ∃ v', fz_X9_called_15 n k4 k σ T f v e i = k4 σ T f v' (e + 1) ∧ fz_X11_onRight_32 n k4' k σ 804 f v e i = k4' σ 804 f v' (e + 1) := by
  have ho := bz_owner hF hR e0 e1
  obtain ⟨g1, g2, g3, g4, g5, g6, g7⟩ := bz_rightRef hF hR e0 e1
  have hN := hR.2.2.1.2.2.1
  have hb := hR.2.2.2.1
  have hb2 := (bz_ER.rw hR e0 e1).2
  have h60 := @bz_cap60 (T + 17 + 4 * e)
  have hb3 := hb2.2.2.1
  intro d
  induction d with
  | zero =>
    intro k v i hk h0 hi
    obtain ⟨k, rfl⟩ : ∃ k', k = k' + 1 := ⟨k - 1, by omega⟩
    refine ⟨v, ?_, ?_⟩
    · unfold fz_X9_called_15
      rw [ho.1, Option.bind_some, ho.2, Option.bind_some, if_pos hf, g1, Option.bind_some, g2, Option.bind_some, if_neg (by omega), az_w32_id (by omega) (by omega)]
    · unfold fz_X11_onRight_32
      rw [g5, Option.bind_some, g4, Option.bind_some, g7, Option.bind_some, if_neg (by omega), az_w32_id (by omega) (by omega)]
  | succ d ih =>
    intro k v i hk h0 hi
    obtain ⟨k, rfl⟩ : ∃ k', k = k' + 1 := ⟨k - 1, by omega⟩
    obtain ⟨r1, r2, r3, r4, r5⟩ := bz_right hF hR e0 e1 h0 (by omega)
    have kd := r4.kd hN
    have mc := r4.mc hN
    unfold bz_mc at mc
    by_cases hfam : 200 ≤ σ.2 816 (16 * (16 * σ.2 804 15 + e) + i) ∧ σ.2 816 (16 * (16 * σ.2 804 15 + e) + i) < 1000
    · have hk2 : bz_kd (σ.2 (T + 17 + 4 * e + 1) i) = 2 := by rw [kd, if_neg (by omega), if_pos (by omega)]
      have hc0 : 0 ≤ σ.2 (T + 17 + 4 * e + 1) i := by
        by_cases hq : 0 ≤ σ.2 (T + 17 + 4 * e + 1) i
        · exact hq
        · exfalso
          unfold bz_kd at hk2
          rw [if_pos (by omega)] at hk2
          omega
      have nr := r4.nr hN hc0
      rw [if_neg (by omega), if_pos (by omega)] at nr
      obtain ⟨v', s1, s2⟩ := ih k (az_iorV v (az_ishlV 1 (σ.2 816 (16 * (16 * σ.2 804 15 + e) + i) - 200))) (i + 1) (by omega) (by omega) (by omega)
      refine ⟨v', ?_, ?_⟩
      · rw [← s1]
        conv => lhs; unfold fz_X9_called_15
        simp only [ho.1, ho.2, g1, g2, g3, r1, Option.bind_some, bz_kind r3, bz_number r3, hk2, nr, if_pos hf, if_true]
        rw [if_pos (by omega), az_w32_id (by omega) (by omega)]
      · rw [← s2]
        conv => lhs; unfold fz_X11_onRight_32
        simp only [g4, g5, g6, g7, r2, Option.bind_some]
        unfold fz_X11_isFam
        rw [if_pos (by omega), if_neg (by omega), if_pos (by omega), Option.bind_some, if_neg (by decide), az_w32_id (z := i + 1) (by omega) (by omega), az_w32_id (by omega) (by omega)]
    · have hk2 : bz_kd (σ.2 (T + 17 + 4 * e + 1) i) ≠ 2 := by
        rw [kd]
        by_cases q : σ.2 816 (16 * (16 * σ.2 804 15 + e) + i) < 200
        · rw [if_pos q]; decide
        · rw [if_neg q, if_neg (by omega), if_pos (by omega)]; decide
      obtain ⟨v', s1, s2⟩ := ih k v (i + 1) (by omega) (by omega) (by omega)
      refine ⟨v', ?_, ?_⟩
      · rw [← s1]
        conv => lhs; unfold fz_X9_called_15
        simp only [ho.1, ho.2, g1, g2, g3, r1, Option.bind_some, bz_kind r3, if_pos hf, if_neg hk2]
        rw [if_pos (by omega), az_w32_id (by omega) (by omega)]
      · rw [← s2]
        conv => lhs; unfold fz_X11_onRight_32
        simp only [g4, g5, g6, g7, r2, Option.bind_some]
        unfold fz_X11_isFam
        by_cases q : σ.2 816 (16 * (16 * σ.2 804 15 + e) + i) < 200
        · rw [if_pos (by omega), if_pos q, Option.bind_some, if_pos rfl, az_w32_id (by omega) (by omega)]
        · rw [if_pos (by omega), if_neg q, if_neg (by omega), Option.bind_some, if_pos rfl, az_w32_id (by omega) (by omega)]
