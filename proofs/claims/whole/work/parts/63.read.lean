/-! reading what is told -/
theorem bz_tg {σ : az_Hp} {T : Int} (hF : bz_Fx σ) (hT : T = 3 ∨ T = 82) : az_gref σ T 3 = some (T + 1) ∧ az_gref σ T 4 = some (T + 2) ∧ az_gref σ T 5 = some (T + 3) ∧ az_gref σ T 6 = some (T + 4) ∧ az_gref σ T 7 = some (T + 5) ∧ az_gref σ T 8 = some (T + 6) ∧ az_gref σ T 9 = some (T + 7) ∧ az_gref σ T 10 = some (T + 8) ∧ az_gref σ T 11 = some (T + 9) ∧ az_gref σ T 12 = some (T + 10) ∧ az_gref σ T 13 = some (T + 11) ∧ az_gref σ T 14 = some (T + 12) ∧ az_gref σ T 15 = some (T + 13) ∧ az_gref σ T 16 = some (T + 14) := by
  rcases hT with rfl | rfl
  · exact ⟨fx_3_3 hF, fx_3_4 hF, fx_3_5 hF, fx_3_6 hF, fx_3_7 hF, fx_3_8 hF, fx_3_9 hF, fx_3_10 hF, fx_3_11 hF, fx_3_12 hF, fx_3_13 hF, fx_3_14 hF, fx_3_15 hF, fx_3_16 hF⟩
  · exact ⟨fx_82_3 hF, fx_82_4 hF, fx_82_5 hF, fx_82_6 hF, fx_82_7 hF, fx_82_8 hF, fx_82_9 hF, fx_82_10 hF, fx_82_11 hF, fx_82_12 hF, fx_82_13 hF, fx_82_14 hF, fx_82_15 hF, fx_82_16 hF⟩
theorem bz_tl {σ : az_Hp} {T : Int} (hF : bz_Fx σ) (hT : T = 3 ∨ T = 82) : az_ln σ (T + 1) = 8 ∧ az_ln σ (T + 2) = 8 ∧ az_ln σ (T + 3) = 5 ∧ az_ln σ (T + 4) = 5 ∧ az_ln σ (T + 5) = 5 ∧ az_ln σ (T + 6) = 5 ∧ az_ln σ (T + 7) = 16 ∧ az_ln σ (T + 8) = 16 ∧ az_ln σ (T + 11) = 256 ∧ az_ln σ (T + 12) = 5 ∧ az_ln σ (T + 13) = 5 ∧ az_ln σ (T + 14) = 5 := by
  rcases hT with rfl | rfl
  · exact ⟨ln_4 hF, ln_5 hF, ln_6 hF, ln_7 hF, ln_8 hF, ln_9 hF, ln_10 hF, ln_11 hF, ln_14 hF, ln_15 hF, ln_16 hF, ln_17 hF⟩
  · exact ⟨ln_83 hF, ln_84 hF, ln_85 hF, ln_86 hF, ln_87 hF, ln_88 hF, ln_89 hF, ln_90 hF, ln_93 hF, ln_94 hF, ln_95 hF, ln_96 hF⟩
theorem bz_tr {σ : az_Hp} {T e : Int} (hF : bz_Fx σ) (hT : T = 3 ∨ T = 82) (h0 : 0 ≤ e) (h1 : e < 16) : az_arr σ (T + 9) e = some (T + 15 + 4 * e) ∧ az_arr σ (T + 10) e = some (T + 17 + 4 * e) := by
  have key : ∀ {A R : Int}, (A, 16, R, 4) ∈ bz_rowsL → 0 < R → az_arr σ A e = some (R + 4 * e) := by
    intro A R hm hR
    obtain ⟨l, v⟩ := bz_fxA hF hm
    have := v e h0 h1
    unfold az_arr
    rw [this, if_pos ⟨⟨h0, by omega⟩, by omega⟩]
  rcases hT with rfl | rfl
  · exact ⟨key (A := 12) (R := 18) (by decide) (by omega), key (A := 13) (R := 20) (by decide) (by omega)⟩
  · exact ⟨key (A := 91) (R := 97) (by decide) (by omega), key (A := 92) (R := 99) (by decide) (by omega)⟩
theorem bz_tcap {T e : Int} (hT : T = 3 ∨ T = 82) (h0 : 0 ≤ e) (h1 : e < 16) : bz_cap (T + 15 + 4 * e) = 16 ∧ bz_cap (T + 17 + 4 * e) = 16 := by
  rcases hT with rfl | rfl
  · exact ⟨bz_capA (by omega), bz_capA (by omega)⟩
  · exact ⟨bz_capB (by omega), bz_capB (by omega)⟩
/-- the rows of an equation may be read -/
theorem bz_ER.rw {σ : az_Hp} {T s e : Int} (hR : bz_TR σ T s) (h0 : 0 ≤ e) (h1 : e < σ.2 T 2) : bz_rw σ (T + 15 + 4 * e) ∧ bz_rw σ (T + 17 + 4 * e) := by
  obtain ⟨hT, hs, hN, ⟨n1, n2, n3⟩, hE⟩ := hR
  have cp := bz_tcap hT h0 (by omega)
  obtain ⟨q1, q2, q3, q4, q5, -⟩ := hE e h0 h1
  have hV := bz_VE.vv (n := σ.2 (T + 8) e) q3.2.2
  refine ⟨⟨by omega, by omega, by omega, fun i i0 i1 => (q4 i i0 i1).I hN.2.2.1 hV⟩, ⟨by omega, by omega, by omega, fun i i0 i1 => (q5 i i0 i1).I hN.2.2.1 hV⟩⟩
theorem bz_eqAt {σ : az_Hp} {e : Int} (hs : bz_sd σ) (h0 : 0 ≤ e) (h1 : e < 16) : fz_X11_eqAt σ 804 e = some (16 * σ.2 804 15 + e) := by
  unfold bz_sd at hs
  unfold fz_X11_eqAt
  rw [az_w32_id (z := 16 * _) (by omega) (by omega), az_w32_id (by omega) (by omega)]
theorem bz_familyOf {σ : az_Hp} {T e : Int} (hF : bz_Fx σ) (hR : bz_TR σ T (σ.2 804 15)) (h0 : 0 ≤ e) (h1 : e < σ.2 T 2) : fz_X11_familyOf σ 804 e = some (σ.2 (T + 7) e) := by
  obtain ⟨hT, hs, hN, ⟨n1, n2, n3⟩, hE⟩ := hR
  obtain ⟨-, -, -, -, -, -, -, q8, -⟩ := hE e h0 h1
  have l := ln_815 hF
  unfold fz_X11_familyOf
  rw [fx_804_25 hF, Option.bind_some, bz_eqAt hs h0 (by omega), Option.bind_some, az_w32_id (by omega) (by omega), bz_ard (by omega) (by omega), Option.bind_some, az_w32_id (by omega) (by omega), q8.2.2]
theorem bz_owner {σ : az_Hp} {T s e : Int} (hF : bz_Fx σ) (hR : bz_TR σ T s) (h0 : 0 ≤ e) (h1 : e < σ.2 T 2) : az_gref σ T 9 = some (T + 7) ∧ az_ard σ (T + 7) e = some (σ.2 (T + 7) e) := by
  obtain ⟨hT, hs, hN, ⟨n1, n2, n3⟩, hE⟩ := hR
  have l := (bz_tl hF hT).2.2.2.2.2.2.1
  exact ⟨(bz_tg hF hT).2.2.2.2.2.2.1, bz_ard h0 (by omega)⟩
theorem bz_eqMany {σ : az_Hp} {T : Int} (hF : bz_Fx σ) (hR : bz_TR σ T (σ.2 804 15)) : az_gref σ 804 18 = some 808 ∧ az_ard σ 808 (σ.2 804 15) = some (σ.2 T 2) := by
  obtain ⟨hT, hs, hN, ⟨n1, n2, n3⟩, hE⟩ := hR
  have l := ln_808 hF
  refine ⟨fx_804_18 hF, ?_⟩
  rw [bz_ard (by omega) (by omega), n1]
theorem bz_eqsOfL {σ : az_Hp} {T f : Int} (hF : bz_Fx σ) (hR : bz_TR σ T (σ.2 804 15)) {n : Nat} : ∀ (d k : Nat) (c i : Int), d < k → 0 ≤ i → i + d = σ.2 T 2 → 0 ≤ c → c ≤ 1000 - d → ∃ r, c ≤ r ∧ r ≤ c + d ∧ fz_X9_equationsOf_4 n k σ T f c i = some r ∧ fz_X11_equationsOf_4 n k σ 804 f c i = some r := by
  have hm := bz_eqMany hF hR
  intro d
  induction d with
  | zero =>
    intro k c i hk h0 hi c0 c1
    obtain ⟨k, rfl⟩ : ∃ k', k = k' + 1 := ⟨k - 1, by omega⟩
    refine ⟨c, by omega, by omega, ?_, ?_⟩
    · unfold fz_X9_equationsOf_4
      rw [if_neg (by omega)]
    · unfold fz_X11_equationsOf_4
      rw [hm.1, Option.bind_some, hm.2, Option.bind_some, if_neg (by omega)]
  | succ d ih =>
    intro k c i hk h0 hi c0 c1
    obtain ⟨k, rfl⟩ : ∃ k', k = k' + 1 := ⟨k - 1, by omega⟩
    have ho := bz_owner hF hR h0 (by omega)
    have hf := bz_familyOf hF hR h0 (by omega)
    have hb := hR.2.2.2.1
    by_cases he : σ.2 (T + 7) i = f
    · obtain ⟨r, r0, r1, r2, r3⟩ := ih k (c + 1) (i + 1) (by omega) (by omega) (by omega) (by omega) (by omega)
      refine ⟨r, by omega, by omega, ?_, ?_⟩
      · unfold fz_X9_equationsOf_4
        rw [if_pos (by omega), ho.1, Option.bind_some, ho.2, Option.bind_some, if_pos he, az_w32_id (by omega) (by omega), az_w32_id (by omega) (by omega)]
        exact r2
      · unfold fz_X11_equationsOf_4
        simp (disch := omega) only [hm.1, hm.2, hf, Option.bind_some, if_pos, he, az_w32_id, if_true]
        exact r3
    · obtain ⟨r, r0, r1, r2, r3⟩ := ih k c (i + 1) (by omega) (by omega) (by omega) (by omega) (by omega)
      refine ⟨r, by omega, by omega, ?_, ?_⟩
      · unfold fz_X9_equationsOf_4
        rw [if_pos (by omega), ho.1, Option.bind_some, ho.2, Option.bind_some, if_neg he, az_w32_id (by omega) (by omega)]
        exact r2
      · unfold fz_X11_equationsOf_4
        simp (disch := omega) only [hm.1, hm.2, hf, Option.bind_some, if_pos, if_neg he, az_w32_id, Int.add_zero]
        exact r3
