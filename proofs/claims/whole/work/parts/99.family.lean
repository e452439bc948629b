/-! a family's answers -/
theorem wz_calledL {σx σm : az_Hp} {T s e f : Int} (hH : mz_H σx σm T s) (e0 : 0 ≤ e) (e1 : e < σx.2 T 2) (hf : σx.2 (T + 7) e = f) {kx km : az_Hp → Int → Int → Int → Int → Option Int} : ∀ (d k : Nat) (v i : Int), d < k → 0 ≤ i → i + d = σx.2 (T + 17 + 4 * e) 1 → wz_r v → ∃ v', wz_r v' ∧ fz_X9_called_15 2000000 kx k σx T f v e i = kx σx T f v' (e + 1) ∧ fz_X11_onRight_32 2000000 km k σm 804 f v e i = km σm 804 f v' (e + 1) := by
  have hN := hH.tb.2.1
  obtain ⟨fm, ho1, ho2⟩ := mz_fam hH e0 e1
  obtain ⟨⟨L1, L2, L3⟩, ⟨R1, R2, R3⟩, ⟨V1, V2⟩, ⟨m1, m2, m3, m4, m5, m6⟩, ⟨n1, n2, n3⟩, ⟨b1, b2, b3, b4, b5, b6, b7, b8, b9, b10⟩, cL, cR⟩ := uz_eq hH e0 e1
  have w1 : az_w32 (e + 1) = e + 1 := az_w32_id (by omega) (by omega)
  have w2 : az_w32 (16 * (16 * s + e)) = 16 * (16 * s + e) := az_w32_id (by omega) (by omega)
  intro d
  induction d with
  | zero =>
    intro k v i hk h0 hi hv
    obtain ⟨k, rfl⟩ : ∃ k', k = k' + 1 := ⟨k - 1, by omega⟩
    refine ⟨v, hv, ?_, ?_⟩
    · unfold fz_X9_called_15
      rw [ho1, Option.bind_some, ho2, Option.bind_some, if_pos hf, R1, Option.bind_some, R2, Option.bind_some, if_neg (by omega), w1]
    · unfold fz_X11_onRight_32
      rw [m4, Option.bind_some, m6, Option.bind_some, n2, Option.bind_some, if_neg (by omega), w1]
  | succ d ih =>
    intro k v i hk h0 hi hv
    obtain ⟨k, rfl⟩ : ∃ k', k = k' + 1 := ⟨k - 1, by omega⟩
    obtain ⟨r1, r2, r4, r3⟩ := cR i h0 (by omega)
    have iff := uz_kd r4 hN
    have mc := r4.mc hN
    unfold bz_mc at mc
    have wi : az_w32 (i + 1) = i + 1 := az_w32_id (by omega) (by omega)
    have wo : az_w32 (16 * (16 * s + e) + i) = 16 * (16 * s + e) + i := az_w32_id (by omega) (by omega)
    by_cases hfam : 200 ≤ σm.2 816 (16 * (16 * s + e) + i) ∧ σm.2 816 (16 * (16 * s + e) + i) < 1000
    · have hk2 := iff.mpr hfam
      have hc0 : 0 ≤ σx.2 (T + 17 + 4 * e + 1) i := by
        by_cases hq : 0 ≤ σx.2 (T + 17 + 4 * e + 1) i
        · exact hq
        · exfalso
          unfold bz_kd at hk2
          rw [if_pos (by omega)] at hk2
          omega
      have nr := r4.nr hN hc0
      rw [if_neg (by omega), if_pos (by omega)] at nr
      have wm : az_w32 (σm.2 816 (16 * (16 * s + e) + i) - 200) = σm.2 816 (16 * (16 * s + e) + i) - 200 := az_w32_id (by omega) (by omega)
      obtain ⟨v', s0, s1, s2⟩ := ih k (az_iorV v (az_ishlV 1 (σm.2 816 (16 * (16 * s + e) + i) - 200))) (i + 1) (by omega) (by omega) (by omega) (wz_or hv (wz_shl (by omega) (by omega))).1
      refine ⟨v', s0, ?_, ?_⟩
      · rw [← s1]
        conv => lhs; unfold fz_X9_called_15
        simp only [ho1, ho2, R1, R2, R3, r1, Option.bind_some, bz_kind r3, bz_number r3, nr, if_pos hf, if_pos hk2, wi]
        rw [if_pos (by omega)]
      · rw [← s2]
        conv => lhs; unfold fz_X11_onRight_32
        simp only [m2, m4, m6, n2, w2, wo, r2, Option.bind_some, mz_isFam, if_pos hfam, wi, wm]
        rw [if_pos (by omega), if_neg (by decide)]
    · obtain ⟨v', s0, s1, s2⟩ := ih k v (i + 1) (by omega) (by omega) (by omega) hv
      have hk2 : ¬ bz_kd (σx.2 (T + 17 + 4 * e + 1) i) = 2 := fun q => hfam (iff.mp q)
      refine ⟨v', s0, ?_, ?_⟩
      · rw [← s1]
        conv => lhs; unfold fz_X9_called_15
        simp only [ho1, ho2, R1, R2, R3, r1, Option.bind_some, bz_kind r3, if_pos hf, if_neg hk2, wi]
        rw [if_pos (by omega)]
      · rw [← s2]
        conv => lhs; unfold fz_X11_onRight_32
        simp only [m2, m4, m6, n2, w2, wo, r2, Option.bind_some, mz_isFam, if_neg hfam, wi]
        rw [if_pos (by omega), if_pos trivial]
theorem wz_calledO {σx σm : az_Hp} {T s f : Int} (hH : mz_H σx σm T s) : ∀ (d k : Nat) (v e : Int), d < k → 0 ≤ e → e + d = σx.2 T 2 → wz_r v → ∃ v', wz_r v' ∧ fz_X9_called_4 2000000 k σx T f v e = some v' ∧ fz_X11_onRight_4 2000000 k σm 804 f v e = some v' := by
  have nb := mz_nb hH
  have hm := mz_many hH
  intro d
  induction d with
  | zero =>
    intro k v e hk e0 he hv
    obtain ⟨k, rfl⟩ : ∃ k', k = k' + 1 := ⟨k - 1, by omega⟩
    refine ⟨v, hv, ?_, ?_⟩
    · unfold fz_X9_called_4
      rw [if_neg (by omega)]
    · unfold fz_X11_onRight_4
      rw [hm.1, Option.bind_some, hm.2, Option.bind_some, if_neg (by omega)]
  | succ d ih =>
    intro k v e hk e0 he hv
    obtain ⟨k, rfl⟩ : ∃ k', k = k' + 1 := ⟨k - 1, by omega⟩
    obtain ⟨fm, ho1, ho2⟩ := mz_fam hH e0 (by omega)
    have w1 : az_w32 (e + 1) = e + 1 := az_w32_id (by omega) (by omega)
    by_cases hf : σx.2 (T + 7) e = f
    · have b := (uz_eq hH e0 (by omega)).2.2.2.2.2.1
      obtain ⟨v', s0, s1, s2⟩ := wz_calledL hH e0 (by omega) hf (kx := fz_X9_called_4 2000000 k) (km := fz_X11_onRight_4 2000000 k) (σx.2 (T + 17 + 4 * e) 1).toNat 2000000 v 0 (by omega) (by omega) (by omega) hv
      obtain ⟨w, t0, t1, t2⟩ := ih k v' (e + 1) (by omega) (by omega) (by omega) s0
      refine ⟨w, t0, ?_, ?_⟩
      · unfold fz_X9_called_4
        rw [if_pos (by omega), s1]; exact t1
      · unfold fz_X11_onRight_4
        rw [hm.1, Option.bind_some, hm.2, Option.bind_some, if_pos (by omega), fm, Option.bind_some, if_pos hf, s2]; exact t2
    · obtain ⟨w, t0, t1, t2⟩ := ih k v (e + 1) (by omega) (by omega) (by omega) hv
      refine ⟨w, t0, ?_, ?_⟩
      · unfold fz_X9_called_4
        rw [if_pos (by omega)]
        unfold fz_X9_called_15
        rw [ho1, Option.bind_some, ho2, Option.bind_some, if_neg hf, w1]; exact t1
      · unfold fz_X11_onRight_4
        rw [hm.1, Option.bind_some, hm.2, Option.bind_some, if_pos (by omega), fm, Option.bind_some, if_neg hf, w1]; exact t2
theorem wz_called {σx σm : az_Hp} {T s f : Int} (hH : mz_H σx σm T s) : ∃ v', wz_r v' ∧ fz_X9_called 2000000 σx T f = some v' ∧ fz_X11_onRight 2000000 σm 804 f = some v' := by
  have nb := mz_nb hH
  unfold fz_X9_called fz_X11_onRight
  exact wz_calledO hH (σx.2 T 2).toNat 2000000 0 0 (by omega) (by omega) (by omega) ⟨by decide, by decide⟩
theorem wz_hasC {σx σm : az_Hp} {T s : Int} (hH : mz_H σx σm T s) : ∃ C, wz_C σx σm T C := by
  refine ⟨fun g => (fz_X9_called 2000000 σx T g).getD 0, fun g g0 g1 => ?_⟩
  obtain ⟨v, v0, v1, v2⟩ := wz_called (f := g) hH
  have e : (fun g => (fz_X9_called 2000000 σx T g).getD 0) g = v := by
    show (fz_X9_called 2000000 σx T g).getD 0 = v
    rw [v1, Option.getD_some]
  rw [e]
  exact ⟨v1, v2, v0⟩
theorem cz_op_family : bz_op_family cz_J := by
  rintro a b ha hb σ ⟨T, s, h, eq⟩
  have hF := h.1.1
  have hT := h.1.2.2.2.2.2.2.2.1
  have g5 := cz_t5 h
  by_cases q : b < 0 ∨ 7 < b
  · refine cz_rd (f := fun σ => fz_X10_family 2000000 σ 1 a b) (g := fun σ => fz_X11_family 2000000 σ 804 a b) h (r := -1) (v := 1) ?_ ?_
    · simp only [fz_X10_family, fz_X10_refuse, Option.bind_some]
      by_cases q' : b < 0
      · rw [if_pos q']
      · rw [if_neg q', if_pos (by omega)]
    · simp only [fz_X11_family, fz_X11_refuse, fz_X11_isFrom]
      by_cases q' : b < 0
      · rw [if_pos q']; rfl
      · rw [if_neg q', if_pos (by omega)]; rfl
  have n1 : ¬ b < 0 := by omega
  have n2 : ¬ 7 < b := by omega
  by_cases qa : 0 ≤ a ∧ a < σ.2 T 1
  · have q1 : ¬ a < 0 := by omega
    obtain ⟨u1, k1, sM, eT, e375⟩ := tz_at (v := 0) h (bz_Upd.refl (σ := σ))
    obtain ⟨C1, -⟩ := cz_rzC h u1
    have fM := cz_isFamM (e := a) k1
    rw [az_wr_ne (by omega), if_pos qa] at fM
    have s15 : (az_wr σ 1 2 0).2 804 15 = s := C1.1.2.2.2.2
    have hs := h.1.2.2.2.2.2.2.2.2.1
    obtain ⟨nr1, nr2, nr3, nr4, nr5, nr6⟩ := h.1.2.2.2.2.2.2.2.2.2.1
    obtain ⟨f1, f2, f3, f4⟩ := nr5 a qa.1 qa.2
    have tf := nr3.2.2.2.2.2 a qa.1 qa.2
    have nf5 := nr3.2.2.2.1
    have tg := bz_tg hF hT
    have tl := bz_tl hF hT
    have l812 := ln_812 k1.1.1
    have l813 := ln_813 k1.1.1
    have l814 := ln_814 k1.1.1
    have w5 : az_w32 (az_w32 (5 * s) + a) = 5 * s + a := by rw [az_w32_id (z := 5 * s) (by omega) (by omega), az_w32_id (by omega) (by omega)]
    have fin : ∀ r, fz_X10_family 2000000 σ 1 a b = some (r, az_wr σ 1 2 0) → fz_X11_family 2000000 (az_wr σ 1 2 0) 804 a b = some (r, az_wr (az_wr σ 1 2 0) 804 2 0) → _ := fun r x y => cz_rd (f := fun σ => fz_X10_family 2000000 σ 1 a b) (g := fun σ => fz_X11_family 2000000 σ 804 a b) h (r := r) (v := 0) x y
    by_cases b0 : b = 0
    · refine fin (bz_ft σ s a) ?_ ?_
      · have ar : fz_X7_arity σ (σ.2 (T + 4) a) = some (bz_ft σ s a) := by
          have I : bz_I (σ.2 (T + 4) a) := by rw [f2]; unfold bz_I; omega
          rw [bz_arity I, f2]
          unfold bz_ar
          rw [if_neg (by omega)]
          congr 1
          omega
        have rd : az_ard σ (T + 4) a = some (σ.2 (T + 4) a) := bz_ard qa.1 (by omega)
        simp only [fz_X10_family, fz_X10_give, if_neg n1, if_neg n2, if_neg q1, if_pos qa.2, Option.bind_some, if_pos b0, g5, tg.2.2.2.1, rd, ar]
      · have rd : az_ard (az_wr σ 1 2 0) 812 (5 * s + a) = some (bz_ft σ s a) := by
          rw [bz_ard (by omega) (by omega), az_wr_ne (by omega)]; rfl
        simp only [fz_X11_family, fz_X11_gives, fz_X11_isFrom, if_neg n1, if_neg n2, fM, Option.bind_some, if_pos b0, fx_804_22 k1.1.1, s15, w5, rd]
        rw [if_neg (by decide), if_neg (by decide)]
    by_cases b1 : b = 1
    · have rd : az_ard σ (T + 5) a = some (σ.2 (T + 5) a) := bz_ard qa.1 (by omega)
      have rm : az_ard (az_wr σ 1 2 0) 813 (5 * s + a) = some (σ.2 (T + 5) a) := by
        rw [bz_ard (by omega) (by omega), az_wr_ne (by omega), ← f3.1]
      refine fin (if σ.2 (T + 5) a = 0 then 0 else 1) ?_ ?_
      · simp only [fz_X10_family, fz_X10_give, if_neg n1, if_neg n2, if_neg q1, if_pos qa.2, Option.bind_some, if_neg b0, if_pos b1, g5, tg.2.2.2.2.1, rd]
        split <;> rfl
      · simp only [fz_X11_family, fz_X11_gives, fz_X11_isFrom, if_neg n1, if_neg n2, fM, Option.bind_some, if_neg b0, if_pos b1, fx_804_23 k1.1.1, s15, w5, rm]
        rw [if_neg (by decide), if_neg (by decide)]
        split <;> rfl
    by_cases b2 : b = 2
    · have rd : az_ard σ (T + 6) a = some (σ.2 (T + 6) a) := bz_ard qa.1 (by omega)
      have rm : az_ard (az_wr σ 1 2 0) 814 (5 * s + a) = some (σ.2 (T + 6) a) := by
        rw [bz_ard (by omega) (by omega), az_wr_ne (by omega), ← f4.1]
      refine fin (if σ.2 (T + 6) a = 0 then 0 else 1) ?_ ?_
      · simp only [fz_X10_family, fz_X10_give, if_neg n1, if_neg n2, if_neg q1, if_pos qa.2, Option.bind_some, if_neg b0, if_neg b1, if_pos b2, g5, tg.2.2.2.2.2.1, rd]
        split <;> rfl
      · simp only [fz_X11_family, fz_X11_gives, fz_X11_isFrom, if_neg n1, if_neg n2, fM, Option.bind_some, if_neg b0, if_neg b1, if_pos b2, fx_804_24 k1.1.1, s15, w5, rm]
        rw [if_neg (by decide), if_neg (by decide)]
        split <;> rfl
    by_cases b3 : b = 3
    · obtain ⟨r, -, -, r1, r2⟩ := mz_eqs (f := a) C1.1
      refine fin r ?_ ?_
      · simp only [fz_X10_family, fz_X10_give, if_neg n1, if_neg n2, if_neg q1, if_pos qa.2, Option.bind_some, if_neg b0, if_neg b1, if_neg b2, if_pos b3, g5, r1]
      · simp only [fz_X11_family, fz_X11_gives, fz_X11_isFrom, if_neg n1, if_neg n2, fM, Option.bind_some, if_neg b0, if_neg b1, if_neg b2, if_pos b3, r2]
        rw [if_neg (by decide), if_neg (by decide)]
    by_cases b4 : b = 4
    · obtain ⟨r, -, r1, r2⟩ := wz_called (f := a) C1.1
      refine fin r ?_ ?_
      · simp only [fz_X10_family, fz_X10_give, if_neg n1, if_neg n2, if_neg q1, if_pos qa.2, Option.bind_some, if_neg b0, if_neg b1, if_neg b2, if_neg b3, if_pos b4, g5, r1]
      · simp only [fz_X11_family, fz_X11_gives, fz_X11_isFrom, if_neg n1, if_neg n2, fM, Option.bind_some, if_neg b0, if_neg b1, if_neg b2, if_neg b3, if_pos b4, r2]
        rw [if_neg (by decide), if_neg (by decide)]
    by_cases b5' : b = 5
    · obtain ⟨C, hC⟩ := wz_hasC C1.1
      obtain ⟨r, r1, r2⟩ := wz_last C1.1 hC qa.1 qa.2
      refine fin r ?_ ?_
      · simp only [fz_X10_family, fz_X10_give, if_neg n1, if_neg n2, if_neg q1, if_pos qa.2, Option.bind_some, if_neg b0, if_neg b1, if_neg b2, if_neg b3, if_neg b4, if_pos b5', g5, r1]
      · simp only [fz_X11_family, fz_X11_gives, fz_X11_isFrom, if_neg n1, if_neg n2, fM, Option.bind_some, if_neg b0, if_neg b1, if_neg b2, if_neg b3, if_neg b4, if_pos b5', r2]
        rw [if_neg (by decide), if_neg (by decide)]
    by_cases b6 : b = 6
    · rcases vz_part (f := a) C1 with ⟨p1, p2⟩ | ⟨i, j, i0, i1, j0, j1, p1, p2⟩
      · refine fin 1 ?_ ?_
        · simp only [fz_X10_family, fz_X10_give, if_neg n1, if_neg n2, if_neg q1, if_pos qa.2, Option.bind_some, if_neg b0, if_neg b1, if_neg b2, if_neg b3, if_neg b4, if_neg b5', if_pos b6, g5, p1, if_true]
        · simp only [fz_X11_family, fz_X11_gives, fz_X11_isFrom, if_neg n1, if_neg n2, fM, Option.bind_some, if_neg b0, if_neg b1, if_neg b2, if_neg b3, if_neg b4, if_neg b5', if_pos b6, p2, if_true]
          rw [if_neg (by decide), if_neg (by decide)]
      · refine cz_rw (f := fun σ => fz_X10_family 2000000 σ 1 a b) (g := fun σ => fz_X11_family 2000000 σ 804 a b) h (r := 0) (v := 0) (σ' := σ) (σ'' := az_wr (az_wr (az_wr σ 1 2 0) 804 61 i) 804 62 j) bz_Upd.refl ?_ vz_nk ?_
        · simp only [fz_X10_family, fz_X10_give, if_neg n1, if_neg n2, if_neg q1, if_pos qa.2, Option.bind_some, if_neg b0, if_neg b1, if_neg b2, if_neg b3, if_neg b4, if_neg b5', if_pos b6, g5, p1]
          rw [if_neg (show ¬ i * 16 + j = -1 by omega)]
        · simp only [fz_X11_family, fz_X11_gives, fz_X11_isFrom, if_neg n1, if_neg n2, fM, Option.bind_some, if_neg b0, if_neg b1, if_neg b2, if_neg b3, if_neg b4, if_neg b5', if_pos b6, p2]
          rw [if_neg (by decide), if_neg (by decide), if_neg (by decide)]
    · have rd : az_ard σ (T + 6) a = some (σ.2 (T + 6) a) := bz_ard qa.1 (by omega)
      have rd12 : az_ard σ (T + 12) a = some (σ.2 (T + 12) a) := bz_ard qa.1 (by omega)
      have rm : az_ard (az_wr σ 1 2 0) 814 (5 * s + a) = some (σ.2 (T + 6) a) := by
        rw [bz_ard (by omega) (by omega), az_wr_ne (by omega), ← f4.1]
      have g14 : az_gref σ T 14 = some (T + 12) := tg.2.2.2.2.2.2.2.2.2.2.2.1
      by_cases z : σ.2 (T + 6) a = 0
      · refine fin 0 ?_ ?_
        · simp only [fz_X10_family, fz_X10_give, fz_X9_goesBackwards, if_neg n1, if_neg n2, if_neg q1, if_pos qa.2, Option.bind_some, if_neg b0, if_neg b1, if_neg b2, if_neg b3, if_neg b4, if_neg b5', if_neg b6, g5, tg.2.2.2.2.2.1, rd, if_pos z, if_true]
        · simp only [fz_X11_family, fz_X11_gives, fz_X11_canBack, fz_X11_isFrom, if_neg n1, if_neg n2, fM, Option.bind_some, if_neg b0, if_neg b1, if_neg b2, if_neg b3, if_neg b4, if_neg b5', if_neg b6, fx_804_24 k1.1.1, s15, w5, rm, if_pos z, if_true]
          rw [if_neg (by decide), if_neg (by decide)]
      · have Bd := h.2.2.2.1.2 a qa.1 qa.2
        obtain ⟨σ', m1, m2, -⟩ := Bd (az_wr σ 1 2 0) k1.1.1 (fun a k q => az_wr_ne (by omega)) (fun a k q => az_wr_ne (by omega)) s15
        have um : bz_Upd (az_wr σ 1 2 0) σ' cz_nk := m2.weak fun _ _ q => cz_SB_nk q
        by_cases z2 : σ.2 (T + 12) a = 0
        · rw [if_pos z2] at m1
          refine cz_rw (f := fun σ => fz_X10_family 2000000 σ 1 a b) (g := fun σ => fz_X11_family 2000000 σ 804 a b) h (r := 1) (v := 0) (σ' := σ) (σ'' := σ') bz_Upd.refl ?_ um ?_
          · simp only [fz_X10_family, fz_X10_give, fz_X9_goesBackwards, if_neg n1, if_neg n2, if_neg q1, if_pos qa.2, Option.bind_some, if_neg b0, if_neg b1, if_neg b2, if_neg b3, if_neg b4, if_neg b5', if_neg b6, g5, tg.2.2.2.2.2.1, rd, g14, rd12, if_neg z, if_pos z2]
            rw [if_neg (by decide)]
          · simp only [fz_X11_family, fz_X11_gives, fz_X11_canBack, fz_X11_isFrom, if_neg n1, if_neg n2, fM, Option.bind_some, if_neg b0, if_neg b1, if_neg b2, if_neg b3, if_neg b4, if_neg b5', if_neg b6, fx_804_24 k1.1.1, s15, w5, rm, if_neg z, m1, if_true]
            rw [if_neg (by decide), if_neg (by decide), if_neg (by decide)]
        · rw [if_neg z2] at m1
          refine cz_rw (f := fun σ => fz_X10_family 2000000 σ 1 a b) (g := fun σ => fz_X11_family 2000000 σ 804 a b) h (r := 0) (v := 0) (σ' := σ) (σ'' := σ') bz_Upd.refl ?_ um ?_
          · simp only [fz_X10_family, fz_X10_give, fz_X9_goesBackwards, if_neg n1, if_neg n2, if_neg q1, if_pos qa.2, Option.bind_some, if_neg b0, if_neg b1, if_neg b2, if_neg b3, if_neg b4, if_neg b5', if_neg b6, g5, tg.2.2.2.2.2.1, rd, g14, rd12, if_neg z, if_neg z2, if_true]
          · simp only [fz_X11_family, fz_X11_gives, fz_X11_canBack, fz_X11_isFrom, if_neg n1, if_neg n2, fM, Option.bind_some, if_neg b0, if_neg b1, if_neg b2, if_neg b3, if_neg b4, if_neg b5', if_neg b6, fx_804_24 k1.1.1, s15, w5, rm, if_neg z, m1]
            rw [if_neg (by decide), if_neg (by decide), if_neg (by decide)]
            simp only [Option.bind_some, if_true]
  · have k1 := cz_K1 h 2
    have fM := cz_isFamM (e := a) k1
    rw [az_wr_ne (by omega), if_neg qa] at fM
    refine cz_rd (f := fun σ => fz_X10_family 2000000 σ 1 a b) (g := fun σ => fz_X11_family 2000000 σ 804 a b) h (r := -1) (v := 2) ?_ ?_
    · simp only [fz_X10_family, fz_X10_refuse, if_neg n1, if_neg n2, g5, Option.bind_some]
      by_cases q : a < 0
      · rw [if_pos q]
      · rw [if_neg q, if_neg (by omega)]
    · simp only [fz_X11_family, fz_X11_refuse, fz_X11_isFrom, if_neg n1, if_neg n2, fM, Option.bind_some]
      rw [if_neg (by decide), if_pos trivial]
