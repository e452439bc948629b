/-! still, node, now -/
section NO
variable {T s : Int} {V : Int → Int → Prop} {n : Int}
theorem tz_depthL {σx σm : az_Hp} {r q : Int} (hH : mz_H σx σm T s) (hR : rz_R σx σm T s V r 844 n) (q0 : 0 ≤ q) (q1 : q < n) : ∀ (d k : Nat) (c i : Int), d < k → 0 ≤ i → i + d = q → 0 ≤ c → c ≤ i → ∃ v, 0 ≤ v ∧ v ≤ q ∧ fz_X7_depth_4 2000000 k σx r q c i = some v ∧ fz_X11_deepOf_4 2000000 k σm 804 q c i = some v := by
  have hsz := hR.2.1
  have n60 := hR.2.2.1.2
  have hEn : lz_En (bz_ct σm s) (bz_ft σm s) (σm.2 T 0) (σm.2 T 1) (fun _ => V) r 0 0 0 n 844 0 σx σm := hR.en hH (Or.inl rfl) rfl (by omega) (by omega)
  intro d
  induction d with
  | zero =>
    intro k c i hk i0 hi c0 c1
    obtain ⟨k, rfl⟩ : ∃ k', k = k' + 1 := ⟨k - 1, by omega⟩
    refine ⟨c, c0, by omega, ?_, ?_⟩
    · unfold fz_X7_depth_4
      rw [if_neg (by omega)]
    · unfold fz_X11_deepOf_4
      rw [if_neg (by omega)]
  | succ d ih =>
    intro k c i hk i0 hi c0 c1
    obtain ⟨k, rfl⟩ : ∃ k', k = k' + 1 := ⟨k - 1, by omega⟩
    obtain ⟨z, z0, z1, z2⟩ := hR.sub i0 (by omega)
    have hend := bz_end hH.1 hR.1 i0 (by omega) z2
    have hsize := hEn.size i0 (by omega) z2
    rw [Int.zero_add] at hsize
    have runX : fz_X7_depth_4 2000000 (k + 1) σx r q c i = (if q < i + z then fz_X7_depth_4 2000000 k σx r q (c + 1) (i + 1) else fz_X7_depth_4 2000000 k σx r q c (i + 1)) := by
      conv => lhs; unfold fz_X7_depth_4
      rw [if_pos (by omega), if_pos (by omega), hend, Option.bind_some, az_w32_id (z := c + 1) (by omega) (by omega), az_w32_id (z := i + 1) (by omega) (by omega)]
    have runM : fz_X11_deepOf_4 2000000 (k + 1) σm 804 q c i = (if q < i + z then fz_X11_deepOf_4 2000000 k σm 804 q (c + 1) (i + 1) else fz_X11_deepOf_4 2000000 k σm 804 q c (i + 1)) := by
      conv => lhs; unfold fz_X11_deepOf_4
      rw [if_pos (by omega), fx_804_79 hH.2.1, Option.bind_some, hsize, Option.bind_some, az_w32_id (z := i + z) (by omega) (by omega), az_w32_id (z := c + 1) (by omega) (by omega), az_w32_id (z := i + 1) (by omega) (by omega), az_w32_id (z := c + 0) (by omega) (by omega), Int.add_zero]
    rw [runX, runM]
    by_cases cc : q < i + z
    · rw [if_pos cc, if_pos cc]
      exact ih k (c + 1) (i + 1) (by omega) (by omega) (by omega) (by omega) (by omega)
    · rw [if_neg cc, if_neg cc]
      exact ih k c (i + 1) (by omega) (by omega) (by omega) (by omega) (by omega)
theorem tz_depth {σx σm : az_Hp} {r q : Int} (hH : mz_H σx σm T s) (hR : rz_R σx σm T s V r 844 n) (q0 : 0 ≤ q) (q1 : q < n) : ∃ v, 0 ≤ v ∧ v ≤ q ∧ fz_X7_depth 2000000 σx r q = some v ∧ fz_X11_deepOf 2000000 σm 804 q = some v := by
  have n60 := hR.2.2.1.2
  unfold fz_X7_depth fz_X11_deepOf
  exact tz_depthL hH hR q0 q1 q.toNat 2000000 0 0 (by omega) (by omega) (by omega) (by omega) (by omega)
/-- the greatest depth -/
theorem tz_deepest {σx σm : az_Hp} (hH : mz_H σx σm T s) (hR : rz_R σx σm T s V 375 844 n) (hsm : σm.2 804 81 = n) : ∀ (d k : Nat) (v i : Int), d < k → 0 ≤ i → i + d = n → 0 ≤ v → v ≤ 60 → (i = 0 → v = 0) → ∃ w, 0 ≤ w ∧ w ≤ 60 ∧ fz_X10_deepest_4 2000000 k σx 1 v i = some w ∧ fz_X11_now_45 2000000 k σm 804 1 (if i = 0 then 0 else v + 1) i = some (w + 1, az_wr σm 804 2 0) := by
  have hsz := hR.2.1
  have n60 := hR.2.2.1.2
  have n1 := hR.2.2.1.1
  intro d
  induction d with
  | zero =>
    intro k v i hk i0 hi v0 v1 hz
    obtain ⟨k, rfl⟩ : ∃ k', k = k' + 1 := ⟨k - 1, by omega⟩
    refine ⟨v, v0, v1, ?_, ?_⟩
    · unfold fz_X10_deepest_4
      rw [fx_1_12 hH.1, Option.bind_some, if_neg (by omega)]
    · unfold fz_X11_now_45 fz_X11_gives
      rw [if_neg (by omega), Option.bind_some, if_neg (by omega)]
  | succ d ih =>
    intro k v i hk i0 hi v0 v1 hz
    obtain ⟨k, rfl⟩ : ∃ k', k = k' + 1 := ⟨k - 1, by omega⟩
    obtain ⟨z, z0, z1, z2, z3⟩ := tz_depth hH hR i0 (by omega)
    obtain ⟨w, w0, w1, w2, w3⟩ := ih k (if v < z then z else v) (i + 1) (by omega) (by omega) (by omega) (by split <;> omega) (by split <;> omega) (fun e => by omega)
    refine ⟨w, w0, w1, ?_, ?_⟩
    · rw [← w2]
      conv => lhs; unfold fz_X10_deepest_4
      rw [fx_1_12 hH.1, Option.bind_some, if_pos (by omega), Option.bind_some, z2, Option.bind_some, az_w32_id (z := i + 1) (by omega) (by omega)]
    · rw [← w3]
      conv => lhs; unfold fz_X11_now_45
      rw [if_pos (by omega), if_pos rfl, z3, Option.bind_some, az_w32_id (z := z + 1) (by omega) (by omega), az_w32_id (z := i + 1) (by omega) (by omega), if_neg (show ¬ i + 1 = 0 by omega)]
      congr 1
      by_cases e : i = 0
      · rw [if_pos e, if_pos (by omega)]
        have := hz e
        split <;> omega
      · rw [if_neg e]
        split <;> split <;> omega
theorem tz_fams {σx σm : az_Hp} (hH : mz_H σx σm T s) (hR : rz_R σx σm T s V 375 844 n) (hsm : σm.2 804 81 = n) : ∀ (d k : Nat) (v i : Int), d < k → 0 ≤ i → i + d = n → 0 ≤ v → v ≤ i → ∃ w, fz_X7_families_4 2000000 k σx 375 v i = some w ∧ fz_X11_now_45 2000000 k σm 804 2 v i = some (w, az_wr σm 804 2 0) := by
  have hsz := hR.2.1
  have n60 := hR.2.2.1.2
  have tb := hH.tb.2.1
  have xr := bz_fxR hH.1 hR.1.1
  have gr : az_gref σx 375 0 = some 376 := bz_gr xr.1 (by omega)
  have l844 := ln_844 hH.2.1
  intro d
  induction d with
  | zero =>
    intro k v i hk i0 hi v0 v1
    obtain ⟨k, rfl⟩ : ∃ k', k = k' + 1 := ⟨k - 1, by omega⟩
    refine ⟨v, ?_, ?_⟩
    · unfold fz_X7_families_4
      rw [if_neg (by omega)]
    · unfold fz_X11_now_45 fz_X11_gives
      rw [if_neg (by omega), Option.bind_some]
  | succ d ih =>
    intro k v i hk i0 hi v0 v1
    obtain ⟨k, rfl⟩ : ∃ k', k = k' + 1 := ⟨k - 1, by omega⟩
    have q := hR.2.2.2.1 i i0 (by omega)
    have qI := q.I tb hR.2.2.2.2.2.2.1
    have kd := q.kd tb
    have mc := q.mc tb
    unfold bz_mc at mc
    have l376 : az_ln σx 376 = 60 := xr.2.trans (by decide)
    have ar : az_ard σx 376 i = some (σx.2 376 i) := bz_ard i0 (by omega)
    have qI' : bz_I (σx.2 376 i) := qI
    have iff : bz_kd (σx.2 376 i) = 2 ↔ (200 ≤ σm.2 844 i ∧ σm.2 844 i < 1000) := by
      rw [show (376 : Int) = 375 + 1 from rfl, kd]
      by_cases c1 : σm.2 844 i < 200
      · rw [if_pos c1]; omega
      · by_cases c2 : σm.2 844 i < 1000
        · rw [if_neg c1, if_pos c2]; omega
        · rw [if_neg c1, if_neg c2]
          split <;> omega
    have runX : fz_X7_families_4 2000000 (k + 1) σx 375 v i = (if bz_kd (σx.2 376 i) = 2 then fz_X7_families_4 2000000 k σx 375 (v + 1) (i + 1) else fz_X7_families_4 2000000 k σx 375 v (i + 1)) := by
      conv => lhs; unfold fz_X7_families_4
      rw [if_pos (by omega), gr, Option.bind_some, ar, Option.bind_some, bz_kind qI', Option.bind_some, az_w32_id (z := v + 1) (by omega) (by omega), az_w32_id (z := i + 1) (by omega) (by omega)]
    have runM : fz_X11_now_45 2000000 (k + 1) σm 804 2 v i = (if 200 ≤ σm.2 844 i ∧ σm.2 844 i < 1000 then fz_X11_now_45 2000000 k σm 804 2 (v + 1) (i + 1) else fz_X11_now_45 2000000 k σm 804 2 v (i + 1)) := by
      conv => lhs; unfold fz_X11_now_45
      rw [if_pos (by omega), if_neg (by decide), if_pos rfl, fx_804_79 hH.2.1, Option.bind_some, bz_ard i0 (by omega), Option.bind_some, mz_isFam, Option.bind_some, az_w32_id (z := v + 1) (by omega) (by omega), az_w32_id (z := i + 1) (by omega) (by omega), az_w32_id (z := v + 0) (by omega) (by omega), Int.add_zero]
      by_cases c : 200 ≤ σm.2 844 i ∧ σm.2 844 i < 1000
      · rw [if_pos c, if_pos c, if_neg (show ¬ (1 : Int) = 0 by decide)]
      · rw [if_neg c, if_neg c, if_pos rfl]
    rw [runX, runM]
    by_cases c : 200 ≤ σm.2 844 i ∧ σm.2 844 i < 1000
    · rw [if_pos (iff.mpr c), if_pos c]
      exact ih k (v + 1) (i + 1) (by omega) (by omega) (by omega) (by omega) (by omega)
    · rw [if_neg (fun q => c (iff.mp q)), if_neg c]
      exact ih k v (i + 1) (by omega) (by omega) (by omega) (by omega) (by omega)
theorem tz_places : ∀ (d k : Nat) (σx σm : az_Hp) (v i : Int), rz_C σx σm T s → rz_R σx σm T s V 375 844 n → σm.2 804 81 = n → d < k → 0 ≤ i → i + d = n → 0 ≤ v → v ≤ i → ∃ w σx' σm', fz_X5_firingPlaces_4 2000000 k σx 243 375 v i = some (w, σx') ∧ fz_X11_now_45 2000000 k σm 804 3 v i = some (w, az_wr σm' 804 2 0) ∧ bz_Upd σx σx' rz_TX ∧ bz_Upd σm σm' rz_TM := by
  intro d
  induction d with
  | zero =>
    intro k σx σm v i hC hR hsm hk i0 hi v0 v1
    obtain ⟨k, rfl⟩ : ∃ k', k = k' + 1 := ⟨k - 1, by omega⟩
    have hsz := hR.2.1
    refine ⟨v, σx, σm, ?_, ?_, bz_Upd.refl, bz_Upd.refl⟩
    · unfold fz_X5_firingPlaces_4
      rw [if_neg (by omega)]
    · unfold fz_X11_now_45 fz_X11_gives
      rw [if_neg (by omega), Option.bind_some]
  | succ d ih =>
    intro k σx σm v i hC hR hsm hk i0 hi v0 v1
    obtain ⟨k, rfl⟩ : ∃ k', k = k' + 1 := ⟨k - 1, by omega⟩
    have hsz := hR.2.1
    have n60 := hR.2.2.1.2
    have hT := hC.1.2.2.1.1
    have hA : rz_A 844 := ⟨by decide, by decide, by decide⟩
    obtain ⟨q, x1, m1, y1, y2, y3, y4, y5, y6, -⟩ := rz_firing hC hR hA i0 (by omega)
    have runX : fz_X5_firingPlaces_4 2000000 (k + 1) σx 243 375 v i = (if q = -1 then fz_X5_firingPlaces_4 2000000 k x1 243 375 v (i + 1) else fz_X5_firingPlaces_4 2000000 k x1 243 375 (v + 1) (i + 1)) := by
      conv => lhs; unfold fz_X5_firingPlaces_4
      rw [if_pos (by omega), y1, Option.bind_some, az_w32_id (z := v + 1) (by omega) (by omega), az_w32_id (z := i + 1) (by omega) (by omega)]
    have runM : fz_X11_now_45 2000000 (k + 1) σm 804 3 v i = (if q = -1 then fz_X11_now_45 2000000 k m1 804 3 v (i + 1) else fz_X11_now_45 2000000 k m1 804 3 (v + 1) (i + 1)) := by
      conv => lhs; unfold fz_X11_now_45
      rw [if_pos (by omega), if_neg (by decide), if_neg (by decide), fx_804_79 hC.1.2.1, Option.bind_some, y2, Option.bind_some, az_w32_id (z := v + 1) (by omega) (by omega), az_w32_id (z := i + 1) (by omega) (by omega), az_w32_id (z := v + 0) (by omega) (by omega), Int.add_zero]
    have hC1 := hC.upd y3 y4
    have hR1 := hR.updT hT hA y3 y4
    have hs1 : m1.2 804 81 = n := by rw [y4.2.2 804 81 (fun c => by unfold rz_TM cz_SM at c; omega)]; exact hsm
    rw [runX, runM]
    by_cases c : q = -1
    · rw [if_pos c, if_pos c]
      obtain ⟨w, xa, ma, z1, z2, z3, z4⟩ := ih k x1 m1 v (i + 1) hC1 hR1 hs1 (by omega) (by omega) (by omega) (by omega) (by omega)
      exact ⟨w, xa, ma, z1, z2, y3.trans z3, y4.trans z4⟩
    · rw [if_neg c, if_neg c]
      obtain ⟨w, xa, ma, z1, z2, z3, z4⟩ := ih k x1 m1 (v + 1) (i + 1) hC1 hR1 hs1 (by omega) (by omega) (by omega) (by omega) (by omega)
      exact ⟨w, xa, ma, z1, z2, y3.trans z3, y4.trans z4⟩
theorem tz_var {σ : az_Hp} (hF : bz_Fx σ) {w b : Int} (b0 : 0 ≤ b) (b1 : b < 12) (hb : σ.2 379 b = w) (hno : ∀ j, 0 ≤ j → j < b → σ.2 379 j ≠ w) : ∀ (d k : Nat) (i : Int), d < k → 0 ≤ i → i + d = b → fz_X10_termVariable_2 2000000 k σ 1 w i = some b := by
  have l := ln_379 hF
  intro d
  induction d with
  | zero =>
    intro k i hk i0 hi
    obtain ⟨k, rfl⟩ : ∃ k', k = k' + 1 := ⟨k - 1, by omega⟩
    have e : i = b := by omega
    subst e
    unfold fz_X10_termVariable_2
    rw [if_pos (by omega), fx_1_14 hF, Option.bind_some, bz_ard i0 (by omega), Option.bind_some, if_pos hb]
  | succ d ih =>
    intro k i hk i0 hi
    obtain ⟨k, rfl⟩ : ∃ k', k = k' + 1 := ⟨k - 1, by omega⟩
    rw [← ih k (i + 1) (by omega) (by omega) (by omega)]
    conv => lhs; unfold fz_X10_termVariable_2
    rw [if_pos (by omega), fx_1_14 hF, Option.bind_some, bz_ard i0 (by omega), Option.bind_some, if_neg (hno i i0 (by omega)), az_w32_id (by omega) (by omega)]
end NO
/-- both heaps at a call that leaves J alone -/
theorem tz_at {σ x1 : az_Hp} {T s v : Int} (h : cz_K σ T s) (uk : bz_Upd σ x1 cz_nk) : bz_Upd σ (az_wr x1 1 2 v) cz_ns ∧ cz_K (az_wr x1 1 2 v) T s ∧ (az_wr x1 1 2 v).2 804 81 = σ.2 375 1 ∧ (az_wr x1 1 2 v).2 T 2 = σ.2 T 2 ∧ (az_wr x1 1 2 v).2 375 1 = σ.2 375 1 := by
  have hT := h.1.2.2.2.2.2.2.2.1
  have u1 : bz_Upd σ (az_wr x1 1 2 v) cz_ns := bz_Upd.wr (uk.weak fun _ _ q => Or.inl q) (Or.inr (Or.inl ⟨rfl, rfl⟩)) (by decide)
  have k1 := cz_keep u1 h
  have et2 : (az_wr x1 1 2 v).2 375 1 = σ.2 375 1 := u1.2.2 _ _ (fun c => by
    rcases c with c | c | c
    · exact cz_nk2 (by omega) c
    · omega
    · omega)
  refine ⟨u1, k1, by rw [← et2]; exact k1.2.2.2.2.1.1.2.2, u1.2.2 _ _ (fun c => by
    rcases c with c | c | c
    · exact cz_nk1 (by omega) c
    · omega
    · omega), et2⟩
theorem cz_op_now : bz_op_now cz_J := by
  rintro a ha σ ⟨T, s, h, eq⟩
  have hF := h.1.1
  have hT := h.1.2.2.2.2.2.2.2.1
  obtain ⟨⟨s1, s2, s3⟩, -⟩ := h.2.2.2.2.1
  have g12 := fx_1_12 hF
  have g11 := fx_1_11 hF
  by_cases q : a < 0 ∨ 3 < a
  · refine cz_rd (f := fun σ => fz_X10_now 2000000 σ 1 a) (g := fun σ => fz_X11_now 2000000 σ 804 a) h (r := -1) (v := 1) ?_ ?_
    · simp only [fz_X10_now, fz_X10_refuse, Option.bind_some]
      by_cases q' : a < 0
      · rw [if_pos q']
      · rw [if_neg q', if_pos (by omega)]
    · simp only [fz_X11_now, fz_X11_refuse, fz_X11_isFrom]
      by_cases q' : a < 0
      · rw [if_pos q']; rfl
      · rw [if_neg q', if_pos (by omega)]; rfl
  have n1 : ¬ a < 0 := by omega
  have n2 : ¬ 3 < a := by omega
  by_cases z : σ.2 375 1 = 0
  · refine cz_rd (f := fun σ => fz_X10_now 2000000 σ 1 a) (g := fun σ => fz_X11_now 2000000 σ 804 a) h (r := -1) (v := 3) ?_ ?_
    · simp only [fz_X10_now, fz_X10_refuse, if_neg n1, if_neg n2, g12, Option.bind_some, if_pos z]
    · simp only [fz_X11_now, fz_X11_refuse, fz_X11_isFrom, if_neg n1, if_neg n2, Option.bind_some]
      rw [if_neg (by decide), az_wr_ne (by omega), s3, if_pos z]
  obtain ⟨u1, k1, sM, eT, e375⟩ := tz_at (v := 0) h (bz_Upd.refl (σ := σ))
  obtain ⟨C1, R1⟩ := cz_rzC h u1
  have R := R1 (by omega)
  by_cases a0 : a = 0
  · refine cz_rd (f := fun σ => fz_X10_now 2000000 σ 1 a) (g := fun σ => fz_X11_now 2000000 σ 804 a) h (r := σ.2 375 1) (v := 0) ?_ ?_
    · simp only [fz_X10_now, fz_X10_give, if_neg n1, if_neg n2, g12, Option.bind_some, if_neg z, if_pos a0]
    · simp only [fz_X11_now, fz_X11_gives, fz_X11_isFrom, if_neg n1, if_neg n2, Option.bind_some]
      rw [if_neg (by decide), sM, if_neg z, if_pos a0]
  by_cases a1 : a = 1
  · obtain ⟨w, w0, w1, w2, w3⟩ := tz_deepest C1.1 R sM (σ.2 375 1).toNat 2000000 0 0 (by omega) (by omega) (by omega) (by omega) (by omega) (fun _ => rfl)
    refine cz_rd (f := fun σ => fz_X10_now 2000000 σ 1 a) (g := fun σ => fz_X11_now 2000000 σ 804 a) h (r := w + 1) (v := 0) ?_ ?_
    · simp only [fz_X10_now, fz_X10_give, fz_X10_deepest, if_neg n1, if_neg n2, g12, Option.bind_some, if_neg z, if_neg a0, if_pos a1, w2]
      rw [az_w32_id (by omega) (by omega)]
    · simp only [fz_X11_now, fz_X11_isFrom, if_neg n1, if_neg n2, Option.bind_some]
      rw [if_neg (by decide), sM, if_neg z, if_neg a0, a1]
      rw [if_pos rfl] at w3
      exact w3
  by_cases a2 : a = 2
  · obtain ⟨w, w2, w3⟩ := tz_fams C1.1 R sM (σ.2 375 1).toNat 2000000 0 0 (by omega) (by omega) (by omega) (by omega) (by omega)
    refine cz_rd (f := fun σ => fz_X10_now 2000000 σ 1 a) (g := fun σ => fz_X11_now 2000000 σ 804 a) h (r := w) (v := 0) ?_ ?_
    · simp only [fz_X10_now, fz_X10_give, fz_X7_families, if_neg n1, if_neg n2, g12, Option.bind_some, if_neg z, if_neg a0, if_neg a1, if_pos a2, w2]
    · simp only [fz_X11_now, fz_X11_isFrom, if_neg n1, if_neg n2, Option.bind_some]
      rw [if_neg (by decide), sM, if_neg z, if_neg a0, a2]
      exact w3
  · have a3 : a = 3 := by omega
    obtain ⟨C0, R0⟩ := cz_rzC h (bz_Upd.refl (σ := σ))
    obtain ⟨w, x1, -, y1, -, y3, -⟩ := tz_places (σ.2 375 1).toNat 2000000 σ σ 0 0 C0 (R0 (by omega)) s3 (by omega) (by omega) (by omega) (by omega) (by omega)
    have uk : bz_Upd σ x1 cz_nk := y3.weak fun _ _ q => cz_TX_nk q
    obtain ⟨u2, k2, sM2, eT2, e3752⟩ := tz_at (v := 0) h uk
    obtain ⟨C2, R2⟩ := cz_rzC h u2
    obtain ⟨w', x1', m1, y1', y2', -, y4'⟩ := tz_places (σ.2 375 1).toNat 2000000 σ _ 0 0 C2 (R2 (by omega)) sM2 (by omega) (by omega) (by omega) (by omega) (by omega)
    rw [y1] at y1'
    simp only [Option.some.injEq, Prod.mk.injEq] at y1'
    obtain ⟨rfl, rfl⟩ := y1'
    refine cz_rw (f := fun σ => fz_X10_now 2000000 σ 1 a) (g := fun σ => fz_X11_now 2000000 σ 804 a) h (r := w) (v := 0) (σ' := x1) (σ'' := m1) uk ?_ (y4'.weak fun _ _ q => cz_TM_nk q) ?_
    · simp only [fz_X10_now, fz_X10_give, fz_X5_firingPlaces, if_neg n1, if_neg n2, g12, g11, Option.bind_some, if_neg z, if_neg a0, if_neg a1, if_neg a2, y1]
    · simp only [fz_X11_now, fz_X11_isFrom, if_neg n1, if_neg n2, Option.bind_some]
      rw [if_neg (by decide), sM2, if_neg z, if_neg a0, a3]
      exact y2'
theorem cz_op_still : bz_op_still cz_J := by
  rintro a b ha hb σ ⟨T, s, h, eq⟩
  have hF := h.1.1
  have hT := h.1.2.2.2.2.2.2.2.1
  obtain ⟨⟨s1, s2, s3⟩, -⟩ := h.2.2.2.2.1
  have g12 := fx_1_12 hF
  have g11 := fx_1_11 hF
  have eX := cz_isEqX (e := b) h
  have hA : rz_A 844 := ⟨by decide, by decide, by decide⟩
  by_cases z : σ.2 375 1 = 0
  · refine cz_rd (f := fun σ => fz_X10_still 2000000 σ 1 a b) (g := fun σ => fz_X11_still 2000000 σ 804 a b) h (r := -1) (v := 3) ?_ ?_
    · simp only [fz_X10_still, fz_X10_refuse, g12, Option.bind_some, if_pos z]
    · simp only [fz_X11_still, fz_X11_refuse]
      rw [az_wr_ne (by omega), s3, if_pos z, Option.bind_some]
  by_cases qa : 0 ≤ a ∧ a < σ.2 375 1
  · by_cases qb : 0 ≤ b ∧ b < σ.2 T 2
    · rw [if_pos qb] at eX
      obtain ⟨C0, R0⟩ := cz_rzC h (bz_Upd.refl (σ := σ))
      obtain ⟨q, x1, m0, y1, -, y3, y4, y5⟩ := rz_reason C0 (R0 (by omega)) hA qb.1 qb.2 qa.1 qa.2
      by_cases q3 : q = 3
      · -- the first earlier one
        have C1 := C0.upd y3 y4
        have R1 := (R0 (by omega)).updT hT hA y3 y4
        have hf := y5 (by omega)
        have mA : m0.2 844 a = σ.2 844 a := y4.2.2 _ _ (fun c => by unfold rz_TM cz_SM at c; omega)
        have nT : x1.2 T 2 = σ.2 T 2 := y3.2.2 _ _ (fun c => by unfold rz_TX cz_SJ at c; omega)
        obtain ⟨p, x2, -, z1, -, z3, -, -⟩ := rz_still C1 R1 hA qb.1 (by rw [nT]; exact qb.2) qa.1 qa.2 (by rw [mA]; exact hf)
        have uk : bz_Upd σ x2 cz_nk := (y3.weak fun _ _ q => cz_TX_nk q).trans (z3.weak fun _ _ q => cz_SJ_nk q)
        obtain ⟨u2, k2, sM2, eT2, e3752⟩ := tz_at (v := 0) h uk
        obtain ⟨C2, R2⟩ := cz_rzC h u2
        obtain ⟨q', x1', m1, y1', y2', y3', y4', y5'⟩ := rz_reason C2 (R2 (by omega)) hA qb.1 qb.2 qa.1 qa.2
        rw [y1] at y1'
        simp only [Option.some.injEq, Prod.mk.injEq] at y1'
        obtain ⟨rfl, rfl⟩ := y1'
        have C3 := C2.upd y3' y4'
        have R3 := (R2 (by omega)).updT hT hA y3' y4'
        have mA3 : m1.2 844 a = (az_wr x2 1 2 0).2 844 a := y4'.2.2 _ _ (fun c => by unfold rz_TM cz_SM at c; omega)
        obtain ⟨p', x2', m2, z1', z2', -, z4', -⟩ := rz_still C3 R3 hA qb.1 (by rw [nT]; exact qb.2) qa.1 qa.2 (by rw [mA3]; exact y5' (by omega))
        rw [z1] at z1'
        simp only [Option.some.injEq, Prod.mk.injEq] at z1'
        obtain ⟨rfl, rfl⟩ := z1'
        have eM := cz_isEqM (e := b) k2
        have nM := cz_isNode (k := a) k2
        rw [eT2, if_pos qb] at eM
        rw [e3752, if_pos qa] at nM
        have um : bz_Upd (az_wr x2 1 2 0) m2 cz_nk := (y4'.weak fun _ _ q => cz_TM_nk q).trans (z4'.weak fun _ _ q => cz_SB_nk (Or.inl q))
        refine cz_rw (f := fun σ => fz_X10_still 2000000 σ 1 a b) (g := fun σ => fz_X11_still 2000000 σ 804 a b) h (r := p) (v := 0) (σ' := x2) (σ'' := m2) uk ?_ um ?_
        · have g12' := fx_1_12 (hF.upd y3)
          have g11' := fx_1_11 (hF.upd y3)
          simp only [fz_X10_still, fz_X10_give, g12, g11, g12', g11', Option.bind_some, if_neg z, eX, y1, if_pos q3, z1]
          rw [if_neg (by omega), if_pos qa.2, if_neg (by decide)]
        · have g79' := fx_804_79 (k2.1.1.upd y4')
          simp only [fz_X11_still, fz_X11_gives]
          rw [sM2, if_neg z, nM, Option.bind_some, if_neg (by decide), eM, Option.bind_some, if_neg (by decide), fx_804_79 k2.1.1, Option.bind_some, y2', Option.bind_some]
          simp only [if_pos q3, g79', Option.bind_some, z2']
      · have uk : bz_Upd σ x1 cz_nk := y3.weak fun _ _ q => cz_TX_nk q
        obtain ⟨u2, k2, sM2, eT2, e3752⟩ := tz_at (v := 5) h uk
        obtain ⟨C2, R2⟩ := cz_rzC h u2
        obtain ⟨q', x1', m1, y1', y2', y3', y4', -⟩ := rz_reason C2 (R2 (by omega)) hA qb.1 qb.2 qa.1 qa.2
        rw [y1] at y1'
        simp only [Option.some.injEq, Prod.mk.injEq] at y1'
        obtain ⟨rfl, rfl⟩ := y1'
        have eM := cz_isEqM (e := b) k2
        have nM := cz_isNode (k := a) k2
        rw [eT2, if_pos qb] at eM
        rw [e3752, if_pos qa] at nM
        refine cz_rw (f := fun σ => fz_X10_still 2000000 σ 1 a b) (g := fun σ => fz_X11_still 2000000 σ 804 a b) h (r := -1) (v := 5) (σ' := x1) (σ'' := m1) uk ?_ (y4'.weak fun _ _ q => cz_TM_nk q) ?_
        · simp only [fz_X10_still, fz_X10_refuse, g12, g11, Option.bind_some, if_neg z, eX, y1, if_neg q3]
          rw [if_neg (by omega), if_pos qa.2, if_neg (by decide)]
        · simp only [fz_X11_still, fz_X11_refuse]
          rw [sM2, if_neg z, nM, Option.bind_some, if_neg (by decide), eM, Option.bind_some, if_neg (by decide), fx_804_79 k2.1.1, Option.bind_some, y2', Option.bind_some]
          simp only [if_neg q3, Option.bind_some]
    · rw [if_neg qb] at eX
      have k1 := cz_K1 h 2
      have eM := cz_isEqM (e := b) k1
      have nM := cz_isNode (k := a) k1
      rw [az_wr_ne (by omega), if_neg qb] at eM
      rw [az_wr_ne (by omega), if_pos qa] at nM
      refine cz_rd (f := fun σ => fz_X10_still 2000000 σ 1 a b) (g := fun σ => fz_X11_still 2000000 σ 804 a b) h (r := -1) (v := 2) ?_ ?_
      · simp only [fz_X10_still, fz_X10_refuse, g12, Option.bind_some, if_neg z, eX]
        rw [if_neg (by omega), if_pos qa.2, if_pos trivial]
      · simp only [fz_X11_still, fz_X11_refuse]
        rw [az_wr_ne (by omega), s3, if_neg z, nM, Option.bind_some, if_neg (by decide), eM, Option.bind_some, if_pos rfl, Option.bind_some]
  · have k1 := cz_K1 h 2
    have nM := cz_isNode (k := a) k1
    rw [az_wr_ne (by omega), if_neg qa] at nM
    refine cz_rd (f := fun σ => fz_X10_still 2000000 σ 1 a b) (g := fun σ => fz_X11_still 2000000 σ 804 a b) h (r := -1) (v := 2) ?_ ?_
    · simp only [fz_X10_still, fz_X10_refuse, g12, Option.bind_some, if_neg z]
      by_cases q : a < 0
      · rw [if_pos q]
      · rw [if_neg q, if_neg (by omega)]
    · simp only [fz_X11_still, fz_X11_refuse]
      rw [az_wr_ne (by omega), s3, if_neg z, nM, Option.bind_some, if_pos rfl, Option.bind_some]
