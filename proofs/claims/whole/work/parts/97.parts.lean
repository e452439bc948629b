/-! which two equations part -/
theorem vz_div0 : ∀ a : Fin 16, ∀ b : Fin 16, az_idivV ((a.val : Int) * 16 + (b.val : Int)) 16 = (a.val : Int) ∧ az_iremV ((a.val : Int) * 16 + (b.val : Int)) 16 = (b.val : Int) := by decide +kernel
theorem vz_div {a b : Int} (a0 : 0 ≤ a) (a1 : a < 16) (b0 : 0 ≤ b) (b1 : b < 16) : az_idivV (a * 16 + b) 16 = a ∧ az_iremV (a * 16 + b) 16 = b := by
  have h := vz_div0 ⟨a.toNat, by omega⟩ ⟨b.toNat, by omega⟩
  simp only [Int.toNat_of_nonneg a0, Int.toNat_of_nonneg b0] at h
  exact h
def vz_P (σm : az_Hp) (x : Option Int) (m : Option (Int × az_Hp)) : Prop := (x = some (-1) ∧ m = some (0, σm)) ∨ ∃ i j, 0 ≤ i ∧ i < 16 ∧ 0 ≤ j ∧ j < 16 ∧ x = some (i * 16 + j) ∧ m = some (1, az_wr (az_wr σm 804 61 i) 804 62 j)
theorem vz_agree {σx σm : az_Hp} {T s i e : Int} (hC : rz_C σx σm T s) (i0 : 0 ≤ i) (ie : i < e) (e1 : e < σx.2 T 2) (ho : σx.2 (T + 7) i = σx.2 (T + 7) e) : fz_X9_agree σx T i e = some (σm.2 835 (16 * i + e)) ∧ az_ard σm 835 (az_w32 (az_w32 (16 * i) + e)) = some (σm.2 835 (16 * i + e)) := by
  obtain ⟨h, hT2, hAg⟩ := hC
  have hT := h.2.2.1.1
  have nb := mz_nb h
  obtain ⟨ag1, ag2⟩ := hAg i e i0 (by omega) e1 ho
  have l11 := (bz_tl h.1 hT).2.2.2.2.2.2.2.2.1
  have g13 := (bz_tg h.1 hT).2.2.2.2.2.2.2.2.2.2.1
  have l835 := ln_835 h.2.1
  constructor
  · unfold fz_X9_agree
    rw [g13, Option.bind_some, az_w32_id (z := i * 16) (by omega) (by omega), az_w32_id (by omega) (by omega), bz_ard (by omega) (by omega), Option.bind_some, show i * 16 + e = 16 * i + e by omega, ag1, if_pos ag2]
  · rw [az_w32_id (z := 16 * i) (by omega) (by omega), az_w32_id (by omega) (by omega), bz_ard (by omega) (by omega)]
theorem vz_inner {σx σm : az_Hp} {T s f i : Int} (hC : rz_C σx σm T s) (i0 : 0 ≤ i) (i1 : i < σx.2 T 2) {kx : az_Hp → Int → Int → Int → Option Int} {km : az_Hp → Int → Int → Int → Option (Int × az_Hp)} (hk : vz_P σm (kx σx T f (i + 1)) (km σm 804 f (i + 1))) : ∀ (d k : Nat) (j : Int), d < k → i < j → j + d = σx.2 T 2 → vz_P σm (fz_X9_firstParting_14 2000000 kx k σx T f i j) (fz_X11_isParted_19 2000000 km k σm 804 f i j) := by
  have h := hC.1
  have nb := mz_nb h
  have hm := mz_many h
  obtain ⟨fi, oi1, oi2⟩ := mz_fam h i0 i1
  intro d
  induction d with
  | zero =>
    intro k j hk' j0 hj
    obtain ⟨k, rfl⟩ : ∃ k', k = k' + 1 := ⟨k - 1, by omega⟩
    unfold fz_X9_firstParting_14 fz_X11_isParted_19
    rw [if_neg (by omega), hm.1, Option.bind_some, hm.2, Option.bind_some, if_neg (by omega), az_w32_id (z := i + 1) (by omega) (by omega)]
    exact hk
  | succ d ih =>
    intro k j hk' j0 hj
    obtain ⟨k, rfl⟩ : ∃ k', k = k' + 1 := ⟨k - 1, by omega⟩
    obtain ⟨fj, oj1, oj2⟩ := mz_fam h (e := j) (by omega) (by omega)
    have nx := ih k (j + 1) (by omega) (by omega) (by omega)
    have w1 : az_w32 (j + 1) = j + 1 := az_w32_id (by omega) (by omega)
    unfold fz_X9_firstParting_14 fz_X11_isParted_19
    rw [if_pos (by omega), hm.1, Option.bind_some, hm.2, Option.bind_some, if_pos (by omega), w1]
    simp only [oi1, oi2, oj2, fi, fj, Option.bind_some]
    by_cases q1 : σx.2 (T + 7) i = f
    · rw [if_pos q1, if_pos q1]
      by_cases q2 : σx.2 (T + 7) j = f
      · obtain ⟨ag, am⟩ := vz_agree hC i0 j0 (by omega) (q1.trans q2.symm)
        rw [if_pos q2, if_pos q2, ag, Option.bind_some, fx_804_55 h.2.1, Option.bind_some, am, Option.bind_some]
        by_cases q3 : σm.2 835 (16 * i + j) = 0
        · rw [if_pos q3, if_pos q3, az_w32_id (z := i * 16) (by omega) (by omega), az_w32_id (by omega) (by omega)]
          exact Or.inr ⟨i, j, i0, by omega, by omega, by omega, rfl, rfl⟩
        · rw [if_neg q3, if_neg q3]
          exact nx
      · rw [if_neg q2, if_neg q2]
        exact nx
    · rw [if_neg q1, if_neg q1]
      exact nx
theorem vz_outer {σx σm : az_Hp} {T s f : Int} (hC : rz_C σx σm T s) : ∀ (d k : Nat) (i : Int), d < k → 0 ≤ i → i + d = σx.2 T 2 → vz_P σm (fz_X9_firstParting_2 2000000 k σx T f i) (fz_X11_isParted_2 2000000 k σm 804 f i) := by
  have h := hC.1
  have nb := mz_nb h
  have hm := mz_many h
  intro d
  induction d with
  | zero =>
    intro k i hk i0 hi
    obtain ⟨k, rfl⟩ : ∃ k', k = k' + 1 := ⟨k - 1, by omega⟩
    unfold fz_X9_firstParting_2 fz_X11_isParted_2
    rw [if_neg (by omega), hm.1, Option.bind_some, hm.2, Option.bind_some, if_neg (by omega)]
    exact Or.inl ⟨rfl, rfl⟩
  | succ d ih =>
    intro k i hk i0 hi
    obtain ⟨k, rfl⟩ : ∃ k', k = k' + 1 := ⟨k - 1, by omega⟩
    have nx := ih k (i + 1) (by omega) (by omega) (by omega)
    unfold fz_X9_firstParting_2 fz_X11_isParted_2
    rw [if_pos (by omega), hm.1, Option.bind_some, hm.2, Option.bind_some, if_pos (by omega), az_w32_id (z := i + 1) (by omega) (by omega)]
    exact vz_inner hC i0 (by omega) nx d 2000000 (i + 1) (by omega) (by omega) (by omega)
theorem vz_part {σx σm : az_Hp} {T s f : Int} (hC : rz_C σx σm T s) : vz_P σm (fz_X9_firstParting 2000000 σx T f) (fz_X11_isParted 2000000 σm 804 f) := by
  have nb := mz_nb hC.1
  unfold fz_X9_firstParting fz_X11_isParted
  exact vz_outer hC (σx.2 T 2).toNat 2000000 0 (by omega) (by omega) (by omega)
theorem vz_nk {σ : az_Hp} {i j : Int} : bz_Upd σ (az_wr (az_wr σ 804 61 i) 804 62 j) cz_nk := by
  refine bz_Upd.wr (bz_Upd.wr bz_Upd.refl ?_ (by decide)) ?_ (by decide)
  · unfold cz_nk
    exact Or.inr (Or.inr (Or.inr (Or.inr (Or.inr (Or.inr (Or.inr (Or.inr (Or.inr (Or.inl ⟨rfl, by omega⟩)))))))))
  · unfold cz_nk
    exact Or.inr (Or.inr (Or.inr (Or.inr (Or.inr (Or.inr (Or.inr (Or.inr (Or.inr (Or.inl ⟨rfl, by omega⟩)))))))))
theorem cz_op_parts : bz_op_parts cz_J := by
  rintro a b ha hb σ ⟨T, s, h, eq⟩
  have hF := h.1.1
  have hT := h.1.2.2.2.2.2.2.2.1
  have g5 := cz_t5 h
  by_cases q : b < 0 ∨ 1 < b
  · refine cz_rd (f := fun σ => fz_X10_parts 2000000 σ 1 a b) (g := fun σ => fz_X11_parts 2000000 σ 804 a b) h (r := -1) (v := 1) ?_ ?_
    · simp only [fz_X10_parts, fz_X10_refuse, Option.bind_some]
      rw [if_neg (by omega), if_neg (by omega)]
    · simp only [fz_X11_parts, fz_X11_refuse, fz_X11_isFrom]
      by_cases q' : b < 0
      · rw [if_pos q']; rfl
      · rw [if_neg q', if_pos (by omega)]; rfl
  have n1 : ¬ b < 0 := by omega
  have n2 : ¬ 1 < b := by omega
  have pX : fz_X10_parts 2000000 σ 1 a b = fz_X10_parts_15 2000000 σ 1 a b := by
    unfold fz_X10_parts
    by_cases b0 : b = 0
    · rw [if_pos b0]
    · rw [if_neg b0, if_pos (by omega)]
  by_cases qa : 0 ≤ a ∧ a < σ.2 T 1
  · have main : ∀ v, ∃ σm, σm = az_wr σ 1 2 v ∧ rz_C σ σm T s ∧ fz_X11_isFamily σm 804 a = some 1 := fun v => by
      obtain ⟨u1, k1, sM, eT, e375⟩ := tz_at (v := v) h (bz_Upd.refl (σ := σ))
      obtain ⟨C1, -⟩ := cz_rzC h u1
      have fM := cz_isFamM (e := a) k1
      rw [az_wr_ne (by omega), if_pos qa] at fM
      exact ⟨_, rfl, C1, fM⟩
    have q1 : ¬ a < 0 := by omega
    obtain ⟨τ, rfl, C0, F0⟩ := main 0
    rcases vz_part (f := a) C0 with ⟨p1, p2⟩ | ⟨i, j, i0, i1, j0, j1, p1, p2⟩
    · obtain ⟨τ, rfl, C5, F5⟩ := main 5
      rcases vz_part (f := a) C5 with ⟨r1, r2⟩ | ⟨i, j, i0, i1, j0, j1, r1, r2⟩
      · refine cz_rd (f := fun σ => fz_X10_parts 2000000 σ 1 a b) (g := fun σ => fz_X11_parts 2000000 σ 804 a b) h (r := -1) (v := 5) ?_ ?_
        · rw [pX]
          simp only [fz_X10_parts_15, fz_X10_refuse, g5, Option.bind_some, if_neg q1, if_pos qa.2, p1, if_true]
        · simp only [fz_X11_parts, fz_X11_refuse, fz_X11_isFrom, if_neg n1, if_neg n2, F5, r2, Option.bind_some, if_true]
          rw [if_neg (by decide), if_neg (by decide)]
      · rw [p1] at r1
        simp only [Option.some.injEq] at r1
        omega
    · have dv := vz_div i0 i1 j0 j1
      refine cz_rw (f := fun σ => fz_X10_parts 2000000 σ 1 a b) (g := fun σ => fz_X11_parts 2000000 σ 804 a b) h (r := if b = 0 then i else j) (v := 0) (σ' := σ) (σ'' := az_wr (az_wr (az_wr σ 1 2 0) 804 61 i) 804 62 j) bz_Upd.refl ?_ vz_nk ?_
      · rw [pX]
        simp only [fz_X10_parts_15, fz_X10_give, g5, Option.bind_some, if_neg q1, if_pos qa.2, p1, dv.1, dv.2]
        rw [if_neg (show ¬ i * 16 + j = -1 by omega)]
        by_cases b0 : b = 0
        · rw [if_pos b0, if_pos b0, if_neg (by decide)]
        · rw [if_neg b0, if_neg b0, if_neg (by decide)]
      · simp only [fz_X11_parts, fz_X11_gives, fz_X11_isFrom, if_neg n1, if_neg n2, F0, p2, Option.bind_some]
        rw [if_neg (by decide), if_neg (by decide), if_neg (by decide)]
        by_cases b0 : b = 0
        · rw [if_pos b0, if_pos b0, az_wr_ne (by omega), az_wr_same]
        · rw [if_neg b0, if_neg b0, az_wr_same]
  · have k1 := cz_K1 h 2
    have fM := cz_isFamM (e := a) k1
    rw [az_wr_ne (by omega), if_neg qa] at fM
    refine cz_rd (f := fun σ => fz_X10_parts 2000000 σ 1 a b) (g := fun σ => fz_X11_parts 2000000 σ 804 a b) h (r := -1) (v := 2) ?_ ?_
    · rw [pX]
      simp only [fz_X10_parts_15, fz_X10_refuse, g5, Option.bind_some]
      by_cases q : a < 0
      · rw [if_pos q]
      · rw [if_neg q, if_neg (by omega)]
    · simp only [fz_X11_parts, fz_X11_refuse, fz_X11_isFrom, if_neg n1, if_neg n2, fM, Option.bind_some]
      rw [if_neg (by decide), if_pos trivial]
