/-! feed -/
theorem bz_awz {σ : az_Hp} {a i x : Int} (h0 : 0 ≤ i) (h1 : i < az_ln σ a) (hx : x = 0 ∨ x = 1) : az_awz σ a i x = some (az_wr σ a i x) := if_pos ⟨⟨h0, h1⟩, hx⟩
def bz_by (v s : Int) : Int := az_iandV (az_iushrV v s) 255
/-- four bytes behind the tape's t -/
def bz_p4 (σ : az_Hp) (M A t v : Int) : az_Hp :=
  az_wr (az_wr (az_wr (az_wr (az_wr (az_wr (az_wr (az_wr σ A t (bz_by v 24)) M 1 (t + 1)) A (t + 1) (bz_by v 16)) M 1 (t + 1 + 1)) A (t + 1 + 1) (bz_by v 8)) M 1 (t + 1 + 1 + 1)) A (t + 1 + 1 + 1) (bz_by v 0)) M 1 (t + 1 + 1 + 1 + 1)
theorem bz_p4_fx {σ : az_Hp} {t v : Int} (h : bz_Fx σ) : bz_Fx (bz_p4 σ 1 2 t v) ∧ bz_Fx (bz_p4 σ 804 805 t v) := by
  constructor
  · refine h.upd (S := fun _ _ => True) ?_
    unfold bz_p4
    repeat' first | exact bz_Upd.refl | refine bz_Upd.wr ?_ trivial ?_
    all_goals (unfold bz_isFix; simp [bz_cap, bz_fixL, bz_rowsL])
  · refine h.upd (S := fun _ _ => True) ?_
    unfold bz_p4
    repeat' first | exact bz_Upd.refl | refine bz_Upd.wr ?_ trivial ?_
    all_goals (unfold bz_isFix; simp [bz_cap, bz_fixL, bz_rowsL])
theorem bz_p4_at {σ : az_Hp} {M A t v a k : Int} (hA : A ≠ M) : (bz_p4 σ M A t v).2 a k = if a = M ∧ k = 1 then t + 4 else if a = A ∧ t ≤ k ∧ k < t + 4 then bz_by v (24 - 8 * (k - t)) else σ.2 a k := by
  unfold bz_p4
  simp only [az_wr]
  by_cases h1 : a = M ∧ k = 1
  · rw [if_pos h1, if_pos h1]; omega
  · simp only [if_neg h1]
    by_cases h2 : a = A ∧ t ≤ k ∧ k < t + 4
    · rw [if_pos h2]
      obtain ⟨rfl, h3, h4⟩ := h2
      have : k = t ∨ k = t + 1 ∨ k = t + 1 + 1 ∨ k = t + 1 + 1 + 1 := by omega
      rcases this with h | h | h | h
      · rw [if_neg (by omega), if_neg (by omega), if_neg (by omega), if_pos (by omega)]; congr 1; omega
      · rw [if_neg (by omega), if_neg (by omega), if_pos (by omega)]; congr 1; omega
      · rw [if_neg (by omega), if_pos (by omega)]; congr 1; omega
      · rw [if_pos (by omega)]; congr 1; omega
    · rw [if_neg h2]
      repeat' rw [if_neg (by omega)]
theorem bz_p4_st {σ : az_Hp} {M A t v : Int} : (bz_p4 σ M A t v).1 = σ.1 := rfl
theorem bz_putInt {σ : az_Hp} {t v : Int} (hF : bz_Fx σ) (ht : σ.2 1 1 = t) (h0 : 0 ≤ t) (h1 : t + 4 ≤ 900) : fz_X10_putInt 2000000 σ 1 v = some (bz_p4 σ 1 2 t v) := by
  have hl := ln_2 hF
  have hg := fx_1_0 hF
  unfold fz_X10_putInt
  iterate 5 (
    unfold fz_X10_putInt_3
    simp (disch := first | omega | (simp only [bz_ln_wr]; omega) | fail) only [if_pos, if_neg, bz_gref_wr, az_wr_same, az_wr_ne, bz_ard, bz_awr, bz_awz, az_w32_id, Option.bind_some, Int.reduceAdd, Int.reduceNeg, Int.reduceSub, Int.reduceMul, ht, hg])
  rfl
theorem bz_come {σ : az_Hp} {t v : Int} (hF : bz_Fx σ) (ht : σ.2 804 1 = t) (h0 : 0 ≤ t) (h1 : t + 4 ≤ 900) : fz_X11_come 2000000 σ 804 v = some (bz_p4 σ 804 805 t v) := by
  have hl := ln_805 hF
  have hg := fx_804_0 hF
  unfold fz_X11_come
  iterate 5 (
    unfold fz_X11_come_3
    simp (disch := first | omega | (simp only [bz_ln_wr]; omega) | fail) only [if_pos, if_neg, bz_gref_wr, az_wr_same, az_wr_ne, bz_ard, bz_awr, bz_awz, az_w32_id, Option.bind_some, Int.reduceAdd, Int.reduceNeg, Int.reduceSub, Int.reduceMul, ht, hg])
  rfl
def bz_p20 (σ : az_Hp) (M A t a b c d e : Int) : az_Hp := bz_p4 (bz_p4 (bz_p4 (bz_p4 (bz_p4 σ M A t a) M A (t + 4) b) M A (t + 8) c) M A (t + 12) d) M A (t + 16) e
theorem bz_p4_1 {σ : az_Hp} {M A t v : Int} (hA : A ≠ M) : (bz_p4 σ M A t v).2 M 1 = t + 4 := by rw [bz_p4_at hA, if_pos ⟨rfl, rfl⟩]
theorem bz_feedX {σ : az_Hp} {t a b c d e : Int} (hF : bz_Fx σ) (ht : σ.2 1 1 = t) (h0 : 0 ≤ t) (h1 : t ≤ 900) : fz_X10_feed 2000000 σ 1 a b c d e = if 900 < t + 20 then some (-1, σ) else some (t + 20, bz_p20 σ 1 2 t a b c d e) := by
  unfold fz_X10_feed
  rw [ht, az_w32_id (by omega) (by omega)]
  by_cases h : 900 < t + 20
  · rw [if_pos h, if_pos h]
  rw [if_neg h, if_neg h]
  have hF1 := (bz_p4_fx (t := t) (v := a) hF).1
  have hF2 := (bz_p4_fx (t := t + 4) (v := b) hF1).1
  have hF3 := (bz_p4_fx (t := t + 8) (v := c) hF2).1
  have hF4 := (bz_p4_fx (t := t + 12) (v := d) hF3).1
  rw [bz_putInt hF ht h0 (by omega), Option.bind_some, bz_putInt (t := t + 4) hF1 (bz_p4_1 (by decide)) (by omega) (by omega), Option.bind_some,
    bz_putInt (t := t + 8) hF2 ((bz_p4_1 (by decide)).trans (by omega)) (by omega) (by omega), Option.bind_some, bz_putInt (t := t + 12) hF3 ((bz_p4_1 (by decide)).trans (by omega)) (by omega) (by omega), Option.bind_some,
    bz_putInt (t := t + 16) hF4 ((bz_p4_1 (by decide)).trans (by omega)) (by omega) (by omega), Option.bind_some, bz_p4_1 (by decide)]
  unfold bz_p20
  congr 2
  omega
theorem bz_feedM {σ : az_Hp} {t a b c d e : Int} (hF : bz_Fx σ) (ht : σ.2 804 1 = t) (h0 : 0 ≤ t) (h1 : t ≤ 900) : fz_X11_feed 2000000 σ 804 a b c d e = if 900 < t + 20 then some (-1, σ) else some (t + 20, bz_p20 σ 804 805 t a b c d e) := by
  unfold fz_X11_feed
  rw [ht, az_w32_id (by omega) (by omega)]
  by_cases h : 900 < t + 20
  · rw [if_pos h, if_pos h]
  rw [if_neg h, if_neg h]
  have hF1 := (bz_p4_fx (t := t) (v := a) hF).2
  have hF2 := (bz_p4_fx (t := t + 4) (v := b) hF1).2
  have hF3 := (bz_p4_fx (t := t + 8) (v := c) hF2).2
  have hF4 := (bz_p4_fx (t := t + 12) (v := d) hF3).2
  rw [bz_come hF ht h0 (by omega), Option.bind_some, bz_come (t := t + 4) hF1 (bz_p4_1 (by decide)) (by omega) (by omega), Option.bind_some,
    bz_come (t := t + 8) hF2 ((bz_p4_1 (by decide)).trans (by omega)) (by omega) (by omega), Option.bind_some, bz_come (t := t + 12) hF3 ((bz_p4_1 (by decide)).trans (by omega)) (by omega) (by omega), Option.bind_some,
    bz_come (t := t + 16) hF4 ((bz_p4_1 (by decide)).trans (by omega)) (by omega) (by omega), Option.bind_some, bz_p4_1 (by decide)]
  unfold bz_p20
  congr 2
  omega
theorem bz_p20_at {σ : az_Hp} {M A t a b c d e x k : Int} (hA : A ≠ M) : (bz_p20 σ M A t a b c d e).2 x k = if x = M ∧ k = 1 then t + 20 else if x = A ∧ t ≤ k ∧ k < t + 20 then bz_by (if k < t + 4 then a else if k < t + 8 then b else if k < t + 12 then c else if k < t + 16 then d else e) (24 - 8 * ((k - t) % 4)) else σ.2 x k := by
  unfold bz_p20
  simp only [bz_p4_at hA]
  by_cases h1 : x = M ∧ k = 1
  · simp only [h1, and_self, if_true]; omega
  · simp only [if_neg h1]
    by_cases h2 : x = A ∧ t ≤ k ∧ k < t + 20
    · rw [if_pos h2]
      by_cases c4 : k < t + 4
      · rw [if_neg (by omega), if_neg (by omega), if_neg (by omega), if_neg (by omega), if_pos (by omega), if_pos c4]; congr 1; omega
      by_cases c8 : k < t + 8
      · rw [if_neg (by omega), if_neg (by omega), if_neg (by omega), if_pos (by omega), if_neg c4, if_pos c8]; congr 1; omega
      by_cases c12 : k < t + 12
      · rw [if_neg (by omega), if_neg (by omega), if_pos (by omega), if_neg c4, if_neg c8, if_pos c12]; congr 1; omega
      by_cases c16 : k < t + 16
      · rw [if_neg (by omega), if_pos (by omega), if_neg c4, if_neg c8, if_neg c12, if_pos c16]; congr 1; omega
      · rw [if_pos (by omega), if_neg c4, if_neg c8, if_neg c12, if_neg c16]; congr 1; omega
    · repeat' rw [if_neg (by omega)]
theorem bz_p20_st {σ : az_Hp} {M A t a b c d e : Int} : (bz_p20 σ M A t a b c d e).1 = σ.1 := by
  unfold bz_p20
  rw [bz_p4_st, bz_p4_st, bz_p4_st, bz_p4_st, bz_p4_st]
theorem bz_p20_upd {σ : az_Hp} {t a b c d e : Int} : bz_Upd σ (bz_p20 σ 1 2 t a b c d e) (fun x _ => x = 1 ∨ x = 2) ∧ bz_Upd σ (bz_p20 σ 804 805 t a b c d e) (fun x _ => x = 804 ∨ x = 805) := by
  refine ⟨⟨bz_p20_st, ?_, ?_⟩, ⟨bz_p20_st, ?_, ?_⟩⟩
  · intro x k h
    rw [bz_p20_at (by decide)]
    have h1 : ¬ (x = 1 ∧ k = 1) := by rintro ⟨rfl, rfl⟩; revert h; unfold bz_isFix; simp [bz_cap, bz_fixL, bz_rowsL]
    have h2 : ¬ (x = 2) := by rintro rfl; revert h; unfold bz_isFix; simp [bz_cap, bz_fixL, bz_rowsL]
    rw [if_neg h1, if_neg (fun q => h2 q.1)]
  · intro x k h
    rw [bz_p20_at (by decide), if_neg (by omega), if_neg (by omega)]
  · intro x k h
    rw [bz_p20_at (by decide)]
    have h1 : ¬ (x = 804 ∧ k = 1) := by rintro ⟨rfl, rfl⟩; revert h; unfold bz_isFix; simp [bz_cap, bz_fixL, bz_rowsL]
    have h2 : ¬ (x = 805) := by rintro rfl; revert h; unfold bz_isFix; simp [bz_cap, bz_fixL, bz_rowsL]
    rw [if_neg h1, if_neg (fun q => h2 q.1)]
  · intro x k h
    rw [bz_p20_at (by decide), if_neg (by omega), if_neg (by omega)]
theorem bz_and255 (y : Int32) : 0 ≤ (y &&& 255).toInt ∧ (y &&& 255).toInt ≤ 255 := by
  have h : (y &&& 255).toBitVec.toNat ≤ 255 := by rw [Int32.toBitVec_and, BitVec.toNat_and]; exact Nat.and_le_right
  have e : (y &&& 255).toInt = (y &&& 255).toBitVec.toInt := rfl
  rw [e, BitVec.toInt_eq_toNat_of_lt (by omega)]; omega
theorem bz_by_rng {v s : Int} : 0 ≤ bz_by v s ∧ bz_by v s ≤ 255 := bz_and255 _
