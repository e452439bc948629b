/-! feed -/
def bz_by (v s : Int) : Int := az_iandV (az_iushrV v s) 255
/-- four bytes behind the tape's t -/
def bz_p4 (σ : az_Hp) (M A t v : Int) : az_Hp :=
  az_wr (az_wr (az_wr (az_wr (az_wr (az_wr (az_wr (az_wr σ A t (bz_by v 24)) M 1 (t + 1)) A (t + 1) (bz_by v 16)) M 1 (t + 2)) A (t + 2) (bz_by v 8)) M 1 (t + 3)) A (t + 3) (bz_by v 0)) M 1 (t + 4)
theorem bz_p4_fx {σ : az_Hp} {t v : Int} (h : bz_Fx σ) : bz_Fx (bz_p4 σ 1 2 t v) ∧ bz_Fx (bz_p4 σ 804 805 t v) := by
  constructor
  · refine h.upd (S := fun _ _ => True) ?_
    unfold bz_p4
    repeat' first | exact bz_Upd.refl | refine bz_Upd.wr ?_ trivial ?_
    all_goals (unfold bz_isFix; simp [bz_cap, bz_fixL, bz_rowsL])
  · refine h.upd (S := fun _ _ => True) ?_
    unfold bz_p4
    repeat' first | exact bz_Upd.refl | refine bz_Upd.wr ?_ trivial ?_
    all_goals (unfold bz_isFix; simp [bz_cap, bz_fixL, bz_rowsL])
theorem bz_putInt {σ : az_Hp} {t v : Int} (hF : bz_Fx σ) (ht : σ.2 1 1 = t) (h0 : 0 ≤ t) (h1 : t + 4 ≤ 900) : fz_X10_putInt 2000000 σ 1 v = some (bz_p4 σ 1 2 t v) := by
  have hl := ln_2 hF
  have hg := fx_1_0 hF
  unfold fz_X10_putInt
  iterate 5 (
    unfold fz_X10_putInt_3
    simp (disch := ((try simp only [bz_ln_wr]) <;> omega)) only [if_pos, if_neg, ht, hg, bz_gref_wr, az_wr_same, az_wr_ne, bz_awr, az_w32_id, Option.bind_some, Int.reduceAdd, Int.reduceNeg])
  rfl
