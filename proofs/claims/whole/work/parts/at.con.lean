/-! the rest of a head -/
section HT
variable {tp : Int → Int} {N : Int} {T s : Int} {J : Nat}
def ld_Ok (tp : Int → Int) (N T s : Int) (J : Nat) (x m : az_Hp) (j : Nat) (A B : Option (Int × az_Hp)) : Prop := ∃ (x' m' : az_Hp) (j' : Nat), A = some (1, x') ∧ B = some (1, m') ∧ ld_S tp N x' m' T s J j' ∧ bz_Upd x x' (ld_X T) ∧ bz_Upd m m' (ld_M s) ∧ j < j'
theorem ld_eats {x m : az_Hp} {j : Nat} (C : lx_Cur x m tp N J j) {c : Int} (hc : lx_sgn c = true) : fz_X11_eats 2000000 m 804 c = (if lx_kj tp N j = c then ((fz_X11_go 2000000 m 804).bind fun r2 => (some (1, r2))) else ((fz_X11_bad m 804 2).bind fun r3 => (if r3.1 = 0 ∨ r3.1 = 1 then some (r3.1, r3.2) else none))) := by
  unfold fz_X11_eats
  rw [lx_sign C hc, Option.bind_some]
  by_cases q : lx_kj tp N j = c
  · rw [if_pos q, if_neg (show ¬ (1 : Int) = 0 by decide), if_pos q]
  · rw [if_neg q, if_pos rfl, if_neg q]
theorem ld_conTail {x m : az_Hp} {j : Nat} {cl v w ar : Int} (h : ld_S tp N x m T s J j) (hk : lx_kj tp N j = 4) (h9 : m.2 804 9 = ar) (a0 : 0 ≤ ar) (a3 : ar ≤ 3) (wr : bz_WR 64 v w) (n8 : x.2 T 0 < 8) (new : ∀ k, 0 ≤ k → k < x.2 T 1 → x.2 (T + 3) k ≠ v) :
    ld_Bad T s x m (fz_X4_readHead_87 2000000 x 223 1 cl v ar) (fz_X11_readTold_132 2000000 m 804 1 cl (x.2 T 0) w ar 0) ∨ ld_Ok tp N T s J x m j (fz_X4_readHead_87 2000000 x 223 1 cl v ar) (fz_X11_readTold_132 2000000 m 804 1 cl (x.2 T 0) w ar 0) := by
  obtain ⟨⟨hX, hM⟩, hC, hL, h11⟩ := h
  obtain ⟨hT, hs, n15, ⟨n4, -⟩, ⟨t1, -⟩, -⟩ := hL.1
  have l809 := ln_809 hM
  obtain ⟨q, hq⟩ : ∃ q, q = az_wr (az_wr (az_wr m 809 (8 * s + x.2 T 0) w) 811 (8 * s + x.2 T 0) ar) 806 s (x.2 T 0 + 1) := ⟨_, rfl⟩
  have ua : bz_Upd m (az_wr m 809 (8 * s + x.2 T 0) w) (fun a k => ((a = 809 ∨ a = 811) ∧ k = 8 * s + x.2 T 0) ∨ (a = 806 ∧ k = s)) := bz_Upd.wr bz_Upd.refl (Or.inl ⟨Or.inl rfl, rfl⟩) (by unfold bz_isFix; simp [bz_cap, bz_fixL, bz_rowsL])
  have ub : bz_Upd m (az_wr (az_wr m 809 (8 * s + x.2 T 0) w) 811 (8 * s + x.2 T 0) ar) (fun a k => ((a = 809 ∨ a = 811) ∧ k = 8 * s + x.2 T 0) ∨ (a = 806 ∧ k = s)) := bz_Upd.wr ua (Or.inl ⟨Or.inr rfl, rfl⟩) (by unfold bz_isFix; simp [bz_cap, bz_fixL, bz_rowsL])
  have uq : bz_Upd m q (fun a k => ((a = 809 ∨ a = 811) ∧ k = 8 * s + x.2 T 0) ∨ (a = 806 ∧ k = s)) := by rw [hq]; exact bz_Upd.wr ub (Or.inr ⟨rfl, rfl⟩) (by unfold bz_isFix; simp [bz_cap, bz_fixL, bz_rowsL])
  have hMa := hM.upd ua
  have hMb := hM.upd ub
  have Cq : lx_Cur x q tp N J j := hC.upd (bz_Upd.refl (S := fun _ _ => False)) uq (fun a k z => z.elim) (fun a k z => by unfold lx_KM; omega)
  obtain ⟨x1, m1, a1, a2, C1, a4, a5⟩ := lx_next hX (hM.upd uq) Cq (by omega) (by omega)
  have hX1 := hX.upd a4
  have h8 : x1.2 223 8 = lx_kj tp N (j + 1) := C1.2.2.1.2.1
  have g11 : az_gref x1 223 11 = some T := bz_gr (by rw [a4.2.2 223 11 (fun z => by unfold lx_nX at z; omega)]; exact h11) (by omega)
  have x1T : ∀ a k, T ≤ a → a ≤ T + 78 → x1.2 a k = x.2 a k := fun a k p r => a4.2.2 a k (fun z => by unfold lx_nX at z; omega)
  have runM : fz_X11_readTold_132 2000000 m 804 1 cl (x.2 T 0) w ar 0 = ((fz_X11_eats 2000000 m1 804 59).bind fun r22 => (if r22.1 = 0 ∨ r22.1 = 1 then some (r22.1, r22.2) else none)) := by
    have e15a : (az_wr m 809 (8 * s + x.2 T 0) w).2 804 15 = s := by rw [az_wr_ne (by omega)]; exact n15
    have e15b : (az_wr (az_wr m 809 (8 * s + x.2 T 0) w) 811 (8 * s + x.2 T 0) ar).2 804 15 = s := by rw [az_wr_ne (by omega)]; exact e15a
    have e9 : (az_wr m 809 (8 * s + x.2 T 0) w).2 804 9 = ar := by rw [az_wr_ne (by omega)]; exact h9
    have e806 : (az_wr (az_wr m 809 (8 * s + x.2 T 0) w) 811 (8 * s + x.2 T 0) ar).2 806 s = x.2 T 0 := by rw [az_wr_ne (by omega), az_wr_ne (by omega)]; exact n4.symm
    unfold fz_X11_readTold_132 fz_X11_isFrom
    rw [if_neg (by omega), if_neg (by omega), Option.bind_some, if_neg (show ¬ (1 : Int) = 0 by decide), if_neg (show ¬ (1 : Int) = 0 by decide), fx_804_19 hM, Option.bind_some, n15, az_w32_id (z := 8 * s) (by omega) (by omega), az_w32_id (z := 8 * s + x.2 T 0) (by omega) (by omega), bz_awr (by omega) (by omega), Option.bind_some, fx_804_21 hMa, Option.bind_some, e15a, az_w32_id (z := 8 * s) (by omega) (by omega), az_w32_id (z := 8 * s + x.2 T 0) (by omega) (by omega), e9, bz_awr (by omega) (by rw [ln_811 hMa]; omega), Option.bind_some, fx_804_16 hMb, Option.bind_some, e15b, bz_ard (by omega) (by rw [ln_806 hMb]; omega), Option.bind_some, e806, az_w32_id (z := x.2 T 0 + 1) (by omega) (by omega), bz_awr (by omega) (by rw [ln_806 hMb]; omega), Option.bind_some, ← hq, a2, Option.bind_some]
  have runX : fz_X4_readHead_87 2000000 x 223 1 cl v ar = (if lx_kj tp N (j + 1) = 59 then ((fz_X9_addCon x1 T v ar).bind fun r5 => ((fz_X4_next r5 223).bind fun r6 => (some (1, r6)))) else ((fz_X4_fail x1 223 2).bind fun r7 => (if r7.1 = 0 ∨ r7.1 = 1 then some (r7.1, r7.2) else none))) := by
    unfold fz_X4_readHead_87
    rw [a1, Option.bind_some, if_neg (show ¬ (1 : Int) = 2 by decide)]
    unfold fz_X4_readHead_110
    rw [if_pos rfl]
    unfold fz_X4_readHead_121
    rw [h8, if_pos rfl, g11, Option.bind_some]
  have ux1 : bz_Upd x x1 (ld_X T) := a4.weak fun a k z => Or.inr (Or.inl (by unfold lx_nX at z; omega))
  have um1 : bz_Upd m m1 (ld_M s) := (uq.weak fun a k z => Or.inr (by omega)).trans (a5.weak fun a k z => Or.inl (by unfold lx_S at z; omega))
  rw [runX, runM, ld_eats C1 (by decide)]
  by_cases c59 : lx_kj tp N (j + 1) = 59
  · right
    have t0 : x1.2 T 0 = x.2 T 0 := x1T T 0 (by omega) (by omega)
    have ad := ld_addCon (v := v) hX1 hT (by omega) (by omega) a0 a3
    rw [t0] at ad
    obtain ⟨x2, hx2⟩ : ∃ x2, x2 = az_wr (az_wr (az_wr x1 (T + 1) (x.2 T 0) v) (T + 2) (x.2 T 0) (x.2 T 0 * 16 + ar * 4 + 1)) T 0 (x.2 T 0 + 1) := ⟨_, rfl⟩
    have fa : ∀ k, bz_isFix (T + 1) k = false ∧ bz_isFix (T + 2) k = false ∧ bz_isFix T 0 = false := fun k => by
      rcases hT with rfl | rfl
      · exact ⟨by unfold bz_isFix; simp [bz_cap, bz_fixL, bz_rowsL], by unfold bz_isFix; simp [bz_cap, bz_fixL, bz_rowsL], by decide⟩
      · exact ⟨by unfold bz_isFix; simp [bz_cap, bz_fixL, bz_rowsL], by unfold bz_isFix; simp [bz_cap, bz_fixL, bz_rowsL], by decide⟩
    have u2 : bz_Upd x1 x2 (fun a k => T ≤ a ∧ a ≤ T + 2) := by
      rw [hx2]
      exact bz_Upd.wr (bz_Upd.wr (bz_Upd.wr bz_Upd.refl ⟨by omega, by omega⟩ (fa _).1) ⟨by omega, by omega⟩ (fa _).2.1) ⟨by omega, by omega⟩ (fa 0).2.2
    have C2 : lx_Cur x2 m1 tp N J (j + 1) := C1.upd u2 (bz_Upd.refl (S := fun _ _ => False)) (fun a k z => by unfold lx_KX; omega) (fun a k z => z.elim)
    obtain ⟨x3, m3, b1, b2, C3, b4, b5⟩ := lx_next (hX1.upd u2) ((hM.upd uq).upd a5) C2 (by omega) (by omega)
    have x3T : ∀ a k, T ≤ a → a ≤ T + 78 → x3.2 a k = x2.2 a k := fun a k p r => b4.2.2 a k (fun z => by unfold lx_nX at z; omega)
    have m3M : ∀ a k, 806 ≤ a → a ≤ 819 → m3.2 a k = q.2 a k := fun a k p r => by
      rw [b5.2.2 a k (fun z => by unfold lx_S at z; omega), a5.2.2 a k (fun z => by unfold lx_S at z; omega)]
    refine ⟨x3, m3, j + 1 + 1, ?_, ?_, ⟨⟨(hX1.upd u2).upd b4, ((hM.upd uq).upd a5).upd b5⟩, C3, ?_, ?_⟩, (ux1.trans (u2.weak fun a k z => Or.inl (by omega))).trans (b4.weak fun a k z => Or.inr (Or.inl (by unfold lx_nX at z; omega))), um1.trans (b5.weak fun a k z => Or.inl (by unfold lx_S at z; omega)), by omega⟩
    · rw [if_pos c59, ad, Option.bind_some, ← hx2, b1, Option.bind_some]
    · rw [if_pos c59, b2, Option.bind_some, rd_wrap]
    · refine ld_con hL n8 wr a0 a3 new ?_ ?_ ?_ (fun a k p r n1 n2 => ?_) ?_ ?_ ?_ (fun a k p r n1 n2 => ?_) ?_
      · rw [x3T T 0 (by omega) (by omega), hx2, az_wr_same]
      · rw [x3T (T + 1) _ (by omega) (by omega), hx2, az_wr_ne (by omega), az_wr_ne (by omega), az_wr_same]
      · rw [x3T (T + 2) _ (by omega) (by omega), hx2, az_wr_ne (by omega), az_wr_same]
      · rw [x3T a k p r, hx2, az_wr_ne (by omega), az_wr_ne (by omega), az_wr_ne (by omega)]; exact x1T a k p r
      · rw [m3M 806 s (by omega) (by omega), hq, az_wr_same]
      · rw [m3M 809 _ (by omega) (by omega), hq, az_wr_ne (by omega), az_wr_ne (by omega), az_wr_same]
      · rw [m3M 811 _ (by omega) (by omega), hq, az_wr_ne (by omega), az_wr_same]
      · rw [m3M a k p r, hq, az_wr_ne (by omega), az_wr_ne (by omega), az_wr_ne (by omega)]
      · rw [b5.2.2 804 15 (fun z => by unfold lx_S at z; omega), a5.2.2 804 15 (fun z => by unfold lx_S at z; omega), uq.2.2 804 15 (fun z => by omega)]
    · rw [b4.2.2 223 11 (fun z => by unfold lx_nX at z; omega), u2.2.2 223 11 (fun z => by omega), a4.2.2 223 11 (fun z => by unfold lx_nX at z; omega)]; exact h11
  · left
    rw [if_neg c59, if_neg c59]
    obtain ⟨x3, m3, d1, d2, d3, d4, d5⟩ := ld_bad (T := T) (s := s) C1 2
    exact ld_Bad.from ux1 um1 ⟨x3, m3, d1, by rw [d2, rd_wrap0], d3, d4, d5⟩
end HT
