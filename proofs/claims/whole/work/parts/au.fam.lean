/-! a family is told -/
section HF
variable {tp : Int → Int} {N : Int} {T s : Int} {J : Nat}
theorem ld_famTail {x m : az_Hp} {j : Nat} {cl v w ar : Int} (h : ld_S tp N x m T s J j) (hk : lx_kj tp N j = 4) (h9 : m.2 804 9 = ar) (a0 : 1 ≤ ar) (a3 : ar ≤ 3) (hcl : cl = 0 ∨ cl = 1) (wr : bz_WR 64 v w) (n5 : x.2 T 1 < 5) (new : ∀ k, 0 ≤ k → k < x.2 T 0 → x.2 (T + 1) k ≠ v) :
    ld_Bad T s x m (fz_X4_readHead_87 2000000 x 223 2 cl v ar) (fz_X11_readTold_132 2000000 m 804 0 cl (x.2 T 1) w ar 1) ∨ ld_Ok tp N T s J x m j (fz_X4_readHead_87 2000000 x 223 2 cl v ar) (fz_X11_readTold_132 2000000 m 804 0 cl (x.2 T 1) w ar 1) := by
  obtain ⟨⟨hX, hM⟩, hC, hL, h11⟩ := h
  obtain ⟨hT, hs, n15, ⟨-, n4⟩, ⟨-, -, t3, -⟩, -⟩ := hL.1
  have l810 := ln_810 hM
  obtain ⟨q, hq⟩ : ∃ q, q = az_wr (az_wr (az_wr m 810 (5 * s + x.2 T 1) w) 812 (5 * s + x.2 T 1) ar) 813 (5 * s + x.2 T 1) cl := ⟨_, rfl⟩
  have ua : bz_Upd m (az_wr m 810 (5 * s + x.2 T 1) w) (fun a k => (a = 810 ∨ a = 812 ∨ a = 813) ∧ k = 5 * s + x.2 T 1) := bz_Upd.wr bz_Upd.refl ⟨Or.inl rfl, rfl⟩ (by unfold bz_isFix; simp [bz_cap, bz_fixL, bz_rowsL])
  have ub : bz_Upd m (az_wr (az_wr m 810 (5 * s + x.2 T 1) w) 812 (5 * s + x.2 T 1) ar) (fun a k => (a = 810 ∨ a = 812 ∨ a = 813) ∧ k = 5 * s + x.2 T 1) := bz_Upd.wr ua ⟨Or.inr (Or.inl rfl), rfl⟩ (by unfold bz_isFix; simp [bz_cap, bz_fixL, bz_rowsL])
  have uq : bz_Upd m q (fun a k => (a = 810 ∨ a = 812 ∨ a = 813) ∧ k = 5 * s + x.2 T 1) := by rw [hq]; exact bz_Upd.wr ub ⟨Or.inr (Or.inr rfl), rfl⟩ (by unfold bz_isFix; simp [bz_cap, bz_fixL, bz_rowsL])
  have hMa := hM.upd ua
  have hMb := hM.upd ub
  have hQ := hM.upd uq
  have Cq : lx_Cur x q tp N J j := hC.upd (bz_Upd.refl (S := fun _ _ => False)) uq (fun a k z => z.elim) (fun a k z => by unfold lx_KM; omega)
  obtain ⟨x1, m1, a1, a2, C1, a4, a5⟩ := lx_next hX hQ Cq (by omega) (by omega)
  have hX1 := hX.upd a4
  have hM1 := hQ.upd a5
  obtain ⟨b, hb⟩ : ∃ b : Int, b = if lx_kj tp N (j + 1) = 3 ∧ lx_vj tp N (j + 1) = rd_W 3 then 1 else 0 := ⟨_, rfl⟩
  have b01 : b = 0 ∨ b = 1 := by rw [hb]; split <;> omega
  have iw := rd_isWord C1 (k := 3) (by omega) (by omega)
  rw [← hb, rd_Wv.2.2.2.1] at iw
  have m115 : m1.2 804 15 = s := by rw [a5.2.2 804 15 (fun z => by unfold lx_S at z; omega), uq.2.2 804 15 (fun z => by omega)]; exact n15
  have uB : bz_Upd m1 (az_wr m1 814 (5 * s + x.2 T 1) b) (fun a k => a = 814 ∧ k = 5 * s + x.2 T 1) := bz_Upd.wr bz_Upd.refl ⟨rfl, rfl⟩ (by unfold bz_isFix; simp [bz_cap, bz_fixL, bz_rowsL])
  obtain ⟨mB, hmB⟩ : ∃ mB, mB = az_wr m1 814 (5 * s + x.2 T 1) b := ⟨_, rfl⟩
  rw [← hmB] at uB
  have hMB := hM1.upd uB
  have CB : lx_Cur x1 mB tp N J (j + 1) := C1.upd (bz_Upd.refl (S := fun _ _ => False)) uB (fun a k z => z.elim) (fun a k z => by unfold lx_KM; omega)
  have iwB := (rd_isWord CB (k := 3) (by omega) (by omega)).2
  rw [← hb] at iwB
  have runM : fz_X11_readTold_132 2000000 m 804 0 cl (x.2 T 1) w ar 1 = (if b = 0 then fz_X11_readTold_287 2000000 mB 804 else ((fz_X11_go 2000000 mB 804).bind fun r13 => fz_X11_readTold_287 2000000 r13 804)) := by
    have e15a : (az_wr m 810 (5 * s + x.2 T 1) w).2 804 15 = s := by rw [az_wr_ne (by omega)]; exact n15
    have e15b : (az_wr (az_wr m 810 (5 * s + x.2 T 1) w) 812 (5 * s + x.2 T 1) ar).2 804 15 = s := by rw [az_wr_ne (by omega)]; exact e15a
    have e9 : (az_wr m 810 (5 * s + x.2 T 1) w).2 804 9 = ar := by rw [az_wr_ne (by omega)]; exact h9
    have w5 : az_w32 (5 * s) = 5 * s := az_w32_id (by omega) (by omega)
    have w6 : az_w32 (5 * s + x.2 T 1) = 5 * s + x.2 T 1 := az_w32_id (by omega) (by omega)
    unfold fz_X11_readTold_132 fz_X11_isFrom
    rw [if_neg (by omega), if_neg (by omega), Option.bind_some, if_neg (show ¬ (1 : Int) = 0 by decide), if_pos rfl, fx_804_20 hM, Option.bind_some, n15, w5, w6, bz_awr (by omega) (by omega), Option.bind_some, fx_804_22 hMa, Option.bind_some, e15a, w5, w6, e9, bz_awr (by omega) (by rw [ln_812 hMa]; omega), Option.bind_some, fx_804_23 hMb, Option.bind_some, e15b, w5, w6, bz_awz (by omega) (by rw [ln_813 hMb]; omega) hcl, Option.bind_some, ← hq, a2, Option.bind_some, fx_804_24 hM1, Option.bind_some, iw.2, Option.bind_some, m115, w5, w6, bz_awz (by omega) (by rw [ln_814 hM1]; omega) b01, Option.bind_some, ← hmB, iwB, Option.bind_some]
  have runX : fz_X4_readHead_87 2000000 x 223 2 cl v ar = fz_X4_readHead_110 2000000 x1 223 2 cl v ar b := by
    unfold fz_X4_readHead_87
    rw [a1, Option.bind_some, if_pos rfl, iw.1, Option.bind_some]
    rcases b01 with z | z
    · rw [if_pos z, z]
    · rw [if_neg (show ¬ b = 0 by omega), z]
  obtain ⟨x2, m2, j2, jj, e1, e2, C2, u2, v2⟩ : ∃ (x2 m2 : az_Hp) (j2 : Nat), j < j2 ∧ fz_X4_readHead_110 2000000 x1 223 2 cl v ar b = fz_X4_readHead_121 2000000 x2 223 2 cl v ar b ∧ (if b = 0 then fz_X11_readTold_287 2000000 mB 804 else ((fz_X11_go 2000000 mB 804).bind fun r13 => fz_X11_readTold_287 2000000 r13 804)) = fz_X11_readTold_287 2000000 m2 804 ∧ lx_Cur x2 m2 tp N J j2 ∧ bz_Upd x1 x2 lx_nX ∧ bz_Upd mB m2 lx_S := by
    unfold fz_X4_readHead_110
    by_cases z : b = 0
    · exact ⟨x1, mB, j + 1, by omega, by rw [if_pos z], by rw [if_pos z], CB, bz_Upd.refl, bz_Upd.refl⟩
    · have k3 : lx_kj tp N (j + 1) = 3 := by
        by_cases c : lx_kj tp N (j + 1) = 3 ∧ lx_vj tp N (j + 1) = rd_W 3
        · exact c.1
        · rw [if_neg c] at hb; exact absurd hb z
      obtain ⟨x2, m2, f1, f2, f3, f4, f5⟩ := lx_next hX1 hMB CB (by omega) (by omega)
      exact ⟨x2, m2, j + 1 + 1, by omega, by rw [if_neg z, f1, Option.bind_some], by rw [if_neg z, f2, Option.bind_some], f3, f4, f5⟩
  have hX2 := hX1.upd u2
  have hM2 := hMB.upd v2
  have m2k : ∀ a k, a ≠ 804 → m2.2 a k = mB.2 a k := fun a k p => v2.2.2 a k (fun z => by unfold lx_S at z; omega)
  have m215 : m2.2 804 15 = s := by rw [v2.2.2 804 15 (fun z => by unfold lx_S at z; omega), uB.2.2 804 15 (fun z => by omega)]; exact m115
  have m807 : m2.2 807 s = x.2 T 1 := by
    rw [m2k 807 s (by omega), uB.2.2 807 s (by omega), a5.2.2 807 s (fun z => by unfold lx_S at z; omega), uq.2.2 807 s (fun z => by omega)]; exact n4.symm
  obtain ⟨mC, hmC⟩ : ∃ mC, mC = az_wr m2 807 s (x.2 T 1 + 1) := ⟨_, rfl⟩
  have uC : bz_Upd m2 mC (fun a k => a = 807 ∧ k = s) := by rw [hmC]; exact bz_Upd.wr bz_Upd.refl ⟨rfl, rfl⟩ (by unfold bz_isFix; simp [bz_cap, bz_fixL, bz_rowsL])
  have CC : lx_Cur x2 mC tp N J j2 := C2.upd (bz_Upd.refl (S := fun _ _ => False)) uC (fun a k z => z.elim) (fun a k z => by unfold lx_KM; omega)
  have hMC := hM2.upd uC
  have r287 : fz_X11_readTold_287 2000000 m2 804 = ((fz_X11_eats 2000000 mC 804 59).bind fun r4 => (if r4.1 = 0 ∨ r4.1 = 1 then some (r4.1, r4.2) else none)) := by
    unfold fz_X11_readTold_287
    rw [fx_804_17 hM2, Option.bind_some, m215, bz_ard (by omega) (by rw [ln_807 hM2]; omega), Option.bind_some, m807, az_w32_id (z := x.2 T 1 + 1) (by omega) (by omega), bz_awr (by omega) (by rw [ln_807 hM2]; omega), Option.bind_some, ← hmC]
  have h8 : x2.2 223 8 = lx_kj tp N j2 := C2.2.2.1.2.1
  have x2T : ∀ a k, T ≤ a → a ≤ T + 78 → x2.2 a k = x.2 a k := fun a k p r => by
    rw [u2.2.2 a k (fun z => by unfold lx_nX at z; omega), a4.2.2 a k (fun z => by unfold lx_nX at z; omega)]
  have x211 : x2.2 223 11 = T := by rw [u2.2.2 223 11 (fun z => by unfold lx_nX at z; omega), a4.2.2 223 11 (fun z => by unfold lx_nX at z; omega)]; exact h11
  have g11 : az_gref x2 223 11 = some T := bz_gr x211 (by omega)
  have r121 : fz_X4_readHead_121 2000000 x2 223 2 cl v ar b = (if lx_kj tp N j2 = 59 then ((fz_X9_addFam x2 T v ar cl b).bind fun r2 => ((fz_X4_next r2 223).bind fun r3 => (some (1, r3)))) else ((fz_X4_fail x2 223 2).bind fun r7 => (if r7.1 = 0 ∨ r7.1 = 1 then some (r7.1, r7.2) else none))) := by
    unfold fz_X4_readHead_121
    rw [h8, if_neg (show ¬ (2 : Int) = 1 by decide), g11, Option.bind_some]
  have ux2 : bz_Upd x x2 (ld_X T) := (a4.weak fun a k z => Or.inr (Or.inl (by unfold lx_nX at z; omega))).trans (u2.weak fun a k z => Or.inr (Or.inl (by unfold lx_nX at z; omega)))
  have umC : bz_Upd m mC (ld_M s) := ((((uq.weak fun a k z => Or.inr (by omega)).trans (a5.weak fun a k z => Or.inl (by unfold lx_S at z; omega))).trans (uB.weak fun a k z => Or.inr (by omega))).trans (v2.weak fun a k z => Or.inl (by unfold lx_S at z; omega))).trans (uC.weak fun a k z => Or.inr (by omega))
  rw [runX, runM, e1, e2, r121, r287, ld_eats CC (by decide)]
  by_cases c59 : lx_kj tp N j2 = 59
  · right
    have t1 : x2.2 T 1 = x.2 T 1 := x2T T 1 (by omega) (by omega)
    have ad := ld_addFam (v := v) (cl := cl) (bk := b) hX2 hT (by omega) (by omega) (by omega) a3 hcl b01
    rw [t1] at ad
    obtain ⟨x3, hx3⟩ : ∃ x3, x3 = az_wr (az_wr (az_wr (az_wr (az_wr x2 (T + 3) (x.2 T 1) v) (T + 4) (x.2 T 1) (x.2 T 1 * 16 + ar * 4 + 2)) (T + 5) (x.2 T 1) cl) (T + 6) (x.2 T 1) b) T 1 (x.2 T 1 + 1) := ⟨_, rfl⟩
    have fa : ∀ i k, 3 ≤ i → i ≤ 6 → bz_isFix (T + i) k = false := fun i k i0 i1 => by
      have : i = 3 ∨ i = 4 ∨ i = 5 ∨ i = 6 := by omega
      rcases hT with rfl | rfl <;> rcases this with rfl | rfl | rfl | rfl <;> (unfold bz_isFix; simp [bz_cap, bz_fixL, bz_rowsL])
    have fT : bz_isFix T 1 = false := by rcases hT with rfl | rfl <;> decide
    have u3 : bz_Upd x2 x3 (fun a k => T ≤ a ∧ a ≤ T + 6) := by
      rw [hx3]
      exact bz_Upd.wr (bz_Upd.wr (bz_Upd.wr (bz_Upd.wr (bz_Upd.wr bz_Upd.refl ⟨by omega, by omega⟩ (fa 3 _ (by omega) (by omega))) ⟨by omega, by omega⟩ (fa 4 _ (by omega) (by omega))) ⟨by omega, by omega⟩ (fa 5 _ (by omega) (by omega))) ⟨by omega, by omega⟩ (fa 6 _ (by omega) (by omega))) ⟨by omega, by omega⟩ fT
    have C3 : lx_Cur x3 mC tp N J j2 := CC.upd u3 (bz_Upd.refl (S := fun _ _ => False)) (fun a k z => by unfold lx_KX; omega) (fun a k z => z.elim)
    obtain ⟨x4, m4, f1, f2, C4, f4, f5⟩ := lx_next (hX2.upd u3) hMC C3 (by omega) (by omega)
    have x4T : ∀ a k, T ≤ a → a ≤ T + 78 → x4.2 a k = x3.2 a k := fun a k p r => f4.2.2 a k (fun z => by unfold lx_nX at z; omega)
    have m4M : ∀ a k, 806 ≤ a → a ≤ 819 → m4.2 a k = mC.2 a k := fun a k p r => f5.2.2 a k (fun z => by unfold lx_S at z; omega)
    have mCM : ∀ a k, 806 ≤ a → a ≤ 819 → ¬ (a = 807 ∧ k = s) → mC.2 a k = mB.2 a k := fun a k p r n1 => by rw [hmC, az_wr_ne n1, m2k a k (by omega)]
    have mBM : ∀ a k, 806 ≤ a → a ≤ 819 → ¬ (a = 814 ∧ k = 5 * s + x.2 T 1) → mB.2 a k = q.2 a k := fun a k p r n1 => by rw [hmB, az_wr_ne n1, a5.2.2 a k (fun z => by unfold lx_S at z; omega)]
    refine ⟨x4, m4, j2 + 1, ?_, ?_, ⟨⟨(hX2.upd u3).upd f4, hMC.upd f5⟩, C4, ?_, ?_⟩, (ux2.trans (u3.weak fun a k z => Or.inl (by omega))).trans (f4.weak fun a k z => Or.inr (Or.inl (by unfold lx_nX at z; omega))), umC.trans (f5.weak fun a k z => Or.inl (by unfold lx_S at z; omega)), by omega⟩
    · rw [if_pos c59, ad, Option.bind_some, ← hx3, f1, Option.bind_some]
    · rw [if_pos c59, f2, Option.bind_some, rd_wrap]
    · refine ld_fam (ar := ar) (cl := cl) (bk := b) hL n5 wr a0 a3 hcl b01 new ?_ ?_ ?_ ?_ ?_ (fun a k p r n1 n2 => ?_) ?_ ?_ ?_ ?_ ?_ (fun a k p r n1 n2 => ?_) ?_
      · rw [x4T T 1 (by omega) (by omega), hx3, az_wr_same]
      · rw [x4T (T + 3) _ (by omega) (by omega), hx3, az_wr_ne (by omega), az_wr_ne (by omega), az_wr_ne (by omega), az_wr_ne (by omega), az_wr_same]
      · rw [x4T (T + 4) _ (by omega) (by omega), hx3, az_wr_ne (by omega), az_wr_ne (by omega), az_wr_ne (by omega), az_wr_same]
      · rw [x4T (T + 5) _ (by omega) (by omega), hx3, az_wr_ne (by omega), az_wr_ne (by omega), az_wr_same]
      · rw [x4T (T + 6) _ (by omega) (by omega), hx3, az_wr_ne (by omega), az_wr_same]
      · rw [x4T a k p r, hx3, az_wr_ne (by omega), az_wr_ne (by omega), az_wr_ne (by omega), az_wr_ne (by omega), az_wr_ne (by omega)]; exact x2T a k p r
      · rw [m4M 807 s (by omega) (by omega), hmC, az_wr_same]
      · rw [m4M 810 _ (by omega) (by omega), mCM 810 _ (by omega) (by omega) (by omega), mBM 810 _ (by omega) (by omega) (by omega), hq, az_wr_ne (by omega), az_wr_ne (by omega), az_wr_same]
      · rw [m4M 812 _ (by omega) (by omega), mCM 812 _ (by omega) (by omega) (by omega), mBM 812 _ (by omega) (by omega) (by omega), hq, az_wr_ne (by omega), az_wr_same]
      · rw [m4M 813 _ (by omega) (by omega), mCM 813 _ (by omega) (by omega) (by omega), mBM 813 _ (by omega) (by omega) (by omega), hq, az_wr_same]
      · rw [m4M 814 _ (by omega) (by omega), mCM 814 _ (by omega) (by omega) (by omega), hmB, az_wr_same]
      · rw [m4M a k p r, mCM a k p r n1, mBM a k p r (by omega), hq, az_wr_ne (by omega), az_wr_ne (by omega), az_wr_ne (by omega)]
      · rw [f5.2.2 804 15 (fun z => by unfold lx_S at z; omega), uC.2.2 804 15 (fun z => by omega), m215, n15]
    · rw [f4.2.2 223 11 (fun z => by unfold lx_nX at z; omega), u3.2.2 223 11 (fun z => by omega)]; exact x211
  · left
    rw [if_neg c59, if_neg c59]
    obtain ⟨x3, m3, d1, d2, d3, d4, d5⟩ := ld_bad (T := T) (s := s) CC 2
    exact ld_Bad.from ux2 umC ⟨x3, m3, d1, by rw [d2, rd_wrap0], d3, d4, d5⟩
end HF
