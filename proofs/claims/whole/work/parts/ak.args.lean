/-! a TERM and its ARGUMENTS -/
section TT
variable {tp : Int → Int} {N : Int} {md r T s : Int} {J : Nat}
/-- the ARGUMENTS from the a-th on; rdT: how a TERM within is read -/
theorem rd_args (hr : 0 < bz_cap r) {DD d : Nat} (rdT : ∀ (x m : az_Hp) (j : Nat) (nv nu sz K D : Int) (k : Nat), J - j ≤ d → rd_B tp N x m md r T s J j nv nu sz 1 → rd_Occ m md nv sz → yz_P (bz_ra x r) sz (1 + K) → 0 ≤ K → 1 ≤ D → D ≤ sz → 1 ≤ sz → 61 < (k : Int) + sz → 100 ≤ (DD : Int) + sz → rd_Bad r x m (fz_X4_readSide_15 2000000 k x 223 r D sz) (fz_X11_readTerm 2000000 DD m 804 (-1) 1 0) ∨ rd_Ok tp N md r T s J x m j sz K D k (fz_X4_readSide_15 2000000 k x 223 r D sz) (fz_X11_readTerm 2000000 DD m 804 (-1) 1 0)) : ∀ (b kk : Nat) (x m : az_Hp) (j : Nat) (nv nu sz K D a ar : Int) (k : Nat), b < kk → a + b + 1 = ar → 0 ≤ a → ar ≤ 3 → J - j ≤ d → rd_B tp N x m md r T s J j nv nu sz 1 → rd_Occ m md nv sz → yz_P (bz_ra x r) sz ((b : Int) + 1 + K) → 0 ≤ K → 0 ≤ D → D + 1 ≤ sz → D < 60 → x.2 229 D = ar → x.2 230 D = a → 61 < (k : Int) + sz → 100 ≤ (DD : Int) + sz →
    rd_Bad r x m (fz_X4_readSide_15 2000000 k x 223 r (D + 1) sz) (fz_X11_readArguments_62 2000000 (fz_X11_readTerm 2000000 DD) kk m 804 ar a) ∨ rd_Ok tp N md r T s J x m j sz K D k (fz_X4_readSide_15 2000000 k x 223 r (D + 1) sz) (fz_X11_readArguments_62 2000000 (fz_X11_readTerm 2000000 DD) kk m 804 ar a) := by
  intro b
  induction b with
  | zero =>
    intro kk x m j nv nu sz K D a ar k hkk hab a0 ar3 hj hB hO hP K0 D0 Ds D6 f9 f0 hk hD
    obtain ⟨kk, rfl⟩ : ∃ q, kk = q + 1 := ⟨kk - 1, by omega⟩
    have R := rdT x m j nv nu sz K (D + 1) k hj hB hO (by rw [show (1 : Int) + K = ((0 : Nat) : Int) + 1 + K by omega]; exact hP) K0 (by omega) Ds (by omega) hk hD
    have run : ∀ o, fz_X11_readTerm 2000000 DD m 804 (-1) 1 0 = some o → fz_X11_readArguments_62 2000000 (fz_X11_readTerm 2000000 DD) (kk + 1) m 804 ar a = (if o.1 = 0 then (some (0, o.2)) else ((fz_X11_isSign o.2 804 44).bind fun r5 => (if r5 = 0 then ((fz_X11_eats 2000000 o.2 804 41).bind fun r6 => (if r6.1 = 0 ∨ r6.1 = 1 then some (r6.1, r6.2) else none)) else ((fz_X11_bad o.2 804 5).bind fun r7 => (if r7.1 = 0 ∨ r7.1 = 1 then some (r7.1, r7.2) else none))))) := fun o ho => by
      conv => lhs; unfold fz_X11_readArguments_62
      rw [if_pos (by omega), ho, Option.bind_some, az_w32_id (z := a + 1) (by omega) (by omega), if_pos (show a + 1 = ar by omega)]
    rcases R with ⟨x', m', b1, b2, b3, b4, b5⟩ | ⟨x', m', j', nv', nu', sz', k', q1, q2, q3, q4, q5, q6, q7, q8, q9, q10, q11, q12⟩
    · left
      exact ⟨x', m', b1, by rw [run _ b2, if_pos rfl], b3, b4, b5⟩
    · -- behind the last one
      have hX' := q3.1.1
      have hC' := q3.2.1
      have h8 : x'.2 223 8 = lx_kj tp N j' := hC'.2.2.1.2.1
      have s44 := lx_sign (c := 44) hC' (by decide)
      have s41 := lx_sign (c := 41) hC' (by decide)
      have l229 := ln_229 hX'
      have l230 := ln_230 hX'
      have e9 : x'.2 229 D = ar := by rw [(q6 D (by omega)).1]; exact f9
      have e0 : x'.2 230 D = a := by rw [(q6 D (by omega)).2]; exact f0
      obtain ⟨y, hy⟩ : ∃ y, y = az_wr x' 230 D (a + 1) := ⟨_, rfl⟩
      have uy : bz_Upd x' y rd_FX := by rw [hy]; exact bz_Upd.wr bz_Upd.refl (Or.inr (Or.inr rfl)) (by unfold bz_isFix; simp [bz_cap, bz_fixL, bz_rowsL])
      have uy' : bz_Upd x' y (rd_SX r) := by rw [hy]; exact bz_Upd.wr bz_Upd.refl (Or.inr (Or.inr (Or.inr (Or.inr (Or.inr (Or.inr rfl)))))) (by unfold bz_isFix; simp [bz_cap, bz_fixL, bz_rowsL])
      have Cy : lx_Cur y m' tp N J j' := hC'.upd uy (bz_Upd.refl (S := fun _ _ => False)) (fun a k z => by unfold rd_FX at z; unfold lx_KX; omega) (fun a k z => z.elim)
      have By : rd_B tp N y m' md r T s J j' nv' nu' sz' 0 := q3.upd hr uy (bz_Upd.refl (S := fun _ _ => False)) Cy (fun a k z => Or.inl z) (fun a k z => z.elim) (fun _ z => z)
      have hY := By.1.1
      have y8 : y.2 223 8 = lx_kj tp N j' := Cy.2.2.1.2.1
      have y0 : y.2 230 D = a + 1 := by rw [hy, az_wr_same]
      have y9 : y.2 229 D = ar := by rw [hy, az_wr_ne (by omega)]; exact e9
      have head : fz_X4_closeFrames 2000000 x' 223 (D + 1) = (if (y.2 223 8) = 44 then fz_X4_closeFrames_50 2000000 (fz_X4_closeFrames_4 2000000 1999999) y 223 D else fz_X4_closeFrames_50 2000000 (fz_X4_closeFrames_4 2000000 1999999) y 223 D) := by
        show fz_X4_closeFrames_4 2000000 (1999999 + 1) x' 223 (az_w32 (D + 1 - 1)) = _
        rw [az_w32_id (z := D + 1 - 1) (by omega) (by omega), show D + 1 - 1 = D by omega]
        conv => lhs; unfold fz_X4_closeFrames_4
        rw [if_neg (by omega), fx_223_14 hX', Option.bind_some, bz_ard D0 (by omega), Option.bind_some, e0, az_w32_id (z := a + 1) (by omega) (by omega), bz_awr D0 (by omega), Option.bind_some, ← hy, fx_223_14 hY, Option.bind_some, bz_ard D0 (by rw [ln_230 hY]; omega), Option.bind_some, fx_223_13 hY, Option.bind_some, bz_ard D0 (by rw [ln_229 hY]; omega), Option.bind_some, y0, y9, if_neg (show ¬ a + 1 < ar by omega)]
      have head2 : fz_X4_closeFrames 2000000 x' 223 (D + 1) = fz_X4_closeFrames_50 2000000 (fz_X4_closeFrames_4 2000000 1999999) y 223 D := by rw [head]; split <;> rfl
      have eats : fz_X11_eats 2000000 m' 804 41 = (if lx_kj tp N j' = 41 then ((fz_X11_go 2000000 m' 804).bind fun r2 => (some (1, r2))) else ((fz_X11_bad m' 804 2).bind fun r3 => (if r3.1 = 0 ∨ r3.1 = 1 then some (r3.1, r3.2) else none))) := by
        unfold fz_X11_eats
        rw [s41, Option.bind_some]
        by_cases c : lx_kj tp N j' = 41
        · rw [if_pos c, if_neg (show ¬ (1 : Int) = 0 by decide), if_pos c]
        · rw [if_neg c, if_pos rfl, if_neg c]
      have bad147 : ∀ x'', fz_X4_closeFrames 2000000 x' 223 (D + 1) = some (-1, x'') → fz_X4_readSide_15 2000000 k x 223 r (D + 1) sz = some (0, x'') := fun x'' hx => by
        rw [q1]
        unfold fz_X4_readSide_147
        rw [hx, Option.bind_some, if_neg (show ¬ (0 : Int) < -1 by decide), if_neg (show ¬ (-1 : Int) = 0 by decide)]
      by_cases c41 : lx_kj tp N j' = 41
      · -- the frame is closed
        right
        obtain ⟨x2, m2, n1, n2, B2, un1, un2⟩ := rd_step By hr (by omega) (by omega)
        have cl : fz_X4_closeFrames 2000000 x' 223 (D + 1) = fz_X4_closeFrames 2000000 x2 223 D := by
          rw [head2]
          unfold fz_X4_closeFrames_50
          rw [y8, if_pos c41, fx_223_14 hY, Option.bind_some, bz_ard D0 (by rw [ln_230 hY]; omega), Option.bind_some, fx_223_13 hY, Option.bind_some, bz_ard D0 (by rw [ln_229 hY]; omega), Option.bind_some, y0, y9, if_neg (show ¬ a + 1 < ar by omega), n1, Option.bind_some]
          unfold fz_X4_closeFrames
          rw [show az_w32 (D + -1) = D - 1 by rw [az_w32_id (by omega) (by omega)]; omega, az_w32_id (z := D - 1) (by omega) (by omega)]
          exact rd_cf D.toNat 1999999 2000000 x2 (D - 1) (by omega) (by omega) (by omega) (by omega)
        have un1' : bz_Upd y x2 (rd_SX r) := un1.weak fun a k z => Or.inl (by unfold lx_nX at z; omega)
        have un2' : bz_Upd m' m2 rd_SM := un2.weak fun a k z => Or.inl (by unfold lx_S at z; omega)
        have rlt := bz_cap_lt hr
        have rn := rd_capn hr
        refine ⟨x2, m2, j' + 1, nv', nu', sz', k', ?_, ?_, B2.weak (by omega), fun z b b0 b1 => ?_, ?_, fun i hi => ?_, (q7.trans uy').trans un1', q8.trans un2', by omega, q10, q11, fun z => by rw [un2.2.2 804 37 (fun z => by unfold lx_S at z; omega)]; exact q12.1 z, (q12.2.trans (rd_Mo.upd uy (bz_Upd.refl (S := fun _ _ => False)) (fun k z => by unfold rd_FX at z; omega) (fun a k z => z.elim))).trans (rd_Mo.upd un1 un2 (fun k z => by unfold lx_nX at z; omega) (fun a k z => by unfold lx_S at z; omega))⟩
        · rw [q1]
          unfold fz_X4_readSide_147
          rw [cl]
        · rw [run _ q2, if_neg (show ¬ (1 : Int) = 0 by decide), s44, Option.bind_some, if_neg (show ¬ lx_kj tp N j' = 44 by omega), if_pos rfl, eats, if_pos c41, n2, Option.bind_some, rd_wrap]
        · obtain ⟨i, i1, i2, i3⟩ := q4 z b b0 b1
          exact ⟨i, i1, i2, by rw [un2.2.2 820 i (fun z => by unfold lx_S at z; omega)]; exact i3⟩
        · refine q5.cong (fun i i0 i1 => ?_)
          unfold bz_ra
          rw [un1.2.2 (r + 1) i (fun z => by unfold lx_nX at z; omega), uy.2.2 (r + 1) i (fun z => by unfold rd_FX at z; omega)]
        · rw [un1.2.2 229 i (fun z => by unfold lx_nX at z; omega), un1.2.2 230 i (fun z => by unfold lx_nX at z; omega), hy, az_wr_ne (by omega), az_wr_ne (by omega)]
          exact q6 i (by omega)
      · left
        refine rd_Bad.from (q7.trans uy') q8 ?_
        by_cases c44 : lx_kj tp N j' = 44
        · obtain ⟨x2, m2, b1, b2, b3, b4, b5⟩ := lx_fail Cy 5
          refine ⟨x2, m2, bad147 x2 ?_, ?_, b3.weak fun a k z => Or.inl (by omega), b4.weak fun a k z => Or.inr z, b5⟩
          · rw [head2]
            unfold fz_X4_closeFrames_50 fz_X4_closeFrames_74
            rw [y8, if_neg (by omega), if_pos c44, b1, Option.bind_some]
          · rw [run _ q2, if_neg (show ¬ (1 : Int) = 0 by decide), s44, Option.bind_some, if_pos c44, if_neg (show ¬ (1 : Int) = 0 by decide), b2, rd_wrap0]
        · obtain ⟨x2, m2, b1, b2, b3, b4, b5⟩ := lx_fail Cy 2
          refine ⟨x2, m2, bad147 x2 ?_, ?_, b3.weak fun a k z => Or.inl (by omega), b4.weak fun a k z => Or.inr z, b5⟩
          · rw [head2]
            unfold fz_X4_closeFrames_50 fz_X4_closeFrames_74
            rw [y8, if_neg (by omega), if_neg c44, if_neg c41, b1, Option.bind_some]
          · rw [run _ q2, if_neg (show ¬ (1 : Int) = 0 by decide), s44, Option.bind_some, if_neg c44, if_pos rfl, eats, if_neg c41, b2, rd_wrap0, rd_wrap0]
  | succ b ih =>
    intro kk x m j nv nu sz K D a ar k hkk hab a0 ar3 hj hB hO hP K0 D0 Ds D6 f9 f0 hk hD
    obtain ⟨kk, rfl⟩ : ∃ q, kk = q + 1 := ⟨kk - 1, by omega⟩
    have R := rdT x m j nv nu sz ((b : Int) + 1 + K) (D + 1) k hj hB hO (by rw [show (1 : Int) + ((b : Int) + 1 + K) = ((b + 1 : Nat) : Int) + 1 + K by push_cast; omega]; exact hP) (by omega) (by omega) Ds (by omega) hk hD
    have run : ∀ o, fz_X11_readTerm 2000000 DD m 804 (-1) 1 0 = some o → fz_X11_readArguments_62 2000000 (fz_X11_readTerm 2000000 DD) (kk + 1) m 804 ar a = (if o.1 = 0 then (some (0, o.2)) else ((fz_X11_isSign o.2 804 41).bind fun r2 => (if r2 = 0 then ((fz_X11_eats 2000000 o.2 804 44).bind fun r3 => (if r3.1 = 0 then (some (0, r3.2)) else fz_X11_readArguments_62 2000000 (fz_X11_readTerm 2000000 DD) kk r3.2 804 ar (a + 1))) else ((fz_X11_bad o.2 804 5).bind fun r4 => (if r4.1 = 0 ∨ r4.1 = 1 then some (r4.1, r4.2) else none))))) := fun o ho => by
      conv => lhs; unfold fz_X11_readArguments_62
      rw [if_pos (by omega), ho, Option.bind_some, az_w32_id (z := a + 1) (by omega) (by omega), if_neg (show ¬ a + 1 = ar by push_cast at hab; omega)]
    rcases R with ⟨x', m', b1, b2, b3, b4, b5⟩ | ⟨x', m', j', nv', nu', sz', k', q1, q2, q3, q4, q5, q6, q7, q8, q9, q10, q11, q12⟩
    · left
      exact ⟨x', m', b1, by rw [run _ b2, if_pos rfl], b3, b4, b5⟩
    · have hX' := q3.1.1
      have hC' := q3.2.1
      have s44 := lx_sign (c := 44) hC' (by decide)
      have s41 := lx_sign (c := 41) hC' (by decide)
      have l230 := ln_230 hX'
      have e9 : x'.2 229 D = ar := by rw [(q6 D (by omega)).1]; exact f9
      have e0 : x'.2 230 D = a := by rw [(q6 D (by omega)).2]; exact f0
      obtain ⟨y, hy⟩ : ∃ y, y = az_wr x' 230 D (a + 1) := ⟨_, rfl⟩
      have uy : bz_Upd x' y rd_FX := by rw [hy]; exact bz_Upd.wr bz_Upd.refl (Or.inr (Or.inr rfl)) (by unfold bz_isFix; simp [bz_cap, bz_fixL, bz_rowsL])
      have uy' : bz_Upd x' y (rd_SX r) := by rw [hy]; exact bz_Upd.wr bz_Upd.refl (Or.inr (Or.inr (Or.inr (Or.inr (Or.inr (Or.inr rfl)))))) (by unfold bz_isFix; simp [bz_cap, bz_fixL, bz_rowsL])
      have Cy : lx_Cur y m' tp N J j' := hC'.upd uy (bz_Upd.refl (S := fun _ _ => False)) (fun a k z => by unfold rd_FX at z; unfold lx_KX; omega) (fun a k z => z.elim)
      have By : rd_B tp N y m' md r T s J j' nv' nu' sz' 0 := q3.upd hr uy (bz_Upd.refl (S := fun _ _ => False)) Cy (fun a k z => Or.inl z) (fun a k z => z.elim) (fun _ z => z)
      have hY := By.1.1
      have y8 : y.2 223 8 = lx_kj tp N j' := Cy.2.2.1.2.1
      have y0 : y.2 230 D = a + 1 := by rw [hy, az_wr_same]
      have y9 : y.2 229 D = ar := by rw [hy, az_wr_ne (by omega)]; exact e9
      have lt : a + 1 < ar := by push_cast at hab; omega
      have head : fz_X4_closeFrames 2000000 x' 223 (D + 1) = (if (y.2 223 8) = 44 then ((fz_X4_next y 223).bind fun r8 => (some (D + 1, r8))) else fz_X4_closeFrames_74 2000000 y 223) := by
        have r50 : fz_X4_closeFrames_50 2000000 (fz_X4_closeFrames_4 2000000 1999999) y 223 D = fz_X4_closeFrames_74 2000000 y 223 := by
          unfold fz_X4_closeFrames_50
          rw [fx_223_14 hY, Option.bind_some, bz_ard D0 (by rw [ln_230 hY]; omega), Option.bind_some, fx_223_13 hY, Option.bind_some, bz_ard D0 (by rw [ln_229 hY]; omega), Option.bind_some, y0, y9, if_pos lt]
          split <;> rfl
        show fz_X4_closeFrames_4 2000000 (1999999 + 1) x' 223 (az_w32 (D + 1 - 1)) = _
        rw [az_w32_id (z := D + 1 - 1) (by omega) (by omega), show D + 1 - 1 = D by omega]
        conv => lhs; unfold fz_X4_closeFrames_4
        rw [if_neg (by omega), fx_223_14 hX', Option.bind_some, bz_ard D0 (by omega), Option.bind_some, e0, az_w32_id (z := a + 1) (by omega) (by omega), bz_awr D0 (by omega), Option.bind_some, ← hy, fx_223_14 hY, Option.bind_some, bz_ard D0 (by rw [ln_230 hY]; omega), Option.bind_some, fx_223_13 hY, Option.bind_some, bz_ard D0 (by rw [ln_229 hY]; omega), Option.bind_some, y0, y9, if_pos lt, az_w32_id (z := D + 1) (by omega) (by omega), r50]
      have eats : fz_X11_eats 2000000 m' 804 44 = (if lx_kj tp N j' = 44 then ((fz_X11_go 2000000 m' 804).bind fun r2 => (some (1, r2))) else ((fz_X11_bad m' 804 2).bind fun r3 => (if r3.1 = 0 ∨ r3.1 = 1 then some (r3.1, r3.2) else none))) := by
        unfold fz_X11_eats
        rw [s44, Option.bind_some]
        by_cases c : lx_kj tp N j' = 44
        · rw [if_pos c, if_neg (show ¬ (1 : Int) = 0 by decide), if_pos c]
        · rw [if_neg c, if_pos rfl, if_neg c]
      have bad147 : ∀ x'', fz_X4_closeFrames 2000000 x' 223 (D + 1) = some (-1, x'') → fz_X4_readSide_15 2000000 k x 223 r (D + 1) sz = some (0, x'') := fun x'' hx => by
        rw [q1]
        unfold fz_X4_readSide_147
        rw [hx, Option.bind_some, if_neg (show ¬ (0 : Int) < -1 by decide), if_neg (show ¬ (-1 : Int) = 0 by decide)]
      by_cases c44 : lx_kj tp N j' = 44
      · -- the next one
        obtain ⟨x2, m2, n1, n2, B2, un1, un2⟩ := rd_step By hr (by omega) (by omega)
        have un1' : bz_Upd y x2 (rd_SX r) := un1.weak fun a k z => Or.inl (by unfold lx_nX at z; omega)
        have un2' : bz_Upd m' m2 rd_SM := un2.weak fun a k z => Or.inl (by unfold lx_S at z; omega)
        have rlt := bz_cap_lt hr
        have rn := rd_capn hr
        have c60 := @bz_cap60 r
        have wz := q3.2.2.2.2.2.2.2.2.1
        have go : fz_X4_readSide_15 2000000 k x 223 r (D + 1) sz = fz_X4_readSide_15 2000000 k' x2 223 r (D + 1) sz' := by
          rw [q1]
          unfold fz_X4_readSide_147
          rw [head, y8, if_pos c44, n1, Option.bind_some, Option.bind_some, if_pos (by omega), az_w32_id (z := sz' - 1 + 1) (by omega) (by omega), show sz' - 1 + 1 = sz' by omega]
        have gm : fz_X11_readArguments_62 2000000 (fz_X11_readTerm 2000000 DD) (kk + 1) m 804 ar a = fz_X11_readArguments_62 2000000 (fz_X11_readTerm 2000000 DD) kk m2 804 ar (a + 1) := by
          rw [run _ q2, if_neg (show ¬ (1 : Int) = 0 by decide), s41, Option.bind_some, if_neg (show ¬ lx_kj tp N j' = 41 by omega), if_pos rfl, eats, if_pos c44, n2, Option.bind_some, Option.bind_some, if_neg (show ¬ (1 : Int) = 0 by decide)]
        rw [go, gm]
        have I := ih kk x2 m2 (j' + 1) nv' nu' sz' K D (a + 1) ar k' (by omega) (by push_cast at hab; omega) (by omega) ar3 (by omega) (B2.weak (by omega)) (fun z b b0 b1 => by
            obtain ⟨i, i1, i2, i3⟩ := q4 z b b0 b1
            exact ⟨i, i1, i2, by rw [un2.2.2 820 i (fun z => by unfold lx_S at z; omega)]; exact i3⟩) (q5.cong (fun i i0 i1 => by
            unfold bz_ra
            rw [un1.2.2 (r + 1) i (fun z => by unfold lx_nX at z; omega), uy.2.2 (r + 1) i (fun z => by unfold rd_FX at z; omega)])) K0 D0 (by omega) D6 (by rw [un1.2.2 229 D (fun z => by unfold lx_nX at z; omega)]; exact y9) (by rw [un1.2.2 230 D (fun z => by unfold lx_nX at z; omega)]; exact y0) (by omega) (by omega)
        rcases I with I | ⟨x'', m'', j'', nv'', nu'', sz'', k'', t1, t2, t3, t4, t5, t6, t7, t8, t9, t10, t11, t12⟩
        · left
          exact rd_Bad.from ((q7.trans uy').trans un1') (q8.trans un2') I
        · right
          refine ⟨x'', m'', j'', nv'', nu'', sz'', k'', t1, t2, t3, t4, t5, fun i hi => ?_, ((q7.trans uy').trans un1').trans t7, (q8.trans un2').trans t8, by omega, by omega, by omega, fun z => by rw [t12.1 z, un2.2.2 804 37 (fun z => by unfold lx_S at z; omega)]; exact q12.1 z, ((q12.2.trans (rd_Mo.upd uy (bz_Upd.refl (S := fun _ _ => False)) (fun k z => by unfold rd_FX at z; omega) (fun a k z => z.elim))).trans (rd_Mo.upd un1 un2 (fun k z => by unfold lx_nX at z; omega) (fun a k z => by unfold lx_S at z; omega))).trans t12.2⟩
          obtain ⟨p1, p2⟩ := t6 i hi
          rw [p1, p2, un1.2.2 229 i (fun z => by unfold lx_nX at z; omega), un1.2.2 230 i (fun z => by unfold lx_nX at z; omega), hy, az_wr_ne (by omega), az_wr_ne (by omega)]
          exact q6 i (by omega)
      · left
        refine rd_Bad.from (q7.trans uy') q8 ?_
        by_cases c41 : lx_kj tp N j' = 41
        · obtain ⟨x2, m2, b1, b2, b3, b4, b5⟩ := lx_fail Cy 5
          refine ⟨x2, m2, bad147 x2 ?_, ?_, b3.weak fun a k z => Or.inl (by omega), b4.weak fun a k z => Or.inr z, b5⟩
          · rw [head, y8, if_neg c44]
            unfold fz_X4_closeFrames_74
            rw [y8, if_neg c44, if_pos c41, b1, Option.bind_some]
          · rw [run _ q2, if_neg (show ¬ (1 : Int) = 0 by decide), s41, Option.bind_some, if_pos c41, if_neg (show ¬ (1 : Int) = 0 by decide), b2, rd_wrap0]
        · obtain ⟨x2, m2, b1, b2, b3, b4, b5⟩ := lx_fail Cy 2
          refine ⟨x2, m2, bad147 x2 ?_, ?_, b3.weak fun a k z => Or.inl (by omega), b4.weak fun a k z => Or.inr z, b5⟩
          · rw [head, y8, if_neg c44]
            unfold fz_X4_closeFrames_74
            rw [y8, if_neg c44, if_neg c41, b1, Option.bind_some]
          · rw [run _ q2, if_neg (show ¬ (1 : Int) = 0 by decide), s41, Option.bind_some, if_neg c41, if_pos rfl, eats, if_neg c44, b2, rd_wrap0, Option.bind_some, if_pos rfl]
end TT
