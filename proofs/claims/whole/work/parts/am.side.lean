/-! a side is read from its first token on -/
section SI
variable {tp : Int → Int} {N : Int} {md r T s : Int} {J : Nat}
theorem rd_side {x m : az_Hp} {j : Nat} {nv nu en : Int} (hr : 0 < bz_cap r) (hB : rd_B tp N x m md r T s J j nv nu 0 1) (hfst : md = 0 → nv = 0) (hen : en = rd_en md) :
    rd_Bad r x m (fz_X4_readSide_15 2000000 2000000 x 223 r 0 0) (fz_X11_readTerm 2000000 200 m 804 en 0 (rd_must md 0)) ∨
    ∃ (x' m' : az_Hp) (j' : Nat) (nv' nu' sz : Int), fz_X4_readSide_15 2000000 2000000 x 223 r 0 0 = some (1, x') ∧ fz_X11_readTerm 2000000 200 m 804 en 0 (rd_must md 0) = some (1, m') ∧ rd_B tp N x' m' md r T s J j' nv' nu' sz 0 ∧ rd_Occ m' md nv' sz ∧ bz_Sc (bz_ra x' r) sz.toNat 1 0 ∧ 1 ≤ sz ∧ bz_Upd x x' (rd_SX r) ∧ bz_Upd m m' rd_SM ∧ j < j' ∧ (md = 1 → m'.2 804 37 = m.2 804 37) ∧ rd_Mo x m x' m' := by
  have w3 := hB.2.2.2.2.2.2.2.2.1
  have R := rd_term (tp := tp) (N := N) (md := md) (T := T) (s := s) (J := J) hr (J - j + 1) x m j nv nu 0 0 0 en 2000000 200 (by omega) hB (fun z b b0 b1 => by have := hfst z; omega) (fun z _ => hfst z) (by rw [show (1 : Int) + 0 = 1 from rfl]; exact yz_P.zero) (by omega) (by omega) (by omega) ⟨fun _ => rfl, fun _ => rfl⟩ (fun _ => hen) (by decide) (by decide)
  rw [show rd_first1 0 = 0 from rfl] at R
  rcases R with R | ⟨x', m', j', nv', nu', sz', k', q1, q2, q3, q4, q5, q6, q7, q8, q9, q10, q11, q12⟩
  · exact Or.inl R
  · right
    refine ⟨x', m', j', nv', nu', sz', ?_, q2, q3, q4, ?_, by omega, q7, q8, q9, q12⟩
    · rw [q1]
      have cf : fz_X4_closeFrames 2000000 x' 223 0 = some (0, x') := by
        show fz_X4_closeFrames_4 2000000 (1999999 + 1) x' 223 (az_w32 (0 - 1)) = _
        rw [az_w32_id (by decide) (by decide)]
        unfold fz_X4_closeFrames_4
        rw [if_pos (by decide)]
      unfold fz_X4_readSide_147
      rw [cf, Option.bind_some, if_neg (show ¬ (0 : Int) < 0 by decide), if_pos rfl]
    · exact q5 (bz_ra x' r) 0 (fun _ _ _ => rfl) rfl
/-- what was made is laid into a row -/
theorem rd_copy {m : az_Hp} {A off n : Int} (hF : bz_Fx m) (hn : m.2 804 31 = n) (n0 : 0 ≤ n) (n6 : n ≤ 64) (hA : A ≠ 804 ∧ A ≠ 820) (fA : ∀ k, bz_isFix A k = false) (o0 : 0 ≤ off) (o1 : off + n ≤ az_ln m A) (o2 : off ≤ 1000) : ∃ m', fz_X11_readWhole_31 2000000 2000000 m 804 A off 0 = some (n, m') ∧ bz_Upd m m' (fun a k => a = A ∧ off ≤ k ∧ k < off + n) ∧ ∀ i, 0 ≤ i → i < n → m'.2 A (off + i) = m.2 820 i := by
  have l820 := ln_820 hF
  have gen : ∀ (d k : Nat) (m1 : az_Hp) (i : Int), d < k → 0 ≤ i → i + d = n → bz_Upd m m1 (fun a k => a = A ∧ off ≤ k ∧ k < off + n) → (∀ q, 0 ≤ q → q < i → m1.2 A (off + q) = m.2 820 q) → ∃ m', fz_X11_readWhole_31 2000000 k m1 804 A off i = some (n, m') ∧ bz_Upd m m' (fun a k => a = A ∧ off ≤ k ∧ k < off + n) ∧ ∀ q, 0 ≤ q → q < n → m'.2 A (off + q) = m.2 820 q := by
    intro d
    induction d with
    | zero =>
      intro k m1 i hk i0 hi u hq
      obtain ⟨k, rfl⟩ : ∃ q, k = q + 1 := ⟨k - 1, by omega⟩
      have e : m1.2 804 31 = n := by rw [u.2.2 804 31 (fun z => by omega)]; exact hn
      refine ⟨m1, ?_, u, fun q q0 q1 => hq q q0 (by omega)⟩
      unfold fz_X11_readWhole_31
      rw [e, if_neg (by omega)]
    | succ d ih =>
      intro k m1 i hk i0 hi u hq
      obtain ⟨k, rfl⟩ : ∃ q, k = q + 1 := ⟨k - 1, by omega⟩
      have e : m1.2 804 31 = n := by rw [u.2.2 804 31 (fun z => by omega)]; exact hn
      have hF1 := hF.upd u
      have l1 := ln_820 hF1
      have lA := u.ln A
      have es : m1.2 820 i = m.2 820 i := u.2.2 820 i (fun z => by omega)
      obtain ⟨m', y1, y2, y3⟩ := ih k (az_wr m1 A (off + i) (m.2 820 i)) (i + 1) (by omega) (by omega) (by push_cast at hi; omega) (bz_Upd.wr u ⟨rfl, by omega, by push_cast at hi; omega⟩ (fA _)) (fun q q0 q1 => by
        by_cases ez : q = i
        · rw [ez, az_wr_same]
        · rw [az_wr_ne (by omega)]; exact hq q q0 (by omega))
      refine ⟨m', ?_, y2, y3⟩
      rw [← y1]
      conv => lhs; unfold fz_X11_readWhole_31
      rw [e, if_pos (by push_cast at hi; omega), fx_804_30 hF1, Option.bind_some, bz_ard i0 (by push_cast at hi; omega), Option.bind_some, es, az_w32_id (z := off + i) (by omega) (by push_cast at hi; omega), bz_awr (by omega) (by rw [lA]; push_cast at hi; omega), Option.bind_some, az_w32_id (z := i + 1) (by omega) (by push_cast at hi; omega)]
  exact gen n.toNat 2000000 m 0 (by omega) (by omega) (by omega) bz_Upd.refl (fun q q0 q1 => by omega)
/-- the first token -/
theorem rd_begin {x m : az_Hp} (hX : bz_Fx x) (hM : bz_Fx m) (hTX : lx_tapeX x tp N) (hTM : ∀ i, 0 ≤ i → i < N → m.2 805 i = tp i) (hT : T = 3 ∨ T = 82) :
    ∃ (x' m' : az_Hp) (J : Nat), fz_X4_begin 2000000 x 223 2 N T = some x' ∧ fz_X11_begins 2000000 m 804 N = some m' ∧ lx_Cur x' m' tp N J 0 ∧ bz_Upd x x' (fun a k => (a = 223 ∧ (k = 0 ∨ k = 1 ∨ k = 11 ∨ (7 ≤ k ∧ k ≤ 10))) ∨ lx_SX a k) ∧ bz_Upd m m' (fun a k => a = 804 ∧ (k = 1 ∨ (5 ≤ k ∧ k ≤ 13))) ∧ x'.2 223 11 = T ∧ (x'.2 223 0 = 0 ∧ x'.2 223 1 = -1) ∧ (m'.2 804 11 = 0 ∧ m'.2 804 12 = -1) ∧ m'.2 804 1 = 0 := by
  obtain ⟨x1, J, a1, a2, a3⟩ := lx_scan hX hTX
  have N9 := hTX.1
  obtain ⟨y, hy⟩ : ∃ y, y = az_wr (az_wr (az_wr (az_wr x1 223 7 0) 223 11 T) 223 0 0) 223 1 (-1) := ⟨_, rfl⟩
  have uy : bz_Upd x1 y (fun a k => a = 223 ∧ (k = 0 ∨ k = 1 ∨ k = 7 ∨ k = 11)) := by
    rw [hy]
    refine bz_Upd.wr (bz_Upd.wr (bz_Upd.wr (bz_Upd.wr bz_Upd.refl ⟨rfl, by omega⟩ (by decide)) ⟨rfl, by omega⟩ (by decide)) ⟨rfl, by omega⟩ (by decide)) ⟨rfl, by omega⟩ (by decide)
  have hX1 := hX.upd a2
  have hY := hX1.upd uy
  -- the class's first token
  obtain ⟨r1, r2, r3, r4, r5⟩ := a3
  have Y : ∀ a k, a ≠ 223 → y.2 a k = x1.2 a k := fun a k q => uy.2.2 a k (fun z => q z.1)
  have y7 : y.2 223 7 = 0 := by rw [hy, az_wr_ne (by omega), az_wr_ne (by omega), az_wr_ne (by omega), az_wr_same]
  have l226 := ln_226 hY
  obtain ⟨b1, b2, b3⟩ := r3 0 (by omega)
  rw [Int.natCast_zero] at b1 b2 b3
  have ua : bz_Upd y (az_wr y 223 8 (y.2 226 0)) lx_nX := bz_Upd.wr bz_Upd.refl ⟨rfl, by omega, by omega⟩ (by decide)
  have ub : bz_Upd y (az_wr (az_wr y 223 8 (y.2 226 0)) 223 9 (y.2 227 0)) lx_nX := bz_Upd.wr ua ⟨rfl, by omega, by omega⟩ (by decide)
  have uc : bz_Upd y (az_wr (az_wr (az_wr y 223 8 (y.2 226 0)) 223 9 (y.2 227 0)) 223 10 (y.2 228 0)) lx_nX := bz_Upd.wr ub ⟨rfl, by omega, by omega⟩ (by decide)
  have ud : bz_Upd y (az_wr (az_wr (az_wr (az_wr y 223 8 (y.2 226 0)) 223 9 (y.2 227 0)) 223 10 (y.2 228 0)) 223 7 1) lx_nX := bz_Upd.wr uc ⟨rfl, by omega, by omega⟩ (by decide)
  have h1 := hY.upd ua
  have h2 := hY.upd ub
  obtain ⟨z, hz⟩ : ∃ z, z = az_wr (az_wr (az_wr (az_wr y 223 8 (y.2 226 0)) 223 9 (y.2 227 0)) 223 10 (y.2 228 0)) 223 7 1 := ⟨_, rfl⟩
  rw [← hz] at ud
  have nx : fz_X4_next y 223 = some z := by
    have c3 : y.2 225 3 = (J : Int) + 1 := by rw [Y 225 3 (by omega)]; exact r1
    unfold fz_X4_next
    rw [fx_223_6 hY, Option.bind_some, y7, c3, if_pos (by omega), Option.bind_some, fx_225_0 hY, Option.bind_some, bz_ard (by omega) (by omega), Option.bind_some, fx_223_6 h1, Option.bind_some, fx_225_1 h1, Option.bind_some, az_wr_ne (by omega), y7, bz_ard (by omega) (by rw [ln_227 h1]; omega), Option.bind_some, az_wr_ne (by omega), fx_223_6 h2, Option.bind_some, fx_225_2 h2, Option.bind_some, az_wr_ne (by omega), az_wr_ne (by omega), y7, bz_ard (by omega) (by rw [ln_228 h2]; omega), Option.bind_some, az_wr_ne (by omega), az_wr_ne (by omega), az_wr_ne (by omega), az_wr_ne (by omega), az_wr_ne (by omega), y7, hz]
    rfl
  -- the reference's
  obtain ⟨mb, hmb⟩ : ∃ mb, mb = az_wr (az_wr (az_wr (az_wr (az_wr m 804 5 N) 804 1 0) 804 7 0) 804 11 0) 804 12 (-1) := ⟨_, rfl⟩
  have ubm : bz_Upd m mb (fun a k => a = 804 ∧ (k = 1 ∨ k = 5 ∨ k = 7 ∨ k = 11 ∨ k = 12)) := by
    rw [hmb]
    refine bz_Upd.wr (bz_Upd.wr (bz_Upd.wr (bz_Upd.wr (bz_Upd.wr bz_Upd.refl ⟨rfl, by omega⟩ (by decide)) ⟨rfl, by omega⟩ (by decide)) ⟨rfl, by omega⟩ (by decide)) ⟨rfl, by omega⟩ (by decide)) ⟨rfl, by omega⟩ (by decide)
  have hMb := hM.upd ubm
  have tM : lx_tape mb tp N := ⟨by rw [hmb, az_wr_ne (by omega), az_wr_ne (by omega), az_wr_ne (by omega), az_wr_ne (by omega), az_wr_same], N9, fun i i0 i1 => ⟨by rw [ubm.2.2 805 i (fun z => by omega)]; exact hTM i i0 i1, (hTX.2 i i0 i1).2⟩⟩
  obtain ⟨m', g1, g2, g3, g4⟩ := lx_go hMb tM (p := 0) (by rw [hmb, az_wr_ne (by omega), az_wr_ne (by omega), az_wr_same]) (by omega) N9.1
  have Z : ∀ a k, ¬ (a = 223 ∧ 7 ≤ k ∧ k ≤ 10) → z.2 a k = y.2 a k := fun a k q => ud.2.2 a k (fun w => q w)
  refine ⟨z, m', J, ?_, ?_, ⟨⟨?_, r2, fun i hi => ?_, r4, r5⟩, by omega, ⟨?_, ?_, fun p q => ?_, ?_⟩, tM.upd g2, g3, fun p q => g4 p q⟩, ?_, ?_, ?_, ⟨?_, ?_⟩, ⟨?_, ?_⟩, ?_⟩
  · unfold fz_X4_begin
    rw [fx_223_6 hX, Option.bind_some, a1, Option.bind_some, ← hy, nx, Option.bind_some]
  · unfold fz_X11_begins
    rw [← hmb, g1, Option.bind_some]
  · rw [Z 225 3 (by omega), Y 225 3 (by omega)]; exact r1
  · obtain ⟨d1, d2, d3⟩ := r3 i hi
    exact ⟨by rw [Z 226 _ (by omega), Y 226 _ (by omega)]; exact d1, fun p q => by rw [Z 227 _ (by omega), Y 227 _ (by omega)]; exact d2 p q, by rw [Z 228 _ (by omega), Y 228 _ (by omega)]; exact d3⟩
  · rw [hz, az_wr_same]; rfl
  · rw [hz, az_wr_ne (by omega), az_wr_ne (by omega), az_wr_ne (by omega), az_wr_same, Y 226 _ (by omega)]; exact b1
  · rw [hz, az_wr_ne (by omega), az_wr_ne (by omega), az_wr_same, Y 227 _ (by omega)]; exact b2 p q
  · rw [hz, az_wr_ne (by omega), az_wr_same, Y 228 _ (by omega)]; exact b3
  · refine ((a2.weak fun a k w => Or.inr w).trans (uy.weak fun a k w => Or.inl ⟨w.1, by omega⟩)).trans (ud.weak fun a k w => Or.inl ⟨w.1, by unfold lx_nX at w; omega⟩)
  · exact (ubm.weak fun a k w => ⟨w.1, by omega⟩).trans (g2.weak fun a k w => by unfold lx_S at w; exact ⟨w.1, by omega⟩)
  · rw [Z 223 11 (by omega), hy, az_wr_ne (by omega), az_wr_ne (by omega), az_wr_same]
  · rw [Z 223 0 (by omega), hy, az_wr_ne (by omega), az_wr_same]
  · rw [Z 223 1 (by omega), hy, az_wr_same]
  · rw [g2.2.2 804 11 (fun w => by unfold lx_S at w; omega), hmb, az_wr_ne (by omega), az_wr_same]
  · rw [g2.2.2 804 12 (fun w => by unfold lx_S at w; omega), hmb, az_wr_same]
  · rw [g2.2.2 804 1 (fun w => by unfold lx_S at w; omega), hmb, az_wr_ne (by omega), az_wr_ne (by omega), az_wr_ne (by omega), az_wr_same]
end SI
