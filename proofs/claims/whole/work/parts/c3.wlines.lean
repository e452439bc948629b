/-! WANTED are read: a LINE that wants, all LINES -/
section WK
variable {tp : Int → Int} {N : Int} {T s : Int} {J : Nat}
theorem wq_want {x m : az_Hp} {j : Nat} {nv nu ng nw : Int} (h : wq_S tp N x m T s J j nv nu 0) (hA : wq_A x m T s nv nu ng nw) (hk : lx_kj tp N j = 3) (n8 : nw < 8) :
    wq_Bad x m (fz_X4_readWant 2000000 x 223 nw) ((fz_X11_go 2000000 m 804).bind fun r1 => fz_X11_readWanted_76 2000000 r1 804 0 nw 4) ∨ wq_Ok tp N T s J x m j (fz_X4_readWant 2000000 x 223 nw) ((fz_X11_go 2000000 m 804).bind fun r1 => fz_X11_readWanted_76 2000000 r1 804 0 nw 4) := by
  have hT := h.2.2.1.1
  have g0 := hA.1
  have w0 := hA.2.1
  obtain ⟨x1, m1, a1, a2, a3, a4, a5⟩ := wq_step h (by omega) (by omega)
  have hX1 := a3.1.1
  have hM1 := a3.1.2
  have cp := (wq_cap (i := nw) (by omega)).2 n8
  have ar := (wq_arr (i := nw) hX1 (by omega)).2 n8
  have l856 := ln_856 hM1
  have eM : ((fz_X11_go 2000000 m 804).bind fun r1 => fz_X11_readWanted_76 2000000 r1 804 0 nw 4) = wq_RM m1 4 0 856 (60 * nw) 96 (60 * nw + 30) (wq_Kw nw) := by
    have w60 : az_w32 (60 * nw) = 60 * nw := az_w32_id (by omega) (by omega)
    have w90 : az_w32 (60 * nw + 30) = 60 * nw + 30 := az_w32_id (by omega) (by omega)
    rw [a2, Option.bind_some]
    unfold fz_X11_readWanted_76
    rw [if_pos rfl, fx_804_96 hM1, Option.bind_some]
    unfold fz_X11_readWanted_99 fz_X11_readWanted_114 fz_X11_readWanted_158 fz_X11_readWanted_176
    simp only [if_pos (rfl : (0 : Int) = 0), w60, w90]
    rfl
  have u1 : bz_Upd x x1 wz_X := a4.weak fun a k z => by unfold lx_nX at z; unfold wz_X; omega
  have v1 : bz_Upd m m1 wz_M := a5.weak fun a k z => by unfold lx_S at z; unfold wz_M; omega
  have A1 : wq_A x1 m1 T s nv nu ng nw := hA.keep hT (wq_Mo.upd a4 a5 (fun k z => by unfold lx_nX at z; omega) (fun k => ⟨fun z => by unfold lx_S at z; omega, fun z => by unfold lx_S at z; omega⟩)) (fun a k z => a4.2.2 a k (fun w => by unfold lx_nX at w; omega)) (fun a k z => a5.2.2 a k (fun w => by unfold lx_S at w; omega))
  have eX : ∀ o, fz_X4_readBoth 2000000 x1 223 (191 + 4 * nw) (193 + 4 * nw) 5 6 = o → fz_X4_readWant 2000000 x 223 nw = o.bind fun r8 => (if r8.1 = 0 then (some (0, r8.2)) else ((az_gref r8.2 223 12).bind fun x9 => (some (1, (az_wr r8.2 x9 1 (az_w32 ((r8.2.2 x9 1) + 1))))))) := fun o ho => by
    unfold fz_X4_readWant
    rw [a1, Option.bind_some, fx_223_12 hX1, Option.bind_some, fx_161_5 hX1, Option.bind_some, ar.1, Option.bind_some, Option.bind_some, fx_161_6 hX1, Option.bind_some, ar.2, Option.bind_some, ho]
  rw [eM]
  have W := wq_both (md := 5) (r := 191 + 4 * nw) (r' := 193 + 4 * nw) (A1 := 856) (o1 := 60 * nw) (A2 := 856) (o2 := 60 * nw + 30) (f2 := 96) (K := wq_Kw nw) (a3.weak (by omega)) (Or.inr rfl) cp.1 cp.2 (by omega) ⟨by omega, by omega⟩ ⟨by decide, by decide⟩ (fun k => by unfold bz_isFix; simp [bz_cap, bz_fixL, bz_rowsL]) (by omega) (by omega) (by omega) ⟨by decide, by decide⟩ (fun k => by unfold bz_isFix; simp [bz_cap, bz_fixL, bz_rowsL]) (by omega) (by omega) (by omega) (fun k k0 k1 z => by omega) (fun q hq => fx_804_96 hq)
  rw [show (5 : Int) + 1 = 6 from rfl, show rd_rm 5 = 4 from rfl, show rd_must 5 0 = 0 from rfl] at W
  rcases W with ⟨x2, m2, b1, b2, b3, b4, b5⟩ | ⟨x2, m2, j2, nv2, nu2, s1, s2, b1, b2, b3, b4, b5, b6, b7, b8, b9, b10⟩
  · left
    refine ⟨x2, m2, ?_, b2, u1.trans (b3.weak fun a k z => ?_), (v1.weak fun _ _ z => Or.inl z).trans (b4.weak fun a k z => ?_), b5⟩
    · rw [eX _ b1, Option.bind_some, if_pos rfl]
    · unfold wq_XX wq_X at z; unfold wz_X; omega
    · unfold wq_MM wq_M at z; unfold wz_M; omega
  · rw [wq_u5] at b4 b5
    have hX2 := b3.1.1
    have hM2 := b3.1.2
    have b7' : bz_Upd x1 x2 wz_X := b7.weak fun a k z => by unfold wq_XX wq_X at z; unfold wz_X; omega
    have b8' : bz_Upd m1 m2 wz_M := b8.weak fun a k z => by unfold wq_MM wq_M at z; unfold wz_M; omega
    obtain ⟨m3, hm3⟩ : ∃ m3, m3 = az_wr (az_wr (az_wr m2 857 (2 * nw) s1) 857 (2 * nw + 1) s2) 804 86 (nw + 1) := ⟨_, rfl⟩
    have u3 : bz_Upd m2 m3 (fun a k => (a = 804 ∧ k = 86) ∨ (a = 857 ∧ (k = 2 * nw ∨ k = 2 * nw + 1))) := by
      rw [hm3]
      exact bz_Upd.wr (bz_Upd.wr (bz_Upd.wr bz_Upd.refl (Or.inr ⟨rfl, Or.inl rfl⟩) (by unfold bz_isFix; simp [bz_cap, bz_fixL, bz_rowsL])) (Or.inr ⟨rfl, Or.inr rfl⟩) (by unfold bz_isFix; simp [bz_cap, bz_fixL, bz_rowsL])) (Or.inl ⟨rfl, rfl⟩) (by decide)
    have hM3 := hM2.upd u3
    have m100 : m2.2 804 86 = nw := by rw [b8.2.2 804 86 (fun z => by unfold wq_MM wq_M at z; omega)]; exact A1.2.1.2.1
    have x100 : x2.2 161 1 = nw := by rw [b7.2.2 161 1 (fun z => by unfold wq_XX wq_X at z; omega)]; exact A1.2.1.1
    have eK : wq_Kw nw s1 s2 m2 = ((fz_X11_eats 2000000 m3 804 59).bind fun r11 => (if r11.1 = 0 ∨ r11.1 = 1 then some (r11.1, r11.2) else none)) := by
      have hMa : bz_Fx (az_wr m2 857 (2 * nw) s1) := hM2.upd (S := fun _ _ => True) (bz_Upd.wr bz_Upd.refl trivial (by unfold bz_isFix; simp [bz_cap, bz_fixL, bz_rowsL]))
      have e100 : (az_wr (az_wr m2 857 (2 * nw) s1) 857 (2 * nw + 1) s2).2 804 86 = nw := by rw [az_wr_ne (by omega), az_wr_ne (by omega)]; exact m100
      unfold wq_Kw
      rw [fx_804_97 hM2, Option.bind_some, az_w32_id (z := 2 * nw) (by omega) (by omega), bz_awr (by omega) (by rw [ln_857 hM2]; omega), Option.bind_some, fx_804_97 hMa, Option.bind_some, az_w32_id (z := 2 * nw + 1) (by omega) (by omega), bz_awr (by omega) (by rw [ln_857 hMa]; omega), Option.bind_some, e100, az_w32_id (by omega) (by omega), ← hm3]
    have C3 : lx_Cur x2 m3 tp N J j2 := b3.2.1.upd (bz_Upd.refl (S := fun _ _ => False)) u3 (fun a k z => z.elim) (fun a k z => by unfold lx_KM; omega)
    rw [b2, eK, ld_eats C3 (by decide)]
    have M3 : ∀ a k, ¬ (a = 804 ∧ k = 86) → ¬ (a = 857 ∧ (k = 2 * nw ∨ k = 2 * nw + 1)) → m3.2 a k = m2.2 a k := fun a k p q => u3.2.2 a k (fun z => by omega)
    have S3 : wq_S tp N x2 m3 T s J j2 nv2 nu2 0 := by
      obtain ⟨-, -, hN2, h11, ⟨v1, v2, v3, v4, v5, v6, v7⟩, w1, w2, w3, w4⟩ := b3
      exact ⟨⟨hX2, hM3⟩, C3, hN2.gen (bz_Upd.refl (S := fun _ _ => False)) u3 (fun a k z => z.elim) (fun a k z => by omega), h11, ⟨by rw [M3 804 37 (by omega) (by omega)]; exact v1, v2, fun b c b0 bc c1 => by rw [M3 821 b (by omega) (by omega), M3 821 c (by omega) (by omega)]; exact v3 b c b0 bc c1, by rw [M3 804 34 (by omega) (by omega)]; exact v4, v5, v6, fun b b0 b1 => by rw [M3 821 b (by omega) (by omega)]; exact v7 b b0 b1⟩, w1, by rw [M3 804 38 (by omega) (by omega)]; exact w2, w3, fun k k0 k1 => by rw [M3 822 k (by omega) (by omega)]; exact w4 k k0 k1⟩
    have um3 : bz_Upd m m3 wz_M := (v1.trans b8').trans (u3.weak fun a k z => by unfold wz_M; omega)
    by_cases c59 : lx_kj tp N j2 = 59
    · right
      obtain ⟨x4, m4, n1, n2, S4, n4, n5⟩ := wq_step S3 (by omega) (by omega)
      have x40 : x4.2 161 1 = nw := by rw [n4.2.2 161 1 (fun z => by unfold lx_nX at z; omega)]; exact x100
      obtain ⟨x5, hx5⟩ : ∃ x5, x5 = az_wr x4 161 1 (nw + 1) := ⟨_, rfl⟩
      have u5 : bz_Upd x4 x5 (fun a k => a = 161 ∧ k = 1) := by rw [hx5]; exact bz_Upd.wr bz_Upd.refl ⟨rfl, rfl⟩ (by decide)
      have X5 : ∀ a k, ¬ (a = 161 ∧ k = 1) → ¬ (a = 223 ∧ 7 ≤ k) → x5.2 a k = x2.2 a k := fun a k p q => by
        rw [u5.2.2 a k (fun z => p z), n4.2.2 a k (fun z => by unfold lx_nX at z; omega)]
      have M4 : ∀ a k, a ≠ 804 → m4.2 a k = m3.2 a k := fun a k p => n5.2.2 a k (fun z => by unfold lx_S at z; omega)
      have S5 : wq_S tp N x5 m4 T s J (j2 + 1) nv2 nu2 0 := by
        obtain ⟨⟨hX4, hM4⟩, C4, hN4, h11, ⟨v1, v2, v3, v4, v5, v6, v7⟩, w1, w2, w3, w4⟩ := S4
        exact ⟨⟨hX4.upd u5, hM4⟩, C4.upd u5 (bz_Upd.refl (S := fun _ _ => False)) (fun a k z => by unfold lx_KX; omega) (fun a k z => z.elim), hN4.gen u5 (bz_Upd.refl (S := fun _ _ => False)) (fun a k z => by omega) (fun a k z => z.elim), by rw [u5.2.2 223 11 (fun z => by omega)]; exact h11, ⟨v1, v2, v3, v4, by rw [u5.2.2 223 3 (fun z => by omega)]; exact v5, by omega, v7⟩, by rw [u5.2.2 161 2 (fun z => by omega)]; exact w1, w2, w3, fun k k0 k1 => by rw [u5.2.2 166 k (fun z => by omega)]; exact w4 k k0 k1⟩
      -- rows
      have MoA : wq_Mo x1 m1 x5 m4 nv nu nv2 nu2 := b10.trans ⟨Int.le_refl _, Int.le_refl _, fun b _ _ => by rw [M4 821 b (by omega), M3 821 b (by omega) (by omega)], fun k _ _ => ⟨by rw [M4 822 k (by omega), M3 822 k (by omega) (by omega)], X5 166 k (by omega) (by omega)⟩⟩
      have X51 : ∀ a k, (167 ≤ a ∧ a < 191 + 4 * nw) ∨ a = T ∨ (a = 161 ∧ k = 0) → x5.2 a k = x1.2 a k := fun a k z => by
        rw [X5 a k (by omega) (by omega), b7.2.2 a k (fun w => by unfold wq_XX wq_X at w; omega)]
      have M41 : ∀ a k, (852 ≤ a ∧ a ≤ 855) ∨ (a = 856 ∧ k < 60 * nw) ∨ (a = 857 ∧ k < 2 * nw) ∨ a = 811 ∨ a = 812 → m4.2 a k = m1.2 a k := fun a k z => by
        rw [M4 a k (by omega), M3 a k (by omega) (by omega), b8.2.2 a k (fun w => by unfold wq_MM wq_M at w; omega)]
      have ec : bz_ct m4 s = bz_ct m1 s := funext fun k => M41 811 _ (by omega)
      have ef : bz_ft m4 s = bz_ft m1 s := funext fun k => M41 812 _ (by omega)
      have A5 : wq_A x5 m4 T s nv2 nu2 ng (nw + 1) := by
        obtain ⟨g1, g2, g3, g4⟩ := A1
        refine ⟨⟨by rw [X51 161 0 (by omega)]; exact g1.1, by rw [n5.2.2 804 100 (fun z => by unfold lx_S at z; omega), M3 804 100 (by omega) (by omega), b8.2.2 804 100 (fun w => by unfold wq_MM wq_M at w; omega)]; exact g1.2.1, g1.2.2⟩, ⟨by rw [hx5, az_wr_same], by rw [n5.2.2 804 86 (fun z => by unfold lx_S at z; omega), hm3, az_wr_same], by omega, by omega⟩, fun i i0 i1 => ?_, fun i i0 i1 => ?_⟩
        · obtain ⟨a1, a2, a3⟩ := g3 i i0 i1
          have b1 := a1.1
          have b2 := a2.1
          unfold wq_G
          rw [M41 854 i (by omega), M41 855 i (by omega), M41 852 (30 * i) (by omega)]
          exact ⟨a1.mono (X51 _ _ (by omega)) (fun k k0 k1 => X51 _ _ (by omega)) (fun k k0 k1 => M41 _ _ (by omega)) (X51 _ _ (by omega)) (X51 _ _ (by omega)) ec ef MoA.1 (Int.le_refl 0) MoA.2.2.1, a2.mono (X51 _ _ (by omega)) (fun k k0 k1 => X51 _ _ (by omega)) (fun k k0 k1 => M41 _ _ (by omega)) (X51 _ _ (by omega)) (X51 _ _ (by omega)) ec ef MoA.1 (Int.le_refl 0) MoA.2.2.1, a3⟩
        · by_cases e : i = nw
          · subst e
            have e54 : m4.2 857 (2 * i) = s1 := by rw [M4 857 _ (by omega), hm3, az_wr_ne (by omega), az_wr_ne (by omega), az_wr_same]
            have e55 : m4.2 857 (2 * i + 1) = s2 := by rw [M4 857 _ (by omega), hm3, az_wr_ne (by omega), az_wr_same]
            have e56 : ∀ k, m4.2 856 k = m2.2 856 k := fun k => by rw [M4 856 k (by omega), M3 856 k (by omega) (by omega)]
            have ec2 : bz_ct m4 s = bz_ct m2 s := funext fun k => by show m4.2 811 _ = m2.2 811 _; rw [M4 811 _ (by omega), M3 811 _ (by omega) (by omega)]
            have ef2 : bz_ft m4 s = bz_ft m2 s := funext fun k => by show m4.2 812 _ = m2.2 812 _; rw [M4 812 _ (by omega), M3 812 _ (by omega) (by omega)]
            have w21 : ∀ b, m4.2 821 b = m2.2 821 b := fun b => by rw [M4 821 b (by omega), M3 821 b (by omega) (by omega)]
            unfold wq_N
            rw [e54, e55]
            exact ⟨b4.mono (X5 _ _ (by omega) (by omega)) (fun k _ _ => X5 _ _ (by omega) (by omega)) (fun k _ _ => e56 _) (X5 _ _ (by omega) (by omega)) (X5 _ _ (by omega) (by omega)) ec2 ef2 (Int.le_refl _) (Int.le_refl _) (fun b _ _ => w21 b), b5.mono (X5 _ _ (by omega) (by omega)) (fun k _ _ => X5 _ _ (by omega) (by omega)) (fun k _ _ => e56 _) (X5 _ _ (by omega) (by omega)) (X5 _ _ (by omega) (by omega)) ec2 ef2 (Int.le_refl _) (Int.le_refl _) (fun b _ _ => w21 b)⟩
          · obtain ⟨a1, a2⟩ := g4 i i0 (by omega)
            have b1 := a1.1
            have b2 := a2.1
            unfold wq_N
            rw [M41 857 (2 * i) (by omega), M41 857 (2 * i + 1) (by omega)]
            exact ⟨a1.mono (X51 _ _ (by omega)) (fun k k0 k1 => X51 _ _ (by omega)) (fun k k0 k1 => M41 _ _ (by omega)) (X51 _ _ (by omega)) (X51 _ _ (by omega)) ec ef MoA.1 MoA.2.1 MoA.2.2.1, a2.mono (X51 _ _ (by omega)) (fun k k0 k1 => X51 _ _ (by omega)) (fun k k0 k1 => M41 _ _ (by omega)) (X51 _ _ (by omega)) (X51 _ _ (by omega)) ec ef MoA.1 MoA.2.1 MoA.2.2.1⟩
      refine ⟨x5, m4, j2 + 1, ?_, ?_, ⟨nv2, nu2, ng, nw + 1, S5, A5⟩, ((u1.trans b7').trans (n4.weak fun a k z => by unfold lx_nX at z; unfold wz_X; omega)).trans (u5.weak fun a k z => by unfold wz_X; omega), um3.trans (n5.weak fun a k z => by unfold lx_S at z; unfold wz_M; omega), by omega⟩
      · rw [eX _ b1, if_pos c59, n1, Option.bind_some, Option.bind_some, if_neg (show ¬ (1 : Int) = 0 by decide), fx_223_12 S4.1.1, Option.bind_some, x40, az_w32_id (by omega) (by omega), hx5]
      · rw [if_pos c59, n2, Option.bind_some, rd_wrap]
    · left
      obtain ⟨x4, m4, d1, d2, d3, d4, d5⟩ := lx_fail C3 2
      refine ⟨x4, m4, ?_, ?_, (u1.trans b7').trans (d3.weak fun a k z => by unfold wz_X; omega), (um3.weak fun _ _ z => Or.inl z).trans (d4.weak fun a k z => Or.inr z), d5⟩
      · rw [eX _ b1, if_neg c59, d1, rd_wrap0, Option.bind_some, if_pos rfl]
      · rw [if_neg c59, d2, rd_wrap0, rd_wrap0]
/-- one LINE -/
theorem wq_bad0 {x m : az_Hp} {j : Nat} (C : lx_Cur x m tp N J j) (k : Int) : wq_Bad x m (fz_X4_fail x 223 k) ((fz_X11_bad m 804 k).bind fun q => (if q.1 = 0 ∨ q.1 = 1 then some (q.1, q.2) else none)) := by
  obtain ⟨x', m', a, b, c, d, e⟩ := lx_fail C k
  exact ⟨x', m', a, by rw [b, rd_wrap0], c.weak fun a k z => by unfold wz_X; omega, d.weak fun a k z => Or.inr z, e⟩
theorem wq_line {x m : az_Hp} {j : Nat} (h : wq_Z tp N x m T s J j) (k0 : lx_kj tp N j ≠ 0) : ∃ A, (∀ (k : Nat) (i : Int), i < 900 → fz_X4_readRequest_22 2000000 (k + 1) x 223 i = A.bind fun r => fz_X4_readRequest_136 2000000 (fz_X4_readRequest_22 2000000 k) r.2 223 i r.1) ∧ (wq_Bad x m A (fz_X11_readWanted 2000000 m 804) ∨ wq_Ok tp N T s J x m j A (fz_X11_readWanted 2000000 m 804)) := by
  obtain ⟨nv, nu, ng, nw, hS, hA⟩ := h
  have C := hS.2.1
  have hX := hS.1.1
  have h8 : x.2 223 8 = lx_kj tp N j := C.2.2.1.2.1
  have W := rd_Wv
  have w5 := rd_isWord C (k := 5) (by omega) (by omega)
  have w6 := rd_isWord C (k := 6) (by omega) (by omega)
  rw [W.2.2.2.2.2.1] at w5
  rw [W.2.2.2.2.2.2] at w6
  obtain ⟨⟨a1, a2, a3, a4⟩, ⟨b1, b2, b3, b4⟩, -⟩ := id hA
  by_cases c5 : lx_kj tp N j = 3 ∧ lx_vj tp N j = 3913421
  · rw [if_pos c5] at w5
    refine ⟨(if ng < 6 then fz_X4_readGiven 2000000 x 223 ng else fz_X4_fail x 223 6), fun k i hi => ?_, ?_⟩
    · conv => lhs; unfold fz_X4_readRequest_22
      rw [if_pos hi, if_neg (by omega), w5.1, Option.bind_some, if_neg (show ¬ (1 : Int) = 0 by decide), fx_223_12 hX, Option.bind_some, a1]
      by_cases c : ng < 6
      · rw [if_pos c, if_pos c, Option.bind_some, a1]
      · rw [if_neg c, if_neg c]
    · have eB : fz_X11_readWanted 2000000 m 804 = (if ng = 6 then ((fz_X11_bad m 804 6).bind fun r2 => (if r2.1 = 0 ∨ r2.1 = 1 then some (r2.1, r2.2) else none)) else ((fz_X11_go 2000000 m 804).bind fun r1 => fz_X11_readWanted_76 2000000 r1 804 1 ng 3)) := by
        unfold fz_X11_readWanted
        rw [w5.2, Option.bind_some, if_neg (show ¬ (1 : Int) = 0 by decide)]
        unfold fz_X11_readWanted_25 fz_X11_readWanted_40 fz_X11_readWanted_53
        simp only [if_neg (show ¬ (1 : Int) = 0 by decide), a2]
      rw [eB]
      by_cases c : ng < 6
      · rw [if_pos c, if_neg (by omega)]
        exact wq_given hS hA c5.1 c
      · left
        rw [if_neg c, if_pos (by omega)]
        exact wq_bad0 C 6
  · rw [if_neg c5] at w5
    by_cases c6 : lx_kj tp N j = 3 ∧ lx_vj tp N j = 453836
    · rw [if_pos c6] at w6
      refine ⟨(if nw < 8 then fz_X4_readWant 2000000 x 223 nw else fz_X4_fail x 223 6), fun k i hi => ?_, ?_⟩
      · conv => lhs; unfold fz_X4_readRequest_22
        rw [if_pos hi, if_neg (by omega), w5.1, Option.bind_some, if_pos rfl, w6.1, Option.bind_some, if_neg (show ¬ (1 : Int) = 0 by decide), fx_223_12 hX, Option.bind_some, b1]
        by_cases c : nw < 8
        · rw [if_pos c, if_pos c, Option.bind_some, b1]
        · rw [if_neg c, if_neg c]
      · have eB : fz_X11_readWanted 2000000 m 804 = (if nw = 8 then ((fz_X11_bad m 804 6).bind fun r2 => (if r2.1 = 0 ∨ r2.1 = 1 then some (r2.1, r2.2) else none)) else ((fz_X11_go 2000000 m 804).bind fun r1 => fz_X11_readWanted_76 2000000 r1 804 0 nw 4)) := by
          unfold fz_X11_readWanted
          rw [w5.2, Option.bind_some, if_pos rfl, w6.2, Option.bind_some, if_neg (show ¬ (1 : Int) = 0 by decide)]
          unfold fz_X11_readWanted_25 fz_X11_readWanted_40 fz_X11_readWanted_53
          simp only [if_true, b2]
        rw [eB]
        by_cases c : nw < 8
        · rw [if_pos c, if_neg (by omega)]
          exact wq_want hS hA c6.1 c
        · left
          rw [if_neg c, if_pos (by omega)]
          exact wq_bad0 C 6
    · rw [if_neg c6] at w6
      refine ⟨fz_X4_fail x 223 2, fun k i hi => ?_, Or.inl ?_⟩
      · conv => lhs; unfold fz_X4_readRequest_22
        rw [if_pos hi, if_neg (by omega), w5.1, Option.bind_some, if_pos rfl, w6.1, Option.bind_some, if_pos rfl]
      · unfold fz_X11_readWanted
        rw [w5.2, Option.bind_some, if_pos rfl, w6.2, Option.bind_some, if_pos rfl]
        exact wq_bad0 C 2
/-- all LINES -/
theorem wq_loop : ∀ (d k k' : Nat) (x m : az_Hp) (j : Nat) (i : Int), J - j ≤ d → d + 1 < k → d + 2 < k' → wq_Z tp N x m T s J j → 0 ≤ i → i ≤ j →
    (∃ x' m', fz_X4_readRequest_22 2000000 k x 223 i = some (0, x') ∧ fz_X11_want_52 2000000 k' m 804 1 = fz_X11_want_71 2000000 m' 804 0 ∧ bz_Upd x x' wz_X ∧ bz_Upd m m' wz_MB ∧ lx_fault x' m') ∨
    ∃ x' m' j', fz_X4_readRequest_22 2000000 k x 223 i = some (1, x') ∧ fz_X11_want_52 2000000 k' m 804 1 = fz_X11_want_71 2000000 m' 804 1 ∧ bz_Upd x x' wz_X ∧ bz_Upd m m' wz_M ∧ wq_Z tp N x' m' T s J j' := by
  intro d
  induction d with
  | zero =>
    intro k k' x m j i hd hk hk' h i0 ij
    obtain ⟨k, rfl⟩ : ∃ q, k = q + 1 := ⟨k - 1, by omega⟩
    obtain ⟨k', rfl⟩ : ∃ q, k' = q + 1 := ⟨k' - 1, by omega⟩
    have C : lx_Cur x m tp N J j := by obtain ⟨nv, nu, ng, nw, hS, -⟩ := h; exact hS.2.1
    have h8 : x.2 223 8 = lx_kj tp N j := C.2.2.1.2.1
    by_cases c0 : lx_kj tp N j = 0
    · right
      refine ⟨x, m, j, ?_, ?_, bz_Upd.refl, bz_Upd.refl, h⟩
      · unfold fz_X4_readRequest_22
        by_cases c : i < 900
        · rw [if_pos c, if_pos (by omega)]
        · rw [if_neg c]
      · unfold fz_X11_want_52
        rw [if_neg (show ¬ (1 : Int) = 0 by decide), if_pos ((lx_kind C).1.mpr c0)]
    · have i9 : i < 900 := by
        by_cases c : i < 900
        · exact c
        · exact absurd (lx_900 C (by omega)) c0
      obtain ⟨A, hA, hB⟩ := wq_line h c0
      rcases hB with ⟨x', m', a1, a2, a3, a4, a5⟩ | ⟨x', m', j', a1, a2, a3, a4, a5, a6⟩
      · left
        obtain ⟨k', rfl⟩ : ∃ q, k' = q + 1 := ⟨k' - 1, by omega⟩
        refine ⟨x', m', ?_, ?_, a3, a4, a5⟩
        · rw [hA k i i9, a1, Option.bind_some]
          unfold fz_X4_readRequest_136
          rw [if_pos rfl]
        · conv => lhs; unfold fz_X11_want_52
          rw [if_neg (show ¬ (1 : Int) = 0 by decide), if_neg (fun z => c0 ((lx_kind C).1.mp z)), a2, Option.bind_some]
          unfold fz_X11_want_52
          rw [if_pos rfl]
      · obtain ⟨nv, nu, ng, nw, hS, -⟩ := a3
        have := hS.2.1.2.1
        omega
  | succ d ih =>
    intro k k' x m j i hd hk hk' h i0 ij
    obtain ⟨k, rfl⟩ : ∃ q, k = q + 1 := ⟨k - 1, by omega⟩
    obtain ⟨k', rfl⟩ : ∃ q, k' = q + 1 := ⟨k' - 1, by omega⟩
    have C : lx_Cur x m tp N J j := by obtain ⟨nv, nu, ng, nw, hS, -⟩ := h; exact hS.2.1
    have h8 : x.2 223 8 = lx_kj tp N j := C.2.2.1.2.1
    by_cases c0 : lx_kj tp N j = 0
    · right
      refine ⟨x, m, j, ?_, ?_, bz_Upd.refl, bz_Upd.refl, h⟩
      · unfold fz_X4_readRequest_22
        by_cases c : i < 900
        · rw [if_pos c, if_pos (by omega)]
        · rw [if_neg c]
      · unfold fz_X11_want_52
        rw [if_neg (show ¬ (1 : Int) = 0 by decide), if_pos ((lx_kind C).1.mpr c0)]
    · have i9 : i < 900 := by
        by_cases c : i < 900
        · exact c
        · exact absurd (lx_900 C (by omega)) c0
      obtain ⟨A, hA, hB⟩ := wq_line h c0
      rcases hB with ⟨x', m', a1, a2, a3, a4, a5⟩ | ⟨x', m', j', a1, a2, a3, a4, a5, a6⟩
      · left
        obtain ⟨k', rfl⟩ : ∃ q, k' = q + 1 := ⟨k' - 1, by omega⟩
        refine ⟨x', m', ?_, ?_, a3, a4, a5⟩
        · rw [hA k i i9, a1, Option.bind_some]
          unfold fz_X4_readRequest_136
          rw [if_pos rfl]
        · conv => lhs; unfold fz_X11_want_52
          rw [if_neg (show ¬ (1 : Int) = 0 by decide), if_neg (fun z => c0 ((lx_kind C).1.mp z)), a2, Option.bind_some]
          unfold fz_X11_want_52
          rw [if_pos rfl]
      · have jJ : j' ≤ J := by obtain ⟨nv, nu, ng, nw, hS, -⟩ := a3; exact hS.2.1.2.1
        have eX : fz_X4_readRequest_22 2000000 (k + 1) x 223 i = fz_X4_readRequest_22 2000000 k x' 223 (i + 1) := by
          rw [hA k i i9, a1, Option.bind_some]
          unfold fz_X4_readRequest_136
          rw [if_neg (show ¬ (1 : Int) = 0 by decide), az_w32_id (by omega) (by omega)]
        have eM : fz_X11_want_52 2000000 (k' + 1) m 804 1 = fz_X11_want_52 2000000 k' m' 804 1 := by
          conv => lhs; unfold fz_X11_want_52
          rw [if_neg (show ¬ (1 : Int) = 0 by decide), if_neg (fun z => c0 ((lx_kind C).1.mp z)), a2, Option.bind_some]
        rw [eX, eM]
        rcases ih k k' x' m' j' (i + 1) (by omega) (by omega) (by omega) a3 (by omega) (by omega) with ⟨x2, m2, b1, b2, b3, b4, b5⟩ | ⟨x2, m2, j2, b1, b2, b3, b4, b5⟩
        · exact Or.inl ⟨x2, m2, b1, b2, a4.trans b3, (a5.weak fun _ _ z => Or.inl z).trans b4, b5⟩
        · exact Or.inr ⟨x2, m2, j2, b1, b2, a4.trans b3, a5.trans b4, b5⟩
end WK
