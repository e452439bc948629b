/-! an EQUATION: its left side -/
def ld_rX (x : az_Hp) (R : Int) : Option (Int × az_Hp) := ((fz_X4_readSide 2000000 x 223 R 1).bind fun r3 => (if r3.1 = 0 then (some (0, r3.2)) else (if (r3.2.2 223 8) = 59 then ((fz_X4_next r3.2 223).bind fun r4 => (some (1, r4))) else ((fz_X4_fail r3.2 223 2).bind fun r5 => (if r5.1 = 0 ∨ r5.1 = 1 then some (r5.1, r5.2) else none)))))
def ld_eX (o : Option (Int × az_Hp)) : Option (Int × az_Hp) := o.bind fun r9 => (if r9.1 = 0 then (some (0, r9.2)) else ((az_gref r9.2 223 11).bind fun x10 => ((fz_X9_addEquation r9.2 x10 (r9.2.2 223 3)).bind fun r11 => (some (1, r11)))))
def ld_rM (s15 : az_Hp) (r6 : Int) : Option (Int × az_Hp) := ((az_gref s15 804 28).bind fun x16 => ((az_gref s15 804 26).bind fun x17 => ((fz_X11_readWhole 2000000 s15 804 1 16 59 0 x17 (16 * r6)).bind fun r18 => ((az_awr r18.2 x16 r6 r18.1).bind fun s19 => ((az_gref s19 804 28).bind fun x20 => ((az_ard s19 x20 r6).bind fun x21 => (if x21 = (-1) then (some (0, s19)) else ((az_gref s19 804 18).bind fun x22 => ((az_ard s19 x22 (s19.2 804 15)).bind fun x23 => ((az_awr s19 x22 (s19.2 804 15) (az_w32 (x23 + 1))).bind fun s24 => ((fz_X11_eats 2000000 s24 804 59).bind fun r25 => (if r25.1 = 0 ∨ r25.1 = 1 then some (r25.1, r25.2) else none))))))))))))
/-- a left side that has been read -/
def ld_Lf (x m : az_Hp) (T s e nv sz : Int) : Prop := (x.2 (T + 15 + 4 * e) 1 = sz ∧ 1 ≤ sz ∧ sz ≤ 16) ∧ m.2 817 (16 * s + e) = sz ∧ m.2 819 (16 * s + e) = nv ∧ bz_Sc (bz_ra x (T + 15 + 4 * e)) sz.toNat 1 0 ∧ (∀ i, 0 ≤ i → i < sz → bz_cr (bz_ct m s) (bz_ft m s) (x.2 T 0) (x.2 T 1) (bz_VE nv) (x.2 (T + 15 + 4 * e + 1) i) (m.2 815 (16 * (16 * s + e) + i)) ∧ rd_PC 0 0 i (m.2 815 (16 * (16 * s + e) + i))) ∧ ∀ b, 0 ≤ b → b < nv → ∃ i, 1 ≤ i ∧ i < sz ∧ m.2 815 (16 * (16 * s + e) + i) = 1000 + b
def ld_Vr (x m : az_Hp) (nv : Int) : Prop := m.2 804 37 = nv ∧ (0 ≤ nv ∧ nv ≤ 6) ∧ (∀ b c, 0 ≤ b → b < c → c < nv → m.2 821 b ≠ m.2 821 c) ∧ x.2 223 3 = nv ∧ x.2 223 4 = 6 ∧ m.2 804 34 = 6 ∧ ∀ b, 0 ≤ b → b < nv → bz_WR 96 (x.2 224 b) (m.2 821 b)
section EL
variable {tp : Int → Int} {N : Int} {T s : Int} {J : Nat}
theorem ld_left {x m : az_Hp} {j : Nat} {e : Int} (h : ld_S tp N x m T s J j) (hk : lx_kj tp N j = 3) (he : x.2 T 2 = e) (e16 : e < 16) :
    ld_Bad T s x m (fz_X4_readEquation 2000000 x 223 e) (fz_X11_readEquation 2000000 m 804) ∨
    ∃ (x' m' : az_Hp) (j' : Nat) (nv sz : Int), fz_X4_readEquation 2000000 x 223 e = ld_eX (ld_rX x' (T + 17 + 4 * e)) ∧ fz_X11_readEquation 2000000 m 804 = ld_rM m' (16 * s + e) ∧ ld_S tp N x' m' T s J j' ∧ x'.2 T 2 = e ∧ ld_Lf x' m' T s e nv sz ∧ ld_Vr x' m' nv ∧ bz_Upd x x' (ld_X T) ∧ bz_Upd m m' (ld_M s) ∧ j < j' := by
  obtain ⟨x1, m1, a1, a2, S1, a4, a5⟩ := ld_step h (by omega) (by omega)
  have hT := h.2.2.1.1.1
  have hs := h.2.2.1.1.2.1
  have h3 := h.2.2.1.2.2.1
  have x1e : x1.2 T 2 = e := by rw [a4.2.2 T 2 (fun z => by unfold lx_nX at z; omega)]; exact he
  obtain ⟨x2, hx2⟩ : ∃ x2, x2 = az_wr (az_wr x1 223 3 0) 223 4 6 := ⟨_, rfl⟩
  obtain ⟨m2, hm2⟩ : ∃ m2, m2 = az_wr (az_wr m1 804 37 0) 804 34 6 := ⟨_, rfl⟩
  have u2 : bz_Upd x1 x2 (fun a k => a = 223 ∧ (k = 3 ∨ k = 4)) := by rw [hx2]; exact bz_Upd.wr (bz_Upd.wr bz_Upd.refl ⟨rfl, by omega⟩ (by decide)) ⟨rfl, by omega⟩ (by decide)
  have v2 : bz_Upd m1 m2 (fun a k => a = 804 ∧ (k = 34 ∨ k = 37)) := by rw [hm2]; exact bz_Upd.wr (bz_Upd.wr bz_Upd.refl ⟨rfl, by omega⟩ (by decide)) ⟨rfl, by omega⟩ (by decide)
  have S2 : ld_S tp N x2 m2 T s J (j + 1) := ⟨⟨S1.1.1.upd u2, S1.1.2.upd v2⟩, S1.2.1.upd u2 v2 (fun a k z => by unfold lx_KX; omega) (fun a k z => by unfold lx_KM; omega), S1.2.2.1.gen u2 v2 (fun a k z => by omega) (fun a k z => by omega), by rw [u2.2.2 223 11 (fun z => by omega)]; exact S1.2.2.2⟩
  have cp := bz_tcap hT (show 0 ≤ e by omega) e16
  have hX2 := S2.1.1
  have hM2 := S2.1.2
  have hM1 := S1.1.2
  have tg := bz_tg hX2 hT
  have tr := bz_tr hX2 hT (show 0 ≤ e by omega) e16
  have gT : az_gref x2 223 11 = some T := bz_gr S2.2.2.2 (by omega)
  have m115 : m1.2 804 15 = s := S1.2.2.1.1.2.2.1
  have m808 : m1.2 808 s = e := by rw [← S1.2.2.1.2.2.1.1]; exact x1e
  have R := ld_side (r := T + 15 + 4 * e) (md := 0) (nv := 0) (en := 61) S2 cp.1 (Or.inl rfl) ⟨by rw [hm2, az_wr_ne (by omega), az_wr_same], ⟨by omega, by omega⟩, fun b c b0 bc c1 => by omega, by rw [hx2, az_wr_ne (by omega), az_wr_same], by rw [hx2, az_wr_same], by rw [hm2, az_wr_same], fun b b0 b1 => by omega⟩ (fun _ => rfl) rfl
  rw [show rd_must 0 0 = 1 from rfl] at R
  obtain ⟨y, hy⟩ : ∃ y, y = az_wr (az_wr x2 (T + 15 + 4 * e) 1 0) 223 5 0 := ⟨_, rfl⟩
  obtain ⟨q, hq⟩ : ∃ q, q = az_wr (az_wr (az_wr m2 804 32 0) 804 33 16) 804 31 0 := ⟨_, rfl⟩
  rw [← hy, ← hq] at R
  have rp : 0 < bz_cap (T + 15 + 4 * e) := by omega
  have uy : bz_Upd x2 y (ld_X T) := by rw [hy]; exact bz_Upd.wr (bz_Upd.wr bz_Upd.refl (Or.inl ⟨by omega, by omega⟩) (yz_free rp).1) (Or.inr (Or.inl (by omega))) (by decide)
  have uq : bz_Upd m2 q (ld_M s) := by rw [hq]; exact bz_Upd.wr (bz_Upd.wr (bz_Upd.wr bz_Upd.refl (Or.inl ⟨rfl, by omega⟩) (by decide)) (Or.inl ⟨rfl, by omega⟩) (by decide)) (Or.inl ⟨rfl, by omega⟩) (by decide)
  have ux2 : bz_Upd x x2 (ld_X T) := (a4.weak fun a k z => Or.inr (Or.inl (by unfold lx_nX at z; omega))).trans (u2.weak fun a k z => Or.inr (Or.inl (by omega)))
  have um2 : bz_Upd m m2 (ld_M s) := (a5.weak fun a k z => Or.inl (by unfold lx_S at z; omega)).trans (v2.weak fun a k z => Or.inl ⟨z.1, by omega⟩)
  have rX : ∀ a k, rd_SX (T + 15 + 4 * e) a k → ld_X T a k := fun a k z => by unfold rd_SX yz_S at z; unfold ld_X; omega
  have rM : ∀ a k, rd_SM a k → ld_M s a k := fun a k z => by unfold rd_SM at z; unfold ld_M; omega
  have runX : ∀ o, fz_X4_readSide 2000000 x2 223 (T + 15 + 4 * e) 0 = some o → fz_X4_readEquation 2000000 x 223 e = ld_eX (if o.1 = 0 then (some (0, o.2)) else (if (o.2.2 223 8) = 61 then ((fz_X4_next o.2 223).bind fun r2 => ld_rX r2 (T + 17 + 4 * e)) else ((fz_X4_fail o.2 223 2).bind fun r6 => (if r6.1 = 0 ∨ r6.1 = 1 then some (r6.1, r6.2) else none)))) := fun o ho => by
    unfold fz_X4_readEquation
    rw [a1, Option.bind_some]
    show ((az_gref (az_wr (az_wr x1 223 3 0) 223 4 6) 223 11).bind _) = _
    rw [← hx2, gT, Option.bind_some, tg.2.2.2.2.2.2.2.2.1, Option.bind_some, tr.1, Option.bind_some, Option.bind_some, tg.2.2.2.2.2.2.2.2.2.1, Option.bind_some, tr.2, Option.bind_some]
    unfold fz_X4_readBoth
    rw [ho, Option.bind_some]
    rfl
  have ws : az_w32 (16 * (16 * s + e)) = 16 * (16 * s + e) := az_w32_id (by omega) (by omega)
  have eqA : fz_X11_eqAt m1 804 e = some (16 * s + e) := by
    unfold fz_X11_eqAt
    rw [m115, az_w32_id (z := 16 * s) (by omega) (by omega), az_w32_id (by omega) (by omega)]
  have hM := h.1.2
  have runM : ∀ o, fz_X11_readTerm 2000000 200 q 804 61 0 1 = some o → fz_X11_readEquation 2000000 m 804 = ((if o.1 = 0 then (some ((-1 : Int), o.2)) else fz_X11_readWhole_31 2000000 2000000 o.2 804 815 (16 * (16 * s + e)) 0).bind fun r9 => ((az_awr r9.2 817 (16 * s + e) r9.1).bind fun s10 => ((az_gref s10 804 27).bind fun x11 => ((az_ard s10 x11 (16 * s + e)).bind fun x12 => (if x12 = (-1) then (some (0, s10)) else ((fz_X11_eats 2000000 s10 804 61).bind fun r13 => (if r13.1 = 0 then (some (0, r13.2)) else ((az_gref r13.2 804 29).bind fun x14 => ((az_awr r13.2 x14 (16 * s + e) (r13.2.2 804 37)).bind fun s15 => ld_rM s15 (16 * s + e)))))))))) := fun o ho => by
    have n15 : m.2 804 15 = s := h.2.2.1.1.2.2.1
    have n808 : m.2 808 s = e := by rw [← h3.1]; exact he
    unfold fz_X11_readEquation
    rw [fx_804_18 hM, Option.bind_some, n15, bz_ard (by omega) (by rw [ln_808 hM]; omega), Option.bind_some, n808, if_neg (by omega), a2, Option.bind_some, fx_804_18 hM1, Option.bind_some, m115, bz_ard (by omega) (by rw [ln_808 hM1]; omega), Option.bind_some, m808, eqA, Option.bind_some, ← hm2, fx_804_27 hM2, Option.bind_some, fx_804_25 hM2, Option.bind_some, ws]
    have rw1 : fz_X11_readWhole 2000000 m2 804 0 16 61 1 815 (16 * (16 * s + e)) = (if o.1 = 0 then (some ((-1 : Int), o.2)) else fz_X11_readWhole_31 2000000 2000000 o.2 804 815 (16 * (16 * s + e)) 0) := by
      unfold fz_X11_readWhole
      rw [← hq, ho, Option.bind_some]
    rw [rw1]
    rfl
  rcases R with ⟨x', m', b1, b2, b3, b4, b5⟩ | ⟨x3, m3, j3, nv, nu, sz, t1, t2, t3, t4, t5, t6, t7, t8, t9, -⟩
  · left
    have hM' : bz_Fx m' := (hM2.upd uq).upd b4
    have u' : bz_Upd m' (az_wr m' 817 (16 * s + e) (-1)) (fun a k => a = 817 ∧ k = 16 * s + e) := bz_Upd.wr bz_Upd.refl ⟨rfl, rfl⟩ (by unfold bz_isFix; simp [bz_cap, bz_fixL, bz_rowsL])
    refine ld_Bad.from (ux2.trans uy) (um2.trans uq) ⟨x', az_wr m' 817 (16 * s + e) (-1), ?_, ?_, b3.weak rX, (b4.weak fun a k z => ?_).trans (u'.weak fun a k z => Or.inl (Or.inr (by omega))), ?_⟩
    · rw [runX _ b1, if_pos rfl]
      unfold ld_eX
      rw [Option.bind_some, if_pos rfl]
    · rw [runM _ b2, if_pos rfl, Option.bind_some, bz_awr (by omega) (by rw [ln_817 hM']; omega), Option.bind_some, fx_804_27 (hM'.upd u'), Option.bind_some, bz_ard (by omega) (by rw [ln_817 (hM'.upd u')]; omega), Option.bind_some, az_wr_same, if_pos rfl]
    · rcases z with z | z
      · exact Or.inl (rM a k z)
      · exact Or.inr z
    · exact ⟨by rw [az_wr_ne (by omega)]; exact b5.1, by rw [az_wr_ne (by omega)]; exact b5.2⟩
  · have hX3 := t3.1.1
    have hM3 := t3.1.2
    obtain ⟨w1, w2, w3, w4⟩ := t3.2.2.2.2.2.2
    have l815 := ln_815 hM3
    obtain ⟨m4, c1, c2, c3⟩ := rd_copy (A := 815) (off := 16 * (16 * s + e)) (n := sz) hM3 w2 (by omega) (by omega) ⟨by decide, by decide⟩ (fun k => by unfold bz_isFix; simp [bz_cap, bz_fixL, bz_rowsL]) (by omega) (by omega) (by omega)
    have hM4 := hM3.upd c2
    obtain ⟨m5, hm5⟩ : ∃ m5, m5 = az_wr m4 817 (16 * s + e) sz := ⟨_, rfl⟩
    have u5 : bz_Upd m4 m5 (fun a k => a = 817 ∧ k = 16 * s + e) := by rw [hm5]; exact bz_Upd.wr bz_Upd.refl ⟨rfl, rfl⟩ (by unfold bz_isFix; simp [bz_cap, bz_fixL, bz_rowsL])
    have hM5 := hM4.upd u5
    have C5 : lx_Cur x3 m5 tp N J j3 := (t3.2.1.upd (bz_Upd.refl (S := fun _ _ => False)) c2 (fun a k z => z.elim) (fun a k z => by unfold lx_KM; omega)).upd (bz_Upd.refl (S := fun _ _ => False)) u5 (fun a k z => z.elim) (fun a k z => by unfold lx_KM; omega)
    have h8 : x3.2 223 8 = lx_kj tp N j3 := C5.2.2.1.2.1
    have eM : fz_X11_readEquation 2000000 m 804 = ((fz_X11_eats 2000000 m5 804 61).bind fun r13 => (if r13.1 = 0 then (some (0, r13.2)) else ((az_gref r13.2 804 29).bind fun x14 => ((az_awr r13.2 x14 (16 * s + e) (r13.2.2 804 37)).bind fun s15 => ld_rM s15 (16 * s + e))))) := by
      rw [runM _ t2, if_neg (show ¬ (1 : Int) = 0 by decide), c1, Option.bind_some, bz_awr (by omega) (by rw [ln_817 hM4]; omega), Option.bind_some, ← hm5, fx_804_27 hM5, Option.bind_some, bz_ard (by omega) (by rw [ln_817 hM5]; omega), Option.bind_some, show m5.2 817 (16 * s + e) = sz by rw [hm5, az_wr_same], if_neg (show ¬ sz = -1 by omega)]
    have ux3 : bz_Upd x x3 (ld_X T) := (ux2.trans uy).trans (t7.weak rX)
    have um5 : bz_Upd m m5 (ld_M s) := (((um2.trans uq).trans (t8.weak rM)).trans (c2.weak fun a k z => Or.inr (by omega))).trans (u5.weak fun a k z => Or.inr (by omega))
    by_cases c61 : lx_kj tp N j3 = 61
    · right
      obtain ⟨x4, m6, n1, n2, C6, n4, n5⟩ := lx_next hX3 hM5 C5 (by omega) (by omega)
      have hM6 := hM5.upd n5
      have v := t3.2.2.2.2.1
      obtain ⟨z1, z2, z3, z4, z5⟩ := v.2.2.2.1 (by omega)
      have m637 : m6.2 804 37 = nv := by rw [n5.2.2 804 37 (fun z => by unfold lx_S at z; omega), u5.2.2 804 37 (fun z => by omega), c2.2.2 804 37 (fun z => by omega)]; exact v.1
      obtain ⟨m7, hm7⟩ : ∃ m7, m7 = az_wr m6 819 (16 * s + e) nv := ⟨_, rfl⟩
      have u7 : bz_Upd m6 m7 (fun a k => a = 819 ∧ k = 16 * s + e) := by rw [hm7]; exact bz_Upd.wr bz_Upd.refl ⟨rfl, rfl⟩ (by unfold bz_isFix; simp [bz_cap, bz_fixL, bz_rowsL])
      have hM7 := hM6.upd u7
      have X4 : ∀ a k, a ≠ 223 → x4.2 a k = x3.2 a k := fun a k p => n4.2.2 a k (fun z => by unfold lx_nX at z; omega)
      have X42 : ∀ a k, T ≤ a → a < T + 15 + 4 * e → x4.2 a k = x2.2 a k := fun a k p r => by
        rw [X4 a k (by omega), t7.2.2 a k (fun z => by unfold rd_SX yz_S at z; omega), hy, az_wr_ne (by omega), az_wr_ne (by omega)]
      have M7 : ∀ a k, a ≠ 804 → ¬ (a = 819 ∧ k = 16 * s + e) → m7.2 a k = m5.2 a k := fun a k p r => by
        rw [u7.2.2 a k (fun z => r z), n5.2.2 a k (fun z => by unfold lx_S at z; omega)]
      have M5 : ∀ a k, a ≠ 804 → ¬ (a = 817 ∧ k = 16 * s + e) → ¬ (a = 815 ∧ 16 * (16 * s + e) ≤ k ∧ k < 16 * (16 * s + e) + sz) → m5.2 a k = m3.2 a k := fun a k p r r' => by
        rw [u5.2.2 a k (fun z => r z), c2.2.2 a k (fun z => r' z)]
      have M3 : ∀ a k, a ≠ 804 → ¬ (820 ≤ a ∧ a ≤ 822) → m3.2 a k = m2.2 a k := fun a k p r => by
        rw [t8.2.2 a k (fun z => by unfold rd_SM at z; omega), hq, az_wr_ne (by omega), az_wr_ne (by omega), az_wr_ne (by omega)]
      have x2e : x2.2 T 2 = e := by rw [u2.2.2 T 2 (fun z => by omega)]; exact x1e
      have s15 : m7.2 804 15 = m2.2 804 15 := by
        rw [u7.2.2 804 15 (fun z => by omega), n5.2.2 804 15 (fun z => by unfold lx_S at z; omega), u5.2.2 804 15 (fun z => by omega), c2.2.2 804 15 (fun z => by omega), t8.2.2 804 15 (fun z => by unfold rd_SM at z; omega), hq, az_wr_ne (by omega), az_wr_ne (by omega), az_wr_ne (by omega)]
      have LT : ld_T x4 m7 T s := S2.2.2.1.grow (fun a k p r => X42 a k p (by rw [x2e] at r; exact r)) (fun a k p r => by rw [M7 a k (by omega) (by omega), M5 a k (by omega) (by omega) (by omega), M3 a k (by omega) (by omega)]) s15 (fun a e' p r e0 e1 => by rw [M7 a _ (by omega) (by omega), M5 a _ (by omega) (by omega) (by omega), M3 a _ (by omega) (by omega)]) (fun a e' i p e0 e1 i0 i1 => by rw [M7 a _ (by omega) (by omega), M5 a _ (by omega) (by omega) (by omega), M3 a _ (by omega) (by omega)])
      have x411 : x4.2 223 11 = T := by rw [n4.2.2 223 11 (fun z => by unfold lx_nX at z; omega)]; exact t3.2.2.2.1.1
      have C7 : lx_Cur x4 m7 tp N J (j3 + 1) := C6.upd (bz_Upd.refl (S := fun _ _ => False)) u7 (fun a k z => z.elim) (fun a k z => by unfold lx_KM; omega)
      have e34 : m3.2 804 34 = 6 := by rw [t8.2.2 804 34 (fun z => by unfold rd_SM at z; omega), hq, az_wr_ne (by omega), az_wr_ne (by omega), az_wr_ne (by omega), hm2, az_wr_same]
      have k815 : ∀ i, 0 ≤ i → i < sz → m7.2 815 (16 * (16 * s + e) + i) = m3.2 820 i := fun i i0 i1 => by
        rw [M7 815 _ (by omega) (by omega), u5.2.2 815 _ (fun z => by omega)]; exact c3 i i0 i1
      have ec : bz_ct m7 s = bz_ct m3 s := funext fun k => by show m7.2 811 _ = m3.2 811 _; rw [M7 811 _ (by omega) (by omega), M5 811 _ (by omega) (by omega) (by omega)]
      have ef : bz_ft m7 s = bz_ft m3 s := funext fun k => by show m7.2 812 _ = m3.2 812 _; rw [M7 812 _ (by omega) (by omega), M5 812 _ (by omega) (by omega) (by omega)]
      have tcp := @bz_cap60 (T + 15 + 4 * e)
      refine ⟨x4, m7, j3 + 1, nv, sz, ?_, ?_, ⟨⟨hX3.upd n4, hM7⟩, C7, LT, x411⟩, by rw [X42 T 2 (by omega) (by omega)]; exact x2e, ⟨⟨by rw [X4 _ 1 (by omega)]; exact w1, t6, by omega⟩, by rw [M7 817 _ (by omega) (by omega), hm5, az_wr_same], by rw [hm7, az_wr_same], ?_, fun i i0 i1 => ?_, fun b b0 b1 => ?_⟩, ⟨by rw [u7.2.2 804 37 (fun z => by omega)]; exact m637, ⟨v.2.1.1, by omega⟩, fun b c b0 bc cc => ?_, by rw [n4.2.2 223 3 (fun z => by unfold lx_nX at z; omega)]; exact z1, by rw [n4.2.2 223 4 (fun z => by unfold lx_nX at z; omega)]; omega, ?_, fun b b0 b1 => ?_⟩, ux3.trans (n4.weak fun a k z => Or.inr (Or.inl (by unfold lx_nX at z; omega))), (um5.trans (n5.weak fun a k z => Or.inl (by unfold lx_S at z; omega))).trans (u7.weak fun a k z => Or.inr (by omega)), by omega⟩
      · rw [runX _ t1, if_neg (show ¬ (1 : Int) = 0 by decide), if_pos (show x3.2 223 8 = 61 by omega), n1, Option.bind_some]
      · rw [eM, ld_eats C5 (by decide), if_pos c61, n2, Option.bind_some, Option.bind_some, if_neg (show ¬ (1 : Int) = 0 by decide), fx_804_29 hM6, Option.bind_some, m637, bz_awr (by omega) (by rw [ln_819 hM6]; omega), Option.bind_some, ← hm7]
      · refine t5.cong (fun k k0 k1 => ?_)
        unfold bz_ra
        rw [X4 _ k (by omega)]
      · obtain ⟨p1, p2, p3, p4, p5⟩ := w4 i i0 i1
        rw [ec, ef, X4 T 0 (by omega), X4 T 1 (by omega), X4 _ i (by omega), k815 i i0 i1]
        exact ⟨p1.weak fun a b r => by unfold rd_V at r; rw [if_pos (by decide)] at r; exact r, p2, fun r => by have := p2 (by omega); omega, p4, p5⟩
      · obtain ⟨i, i1, i2, i3⟩ := t4 rfl b b0 b1
        exact ⟨i, i1, i2, by rw [k815 i (by omega) i2]; exact i3⟩
      · rw [M7 821 _ (by omega) (by omega), M7 821 _ (by omega) (by omega), M5 821 _ (by omega) (by omega) (by omega), M5 821 _ (by omega) (by omega) (by omega)]; exact v.2.2.1 b c b0 bc cc
      · rw [u7.2.2 804 34 (fun z => by omega), n5.2.2 804 34 (fun z => by unfold lx_S at z; omega), u5.2.2 804 34 (fun z => by omega), c2.2.2 804 34 (fun z => by omega)]; exact e34
      · rw [X4 224 b (by omega), M7 821 _ (by omega) (by omega), M5 821 _ (by omega) (by omega) (by omega)]; exact z5 b b0 b1
    · left
      obtain ⟨x4, m6, d1, d2, d3, d4, d5⟩ := ld_bad (T := T) (s := s) C5 2
      refine ld_Bad.from ux3 um5 ⟨x4, m6, ?_, ?_, d3, d4, d5⟩
      · rw [runX _ t1, if_neg (show ¬ (1 : Int) = 0 by decide), if_neg (show ¬ x3.2 223 8 = 61 by omega), d1]
        unfold ld_eX
        rw [Option.bind_some, if_pos rfl]
      · rw [eM, ld_eats C5 (by decide), if_neg c61, d2, Option.bind_some, if_pos rfl]
end EL
