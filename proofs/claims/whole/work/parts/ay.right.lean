/-! an EQUATION: its right side, and it is told -/
theorem ld_addEq {x : az_Hp} {T e nv c : Int} (hF : bz_Fx x) (hT : T = 3 ∨ T = 82) (he : x.2 T 2 = e) (e0 : 0 ≤ e) (e16 : e < 16) (hs : 0 < x.2 (T + 15 + 4 * e) 1) (hc : x.2 (T + 15 + 4 * e + 1) 0 = c) (c0 : 0 ≤ c) (c1 : c < 2000000) : fz_X9_addEquation x T nv = some (az_wr (az_wr (az_wr x (T + 7) e (c / 16)) (T + 8) e nv) T 2 (e + 1)) := by
  have fa : bz_isFix (T + 7) e = false := by
    rcases hT with rfl | rfl <;> (unfold bz_isFix; simp [bz_cap, bz_fixL, bz_rowsL])
  have u1 : bz_Upd x (az_wr x (T + 7) e (c / 16)) (fun _ _ => True) := bz_Upd.wr bz_Upd.refl trivial fa
  have g := bz_tg hF hT
  have g1 := bz_tg (hF.upd u1) hT
  have l := bz_tl hF hT
  have tr := bz_tr hF hT e0 e16
  have cp := (bz_tcap hT e0 e16).1
  have r0 := bz_fxR hF (r := T + 15 + 4 * e) (by omega)
  have nm : fz_X7_number x c = some (c / 16) := by
    rw [bz_number (by unfold bz_I; omega)]
    congr 1
    unfold bz_nr
    rw [if_neg (by omega)]
  have gr : az_gref x (T + 15 + 4 * e) 0 = some (T + 15 + 4 * e + 1) := bz_gr r0.1 (by omega)
  unfold fz_X9_addEquation
  rw [he, if_pos e16, g.2.2.2.2.2.2.2.2.1, Option.bind_some, tr.1, Option.bind_some, if_pos hs, g.2.2.2.2.2.2.1, Option.bind_some, Option.bind_some, tr.1, Option.bind_some, gr, Option.bind_some, bz_ard (by omega) (by omega), Option.bind_some, hc, nm, Option.bind_some, bz_awr e0 (by omega), Option.bind_some, g1.2.2.2.2.2.2.2.1, Option.bind_some, az_wr_ne (by omega), he, bz_awr e0 (by rw [bz_ln_wr]; omega), Option.bind_some, az_wr_ne (by omega), az_wr_ne (by omega), he, az_w32_id (by omega) (by omega)]
section ER
variable {tp : Int → Int} {N : Int} {T s : Int} {J : Nat}
theorem ld_right {x m : az_Hp} {j : Nat} {e nv sz : Int} (h : ld_S tp N x m T s J j) (he : x.2 T 2 = e) (e16 : e < 16) (hL : ld_Lf x m T s e nv sz) (hV : ld_Vr x m nv) :
    ld_Bad T s x m (ld_eX (ld_rX x (T + 17 + 4 * e))) (ld_rM m (16 * s + e)) ∨ ld_Ok tp N T s J x m j (ld_eX (ld_rX x (T + 17 + 4 * e))) (ld_rM m (16 * s + e)) := by
  have hT := h.2.2.1.1.1
  have hs := h.2.2.1.1.2.1
  have h15 : m.2 804 15 = s := h.2.2.1.1.2.2.1
  have h3 := h.2.2.1.2.2.1
  have cp := bz_tcap hT (show 0 ≤ e by omega) e16
  have hX := h.1.1
  have hM := h.1.2
  have R := ld_side (r := T + 17 + 4 * e) (md := 1) (nv := nv) (en := 59) h cp.2 (Or.inr rfl) hV (fun z => by omega) rfl
  rw [show rd_must 1 0 = 0 from rfl] at R
  obtain ⟨y, hy⟩ : ∃ y, y = az_wr (az_wr x (T + 17 + 4 * e) 1 0) 223 5 1 := ⟨_, rfl⟩
  obtain ⟨q, hq⟩ : ∃ q, q = az_wr (az_wr (az_wr m 804 32 1) 804 33 16) 804 31 0 := ⟨_, rfl⟩
  rw [← hy, ← hq] at R
  have rp : 0 < bz_cap (T + 17 + 4 * e) := by omega
  have uy : bz_Upd x y (ld_X T) := by rw [hy]; exact bz_Upd.wr (bz_Upd.wr bz_Upd.refl (Or.inl ⟨by omega, by omega⟩) (yz_free rp).1) (Or.inr (Or.inl (by omega))) (by decide)
  have uq : bz_Upd m q (ld_M s) := by rw [hq]; exact bz_Upd.wr (bz_Upd.wr (bz_Upd.wr bz_Upd.refl (Or.inl ⟨rfl, by omega⟩) (by decide)) (Or.inl ⟨rfl, by omega⟩) (by decide)) (Or.inl ⟨rfl, by omega⟩) (by decide)
  have rX : ∀ a k, rd_SX (T + 17 + 4 * e) a k → ld_X T a k := fun a k z => by unfold rd_SX yz_S at z; unfold ld_X; omega
  have rM : ∀ a k, rd_SM a k → ld_M s a k := fun a k z => by unfold rd_SM at z; unfold ld_M; omega
  have runM : ∀ o, fz_X11_readTerm 2000000 200 q 804 59 0 0 = some o → ld_rM m (16 * s + e) = ((if o.1 = 0 then (some ((-1 : Int), o.2)) else fz_X11_readWhole_31 2000000 2000000 o.2 804 816 (16 * (16 * s + e)) 0).bind fun r18 => ((az_awr r18.2 818 (16 * s + e) r18.1).bind fun s19 => ((az_gref s19 804 28).bind fun x20 => ((az_ard s19 x20 (16 * s + e)).bind fun x21 => (if x21 = (-1) then (some (0, s19)) else ((az_gref s19 804 18).bind fun x22 => ((az_ard s19 x22 (s19.2 804 15)).bind fun x23 => ((az_awr s19 x22 (s19.2 804 15) (az_w32 (x23 + 1))).bind fun s24 => ((fz_X11_eats 2000000 s24 804 59).bind fun r25 => (if r25.1 = 0 ∨ r25.1 = 1 then some (r25.1, r25.2) else none)))))))))) := fun o ho => by
    unfold ld_rM
    rw [fx_804_28 hM, Option.bind_some, fx_804_26 hM, Option.bind_some]
    have rw1 : fz_X11_readWhole 2000000 m 804 1 16 59 0 816 (16 * (16 * s + e)) = (if o.1 = 0 then (some ((-1 : Int), o.2)) else fz_X11_readWhole_31 2000000 2000000 o.2 804 816 (16 * (16 * s + e)) 0) := by
      unfold fz_X11_readWhole
      rw [← hq, ho, Option.bind_some]
    rw [rw1]
  rcases R with ⟨x', m', b1, b2, b3, b4, b5⟩ | ⟨x3, m3, j3, nv', nu, sr, t1, t2, t3, t4, t5, t6, t7, t8, t9, t10⟩
  · left
    have hM' : bz_Fx m' := (hM.upd uq).upd b4
    have u' : bz_Upd m' (az_wr m' 818 (16 * s + e) (-1)) (fun a k => a = 818 ∧ k = 16 * s + e) := bz_Upd.wr bz_Upd.refl ⟨rfl, rfl⟩ (by unfold bz_isFix; simp [bz_cap, bz_fixL, bz_rowsL])
    refine ld_Bad.from uy uq ⟨x', az_wr m' 818 (16 * s + e) (-1), ?_, ?_, b3.weak rX, (b4.weak fun a k z => ?_).trans (u'.weak fun a k z => Or.inl (Or.inr (by omega))), ?_⟩
    · unfold ld_eX ld_rX
      rw [b1, Option.bind_some, if_pos rfl, Option.bind_some, if_pos rfl]
    · rw [runM _ b2, if_pos rfl, Option.bind_some, bz_awr (by omega) (by rw [ln_818 hM']; omega), Option.bind_some, fx_804_28 (hM'.upd u'), Option.bind_some, bz_ard (by omega) (by rw [ln_818 (hM'.upd u')]; omega), Option.bind_some, az_wr_same, if_pos rfl]
    · rcases z with z | z
      · exact Or.inl (rM a k z)
      · exact Or.inr z
    · exact ⟨by rw [az_wr_ne (by omega)]; exact b5.1, by rw [az_wr_ne (by omega)]; exact b5.2⟩
  · have hX3 := t3.1.1
    have hM3 := t3.1.2
    have nve : nv' = nv := by
      have a := t3.2.2.2.2.1.1
      have b := t10 rfl
      omega
    subst nve
    obtain ⟨w1, w2, w3, w4⟩ := t3.2.2.2.2.2.2
    have l816 := ln_816 hM3
    obtain ⟨m4, c1, c2, c3⟩ := rd_copy (A := 816) (off := 16 * (16 * s + e)) (n := sr) hM3 w2 (by omega) (by omega) ⟨by decide, by decide⟩ (fun k => by unfold bz_isFix; simp [bz_cap, bz_fixL, bz_rowsL]) (by omega) (by omega) (by omega)
    have hM4 := hM3.upd c2
    obtain ⟨m5, hm5⟩ : ∃ m5, m5 = az_wr m4 818 (16 * s + e) sr := ⟨_, rfl⟩
    have u5 : bz_Upd m4 m5 (fun a k => a = 818 ∧ k = 16 * s + e) := by rw [hm5]; exact bz_Upd.wr bz_Upd.refl ⟨rfl, rfl⟩ (by unfold bz_isFix; simp [bz_cap, bz_fixL, bz_rowsL])
    have hM5 := hM4.upd u5
    obtain ⟨m6, hm6⟩ : ∃ m6, m6 = az_wr m5 808 s (e + 1) := ⟨_, rfl⟩
    have u6 : bz_Upd m5 m6 (fun a k => a = 808 ∧ k = s) := by rw [hm6]; exact bz_Upd.wr bz_Upd.refl ⟨rfl, rfl⟩ (by unfold bz_isFix; simp [bz_cap, bz_fixL, bz_rowsL])
    have hM6 := hM5.upd u6
    have M3 : ∀ a k, a ≠ 804 → ¬ (820 ≤ a ∧ a ≤ 822) → m3.2 a k = m.2 a k := fun a k p r => by
      rw [t8.2.2 a k (fun z => by unfold rd_SM at z; omega), hq, az_wr_ne (by omega), az_wr_ne (by omega), az_wr_ne (by omega)]
    have M5 : ∀ a k, ¬ (a = 818 ∧ k = 16 * s + e) → ¬ (a = 816 ∧ 16 * (16 * s + e) ≤ k ∧ k < 16 * (16 * s + e) + sr) → m5.2 a k = m3.2 a k := fun a k r r' => by
      rw [u5.2.2 a k (fun z => r z), c2.2.2 a k (fun z => r' z)]
    have m315 : m3.2 804 15 = s := t3.2.2.1.2.2.1
    have m515 : m5.2 804 15 = s := by rw [M5 804 15 (by omega) (by omega)]; exact m315
    have m808 : m5.2 808 s = e := by rw [M5 808 s (by omega) (by omega), M3 808 s (by omega) (by omega), ← h3.1]; exact he
    have C6 : lx_Cur x3 m6 tp N J j3 := ((t3.2.1.upd (bz_Upd.refl (S := fun _ _ => False)) c2 (fun a k z => z.elim) (fun a k z => by unfold lx_KM; omega)).upd (bz_Upd.refl (S := fun _ _ => False)) u5 (fun a k z => z.elim) (fun a k z => by unfold lx_KM; omega)).upd (bz_Upd.refl (S := fun _ _ => False)) u6 (fun a k z => z.elim) (fun a k z => by unfold lx_KM; omega)
    have h8 : x3.2 223 8 = lx_kj tp N j3 := C6.2.2.1.2.1
    have eM : ld_rM m (16 * s + e) = ((fz_X11_eats 2000000 m6 804 59).bind fun r25 => (if r25.1 = 0 ∨ r25.1 = 1 then some (r25.1, r25.2) else none)) := by
      rw [runM _ t2, if_neg (show ¬ (1 : Int) = 0 by decide), c1, Option.bind_some, bz_awr (by omega) (by rw [ln_818 hM4]; omega), Option.bind_some, ← hm5, fx_804_28 hM5, Option.bind_some, bz_ard (by omega) (by rw [ln_818 hM5]; omega), Option.bind_some, show m5.2 818 (16 * s + e) = sr by rw [hm5, az_wr_same], if_neg (show ¬ sr = -1 by omega), fx_804_18 hM5, Option.bind_some, m515, bz_ard (by omega) (by rw [ln_808 hM5]; omega), Option.bind_some, m808, az_w32_id (z := e + 1) (by omega) (by omega), bz_awr (by omega) (by rw [ln_808 hM5]; omega), Option.bind_some, ← hm6]
    have ux3 : bz_Upd x x3 (ld_X T) := uy.trans (t7.weak rX)
    have um6 : bz_Upd m m6 (ld_M s) := (((uq.trans (t8.weak rM)).trans (c2.weak fun a k z => Or.inr (by omega))).trans (u5.weak fun a k z => Or.inr (by omega))).trans (u6.weak fun a k z => Or.inr (by omega))
    by_cases c59 : lx_kj tp N j3 = 59
    · right
      obtain ⟨x4, m7, n1, n2, C7, n4, n5⟩ := lx_next hX3 hM6 C6 (by omega) (by omega)
      have hX4 := hX3.upd n4
      have hM7 := hM6.upd n5
      obtain ⟨l1, l2, l3, l4, l5, l6⟩ := hL
      have X4 : ∀ a k, a ≠ 223 → x4.2 a k = x3.2 a k := fun a k p => n4.2.2 a k (fun z => by unfold lx_nX at z; omega)
      have X43 : ∀ a k, T ≤ a → a ≤ T + 78 → a ≠ T + 17 + 4 * e → a ≠ T + 18 + 4 * e → x4.2 a k = x.2 a k := fun a k p r n1 n2 => by
        rw [X4 a k (by omega), t7.2.2 a k (fun z => by unfold rd_SX yz_S at z; omega), hy, az_wr_ne (by omega), az_wr_ne (by omega)]
      have M7 : ∀ a k, a ≠ 804 → m7.2 a k = m6.2 a k := fun a k p => n5.2.2 a k (fun z => by unfold lx_S at z; omega)
      have M73 : ∀ a k, 806 ≤ a → a ≤ 819 → ¬ (a = 808 ∧ k = s) → ¬ (a = 818 ∧ k = 16 * s + e) → ¬ (a = 816 ∧ 16 * (16 * s + e) ≤ k ∧ k < 16 * (16 * s + e) + sr) → m7.2 a k = m.2 a k := fun a k p r n1 n2 n3 => by
        rw [M7 a k (by omega), u6.2.2 a k n1, M5 a k n2 n3, M3 a k (by omega) (by omega)]
      have s15 : m7.2 804 15 = m.2 804 15 := by
        rw [n5.2.2 804 15 (fun z => by unfold lx_S at z; omega), u6.2.2 804 15 (fun z => by omega), m515, h15]
      have xe : x4.2 T 2 = e := by rw [X43 T 2 (by omega) (by omega) (by omega) (by omega)]; exact he
      -- the family
      obtain ⟨p1, p2⟩ := l5 0 (by omega) (by omega)
      rw [Int.add_zero] at p1 p2
      have fam := p2.2.2.1 (Or.inl rfl) rfl
      obtain ⟨f, hf⟩ : ∃ f, f = m.2 815 (16 * (16 * s + e)) - 200 := ⟨_, rfl⟩
      have tb := h.2.2.1.1.2.2.2.2.1
      have tb2 := tb.2.1
      obtain ⟨f0, f1, fc, fr⟩ : 0 ≤ f ∧ f < x.2 T 1 ∧ x.2 (T + 15 + 4 * e + 1) 0 = f * 16 + bz_ft m s f * 4 + 2 ∧ (1 ≤ bz_ft m s f ∧ bz_ft m s f ≤ 3) := by
        rcases p1 with p | p | p | p
        · omega
        · omega
        · rw [← hf] at p
          exact ⟨by omega, by omega, p.2.2, tb.2.2.2.2.2 f (by omega) (by omega)⟩
        · omega
      have tb4 := tb.2.2.2.1
      have xc : x4.2 (T + 15 + 4 * e + 1) 0 = f * 16 + bz_ft m s f * 4 + 2 := by rw [X43 _ 0 (by omega) (by omega) (by omega) (by omega)]; exact fc
      have ad := ld_addEq (nv := nv') hX4 hT xe (by omega) e16 (by rw [X43 _ 1 (by omega) (by omega) (by omega) (by omega)]; omega) xc (by omega) (by omega)
      have fd : (f * 16 + bz_ft m s f * 4 + 2) / 16 = f := by omega
      rw [fd] at ad
      obtain ⟨x5, hx5⟩ : ∃ x5, x5 = az_wr (az_wr (az_wr x4 (T + 7) e f) (T + 8) e nv') T 2 (e + 1) := ⟨_, rfl⟩
      have fa : ∀ i k, i = 7 ∨ i = 8 → bz_isFix (T + i) k = false := fun i k hi => by
        rcases hT with rfl | rfl <;> rcases hi with rfl | rfl <;> (unfold bz_isFix; simp [bz_cap, bz_fixL, bz_rowsL])
      have fT : bz_isFix T 2 = false := by rcases hT with rfl | rfl <;> decide
      have v5 : bz_Upd x4 x5 (fun a k => ((a = T + 7 ∨ a = T + 8) ∧ k = e) ∨ (a = T ∧ k = 2)) := by
        rw [hx5]
        exact bz_Upd.wr (bz_Upd.wr (bz_Upd.wr bz_Upd.refl (Or.inl ⟨Or.inl rfl, rfl⟩) (fa 7 _ (Or.inl rfl))) (Or.inl ⟨Or.inr rfl, rfl⟩) (fa 8 _ (Or.inr rfl))) (Or.inr ⟨rfl, rfl⟩) fT
      have hX5 := hX4.upd v5
      have C8 : lx_Cur x5 m7 tp N J (j3 + 1) := C7.upd v5 (bz_Upd.refl (S := fun _ _ => False)) (fun a k z => by unfold lx_KX; omega) (fun a k z => z.elim)
      have v3 := t3.2.2.2.2.1.2.2.2.1 (by omega)
      have x43 : x4.2 223 3 = nv' := by rw [n4.2.2 223 3 (fun z => by unfold lx_nX at z; omega)]; exact v3.1
      have x411 : x4.2 223 11 = T := by rw [n4.2.2 223 11 (fun z => by unfold lx_nX at z; omega)]; exact t3.2.2.2.1.1
      have X5 : ∀ a k, T ≤ a → a ≤ T + 78 → a ≠ T + 17 + 4 * e → a ≠ T + 18 + 4 * e → ¬ ((a = T + 7 ∨ a = T + 8) ∧ k = e) → ¬ (a = T ∧ k = 2) → x5.2 a k = x.2 a k := fun a k p r n1 n2 n3 n4 => by
        rw [v5.2.2 a k (fun z => by rcases z with z | z; exact n3 z; exact n4 z), X43 a k p r n1 n2]
      have X5r : ∀ a k, a = T + 17 + 4 * e ∨ a = T + 18 + 4 * e → x5.2 a k = x3.2 a k := fun a k p => by
        rw [v5.2.2 a k (fun z => by omega), X4 a k (by omega)]
      obtain ⟨⟨-, -, -, ⟨o4, o4'⟩, o5, o6, o7, o8⟩, o2, o3, oE⟩ := h.2.2.1
      have ec : bz_ct m7 s = bz_ct m s := funext fun k => M73 811 _ (by omega) (by omega) (by omega) (by omega) (by omega)
      have ef : bz_ft m7 s = bz_ft m s := funext fun k => M73 812 _ (by omega) (by omega) (by omega) (by omega) (by omega)
      have ec3 : bz_ct m3 s = bz_ct m s := funext fun k => M3 811 _ (by omega) (by omega)
      have ef3 : bz_ft m3 s = bz_ft m s := funext fun k => M3 812 _ (by omega) (by omega)
      have a0 := X5 T 0 (by omega) (by omega) (by omega) (by omega) (by omega) (by omega)
      have a1 := X5 T 1 (by omega) (by omega) (by omega) (by omega) (by omega) (by omega)
      have a2 : x5.2 T 2 = e + 1 := by rw [hx5, az_wr_same]
      have a7 : x5.2 (T + 7) e = f := by rw [hx5, az_wr_ne (by omega), az_wr_ne (by omega), az_wr_same]
      have a8 : x5.2 (T + 8) e = nv' := by rw [hx5, az_wr_ne (by omega), az_wr_same]
      have b7 : m7.2 808 s = e + 1 := by rw [M7 808 s (by omega), hm6, az_wr_same]
      have k816 : ∀ i, 0 ≤ i → i < sr → m7.2 816 (16 * (16 * s + e) + i) = m3.2 820 i := fun i i0 i1 => by
        rw [M7 816 _ (by omega), u6.2.2 816 _ (fun z => by omega), u5.2.2 816 _ (fun z => by omega)]; exact c3 i i0 i1
      have k815 : ∀ k, m7.2 815 k = m.2 815 k := fun k => M73 815 _ (by omega) (by omega) (by omega) (by omega) (by omega)
      have xt0 : x3.2 T 0 = x.2 T 0 := by rw [← X4 T 0 (by omega), X43 T 0 (by omega) (by omega) (by omega) (by omega)]
      have xt1 : x3.2 T 1 = x.2 T 1 := by rw [← X4 T 1 (by omega), X43 T 1 (by omega) (by omega) (by omega) (by omega)]
      have tcp := @bz_cap60 (T + 17 + 4 * e)
      have V6 := hV.2.1
      have LT : ld_T x5 m7 T s := by
        refine ⟨⟨hT, hs, by rw [s15]; exact h15, ⟨by rw [a0, M73 806 s (by omega) (by omega) (by omega) (by omega) (by omega)]; exact o4, by rw [a1, M73 807 s (by omega) (by omega) (by omega) (by omega) (by omega)]; exact o4'⟩, by rw [ec, ef, a0, a1]; exact o5, fun k k0 k1 => ?_, fun k k0 k1 => ?_, fun k i k0 k1 i0 i1 => ?_⟩, fun k k0 k1 => ?_, by rw [a2, b7]; exact ⟨rfl, by omega, by omega⟩, fun e' e0' e1' => ?_⟩
        · rw [a0] at k1
          rw [X5 (T + 1) k (by omega) (by omega) (by omega) (by omega) (by omega) (by omega), X5 (T + 2) k (by omega) (by omega) (by omega) (by omega) (by omega) (by omega), M73 809 _ (by omega) (by omega) (by omega) (by omega) (by omega), ec]
          exact o6 k k0 k1
        · rw [a1] at k1
          rw [X5 (T + 3) k (by omega) (by omega) (by omega) (by omega) (by omega) (by omega), X5 (T + 4) k (by omega) (by omega) (by omega) (by omega) (by omega) (by omega), M73 810 _ (by omega) (by omega) (by omega) (by omega) (by omega), ef]
          exact o7 k k0 k1
        · rw [a0] at k1
          rw [a1] at i1
          rw [X5 (T + 1) k (by omega) (by omega) (by omega) (by omega) (by omega) (by omega), X5 (T + 3) i (by omega) (by omega) (by omega) (by omega) (by omega) (by omega)]
          exact o8 k i k0 k1 i0 i1
        · rw [a1] at k1
          rw [X5 (T + 5) k (by omega) (by omega) (by omega) (by omega) (by omega) (by omega), X5 (T + 6) k (by omega) (by omega) (by omega) (by omega) (by omega) (by omega), M73 813 _ (by omega) (by omega) (by omega) (by omega) (by omega), M73 814 _ (by omega) (by omega) (by omega) (by omega) (by omega)]
          exact o2 k k0 k1
        · rw [a2] at e1'
          by_cases ee : e' = e
          · subst ee
            have L1 : ∀ k, x5.2 (T + 15 + 4 * e') k = x.2 (T + 15 + 4 * e') k := fun k => X5 _ k (by omega) (by omega) (by omega) (by omega) (by omega) (by omega)
            have L2 : ∀ k, x5.2 (T + 15 + 4 * e' + 1) k = x.2 (T + 15 + 4 * e' + 1) k := fun k => X5 _ k (by omega) (by omega) (by omega) (by omega) (by omega) (by omega)
            have R1 : x5.2 (T + 17 + 4 * e') 1 = sr := by rw [X5r _ 1 (by omega)]; exact w1
            have R2 : ∀ k, x5.2 (T + 17 + 4 * e' + 1) k = x3.2 (T + 17 + 4 * e' + 1) k := fun k => X5r _ k (by omega)
            have raL : bz_ra x5 (T + 15 + 4 * e') = bz_ra x (T + 15 + 4 * e') := funext fun k => by unfold bz_ra; rw [L2]
            have raR : bz_ra x5 (T + 17 + 4 * e') = bz_ra x3 (T + 17 + 4 * e') := funext fun k => by unfold bz_ra; rw [R2]
            unfold ld_Eq
            rw [L1, R1, a8, a7, raL, raR, ec, ef, a0, a1, l1.1, M73 817 _ (by omega) (by omega) (by omega) (by omega) (by omega), M73 819 _ (by omega) (by omega) (by omega) (by omega) (by omega), show m7.2 818 (16 * s + e') = sr by rw [M7 818 _ (by omega), u6.2.2 818 _ (fun z => by omega), hm5, az_wr_same]]
            simp only [k815, L2, R2]
            refine ⟨⟨l2.symm, l1.2.1, l1.2.2⟩, ⟨trivial, t6, by omega⟩, ⟨l3.symm, V6.1, V6.2⟩, fun i i0 i1 => (l5 i i0 i1).1, fun i i0 i1 => ?_, l4, t5, ⟨by omega, by omega, hf⟩, fun i i0 i1 => ?_, fun i i0 i1 => ?_, l6⟩
            · rw [k816 i i0 i1]
              have := (w4 i i0 i1).1
              rw [ec3, ef3, xt0, xt1] at this
              exact this.weak fun a b r => by unfold rd_V at r; rw [if_pos (by decide)] at r; exact r
            · have p := (l5 i (by omega) i1).2
              have q1 := p.1 (by omega)
              have q2 := p.2.2.2 rfl i0
              omega
            · rw [k816 i i0 i1]
              exact (w4 i i0 i1).2.1 (by omega)
          · refine (oE e' e0' (by omega)).same (X5 _ _ (by omega) (by omega) (by omega) (by omega) (by omega) (by omega)) (X5 _ _ (by omega) (by omega) (by omega) (by omega) (by omega) (by omega)) (fun k => X5 _ k (by omega) (by omega) (by omega) (by omega) (by omega) (by omega)) (fun k => X5 _ k (by omega) (by omega) (by omega) (by omega) (by omega) (by omega)) (fun k => X5 _ k (by omega) (by omega) (by omega) (by omega) (by omega) (by omega)) (fun k => X5 _ k (by omega) (by omega) (by omega) (by omega) (by omega) (by omega)) (fun a p r => M73 a _ (by omega) (by omega) (by omega) (by omega) (by omega)) (fun i i0 i1 => k815 _) (fun i i0 i1 => M73 816 _ (by omega) (by omega) (by omega) (by omega) (by omega)) ec ef a0 a1
      refine ⟨x5, m7, j3 + 1, ?_, ?_, ⟨⟨hX5, hM7⟩, C8, LT, by rw [v5.2.2 223 11 (fun z => by omega)]; exact x411⟩, (ux3.trans (n4.weak fun a k z => Or.inr (Or.inl (by unfold lx_nX at z; omega)))).trans (v5.weak fun a k z => Or.inl (by omega)), um6.trans (n5.weak fun a k z => Or.inl (by unfold lx_S at z; omega)), by omega⟩
      · unfold ld_eX ld_rX
        rw [t1, Option.bind_some, if_neg (show ¬ (1 : Int) = 0 by decide), if_pos (show x3.2 223 8 = 59 by omega), n1, Option.bind_some, Option.bind_some, if_neg (show ¬ (1 : Int) = 0 by decide), bz_gr x411 (by omega), Option.bind_some, x43, ad, Option.bind_some, ← hx5]
      · rw [eM, ld_eats C6 (by decide), if_pos c59, n2, Option.bind_some, rd_wrap]
    · left
      obtain ⟨x4, m7, d1, d2, d3, d4, d5⟩ := ld_bad (T := T) (s := s) C6 2
      refine ld_Bad.from ux3 um6 ⟨x4, m7, ?_, ?_, d3, d4, d5⟩
      · unfold ld_eX ld_rX
        rw [t1, Option.bind_some, if_neg (show ¬ (1 : Int) = 0 by decide), if_neg (show ¬ x3.2 223 8 = 59 by omega), d1, Option.bind_some, if_pos rfl]
      · rw [eM, ld_eats C6 (by decide), if_neg c59, d2, rd_wrap0]
/-- a whole EQUATION -/
theorem ld_equation {x m : az_Hp} {j : Nat} {e : Int} (h : ld_S tp N x m T s J j) (hk : lx_kj tp N j = 3) (he : x.2 T 2 = e) (e16 : e < 16) :
    ld_Bad T s x m (fz_X4_readEquation 2000000 x 223 e) (fz_X11_readEquation 2000000 m 804) ∨ ld_Ok tp N T s J x m j (fz_X4_readEquation 2000000 x 223 e) (fz_X11_readEquation 2000000 m 804) := by
  rcases ld_left h hk he e16 with h1 | ⟨x', m', j', nv, sz, a1, a2, a3, a4, a5, a6, a7, a8, a9⟩
  · exact Or.inl h1
  · rw [a1, a2]
    rcases ld_right a3 a4 e16 a5 a6 with h1 | ⟨x2, m2, j2, b1, b2, b3, b4, b5, b6⟩
    · exact Or.inl (ld_Bad.from a7 a8 h1)
    · exact Or.inr ⟨x2, m2, j2, b1, b2, b3, a7.trans b4, a8.trans b5, by omega⟩
end ER
