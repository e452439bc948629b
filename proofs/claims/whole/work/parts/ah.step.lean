/-! a step, an UNKNOWN, anything else -/
section UK
variable {tp : Int → Int} {N : Int} {x m : az_Hp} {md r T s nv nu sz e : Int} {J j : Nat}
/-- places that the state of reading doesn't look at -/
def rd_FX (a k : Int) : Prop := (a = 223 ∧ (k = 0 ∨ k = 1)) ∨ a = 229 ∨ a = 230
def rd_FM (a k : Int) : Prop := a = 804 ∧ (k = 11 ∨ k = 12)
theorem rd_B.upd {x' m' : az_Hp} {j' : Nat} {S S' : Int → Int → Prop} (h : rd_B tp N x m md r T s J j nv nu sz e) (hr : 0 < bz_cap r) (ux : bz_Upd x x' S) (um : bz_Upd m m' S') (hC : lx_Cur x' m' tp N J j') (hs : ∀ a k, S a k → rd_FX a k ∨ lx_nX a k) (hs' : ∀ a k, S' a k → rd_FM a k ∨ lx_S a k) {e' : Int} (he : 3 ≤ md → 2 * nv + e ≤ j → 2 * nv + e' ≤ j') : rd_B tp N x' m' md r T s J j' nv nu sz e' := by
  obtain ⟨⟨hX, hM⟩, -, hN, ⟨g1, g2, g3, g4, g5⟩, ⟨v1, v2, v3, v4, v5⟩, hU, ⟨w1, w2, w3, w4⟩⟩ := h
  have rn := rd_capn hr
  have rt := rd_rT hr hN.1
  have rlt := bz_cap_lt hr
  have hT := hN.1
  have X : ∀ a k, a ≠ 229 → a ≠ 230 → ¬ (a = 223 ∧ (k = 0 ∨ k = 1 ∨ (7 ≤ k ∧ k ≤ 10))) → x'.2 a k = x.2 a k := fun a k p q q' => ux.2.2 a k (fun z => by have := hs a k z; unfold rd_FX lx_nX at this; omega)
  have M : ∀ a k, ¬ (a = 804 ∧ (6 ≤ k ∧ k ≤ 13)) → m'.2 a k = m.2 a k := fun a k p => um.2.2 a k (fun z => by have := hs' a k z; unfold rd_FM lx_S at this; omega)
  have ux' : bz_Upd x x' (rd_SX r) := ux.weak fun a k z => by
    have := hs a k z
    unfold rd_FX lx_nX at this
    rcases this with (q | q | q) | q
    · exact Or.inl ⟨q.1, by omega⟩
    · exact Or.inr (Or.inr (Or.inr (Or.inr (Or.inr (Or.inl q)))))
    · exact Or.inr (Or.inr (Or.inr (Or.inr (Or.inr (Or.inr q)))))
    · exact Or.inl ⟨q.1, by omega⟩
  have um' : bz_Upd m m' rd_SB := um.weak fun a k z => by have := hs' a k z; unfold rd_FM lx_S at this; unfold rd_SB rd_SM; omega
  have ec : bz_ct m' s = bz_ct m s := funext fun k => M 811 _ (by omega)
  have ef : bz_ft m' s = bz_ft m s := funext fun k => M 812 _ (by omega)
  have e821 : ∀ k, m'.2 821 k = m.2 821 k := fun k => M 821 k (by omega)
  have eV : rd_V md m' nv = rd_V md m nv := by
    funext a b
    unfold rd_V
    rw [e821]
  refine ⟨⟨hX.upd ux, hM.upd um⟩, hC, hN.upd hr rt.1 rt.2 ux' um', ⟨by rw [X 223 11 (by omega) (by omega) (by omega)]; exact g1, by rw [X 223 5 (by omega) (by omega) (by omega)]; exact g2, g3, by rw [M 804 32 (by omega)]; exact g4, by rw [M 804 33 (by omega)]; exact g5⟩, ⟨by rw [M 804 37 (by omega)]; exact v1, v2, fun b c b0 bc c1 => by rw [M 821 b (by omega), M 821 c (by omega)]; exact v3 b c b0 bc c1, fun z => ?_, fun z => ?_⟩, fun z => ?_, by rw [X r 1 (by omega) (by omega) (by omega)]; exact w1, by rw [M 804 31 (by omega)]; exact w2, w3, fun i i0 i1 => ?_⟩
  · obtain ⟨z1, z2, z3, z4, z5⟩ := v4 z
    rw [X 223 3 (by omega) (by omega) (by omega), X 223 4 (by omega) (by omega) (by omega), M 804 34 (by omega)]
    exact ⟨z1, z2, z3, z4, fun b b0 b1 => by rw [X 224 b (by omega) (by omega) (by omega), M 821 b (by omega)]; exact z5 b b0 b1⟩
  · obtain ⟨z1, z2, z3, z4⟩ := v5 z
    rw [X 223 3 (by omega) (by omega) (by omega), M 804 34 (by omega)]
    exact ⟨z1, z2, he z z3, fun b b0 b1 => by rw [M 821 b (by omega)]; exact z4 b b0 b1⟩
  · obtain ⟨z1, z2, z3, z4⟩ := hU z
    rw [X 161 2 (by omega) (by omega) (by omega), M 804 38 (by omega)]
    exact ⟨z1, z2, z3, fun k k0 k1 => by rw [X 166 k (by omega) (by omega) (by omega), M 822 k (by omega)]; exact z4 k k0 k1⟩
  · rw [ec, ef, X T 0 (by omega) (by omega) (by omega), X T 1 (by omega) (by omega) (by omega), eV, X (r + 1) i (by omega) (by omega) (by omega), M 820 i (by omega)]
    exact w4 i i0 i1
/-- both go on by one token -/
theorem rd_step (h : rd_B tp N x m md r T s J j nv nu sz e) (hr : 0 < bz_cap r) (k0 : lx_kj tp N j ≠ 0) (k1 : lx_kj tp N j ≠ 1) : ∃ x' m', fz_X4_next x 223 = some x' ∧ fz_X11_go 2000000 m 804 = some m' ∧ rd_B tp N x' m' md r T s J (j + 1) nv nu sz (e + 1) ∧ bz_Upd x x' lx_nX ∧ bz_Upd m m' lx_S := by
  obtain ⟨x', m', a, b, c, d, e'⟩ := lx_next h.1.1 h.1.2 h.2.1 k0 k1
  exact ⟨x', m', a, b, h.upd hr d e' c (fun _ _ z => Or.inr z) (fun _ _ z => Or.inr z) (fun _ z => by push_cast; omega), d, e'⟩
theorem rd_nodeOther {rc : az_Hp → Int → Int → Int → Int → Option (Int × az_Hp)} {en : Int} (h : rd_B tp N x m md r T s J j nv nu sz e) (n2 : lx_kj tp N j ≠ 2) (n3 : ¬ (lx_kj tp N j = 3 ∧ rd_nr (lx_vj tp N j) = true)) (n63 : ¬ (lx_kj tp N j = 63 ∧ 3 ≤ md)) :
    rd_Bad r x m (fz_X4_readNode 2000000 x 223 r) (fz_X11_readTerm_e 2000000 rc m 804 en (rd_first1 sz) (rd_must md sz)) := by
  obtain ⟨-, hC, -, ⟨g1, g2, g3, g4, g5⟩, -⟩ := h
  have h8 : x.2 223 8 = lx_kj tp N j := hC.2.2.1.2.1
  have m8 := (lx_kind hC).2.2.1
  have vr := rd_isVar hC
  rw [if_neg n3] at vr
  have sg := lx_sign (c := 63) hC (by decide)
  obtain ⟨x', m', b1, b2, b3, b4, b5⟩ := rd_bad1 (r := r) (C := hC) 2
  refine ⟨x', m', ?_, ?_, b3, b4, b5⟩
  · have r23 : fz_X4_readNode_23 2000000 x 223 r = some (0, x') := by
      unfold fz_X4_readNode_23
      rw [h8, if_neg n2]
      unfold fz_X4_readNode_36
      rw [if_pos rfl, vr.1, Option.bind_some, if_pos rfl, b1]
    unfold fz_X4_readNode
    rw [h8, r23, g2]
    by_cases c : lx_kj tp N j = 63
    · rw [if_pos c, if_pos (by omega)]
    · rw [if_neg c]
  · have r55 : fz_X11_readTerm_55 2000000 rc m 804 en (rd_first1 sz) (rd_must md sz) = some (0, m') := by
      unfold fz_X11_readTerm_55
      rw [if_neg (fun z => n2 (m8.mp z)), b2]
    unfold fz_X11_readTerm_e
    rw [vr.2, Option.bind_some, if_pos rfl, sg, Option.bind_some, r55]
    by_cases c : lx_kj tp N j = 63
    · have rm : m.2 804 32 = md := by rw [g4]; unfold rd_rm; rw [if_pos (by omega)]
      rw [if_pos c, if_neg (show ¬ (1 : Int) = 0 by decide), if_neg (by omega), if_neg (by omega)]
    · rw [if_neg c, if_pos rfl]
theorem rd_insU {v : Int} (h : rd_B tp N x m md r T s J j nv nu sz e) (hr : 0 < bz_cap r) (m3 : 3 ≤ md) (wr : bz_WR 96 v (m.2 804 13)) (n6 : nu < 6) :
    rd_B tp N (az_wr (az_wr x 166 nu v) 161 2 (nu + 1)) (az_wr (az_wr m 822 nu (m.2 804 13)) 804 38 (nu + 1)) md r T s J j nv (nu + 1) sz e ∧ bz_Upd x (az_wr (az_wr x 166 nu v) 161 2 (nu + 1)) (rd_SX r) ∧ bz_Upd m (az_wr (az_wr m 822 nu (m.2 804 13)) 804 38 (nu + 1)) rd_SM ∧ rd_F2 x m (az_wr (az_wr x 166 nu v) 161 2 (nu + 1)) (az_wr (az_wr m 822 nu (m.2 804 13)) 804 38 (nu + 1)) := by
  obtain ⟨⟨hX, hM⟩, hC, hN, ⟨g1, g2, g3, g4, g5⟩, ⟨v1, v2, v3, v4, v5⟩, hU, ⟨w1, w2, w3, w4⟩⟩ := h
  have rn := rd_capn hr
  have rt := rd_rT hr hN.1
  have rlt := bz_cap_lt hr
  have hT := hN.1
  obtain ⟨u1, u2, u3, u4⟩ := hU m3
  have ux : bz_Upd x (az_wr (az_wr x 166 nu v) 161 2 (nu + 1)) (fun a k => a = 166 ∨ (a = 161 ∧ k = 2)) := bz_Upd.wr (bz_Upd.wr bz_Upd.refl (Or.inl rfl) (by unfold bz_isFix; simp [bz_cap, bz_fixL, bz_rowsL])) (Or.inr ⟨rfl, rfl⟩) (by decide)
  have um : bz_Upd m (az_wr (az_wr m 822 nu (m.2 804 13)) 804 38 (nu + 1)) (fun a k => a = 822 ∨ (a = 804 ∧ k = 38)) := bz_Upd.wr (bz_Upd.wr bz_Upd.refl (Or.inl rfl) (by unfold bz_isFix; simp [bz_cap, bz_fixL, bz_rowsL])) (Or.inr ⟨rfl, rfl⟩) (by decide)
  have ux' : bz_Upd x (az_wr (az_wr x 166 nu v) 161 2 (nu + 1)) (rd_SX r) := ux.weak fun a k z => by
    rcases z with z | z
    · exact Or.inr (Or.inr (Or.inr (Or.inr (Or.inl z))))
    · exact Or.inr (Or.inr (Or.inr (Or.inl z)))
  have um' : bz_Upd m (az_wr (az_wr m 822 nu (m.2 804 13)) 804 38 (nu + 1)) rd_SM := um.weak fun a k z => by unfold rd_SM; omega
  obtain ⟨x1, hx1⟩ : ∃ x1, x1 = az_wr (az_wr x 166 nu v) 161 2 (nu + 1) := ⟨_, rfl⟩
  obtain ⟨m1, hm1⟩ : ∃ m1, m1 = az_wr (az_wr m 822 nu (m.2 804 13)) 804 38 (nu + 1) := ⟨_, rfl⟩
  rw [← hx1] at ux ux' ⊢
  rw [← hm1] at um um' ⊢
  have X : ∀ a k, a ≠ 166 → ¬ (a = 161 ∧ k = 2) → x1.2 a k = x.2 a k := fun a k p q => ux.2.2 a k (fun z => by omega)
  have M : ∀ a k, a ≠ 822 → ¬ (a = 804 ∧ k = 38) → m1.2 a k = m.2 a k := fun a k p q => um.2.2 a k (fun z => by omega)
  have ec : bz_ct m1 s = bz_ct m s := funext fun k => M 811 _ (by omega) (by omega)
  have ef : bz_ft m1 s = bz_ft m s := funext fun k => M 812 _ (by omega) (by omega)
  have e821 : ∀ k, m1.2 821 k = m.2 821 k := fun k => M 821 k (by omega) (by omega)
  have eV : rd_V md m1 nv = rd_V md m nv := by
    funext a b
    unfold rd_V
    rw [e821]
  refine ⟨⟨⟨hX.upd ux, hM.upd um⟩, hC.upd ux um (fun a k z => by unfold lx_KX; omega) (fun a k z => by unfold lx_KM; omega), hN.upd hr rt.1 rt.2 ux' (um'.weak fun _ _ z => Or.inl z), ⟨by rw [X 223 11 (by omega) (by omega)]; exact g1, by rw [X 223 5 (by omega) (by omega)]; exact g2, g3, by rw [M 804 32 (by omega) (by omega)]; exact g4, by rw [M 804 33 (by omega) (by omega)]; exact g5⟩, ⟨by rw [M 804 37 (by omega) (by omega)]; exact v1, v2, fun b c b0 bc c1 => by rw [M 821 b (by omega) (by omega), M 821 c (by omega) (by omega)]; exact v3 b c b0 bc c1, fun z => by omega, fun z => ?_⟩, fun z => ⟨by rw [hx1, az_wr_same], by rw [hm1, az_wr_same], ⟨by omega, by omega⟩, fun k k0 k1 => ?_⟩, by rw [X r 1 (by omega) (by omega)]; exact w1, by rw [M 804 31 (by omega) (by omega)]; exact w2, w3, fun i i0 i1 => ?_⟩, ux', um', ⟨fun i => ⟨X 229 i (by omega) (by omega), X 230 i (by omega) (by omega)⟩, ⟨⟨by rw [M 804 37 (by omega) (by omega)]; exact Int.le_refl _, fun b _ _ => e821 b⟩, ⟨by rw [u2, hm1, az_wr_same]; omega, fun k _ k1 => ⟨by rw [hm1, az_wr_ne (by omega), az_wr_ne (by omega)], by rw [hx1, az_wr_ne (by omega), az_wr_ne (by omega)]⟩⟩⟩⟩⟩
  · obtain ⟨z1, z2, z3, z4⟩ := v5 z
    rw [X 223 3 (by omega) (by omega), M 804 34 (by omega) (by omega)]
    exact ⟨z1, z2, z3, fun b b0 b1 => by rw [M 821 b (by omega) (by omega)]; exact z4 b b0 b1⟩
  · by_cases ez : k = nu
    · rw [ez, hx1, hm1, az_wr_ne (by omega), az_wr_same, az_wr_ne (by omega), az_wr_same]; exact wr
    · rw [hx1, hm1, az_wr_ne (by omega), az_wr_ne (by omega), az_wr_ne (by omega), az_wr_ne (by omega)]; exact u4 k k0 (by omega)
  · rw [ec, ef, X T 0 (by omega) (by omega), X T 1 (by omega) (by omega), eV, X (r + 1) i (by omega) (by omega), M 820 i (by omega) (by omega)]
    obtain ⟨p1, p2, p3, p4, p5⟩ := w4 i i0 i1
    exact ⟨p1, p2, fun z => by have := p3 z; omega, p4, p5⟩
end UK
