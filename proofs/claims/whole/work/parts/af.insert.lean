/-! a VARIABLE is read -/
section VR
variable {tp : Int → Int} {N : Int} {x m : az_Hp} {md r T s nv nu sz e : Int} {J j : Nat}
theorem rd_insert {v : Int} (h : rd_B tp N x m md r T s J j nv nu sz e) (hr : 0 < bz_cap r) (wr : bz_WR 96 v (m.2 804 13)) (new : ∀ b, 0 ≤ b → b < nv → m.2 821 b ≠ m.2 804 13) (room : md ≤ 2 → nv < x.2 223 4) (n450 : nv < 450) :
    ∃ x1 m1, x1 = (if md ≤ 2 then az_wr (az_wr x 224 nv v) 223 3 (nv + 1) else x) ∧ m1 = az_wr (az_wr m 821 nv (m.2 804 13)) 804 37 (nv + 1) ∧ rd_B tp N x1 m1 md r T s J j (nv + 1) nu sz (e - 2) ∧ bz_Upd x x1 (rd_SX r) ∧ bz_Upd m m1 rd_SM ∧ rd_V md m1 (nv + 1) (if md ≤ 1 then nv else v) nv ∧ (∀ k, x1.2 (r + 1) k = x.2 (r + 1) k) ∧ (∀ k, m1.2 820 k = m.2 820 k) ∧ rd_F2 x m x1 m1 := by
  obtain ⟨⟨hX, hM⟩, hC, hN, ⟨g1, g2, g3, g4, g5⟩, ⟨v1, v2, v3, v4, v5⟩, hU, ⟨w1, w2, w3, w4⟩⟩ := h
  have rn := rd_capn hr
  have rt := rd_rT hr hN.1
  have rlt := bz_cap_lt hr
  obtain ⟨x1, hx1⟩ : ∃ x1, x1 = (if md ≤ 2 then az_wr (az_wr x 224 nv v) 223 3 (nv + 1) else x) := ⟨_, rfl⟩
  obtain ⟨m1, hm1⟩ : ∃ m1, m1 = az_wr (az_wr m 821 nv (m.2 804 13)) 804 37 (nv + 1) := ⟨_, rfl⟩
  have ux : bz_Upd x x1 (fun a k => a = 224 ∨ (a = 223 ∧ k = 3)) := by
    rw [hx1]
    by_cases c : md ≤ 2
    · rw [if_pos c]; exact bz_Upd.wr (bz_Upd.wr bz_Upd.refl (Or.inl rfl) (by unfold bz_isFix; simp [bz_cap, bz_fixL, bz_rowsL])) (Or.inr ⟨rfl, rfl⟩) (by decide)
    · rw [if_neg c]; exact bz_Upd.refl
  have um : bz_Upd m m1 (fun a k => a = 821 ∨ (a = 804 ∧ k = 37)) := by
    rw [hm1]; exact bz_Upd.wr (bz_Upd.wr bz_Upd.refl (Or.inl rfl) (by unfold bz_isFix; simp [bz_cap, bz_fixL, bz_rowsL])) (Or.inr ⟨rfl, rfl⟩) (by decide)
  have ux' : bz_Upd x x1 (rd_SX r) := ux.weak fun a k z => by
    rcases z with z | z
    · exact Or.inr (Or.inl z)
    · exact Or.inl ⟨z.1, by omega⟩
  have um' : bz_Upd m m1 rd_SM := um.weak fun a k z => by unfold rd_SM; omega
  have X : ∀ a k, a ≠ 224 → ¬ (a = 223 ∧ k = 3) → x1.2 a k = x.2 a k := fun a k p q => ux.2.2 a k (fun z => by omega)
  have M : ∀ a k, a ≠ 821 → ¬ (a = 804 ∧ k = 37) → m1.2 a k = m.2 a k := fun a k p q => um.2.2 a k (fun z => by omega)
  have e821 : ∀ i, i ≠ nv → m1.2 821 i = m.2 821 i := fun i hi => by rw [hm1, az_wr_ne (by omega), az_wr_ne (by omega)]
  have n821 : m1.2 821 nv = m.2 804 13 := by rw [hm1, az_wr_ne (by omega), az_wr_same]
  have ec : bz_ct m1 s = bz_ct m s := funext fun k => M 811 _ (by omega) (by omega)
  have ef : bz_ft m1 s = bz_ft m s := funext fun k => M 812 _ (by omega) (by omega)
  refine ⟨x1, m1, hx1, hm1, ⟨⟨hX.upd ux, hM.upd um⟩, hC.upd ux um (fun a k z => by unfold lx_KX; omega) (fun a k z => by unfold lx_KM; omega), hN.upd hr rt.1 rt.2 ux' (um'.weak fun _ _ z => Or.inl z), ⟨by rw [X 223 11 (by omega) (by omega)]; exact g1, by rw [X 223 5 (by omega) (by omega)]; exact g2, g3, by rw [M 804 32 (by omega) (by omega)]; exact g4, by rw [M 804 33 (by omega) (by omega)]; exact g5⟩, ⟨by rw [hm1, az_wr_same], ⟨by omega, by omega⟩, fun b c b0 bc c1 => ?_, fun z => ?_, fun z => ?_⟩, fun z => ?_, by rw [X r 1 (by omega) (by omega)]; exact w1, by rw [M 804 31 (by omega) (by omega)]; exact w2, w3, fun i i0 i1 => ?_⟩, ux', um', ?_, fun k => X _ k (by omega) (by omega), fun k => M 820 k (by omega) (by omega), ⟨fun i => ⟨X 229 i (by omega) (by omega), X 230 i (by omega) (by omega)⟩, ⟨⟨by rw [v1, hm1, az_wr_same]; omega, fun b _ b1 => e821 b (by omega)⟩, ⟨by rw [M 804 38 (by omega) (by omega)]; exact Int.le_refl _, fun k _ _ => ⟨M 822 k (by omega) (by omega), X 166 k (by omega) (by omega)⟩⟩⟩⟩⟩
  · by_cases ez : c = nv
    · rw [ez, n821, e821 b (by omega)]; exact new b b0 (by omega)
    · rw [e821 b (by omega), e821 c ez]; exact v3 b c b0 bc (by omega)
  · obtain ⟨z1, z2, z3, z4, z5⟩ := v4 z
    have r1 := room z
    have a3 : x1.2 223 3 = nv + 1 := by rw [hx1, if_pos z, az_wr_same]
    have a4 : x1.2 223 4 = x.2 223 4 := X 223 4 (by omega) (by omega)
    rw [a3, a4, M 804 34 (by omega) (by omega)]
    refine ⟨rfl, z2, by omega, z4, fun b b0 b1 => ?_⟩
    by_cases ez : b = nv
    · rw [ez, n821, hx1, if_pos z, az_wr_ne (by omega), az_wr_same]; exact wr
    · rw [e821 b ez, hx1, if_pos z, az_wr_ne (by omega), az_wr_ne (by omega)]; exact z5 b b0 (by omega)
  · obtain ⟨z1, z2, z3, z4⟩ := v5 z
    have a3 : x1.2 223 3 = x.2 223 3 := by rw [hx1, if_neg (by omega)]
    rw [a3, M 804 34 (by omega) (by omega)]
    refine ⟨z1, z2, by omega, fun b b0 b1 => ?_⟩
    by_cases ez : b = nv
    · rw [ez, n821]; exact ⟨v, wr⟩
    · rw [e821 b ez]; exact z4 b b0 (by omega)
  · obtain ⟨z1, z2, z3, z4⟩ := hU z
    rw [X 161 2 (by omega) (by omega), M 804 38 (by omega) (by omega)]
    exact ⟨z1, z2, z3, fun k k0 k1 => by rw [X 166 k (by omega) (by omega), M 822 k (by omega) (by omega)]; exact z4 k k0 k1⟩
  · have hT := hN.1
    rw [ec, ef, X T 0 (by omega) (by omega), X T 1 (by omega) (by omega), X (r + 1) i (by omega) (by omega), M 820 i (by omega) (by omega)]
    obtain ⟨p1, p2⟩ := w4 i i0 i1
    exact ⟨p1.weak fun a b q => q.mono (by omega) (fun k k0 k1 => e821 k (by omega)), p2⟩
  · unfold rd_V
    by_cases c : md ≤ 1
    · rw [if_pos c, if_pos c]; unfold bz_VE; omega
    · rw [if_neg c, if_neg c]; exact ⟨by omega, by omega, by rw [n821]; exact wr⟩
end VR
