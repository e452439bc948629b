/-! WANTED are read: one side -/
def wq_V (m : az_Hp) (nv a b : Int) : Prop := 0 ≤ b ∧ b < nv ∧ bz_WR 96 a (m.2 821 b)
def wq_W (x m : az_Hp) (nv nu e : Int) (j : Nat) : Prop := (m.2 804 37 = nv ∧ (0 ≤ nv ∧ nv ≤ 450) ∧ (∀ b c, 0 ≤ b → b < c → c < nv → m.2 821 b ≠ m.2 821 c) ∧ m.2 804 34 = 450 ∧ x.2 223 3 = 0 ∧ 2 * nv + e ≤ j ∧ ∀ b, 0 ≤ b → b < nv → ∃ a, bz_WR 96 a (m.2 821 b)) ∧ (x.2 161 2 = nu ∧ m.2 804 38 = nu ∧ (0 ≤ nu ∧ nu ≤ 6) ∧ ∀ k, 0 ≤ k → k < nu → bz_WR 96 (x.2 166 k) (m.2 822 k))
def wq_S (tp : Int → Int) (N : Int) (x m : az_Hp) (T s : Int) (J j : Nat) (nv nu e : Int) : Prop := (bz_Fx x ∧ bz_Fx m) ∧ lx_Cur x m tp N J j ∧ rd_Nm x m T s ∧ x.2 223 11 = T ∧ wq_W x m nv nu e j
/-- a side that has been read -/
def wq_u (md nu : Int) : Int := if md ≤ 4 then 0 else nu
theorem wq_u3 {nu : Int} : wq_u 3 nu = 0 := if_pos (by decide)
theorem wq_u5 {nu : Int} : wq_u 5 nu = nu := if_neg (by decide)
theorem wq_u1 {md nu : Int} (h : md = 3 ∨ md = 5) : wq_u (md + 1) nu = wq_u md nu := by
  unfold wq_u
  rcases h with rfl | rfl <;> rfl
theorem wq_um {md nu nu' : Int} (h : nu ≤ nu') : wq_u md nu ≤ wq_u md nu' := by
  unfold wq_u
  split <;> omega
def wq_R (x m : az_Hp) (T s r A off nv nu sz : Int) : Prop := (x.2 r 1 = sz ∧ 1 ≤ sz ∧ sz ≤ 30) ∧ (∀ i, 0 ≤ i → i < sz → bz_cr (bz_ct m s) (bz_ft m s) (x.2 T 0) (x.2 T 1) (wq_V m nv) (x.2 (r + 1) i) (m.2 A (off + i)) ∧ (2000 ≤ m.2 A (off + i) → m.2 A (off + i) - 2000 < nu)) ∧ bz_Sc (bz_ra x r) sz.toNat 1 0
theorem wq_R.mono {x m x' m' : az_Hp} {T s r A off nv nu nv' nu' sz : Int} (h : wq_R x m T s r A off nv nu sz) (hr : x'.2 r 1 = x.2 r 1) (hr' : ∀ i, 0 ≤ i → i < sz → x'.2 (r + 1) i = x.2 (r + 1) i) (hA : ∀ i, 0 ≤ i → i < sz → m'.2 A (off + i) = m.2 A (off + i)) (t0 : x'.2 T 0 = x.2 T 0) (t1 : x'.2 T 1 = x.2 T 1) (ec : bz_ct m' s = bz_ct m s) (ef : bz_ft m' s = bz_ft m s) (hv : nv ≤ nv') (hu : nu ≤ nu') (h821 : ∀ b, 0 ≤ b → b < nv → m'.2 821 b = m.2 821 b) : wq_R x' m' T s r A off nv' nu' sz := by
  obtain ⟨h1, h2, h3⟩ := h
  refine ⟨by rw [hr]; exact h1, fun i i0 i1 => ?_, h3.cong (fun i i0 i1 => ?_)⟩
  · obtain ⟨p1, p2⟩ := h2 i i0 i1
    rw [hr' i i0 i1, hA i i0 i1, t0, t1, ec, ef]
    exact ⟨p1.weak fun a b q => ⟨q.1, by have := q.2.1; omega, by rw [h821 b q.1 q.2.1]; exact q.2.2⟩, fun q => by have := p2 q; omega⟩
  · unfold bz_ra
    rw [hr' i (by omega) (by omega)]
section WS
variable {tp : Int → Int} {N : Int} {T s : Int} {J : Nat}
theorem wq_S.weak {x m : az_Hp} {j : Nat} {nv nu e e' : Int} (h : wq_S tp N x m T s J j nv nu e) (he : e' ≤ e) : wq_S tp N x m T s J j nv nu e' := by
  obtain ⟨h1, h2, h3, h4, ⟨a1, a2, a3, a4, a5, a6, a7⟩, h6⟩ := h
  exact ⟨h1, h2, h3, h4, ⟨a1, a2, a3, a4, a5, by omega, a7⟩, h6⟩
/-- both go on by one token -/
theorem wq_step {x m : az_Hp} {j : Nat} {nv nu e : Int} (h : wq_S tp N x m T s J j nv nu e) (k0 : lx_kj tp N j ≠ 0) (k1 : lx_kj tp N j ≠ 1) : ∃ x' m', fz_X4_next x 223 = some x' ∧ fz_X11_go 2000000 m 804 = some m' ∧ wq_S tp N x' m' T s J (j + 1) nv nu (e + 1) ∧ bz_Upd x x' lx_nX ∧ bz_Upd m m' lx_S := by
  obtain ⟨⟨hX, hM⟩, hC, hN, h11, ⟨a1, a2, a3, a4, a5, a6, a7⟩, b1, b2, b3, b4⟩ := h
  have hT := hN.1
  obtain ⟨x', m', p1, p2, p3, p4, p5⟩ := lx_next hX hM hC k0 k1
  have X : ∀ a k, ¬ (a = 223 ∧ 7 ≤ k) → x'.2 a k = x.2 a k := fun a k q => p4.2.2 a k (fun z => by unfold lx_nX at z; omega)
  have M : ∀ a k, ¬ (a = 804 ∧ k ≤ 13) → m'.2 a k = m.2 a k := fun a k q => p5.2.2 a k (fun z => by unfold lx_S at z; omega)
  refine ⟨x', m', p1, p2, ⟨⟨hX.upd p4, hM.upd p5⟩, p3, hN.gen p4 p5 (fun a k z => by unfold lx_nX at z; omega) (fun a k z => by unfold lx_S at z; omega), ?_, ⟨?_, a2, fun b c b0 bc c1 => ?_, ?_, ?_, by push_cast; omega, fun b b0 b1 => ?_⟩, ?_, ?_, b3, fun k k0 k1 => ?_⟩, p4, p5⟩
  · rw [p4.2.2 223 11 (fun z => by unfold lx_nX at z; omega)]; exact h11
  · rw [M 804 37 (by omega)]; exact a1
  · rw [M 821 b (by omega), M 821 c (by omega)]; exact a3 b c b0 bc c1
  · rw [M 804 34 (by omega)]; exact a4
  · rw [X 223 3 (by omega)]; exact a5
  · rw [M 821 b (by omega)]; exact a7 b b0 b1
  · rw [X 161 2 (by omega)]; exact b1
  · rw [M 804 38 (by omega)]; exact b2
  · rw [X 166 k (by omega), M 822 k (by omega)]; exact b4 k k0 k1
theorem wq_side {x m : az_Hp} {j : Nat} {md r nv nu en : Int} (h : wq_S tp N x m T s J j nv nu 1) (hr : bz_cap r = 30) (hmd : 3 ≤ md ∧ md ≤ 6) (hen : en = rd_en md) :
    rd_Bad r (az_wr (az_wr x r 1 0) 223 5 md) (az_wr (az_wr (az_wr m 804 32 (rd_rm md)) 804 33 30) 804 31 0) (fz_X4_readSide 2000000 x 223 r md) (fz_X11_readTerm 2000000 200 (az_wr (az_wr (az_wr m 804 32 (rd_rm md)) 804 33 30) 804 31 0) 804 en 0 (rd_must md 0)) ∨
    ∃ (x' m' : az_Hp) (j' : Nat) (nv' nu' sz : Int), fz_X4_readSide 2000000 x 223 r md = some (1, x') ∧ fz_X11_readTerm 2000000 200 (az_wr (az_wr (az_wr m 804 32 (rd_rm md)) 804 33 30) 804 31 0) 804 en 0 (rd_must md 0) = some (1, m') ∧ wq_S tp N x' m' T s J j' nv' nu' 0 ∧ wq_R x' m' T s r 820 0 nv' (wq_u md nu') sz ∧ m'.2 804 31 = sz ∧ (md = 3 → 200 ≤ m'.2 820 0 ∧ m'.2 820 0 < 1000) ∧ bz_Upd (az_wr (az_wr x r 1 0) 223 5 md) x' (rd_SX r) ∧ bz_Upd (az_wr (az_wr (az_wr m 804 32 (rd_rm md)) 804 33 30) 804 31 0) m' rd_SM ∧ j < j' ∧ nv ≤ nv' ∧ nu ≤ nu' ∧ (∀ b, 0 ≤ b → b < nv → m'.2 821 b = m.2 821 b) ∧ (∀ k, 0 ≤ k → k < nu → m'.2 822 k = m.2 822 k ∧ x'.2 166 k = x.2 166 k) := by
  obtain ⟨⟨hX, hM⟩, hC, hN, h11, ⟨v1, v2, v3, v4, v5, v6, v7⟩, w1, w2, w3, w4⟩ := h
  have rp : 0 < bz_cap r := by omega
  have hT := hN.1
  have rn := rd_capn rp
  have rt := rd_rT rp hN.1
  have rlt := bz_cap_lt rp
  have fr := yz_free rp
  obtain ⟨y, hy⟩ : ∃ y, y = az_wr (az_wr x r 1 0) 223 5 md := ⟨_, rfl⟩
  obtain ⟨q, hq⟩ : ∃ q, q = az_wr (az_wr (az_wr m 804 32 (rd_rm md)) 804 33 30) 804 31 0 := ⟨_, rfl⟩
  have uy : bz_Upd x y (fun a k => (a = r ∧ k = 1) ∨ (a = 223 ∧ k = 5)) := by
    rw [hy]; exact bz_Upd.wr (bz_Upd.wr bz_Upd.refl (Or.inl ⟨rfl, rfl⟩) fr.1) (Or.inr ⟨rfl, rfl⟩) (by decide)
  have uq : bz_Upd m q (fun a k => a = 804 ∧ (k = 31 ∨ k = 32 ∨ k = 33)) := by
    rw [hq]; exact bz_Upd.wr (bz_Upd.wr (bz_Upd.wr bz_Upd.refl ⟨rfl, by omega⟩ (by decide)) ⟨rfl, by omega⟩ (by decide)) ⟨rfl, by omega⟩ (by decide)
  have Y : ∀ a k, ¬ (a = r ∧ k = 1) → ¬ (a = 223 ∧ k = 5) → y.2 a k = x.2 a k := fun a k p p' => uy.2.2 a k (fun z => by omega)
  have Qk : ∀ a k, ¬ (a = 804 ∧ (k = 31 ∨ k = 32 ∨ k = 33)) → q.2 a k = m.2 a k := fun a k p => uq.2.2 a k p
  have B0 : rd_B tp N y q md r T s J j nv nu 0 1 := by
    refine ⟨⟨hX.upd uy, hM.upd uq⟩, hC.upd uy uq (fun a k z => by unfold lx_KX; omega) (fun a k z => by unfold lx_KM; omega), hN.gen uy uq (fun a k z => by omega) (fun a k z => by omega), ⟨by rw [Y 223 11 (by omega) (by omega)]; exact h11, by rw [hy, az_wr_same], ⟨by omega, by omega⟩, by rw [hq, az_wr_ne (by omega), az_wr_ne (by omega), az_wr_same], by rw [hq, az_wr_ne (by omega), az_wr_same, hr]⟩, ⟨by rw [Qk 804 37 (by omega)]; exact v1, v2, fun b c b0 bc c1 => by rw [Qk 821 b (by omega), Qk 821 c (by omega)]; exact v3 b c b0 bc c1, fun z => by omega, fun _ => ?_⟩, fun _ => ?_, by rw [hy, az_wr_ne (by omega), az_wr_same], by rw [hq, az_wr_same], ⟨by omega, by omega⟩, fun i i0 i1 => by omega⟩
    · rw [Qk 804 34 (by omega), Y 223 3 (by omega) (by omega)]
      exact ⟨v4, v5, v6, fun b b0 b1 => by rw [Qk 821 b (by omega)]; exact v7 b b0 b1⟩
    · rw [Y 161 2 (by omega) (by omega), Qk 804 38 (by omega)]
      exact ⟨w1, w2, w3, fun k k0 k1 => by rw [Y 166 k (by omega) (by omega), Qk 822 k (by omega)]; exact w4 k k0 k1⟩
  have R := rd_side (r := r) rp B0 (fun z => by omega) hen
  rw [← hy, ← hq]
  have eX : fz_X4_readSide 2000000 x 223 r md = fz_X4_readSide_15 2000000 2000000 y 223 r 0 0 := by
    unfold fz_X4_readSide
    rw [hy]
  rw [eX]
  rcases R with R | ⟨x', m', j', nv', nu', sz, t1, t2, t3, t4, t5, t6, t7, t8, t9, t10, t11⟩
  · exact Or.inl R
  · obtain ⟨b1, b2, b3, ⟨b41, b42, b43, b44, b45⟩, ⟨c1, c2, c3, c4, c5⟩, d1, ⟨e1, e2, e3, e4⟩⟩ := t3
    obtain ⟨c51, c52, c53, c54⟩ := c5 hmd.1
    obtain ⟨d11, d12, d13, d14⟩ := d1 hmd.1
    obtain ⟨⟨f1, f2⟩, f3, f4⟩ := t11
    rw [Qk 804 37 (by omega), v1] at f1 f2
    rw [Qk 804 38 (by omega), w2] at f3 f4
    refine Or.inr ⟨x', m', j', nv', nu', sz, t1, t2, ⟨b1, b2, b3, b41, ⟨c1, c2, c3, c51, c52, by omega, c54⟩, d11, d12, d13, d14⟩, ⟨⟨e1, t6, by omega⟩, fun i i0 i1 => ?_, t5⟩, e2, fun z => ?_, t7, t8, t9, by omega, by omega, fun b b0 b1' => by rw [f2 b b0 b1', Qk 821 b (by omega)], fun k k0 k1 => ?_⟩
    · obtain ⟨p1, p2⟩ := e4 i i0 i1
      rw [Int.zero_add]
      exact ⟨p1.weak fun a b z => by unfold rd_V at z; rw [if_neg (by omega)] at z; exact z, fun z => by
        unfold wq_u
        by_cases c : md ≤ 4
        · have := p2.1 c; omega
        · rw [if_neg c]; exact p2.2.1 z⟩
    · exact (e4 0 (by omega) (by omega)).2.2.2.1 (Or.inr z) rfl
    · obtain ⟨g1, g2⟩ := f4 k k0 k1
      rw [g1, g2, Qk 822 k (by omega), Y 166 k (by omega) (by omega)]
      exact ⟨rfl, rfl⟩
end WS
