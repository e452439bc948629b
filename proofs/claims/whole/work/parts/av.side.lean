/-! one side of an EQUATION: both begin to read it -/
section EQ
variable {tp : Int → Int} {N : Int} {T s : Int} {J : Nat}
/-- before a side: the row is empty, the mode is set -/
theorem ld_side {x m : az_Hp} {j : Nat} {md r nv en : Int} (h : ld_S tp N x m T s J j) (hr : bz_cap r = 16) (hmd : md = 0 ∨ md = 1) (hv : m.2 804 37 = nv ∧ (0 ≤ nv ∧ nv ≤ 6) ∧ (∀ b c, 0 ≤ b → b < c → c < nv → m.2 821 b ≠ m.2 821 c) ∧ x.2 223 3 = nv ∧ x.2 223 4 = 6 ∧ m.2 804 34 = 6 ∧ ∀ b, 0 ≤ b → b < nv → bz_WR 96 (x.2 224 b) (m.2 821 b)) (hf : md = 0 → nv = 0) (hen : en = rd_en md) :
    rd_Bad r (az_wr (az_wr x r 1 0) 223 5 md) (az_wr (az_wr (az_wr m 804 32 md) 804 33 16) 804 31 0) (fz_X4_readSide 2000000 x 223 r md) (fz_X11_readTerm 2000000 200 (az_wr (az_wr (az_wr m 804 32 md) 804 33 16) 804 31 0) 804 en 0 (rd_must md 0)) ∨
    ∃ (x' m' : az_Hp) (j' : Nat) (nv' nu' sz : Int), fz_X4_readSide 2000000 x 223 r md = some (1, x') ∧ fz_X11_readTerm 2000000 200 (az_wr (az_wr (az_wr m 804 32 md) 804 33 16) 804 31 0) 804 en 0 (rd_must md 0) = some (1, m') ∧ rd_B tp N x' m' md r T s J j' nv' nu' sz 0 ∧ rd_Occ m' md nv' sz ∧ bz_Sc (bz_ra x' r) sz.toNat 1 0 ∧ 1 ≤ sz ∧ bz_Upd (az_wr (az_wr x r 1 0) 223 5 md) x' (rd_SX r) ∧ bz_Upd (az_wr (az_wr (az_wr m 804 32 md) 804 33 16) 804 31 0) m' rd_SM ∧ j < j' ∧ (md = 1 → m'.2 804 37 = nv) := by
  obtain ⟨⟨hX, hM⟩, hC, hL, h11⟩ := h
  have rp : 0 < bz_cap r := by omega
  have hT := hL.1.1
  have rn := rd_capn rp
  have rt := rd_rT rp hL.1.1
  have rlt := bz_cap_lt rp
  have fr := yz_free rp
  obtain ⟨y, hy⟩ : ∃ y, y = az_wr (az_wr x r 1 0) 223 5 md := ⟨_, rfl⟩
  obtain ⟨q, hq⟩ : ∃ q, q = az_wr (az_wr (az_wr m 804 32 md) 804 33 16) 804 31 0 := ⟨_, rfl⟩
  have uy : bz_Upd x y (fun a k => (a = r ∧ k = 1) ∨ (a = 223 ∧ k = 5)) := by
    rw [hy]; exact bz_Upd.wr (bz_Upd.wr bz_Upd.refl (Or.inl ⟨rfl, rfl⟩) fr.1) (Or.inr ⟨rfl, rfl⟩) (by decide)
  have uq : bz_Upd m q (fun a k => a = 804 ∧ (k = 31 ∨ k = 32 ∨ k = 33)) := by
    rw [hq]; exact bz_Upd.wr (bz_Upd.wr (bz_Upd.wr bz_Upd.refl ⟨rfl, by omega⟩ (by decide)) ⟨rfl, by omega⟩ (by decide)) ⟨rfl, by omega⟩ (by decide)
  obtain ⟨v1, v2, v3, v4, v5, v6, v7⟩ := hv
  have Y : ∀ a k, ¬ (a = r ∧ k = 1) → ¬ (a = 223 ∧ k = 5) → y.2 a k = x.2 a k := fun a k p p' => uy.2.2 a k (fun z => by omega)
  have Qk : ∀ a k, ¬ (a = 804 ∧ (k = 31 ∨ k = 32 ∨ k = 33)) → q.2 a k = m.2 a k := fun a k p => uq.2.2 a k p
  have B0 : rd_B tp N y q md r T s J j nv 0 0 1 := by
    refine ⟨⟨hX.upd uy, hM.upd uq⟩, hC.upd uy uq (fun a k z => by unfold lx_KX; omega) (fun a k z => by unfold lx_KM; omega), hL.1.gen uy uq (fun a k z => by omega) (fun a k z => by omega), ⟨by rw [Y 223 11 (by omega) (by omega)]; exact h11, by rw [hy, az_wr_same], ⟨by omega, by omega⟩, ?_, by rw [hq, az_wr_ne (by omega), az_wr_same, hr]⟩, ⟨by rw [Qk 804 37 (by omega)]; exact v1, ⟨v2.1, by omega⟩, fun b c b0 bc c1 => by rw [Qk 821 b (by omega), Qk 821 c (by omega)]; exact v3 b c b0 bc c1, fun _ => ?_, fun z => by omega⟩, fun z => by omega, by rw [hy, az_wr_ne (by omega), az_wr_same], by rw [hq, az_wr_same], ⟨by omega, by omega⟩, fun i i0 i1 => by omega⟩
    · rw [hq, az_wr_ne (by omega), az_wr_ne (by omega), az_wr_same]
      unfold rd_rm
      rw [if_pos (by omega)]
    · rw [Y 223 3 (by omega) (by omega), Y 223 4 (by omega) (by omega), Qk 804 34 (by omega)]
      exact ⟨v4, by omega, by omega, ⟨by omega, by omega⟩, fun b b0 b1 => by rw [Y 224 b (by omega) (by omega), Qk 821 b (by omega)]; exact v7 b b0 b1⟩
  have R := rd_side (r := r) rp B0 hf hen
  rw [← hy, ← hq]
  have eX : fz_X4_readSide 2000000 x 223 r md = fz_X4_readSide_15 2000000 2000000 y 223 r 0 0 := by
    unfold fz_X4_readSide
    rw [hy]
  rw [eX]
  rcases R with R | ⟨x', m', j', nv', nu', sz, t1, t2, t3, t4, t5, t6, t7, t8, t9, t10⟩
  · exact Or.inl R
  · refine Or.inr ⟨x', m', j', nv', nu', sz, t1, t2, t3, t4, t5, t6, t7, t8, t9, fun z => ?_⟩
    rw [t10.1 z, Qk 804 37 (by omega)]; exact v1
end EQ
