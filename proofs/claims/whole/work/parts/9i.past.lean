/-! the reference keeps what was -/
def yz_past (a k : Int) : Prop := a = 842 ∨ a = 843
theorem yz_pastL {σ : az_Hp} {N p : Int} (hF : bz_Fx σ) (hN : σ.2 804 70 = N) (n60 : N ≤ 60) (p0 : 0 ≤ p) (p1 : p < 61) : ∀ (d k : Nat) (σ1 : az_Hp) (i : Int), d < k → 0 ≤ i → i + d = N → bz_Upd σ σ1 yz_past → (∀ j, 0 ≤ j → j < i → σ1.2 842 (60 * p + j) = σ.2 840 j) → (∀ j, j < 60 * p → σ1.2 842 j = σ.2 842 j) → ∃ σ', fz_X11_keepsPast_12 2000000 k σ1 804 p i = some σ' ∧ bz_Upd σ σ' yz_past ∧ (∀ j, σ'.2 843 j = σ1.2 843 j) ∧ (∀ j, j < 60 * p → σ'.2 842 j = σ.2 842 j) ∧ ∀ j, 0 ≤ j → j < N → σ'.2 842 (60 * p + j) = σ.2 840 j := by
  intro d
  induction d with
  | zero =>
    intro k σ1 i hk i0 hi u hj hb
    obtain ⟨k, rfl⟩ : ∃ k', k = k' + 1 := ⟨k - 1, by omega⟩
    have e : σ1.2 804 70 = N := by rw [u.2.2 804 70 (fun z => by unfold yz_past at z; omega)]; exact hN
    refine ⟨σ1, ?_, u, fun _ => rfl, hb, fun j j0 j1 => hj j j0 (by omega)⟩
    unfold fz_X11_keepsPast_12
    rw [e, if_neg (by omega)]
  | succ d ih =>
    intro k σ1 i hk i0 hi u hj hb
    obtain ⟨k, rfl⟩ : ∃ k', k = k' + 1 := ⟨k - 1, by omega⟩
    have e : σ1.2 804 70 = N := by rw [u.2.2 804 70 (fun z => by unfold yz_past at z; omega)]; exact hN
    have hF1 := hF.upd u
    have l1 := ln_840 hF1
    have l2 := ln_842 hF1
    have es : σ1.2 840 i = σ.2 840 i := u.2.2 _ _ (fun z => by unfold yz_past at z; omega)
    obtain ⟨σ', x1, x2, x3, x4, x5⟩ := ih k (az_wr σ1 842 (60 * p + i) (σ.2 840 i)) (i + 1) (by omega) (by omega) (by omega) (bz_Upd.wr u (Or.inl rfl) (by unfold bz_isFix; simp [bz_cap, bz_fixL, bz_rowsL])) (fun j j0 j1 => by
      by_cases q : j = i
      · rw [q, az_wr_same]
      · rw [az_wr_ne (by omega)]; exact hj j j0 (by omega)) (fun j j1 => by rw [az_wr_ne (by omega)]; exact hb j j1)
    refine ⟨σ', ?_, x2, fun j => by rw [x3, az_wr_ne (by omega)], x4, x5⟩
    rw [← x1]
    conv => lhs; unfold fz_X11_keepsPast_12
    rw [e, if_pos (by omega), fx_804_75 hF1, Option.bind_some, fx_804_68 hF1, Option.bind_some, bz_ard i0 (by omega), Option.bind_some, es, az_w32_id (z := 60 * p) (by omega) (by omega), az_w32_id (z := 60 * p + i) (by omega) (by omega), bz_awr (by omega) (by omega), Option.bind_some, az_w32_id (by omega) (by omega)]
theorem yz_keepsPast {σ : az_Hp} {N p : Int} (hF : bz_Fx σ) (hN : σ.2 804 70 = N) (n0 : 0 ≤ N) (n60 : N ≤ 60) (p0 : 0 ≤ p) (p1 : p < 61) : ∃ σ', fz_X11_keepsPast 2000000 σ 804 p = some σ' ∧ bz_Upd σ σ' yz_past ∧ σ'.2 843 p = N ∧ (∀ j, j ≠ p → σ'.2 843 j = σ.2 843 j) ∧ (∀ j, j < 60 * p → σ'.2 842 j = σ.2 842 j) ∧ ∀ j, 0 ≤ j → j < N → σ'.2 842 (60 * p + j) = σ.2 840 j := by
  have l3 := ln_843 hF
  have u : bz_Upd σ (az_wr σ 843 p N) yz_past := bz_Upd.wr bz_Upd.refl (Or.inr rfl) (by unfold bz_isFix; simp [bz_cap, bz_fixL, bz_rowsL])
  obtain ⟨σ', x1, x2, x3, x4, x5⟩ := yz_pastL hF hN n60 p0 p1 N.toNat 2000000 (az_wr σ 843 p N) 0 (by omega) (by omega) (by omega) u (fun j j0 j1 => by omega) (fun j j1 => by rw [az_wr_ne (by omega)])
  refine ⟨σ', ?_, x2, by rw [x3, az_wr_same], fun j q => by rw [x3, az_wr_ne (by omega)], x4, x5⟩
  unfold fz_X11_keepsPast
  rw [fx_804_76 hF, Option.bind_some, hN, bz_awr p0 (by omega), Option.bind_some]
  exact x1
