/-! the reference copies rows -/
def yz_lays (a k : Int) : Prop := a = 840 ∨ (a = 804 ∧ (k = 70 ∨ k = 72))
theorem yz_laysL {σ : az_Hp} {N : Int} (hF : bz_Fx σ) (hN : σ.2 804 81 = N) (n60 : N ≤ 60) : ∀ (d k : Nat) (σ1 : az_Hp) (i : Int), d < k → 0 ≤ i → i + d = N → bz_Upd σ σ1 yz_lays → (∀ j, 0 ≤ j → j < i → σ1.2 840 j = σ.2 844 j) → ∃ σ', fz_X11_laysTerm_10 2000000 k σ1 804 i = some (az_wr σ' 804 72 0) ∧ bz_Upd σ σ' yz_lays ∧ (∀ k, σ'.2 804 k = σ1.2 804 k) ∧ ∀ j, 0 ≤ j → j < N → σ'.2 840 j = σ.2 844 j := by
  intro d
  induction d with
  | zero =>
    intro k σ1 i hk i0 hi u hj
    obtain ⟨k, rfl⟩ : ∃ k', k = k' + 1 := ⟨k - 1, by omega⟩
    have e : σ1.2 804 81 = N := by rw [u.2.2 804 81 (fun z => by unfold yz_lays at z; omega)]; exact hN
    refine ⟨σ1, ?_, u, fun _ => rfl, fun j j0 j1 => hj j j0 (by omega)⟩
    unfold fz_X11_laysTerm_10
    rw [e, if_neg (by omega)]
  | succ d ih =>
    intro k σ1 i hk i0 hi u hj
    obtain ⟨k, rfl⟩ : ∃ k', k = k' + 1 := ⟨k - 1, by omega⟩
    have e : σ1.2 804 81 = N := by rw [u.2.2 804 81 (fun z => by unfold yz_lays at z; omega)]; exact hN
    have hF1 := hF.upd u
    have l1 := ln_844 hF1
    have l2 := ln_840 hF1
    have es : σ1.2 844 i = σ.2 844 i := u.2.2 _ _ (fun z => by unfold yz_lays at z; omega)
    obtain ⟨σ', x1, x2, x3, x4⟩ := ih k (az_wr σ1 840 i (σ.2 844 i)) (i + 1) (by omega) (by omega) (by omega) (bz_Upd.wr u (Or.inl rfl) (by unfold bz_isFix; simp [bz_cap, bz_fixL, bz_rowsL])) (fun j j0 j1 => by
      by_cases q : j = i
      · rw [q, az_wr_same]
      · rw [az_wr_ne (by omega)]; exact hj j j0 (by omega))
    refine ⟨σ', ?_, x2, fun k => by rw [x3, az_wr_ne (by omega)], x4⟩
    rw [← x1]
    conv => lhs; unfold fz_X11_laysTerm_10
    rw [e, if_pos (by omega), fx_804_68 hF1, Option.bind_some, fx_804_79 hF1, Option.bind_some, bz_ard i0 (by omega), Option.bind_some, es, bz_awr i0 (by omega), Option.bind_some, az_w32_id (by omega) (by omega)]
def yz_keeps (a k : Int) : Prop := a = 844 ∨ (a = 804 ∧ k = 81)
theorem yz_keepsL {σ : az_Hp} {N : Int} (hF : bz_Fx σ) (hN : σ.2 804 70 = N) (n60 : N ≤ 60) : ∀ (d k : Nat) (σ1 : az_Hp) (i : Int), d < k → 0 ≤ i → i + d = N → bz_Upd σ σ1 yz_keeps → (∀ j, 0 ≤ j → j < i → σ1.2 844 j = σ.2 840 j) → ∃ σ', fz_X11_keepsTerm_10 2000000 k σ1 804 i = some σ' ∧ bz_Upd σ σ' yz_keeps ∧ (∀ k, σ'.2 804 k = σ1.2 804 k) ∧ ∀ j, 0 ≤ j → j < N → σ'.2 844 j = σ.2 840 j := by
  intro d
  induction d with
  | zero =>
    intro k σ1 i hk i0 hi u hj
    obtain ⟨k, rfl⟩ : ∃ k', k = k' + 1 := ⟨k - 1, by omega⟩
    have e : σ1.2 804 70 = N := by rw [u.2.2 804 70 (fun z => by unfold yz_keeps at z; omega)]; exact hN
    refine ⟨σ1, ?_, u, fun _ => rfl, fun j j0 j1 => hj j j0 (by omega)⟩
    unfold fz_X11_keepsTerm_10
    rw [e, if_neg (by omega)]
  | succ d ih =>
    intro k σ1 i hk i0 hi u hj
    obtain ⟨k, rfl⟩ : ∃ k', k = k' + 1 := ⟨k - 1, by omega⟩
    have e : σ1.2 804 70 = N := by rw [u.2.2 804 70 (fun z => by unfold yz_keeps at z; omega)]; exact hN
    have hF1 := hF.upd u
    have l1 := ln_840 hF1
    have l2 := ln_844 hF1
    have es : σ1.2 840 i = σ.2 840 i := u.2.2 _ _ (fun z => by unfold yz_keeps at z; omega)
    obtain ⟨σ', x1, x2, x3, x4⟩ := ih k (az_wr σ1 844 i (σ.2 840 i)) (i + 1) (by omega) (by omega) (by omega) (bz_Upd.wr u (Or.inl rfl) (by unfold bz_isFix; simp [bz_cap, bz_fixL, bz_rowsL])) (fun j j0 j1 => by
      by_cases q : j = i
      · rw [q, az_wr_same]
      · rw [az_wr_ne (by omega)]; exact hj j j0 (by omega))
    refine ⟨σ', ?_, x2, fun k => by rw [x3, az_wr_ne (by omega)], x4⟩
    rw [← x1]
    conv => lhs; unfold fz_X11_keepsTerm_10
    rw [e, if_pos (by omega), fx_804_79 hF1, Option.bind_some, fx_804_68 hF1, Option.bind_some, bz_ard i0 (by omega), Option.bind_some, es, bz_awr i0 (by omega), Option.bind_some, az_w32_id (by omega) (by omega)]
def yz_next (a k : Int) : Prop := a = 840 ∨ (a = 804 ∧ k = 70)
theorem yz_nextL {σ : az_Hp} {N : Int} (hF : bz_Fx σ) (hN : σ.2 804 71 = N) (n60 : N ≤ 60) : ∀ (d k : Nat) (σ1 : az_Hp) (i : Int), d < k → 0 ≤ i → i + d = N → bz_Upd σ σ1 yz_next → (∀ j, 0 ≤ j → j < i → σ1.2 840 j = σ.2 841 j) → ∃ σ', fz_X11_becomesNext_10 2000000 k σ1 804 i = some σ' ∧ bz_Upd σ σ' yz_next ∧ (∀ k, σ'.2 804 k = σ1.2 804 k) ∧ ∀ j, 0 ≤ j → j < N → σ'.2 840 j = σ.2 841 j := by
  intro d
  induction d with
  | zero =>
    intro k σ1 i hk i0 hi u hj
    obtain ⟨k, rfl⟩ : ∃ k', k = k' + 1 := ⟨k - 1, by omega⟩
    have e : σ1.2 804 71 = N := by rw [u.2.2 804 71 (fun z => by unfold yz_next at z; omega)]; exact hN
    refine ⟨σ1, ?_, u, fun _ => rfl, fun j j0 j1 => hj j j0 (by omega)⟩
    unfold fz_X11_becomesNext_10
    rw [e, if_neg (by omega)]
  | succ d ih =>
    intro k σ1 i hk i0 hi u hj
    obtain ⟨k, rfl⟩ : ∃ k', k = k' + 1 := ⟨k - 1, by omega⟩
    have e : σ1.2 804 71 = N := by rw [u.2.2 804 71 (fun z => by unfold yz_next at z; omega)]; exact hN
    have hF1 := hF.upd u
    have l1 := ln_841 hF1
    have l2 := ln_840 hF1
    have es : σ1.2 841 i = σ.2 841 i := u.2.2 _ _ (fun z => by unfold yz_next at z; omega)
    obtain ⟨σ', x1, x2, x3, x4⟩ := ih k (az_wr σ1 840 i (σ.2 841 i)) (i + 1) (by omega) (by omega) (by omega) (bz_Upd.wr u (Or.inl rfl) (by unfold bz_isFix; simp [bz_cap, bz_fixL, bz_rowsL])) (fun j j0 j1 => by
      by_cases q : j = i
      · rw [q, az_wr_same]
      · rw [az_wr_ne (by omega)]; exact hj j j0 (by omega))
    refine ⟨σ', ?_, x2, fun k => by rw [x3, az_wr_ne (by omega)], x4⟩
    rw [← x1]
    conv => lhs; unfold fz_X11_becomesNext_10
    rw [e, if_pos (by omega), fx_804_68 hF1, Option.bind_some, fx_804_69 hF1, Option.bind_some, bz_ard i0 (by omega), Option.bind_some, es, bz_awr i0 (by omega), Option.bind_some, az_w32_id (by omega) (by omega)]
theorem yz_laysTerm {σ : az_Hp} {N : Int} (hF : bz_Fx σ) (hN : σ.2 804 81 = N) (n0 : 0 ≤ N) (n60 : N ≤ 60) : ∃ σ', fz_X11_laysTerm 2000000 σ 804 = some σ' ∧ bz_Upd σ σ' yz_lays ∧ σ'.2 804 70 = N ∧ σ'.2 804 72 = 0 ∧ ∀ j, 0 ≤ j → j < N → σ'.2 840 j = σ.2 844 j := by
  have u : bz_Upd σ (az_wr σ 804 70 N) yz_lays := bz_Upd.wr bz_Upd.refl (Or.inr ⟨rfl, Or.inl rfl⟩) (by decide)
  obtain ⟨σ', x1, x2, x3, x4⟩ := yz_laysL hF hN n60 N.toNat 2000000 (az_wr σ 804 70 N) 0 (by omega) (by omega) (by omega) u (fun j j0 j1 => by omega)
  refine ⟨az_wr σ' 804 72 0, ?_, bz_Upd.wr x2 (Or.inr ⟨rfl, Or.inr rfl⟩) (by decide), by rw [az_wr_ne (by omega), x3, az_wr_same], az_wr_same, fun j j0 j1 => by rw [az_wr_ne (by omega)]; exact x4 j j0 j1⟩
  unfold fz_X11_laysTerm
  rw [hN]
  exact x1
theorem yz_keepsTerm {σ : az_Hp} {N : Int} (hF : bz_Fx σ) (hN : σ.2 804 70 = N) (n0 : 0 ≤ N) (n60 : N ≤ 60) : ∃ σ', fz_X11_keepsTerm 2000000 σ 804 = some σ' ∧ bz_Upd σ σ' yz_keeps ∧ σ'.2 804 81 = N ∧ ∀ j, 0 ≤ j → j < N → σ'.2 844 j = σ.2 840 j := by
  have u : bz_Upd σ (az_wr σ 804 81 N) yz_keeps := bz_Upd.wr bz_Upd.refl (Or.inr ⟨rfl, rfl⟩) (by decide)
  obtain ⟨σ', x1, x2, x3, x4⟩ := yz_keepsL hF hN n60 N.toNat 2000000 (az_wr σ 804 81 N) 0 (by omega) (by omega) (by omega) u (fun j j0 j1 => by omega)
  refine ⟨σ', ?_, x2, by rw [x3, az_wr_same], x4⟩
  unfold fz_X11_keepsTerm
  rw [hN]
  exact x1
theorem yz_becomesNext {σ : az_Hp} {N : Int} (hF : bz_Fx σ) (hN : σ.2 804 71 = N) (n0 : 0 ≤ N) (n60 : N ≤ 60) : ∃ σ', fz_X11_becomesNext 2000000 σ 804 = some σ' ∧ bz_Upd σ σ' yz_next ∧ σ'.2 804 70 = N ∧ ∀ j, 0 ≤ j → j < N → σ'.2 840 j = σ.2 841 j := by
  have u : bz_Upd σ (az_wr σ 804 70 N) yz_next := bz_Upd.wr bz_Upd.refl (Or.inr ⟨rfl, rfl⟩) (by decide)
  obtain ⟨σ', x1, x2, x3, x4⟩ := yz_nextL hF hN n60 N.toNat 2000000 (az_wr σ 804 70 N) 0 (by omega) (by omega) (by omega) u (fun j j0 j1 => by omega)
  refine ⟨σ', ?_, x2, by rw [x3, az_wr_same], x4⟩
  unfold fz_X11_becomesNext
  rw [hN]
  exact x1
