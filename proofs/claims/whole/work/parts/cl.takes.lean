/-! what is WANTED is taken: the reference's takesWanted -/
section TW
theorem tw_10 {m : az_Hp} {n : Int} (hM : bz_Fx m) (n6 : n ≤ 6) (h85 : m.2 804 85 = n) : ∀ (d k : Nat) (τ : az_Hp) (j : Int), d < k → 0 ≤ j → j + d = n → bz_Upd m τ (fun a _ => a = 850 ∨ a = 851) → (∀ i, 0 ≤ i → i < j → τ.2 850 i = m.2 854 i ∧ τ.2 851 i = m.2 855 i) → ∃ τ', fz_X11_takesWanted_10 2000000 k τ 804 j = fz_X11_takesWanted_50 2000000 2000000 τ' 804 0 ∧ bz_Upd m τ' (fun a _ => a = 850 ∨ a = 851) ∧ ∀ i, 0 ≤ i → i < n → τ'.2 850 i = m.2 854 i ∧ τ'.2 851 i = m.2 855 i := by
  intro d
  induction d with
  | zero =>
    intro k τ j hk j0 hj ut h
    obtain ⟨k, rfl⟩ : ∃ k', k = k' + 1 := ⟨k - 1, by omega⟩
    have e : τ.2 804 85 = n := by rw [ut.2.2 804 85 (fun w => by omega)]; exact h85
    refine ⟨τ, ?_, ut, fun i i0 i1 => h i i0 (by omega)⟩
    unfold fz_X11_takesWanted_10
    rw [if_neg (by omega)]
  | succ d ih =>
    intro k τ j hk j0 hj ut h
    obtain ⟨k, rfl⟩ : ∃ k', k = k' + 1 := ⟨k - 1, by omega⟩
    have hF := hM.upd ut
    have e : τ.2 804 85 = n := by rw [ut.2.2 804 85 (fun w => by omega)]; exact h85
    have e4 : τ.2 854 j = m.2 854 j := ut.2.2 _ _ (fun w => by omega)
    have e5 : τ.2 855 j = m.2 855 j := ut.2.2 _ _ (fun w => by omega)
    have u1 : bz_Upd m (az_wr τ 850 j (m.2 854 j)) (fun a _ => a = 850 ∨ a = 851) := bz_Upd.wr ut (Or.inl rfl) (by unfold bz_isFix; simp [bz_cap, bz_fixL, bz_rowsL])
    have hF1 := hM.upd u1
    have u2 : bz_Upd m (az_wr (az_wr τ 850 j (m.2 854 j)) 851 j (m.2 855 j)) (fun a _ => a = 850 ∨ a = 851) := bz_Upd.wr u1 (Or.inr rfl) (by unfold bz_isFix; simp [bz_cap, bz_fixL, bz_rowsL])
    have e5' : (az_wr τ 850 j (m.2 854 j)).2 855 j = m.2 855 j := by rw [az_wr_ne (by omega)]; exact e5
    obtain ⟨τ', t1, t2⟩ := ih k _ (j + 1) (by omega) (by omega) (by push_cast at hj; omega) u2 (fun i i0 i1 => by
      by_cases c : i = j
      · rw [c, az_wr_same, az_wr_ne (by omega), az_wr_same]; exact ⟨rfl, rfl⟩
      · rw [az_wr_ne (by omega), az_wr_ne (by omega), az_wr_ne (by omega), az_wr_ne (by omega)]; exact h i i0 (by omega))
    refine ⟨τ', ?_, t2⟩
    rw [← t1]
    conv => lhs; unfold fz_X11_takesWanted_10
    rw [if_pos (by omega), fx_804_90 hF, Option.bind_some, fx_804_94 hF, Option.bind_some, bz_ard j0 (by rw [ln_854 hF]; omega), Option.bind_some, e4, bz_awr j0 (by rw [ln_850 hF]; omega), Option.bind_some, fx_804_91 hF1, Option.bind_some, fx_804_95 hF1, Option.bind_some, bz_ard j0 (by rw [ln_855 hF1]; omega), Option.bind_some, e5', bz_awr j0 (by rw [ln_851 hF1]; omega), Option.bind_some, az_w32_id (z := j + 1) (by omega) (by omega)]
theorem tw_50 {m : az_Hp} (hM : bz_Fx m) : ∀ (d k : Nat) (τ : az_Hp) (j : Int), d < k → 0 ≤ j → j + d = 180 → bz_Upd m τ (fun a _ => a = 848 ∨ a = 849) → (∀ i, 0 ≤ i → i < j → τ.2 848 i = m.2 852 i ∧ τ.2 849 i = m.2 853 i) → ∃ τ', fz_X11_takesWanted_50 2000000 k τ 804 j = fz_X11_takesWanted_89 2000000 2000000 τ' 804 0 ∧ bz_Upd m τ' (fun a _ => a = 848 ∨ a = 849) ∧ ∀ i, 0 ≤ i → i < 180 → τ'.2 848 i = m.2 852 i ∧ τ'.2 849 i = m.2 853 i := by
  intro d
  induction d with
  | zero =>
    intro k τ j hk j0 hj ut h
    obtain ⟨k, rfl⟩ : ∃ k', k = k' + 1 := ⟨k - 1, by omega⟩
    refine ⟨τ, ?_, ut, fun i i0 i1 => h i i0 (by omega)⟩
    unfold fz_X11_takesWanted_50
    rw [if_neg (by omega)]
  | succ d ih =>
    intro k τ j hk j0 hj ut h
    obtain ⟨k, rfl⟩ : ∃ k', k = k' + 1 := ⟨k - 1, by omega⟩
    have hF := hM.upd ut
    have e4 : τ.2 852 j = m.2 852 j := ut.2.2 _ _ (fun w => by omega)
    have e5 : τ.2 853 j = m.2 853 j := ut.2.2 _ _ (fun w => by omega)
    have u1 : bz_Upd m (az_wr τ 848 j (m.2 852 j)) (fun a _ => a = 848 ∨ a = 849) := bz_Upd.wr ut (Or.inl rfl) (by unfold bz_isFix; simp [bz_cap, bz_fixL, bz_rowsL])
    have hF1 := hM.upd u1
    have u2 : bz_Upd m (az_wr (az_wr τ 848 j (m.2 852 j)) 849 j (m.2 853 j)) (fun a _ => a = 848 ∨ a = 849) := bz_Upd.wr u1 (Or.inr rfl) (by unfold bz_isFix; simp [bz_cap, bz_fixL, bz_rowsL])
    have e5' : (az_wr τ 848 j (m.2 852 j)).2 853 j = m.2 853 j := by rw [az_wr_ne (by omega)]; exact e5
    obtain ⟨τ', t1, t2⟩ := ih k _ (j + 1) (by omega) (by omega) (by push_cast at hj; omega) u2 (fun i i0 i1 => by
      by_cases c : i = j
      · rw [c, az_wr_same, az_wr_ne (by omega), az_wr_same]; exact ⟨rfl, rfl⟩
      · rw [az_wr_ne (by omega), az_wr_ne (by omega), az_wr_ne (by omega), az_wr_ne (by omega)]; exact h i i0 (by omega))
    refine ⟨τ', ?_, t2⟩
    rw [← t1]
    conv => lhs; unfold fz_X11_takesWanted_50
    rw [if_pos (by omega), fx_804_88 hF, Option.bind_some, fx_804_92 hF, Option.bind_some, bz_ard j0 (by rw [ln_852 hF]; omega), Option.bind_some, e4, bz_awr j0 (by rw [ln_848 hF]; omega), Option.bind_some, fx_804_89 hF1, Option.bind_some, fx_804_93 hF1, Option.bind_some, bz_ard j0 (by rw [ln_853 hF1]; omega), Option.bind_some, e5', bz_awr j0 (by rw [ln_849 hF1]; omega), Option.bind_some, az_w32_id (z := j + 1) (by omega) (by omega)]
theorem tw_89 {m : az_Hp} {n : Int} (hM : bz_Fx m) (n6 : n ≤ 450) (h37 : m.2 804 37 = n) : ∀ (d k : Nat) (τ : az_Hp) (j : Int), d < k → 0 ≤ j → j + d = n → bz_Upd m τ (fun a _ => a = 858) → (∀ i, 0 ≤ i → i < j → τ.2 858 i = m.2 821 i) → ∃ τ', fz_X11_takesWanted_89 2000000 k τ 804 j = fz_X11_takesWanted_117 2000000 2000000 τ' 804 0 ∧ bz_Upd m τ' (fun a _ => a = 858) ∧ ∀ i, 0 ≤ i → i < n → τ'.2 858 i = m.2 821 i := by
  intro d
  induction d with
  | zero =>
    intro k τ j hk j0 hj ut h
    obtain ⟨k, rfl⟩ : ∃ k', k = k' + 1 := ⟨k - 1, by omega⟩
    have e : τ.2 804 37 = n := by rw [ut.2.2 804 37 (fun w => by omega)]; exact h37
    refine ⟨τ, ?_, ut, fun i i0 i1 => h i i0 (by omega)⟩
    unfold fz_X11_takesWanted_89
    rw [if_neg (by omega)]
  | succ d ih =>
    intro k τ j hk j0 hj ut h
    obtain ⟨k, rfl⟩ : ∃ k', k = k' + 1 := ⟨k - 1, by omega⟩
    have hF := hM.upd ut
    have e : τ.2 804 37 = n := by rw [ut.2.2 804 37 (fun w => by omega)]; exact h37
    have e4 : τ.2 821 j = m.2 821 j := ut.2.2 _ _ (fun w => by omega)
    have u1 : bz_Upd m (az_wr τ 858 j (m.2 821 j)) (fun a _ => a = 858) := bz_Upd.wr ut rfl (by unfold bz_isFix; simp [bz_cap, bz_fixL, bz_rowsL])
    obtain ⟨τ', t1, t2⟩ := ih k _ (j + 1) (by omega) (by omega) (by push_cast at hj; omega) u1 (fun i i0 i1 => by
      by_cases c : i = j
      · rw [c, az_wr_same]
      · rw [az_wr_ne (by omega)]; exact h i i0 (by omega))
    refine ⟨τ', ?_, t2⟩
    rw [← t1]
    conv => lhs; unfold fz_X11_takesWanted_89
    rw [if_pos (by omega), fx_804_98 hF, Option.bind_some, fx_804_35 hF, Option.bind_some, bz_ard j0 (by rw [ln_821 hF]; omega), Option.bind_some, e4, bz_awr j0 (by rw [ln_858 hF]; omega), Option.bind_some, az_w32_id (z := j + 1) (by omega) (by omega)]
theorem tw_117 {m : az_Hp} {n w : Int} (hM : bz_Fx m) (n6 : n ≤ 6) (h38 : m.2 804 38 = n) (h86 : m.2 804 86 = w) : ∀ (d k : Nat) (τ : az_Hp) (j : Int), d < k → 0 ≤ j → j + d = n → bz_Upd m τ (fun a _ => a = 859 ∨ a = 864) → (∀ i, 0 ≤ i → i < j → τ.2 859 i = m.2 822 i ∧ τ.2 864 i = 0) → ∃ τ', fz_X11_takesWanted_117 2000000 k τ 804 j = fz_X11_takesWanted_168 2000000 2000000 (az_wr (az_wr τ' 804 101 n) 804 108 w) 804 0 ∧ bz_Upd m τ' (fun a _ => a = 859 ∨ a = 864) ∧ ∀ i, 0 ≤ i → i < n → τ'.2 859 i = m.2 822 i ∧ τ'.2 864 i = 0 := by
  intro d
  induction d with
  | zero =>
    intro k τ j hk j0 hj ut h
    obtain ⟨k, rfl⟩ : ∃ k', k = k' + 1 := ⟨k - 1, by omega⟩
    have e : τ.2 804 38 = n := by rw [ut.2.2 804 38 (fun w => by omega)]; exact h38
    have e86 : τ.2 804 86 = w := by rw [ut.2.2 804 86 (fun w => by omega)]; exact h86
    refine ⟨τ, ?_, ut, fun i i0 i1 => h i i0 (by omega)⟩
    unfold fz_X11_takesWanted_117
    rw [if_neg (by omega), e, az_wr_ne (by omega), e86]
  | succ d ih =>
    intro k τ j hk j0 hj ut h
    obtain ⟨k, rfl⟩ : ∃ k', k = k' + 1 := ⟨k - 1, by omega⟩
    have hF := hM.upd ut
    have e : τ.2 804 38 = n := by rw [ut.2.2 804 38 (fun w => by omega)]; exact h38
    have e4 : τ.2 822 j = m.2 822 j := ut.2.2 _ _ (fun w => by omega)
    have u1 : bz_Upd m (az_wr τ 859 j (m.2 822 j)) (fun a _ => a = 859 ∨ a = 864) := bz_Upd.wr ut (Or.inl rfl) (by unfold bz_isFix; simp [bz_cap, bz_fixL, bz_rowsL])
    have hF1 := hM.upd u1
    have u2 : bz_Upd m (az_wr (az_wr τ 859 j (m.2 822 j)) 864 j 0) (fun a _ => a = 859 ∨ a = 864) := bz_Upd.wr u1 (Or.inr rfl) (by unfold bz_isFix; simp [bz_cap, bz_fixL, bz_rowsL])
    obtain ⟨τ', t1, t2⟩ := ih k _ (j + 1) (by omega) (by omega) (by push_cast at hj; omega) u2 (fun i i0 i1 => by
      by_cases c : i = j
      · rw [c, az_wr_same, az_wr_ne (by omega), az_wr_same]; exact ⟨rfl, rfl⟩
      · rw [az_wr_ne (by omega), az_wr_ne (by omega), az_wr_ne (by omega), az_wr_ne (by omega)]; exact h i i0 (by omega))
    refine ⟨τ', ?_, t2⟩
    rw [← t1]
    conv => lhs; unfold fz_X11_takesWanted_117
    rw [if_pos (by omega), fx_804_99 hF, Option.bind_some, fx_804_36 hF, Option.bind_some, bz_ard j0 (by rw [ln_822 hF]; omega), Option.bind_some, e4, bz_awr j0 (by rw [ln_859 hF]; omega), Option.bind_some, fx_804_106 hF1, Option.bind_some, bz_awr j0 (by rw [ln_864 hF1]; omega), Option.bind_some, az_w32_id (z := j + 1) (by omega) (by omega)]
def tw_S (v sd a k : Int) : Prop := (a = 861 ∧ k = 2 * v + sd) ∨ (a = 860 ∧ 60 * (2 * v + sd) ≤ k ∧ k < 60 * (2 * v + sd) + 60)
theorem tw_205 {m : az_Hp} {v sd z : Int} {k168 : az_Hp → Int → Int → Option az_Hp} {k178 : az_Hp → Int → Int → Int → Option az_Hp} (hM : bz_Fx m) (v0 : 0 ≤ v) (v8 : v < 8) (s0 : 0 ≤ sd) (s1 : sd < 2) (hz : m.2 857 (2 * v + sd) = z) (z30 : z ≤ 30) : ∀ (d k : Nat) (τ : az_Hp) (j : Int), d < k → 0 ≤ j → j + d = z → bz_Upd m τ (tw_S v sd) → (∀ i, 0 ≤ i → i < j → τ.2 860 (60 * (2 * v + sd) + i) = m.2 856 (30 * (2 * v + sd) + i)) → ∃ τ', fz_X11_takesWanted_205 2000000 k168 k178 k τ 804 v sd j = k178 τ' 804 v (sd + 1) ∧ bz_Upd m τ' (tw_S v sd) ∧ τ'.2 861 (2 * v + sd) = τ.2 861 (2 * v + sd) ∧ ∀ i, 0 ≤ i → i < z → τ'.2 860 (60 * (2 * v + sd) + i) = m.2 856 (30 * (2 * v + sd) + i) := by
  intro d
  induction d with
  | zero =>
    intro k τ j hk j0 hj ut h
    obtain ⟨k, rfl⟩ : ∃ k', k = k' + 1 := ⟨k - 1, by omega⟩
    have hF := hM.upd ut
    have e : τ.2 857 (2 * v + sd) = z := by rw [ut.2.2 857 _ (fun w => by unfold tw_S at w; omega)]; exact hz
    refine ⟨τ, ?_, ut, rfl, fun i i0 i1 => h i i0 (by omega)⟩
    unfold fz_X11_takesWanted_205
    rw [fx_804_97 hF, Option.bind_some, az_w32_id (z := 2 * v) (by omega) (by omega), az_w32_id (z := 2 * v + sd) (by omega) (by omega), bz_ard (by omega) (by rw [ln_857 hF]; omega), Option.bind_some, e, if_neg (by omega), az_w32_id (z := sd + 1) (by omega) (by omega)]
  | succ d ih =>
    intro k τ j hk j0 hj ut h
    obtain ⟨k, rfl⟩ : ∃ k', k = k' + 1 := ⟨k - 1, by omega⟩
    have hF := hM.upd ut
    have e : τ.2 857 (2 * v + sd) = z := by rw [ut.2.2 857 _ (fun w => by unfold tw_S at w; omega)]; exact hz
    have e6 : τ.2 856 (30 * (2 * v + sd) + j) = m.2 856 (30 * (2 * v + sd) + j) := ut.2.2 _ _ (fun w => by unfold tw_S at w; omega)
    have u1 : bz_Upd m (az_wr τ 860 (60 * (2 * v + sd) + j) (m.2 856 (30 * (2 * v + sd) + j))) (tw_S v sd) := bz_Upd.wr ut (Or.inr ⟨rfl, by omega, by omega⟩) (by unfold bz_isFix; simp [bz_cap, bz_fixL, bz_rowsL])
    obtain ⟨τ', t1, t2, t3, t4⟩ := ih k _ (j + 1) (by omega) (by omega) (by push_cast at hj; omega) u1 (fun i i0 i1 => by
      by_cases c : i = j
      · rw [c, az_wr_same]
      · rw [az_wr_ne (by omega)]; exact h i i0 (by omega))
    refine ⟨τ', ?_, t2, by rw [t3, az_wr_ne (by omega)], t4⟩
    rw [← t1]
    conv => lhs; unfold fz_X11_takesWanted_205
    rw [fx_804_97 hF, Option.bind_some, az_w32_id (z := 2 * v) (by omega) (by omega), az_w32_id (z := 2 * v + sd) (by omega) (by omega), bz_ard (by omega) (by rw [ln_857 hF]; omega), Option.bind_some, e, if_pos (by omega), fx_804_102 hF, Option.bind_some, fx_804_96 hF, Option.bind_some, az_w32_id (z := 30 * (2 * v + sd)) (by omega) (by omega), az_w32_id (z := 30 * (2 * v + sd) + j) (by omega) (by omega), bz_ard (by omega) (by rw [ln_856 hF]; omega), Option.bind_some, e6, az_w32_id (z := 60 * (2 * v + sd)) (by omega) (by omega), az_w32_id (z := 60 * (2 * v + sd) + j) (by omega) (by omega), bz_awr (by omega) (by rw [ln_860 hF]; omega), Option.bind_some, az_w32_id (z := j + 1) (by omega) (by omega)]
theorem tw_1 {m : az_Hp} {v sd z : Int} {k168 : az_Hp → Int → Int → Option az_Hp} {k : Nat} (hM : bz_Fx m) (v0 : 0 ≤ v) (v8 : v < 8) (s0 : 0 ≤ sd) (s1 : sd < 2) (hz : m.2 857 (2 * v + sd) = z) (z0 : 0 ≤ z) (z30 : z ≤ 30) : ∃ τ', fz_X11_takesWanted_178 2000000 k168 (k + 1) m 804 v sd = fz_X11_takesWanted_178 2000000 k168 k τ' 804 v (sd + 1) ∧ bz_Upd m τ' (tw_S v sd) ∧ τ'.2 861 (2 * v + sd) = z ∧ ∀ i, 0 ≤ i → i < z → τ'.2 860 (60 * (2 * v + sd) + i) = m.2 856 (30 * (2 * v + sd) + i) := by
  have u1 : bz_Upd m (az_wr m 861 (2 * v + sd) z) (tw_S v sd) := bz_Upd.wr bz_Upd.refl (Or.inl ⟨rfl, rfl⟩) (by unfold bz_isFix; simp [bz_cap, bz_fixL, bz_rowsL])
  obtain ⟨τ', t1, t2, t3, t4⟩ := tw_205 (k168 := k168) (k178 := fz_X11_takesWanted_178 2000000 k168 k) hM v0 v8 s0 s1 hz z30 z.toNat 2000000 (az_wr m 861 (2 * v + sd) z) 0 (by omega) (by omega) (by omega) u1 (fun i i0 i1 => by omega)
  refine ⟨τ', ?_, t2, by rw [t3, az_wr_same], t4⟩
  rw [← t1]
  conv => lhs; unfold fz_X11_takesWanted_178
  rw [if_pos s1, fx_804_103 hM, Option.bind_some, fx_804_97 hM, Option.bind_some, az_w32_id (z := 2 * v) (by omega) (by omega), az_w32_id (z := 2 * v + sd) (by omega) (by omega), bz_ard (by omega) (by rw [ln_857 hM]; omega), Option.bind_some, hz, bz_awr (by omega) (by rw [ln_861 hM]; omega), Option.bind_some]
/-- an EQUALITY of the list is what was WANTED -/
def tw_E (m τ : az_Hp) (v : Int) : Prop := (∀ sd, 0 ≤ sd → sd < 2 → τ.2 861 (2 * v + sd) = m.2 857 (2 * v + sd) ∧ ∀ i, 0 ≤ i → i < m.2 857 (2 * v + sd) → τ.2 860 (60 * (2 * v + sd) + i) = m.2 856 (30 * (2 * v + sd) + i)) ∧ τ.2 862 v = v
theorem tw_168 {m : az_Hp} {w : Int} (hM : bz_Fx m) (w8 : w ≤ 8) (h86 : m.2 804 86 = w) (hz : ∀ v sd, 0 ≤ v → v < w → 0 ≤ sd → sd < 2 → 0 ≤ m.2 857 (2 * v + sd) ∧ m.2 857 (2 * v + sd) ≤ 30) : ∀ (d k : Nat) (τ : az_Hp) (j : Int), d < k → 0 ≤ j → j + d = w → bz_Upd m τ (fun a _ => 860 ≤ a ∧ a ≤ 862) → (∀ v, 0 ≤ v → v < j → tw_E m τ v) → ∃ τ', fz_X11_takesWanted_168 2000000 k τ 804 j = some τ' ∧ bz_Upd m τ' (fun a k => (860 ≤ a ∧ a ≤ 862) ∨ (a = 804 ∧ k = 87)) ∧ τ'.2 804 87 = 1 ∧ ∀ v, 0 ≤ v → v < w → tw_E m τ' v := by
  intro d
  induction d with
  | zero =>
    intro k τ j hk j0 hj ut h
    obtain ⟨k, rfl⟩ : ∃ k', k = k' + 1 := ⟨k - 1, by omega⟩
    have e : τ.2 804 86 = w := by rw [ut.2.2 804 86 (fun w => by omega)]; exact h86
    refine ⟨az_wr τ 804 87 1, ?_, bz_Upd.wr (ut.weak fun _ _ w => Or.inl w) (Or.inr ⟨rfl, rfl⟩) (by decide), az_wr_same, fun v v0 v1 => ?_⟩
    · unfold fz_X11_takesWanted_168
      rw [if_neg (by omega)]
    · obtain ⟨h1, h2⟩ := h v v0 (by omega)
      exact ⟨fun sd s0 s1 => ⟨by rw [az_wr_ne (by omega)]; exact (h1 sd s0 s1).1, fun i i0 i1 => by rw [az_wr_ne (by omega)]; exact (h1 sd s0 s1).2 i i0 i1⟩, by rw [az_wr_ne (by omega)]; exact h2⟩
  | succ d ih =>
    intro k τ j hk j0 hj ut h
    obtain ⟨k, rfl⟩ : ∃ k', k = k' + 1 := ⟨k - 1, by omega⟩
    have hF := hM.upd ut
    have e : τ.2 804 86 = w := by rw [ut.2.2 804 86 (fun w => by omega)]; exact h86
    have E57 : ∀ {q : az_Hp}, bz_Upd m q (fun a _ => 860 ≤ a ∧ a ≤ 862) → ∀ a k, a = 856 ∨ a = 857 → q.2 a k = m.2 a k := fun {q} u a k z => u.2.2 a k (fun y => by omega)
    have z0 := hz j 0 j0 (by omega) (by omega) (by omega)
    have z1 := hz j 1 j0 (by omega) (by omega) (by omega)
    obtain ⟨m1, b1, b2, b3, b4⟩ := tw_1 (k168 := fz_X11_takesWanted_168 2000000 k) (k := 1999999) (v := j) (sd := 0) hF j0 (by omega) (by omega) (by omega) (E57 ut 857 _ (by omega)) z0.1 z0.2
    have u1 := ut.trans (b2.weak (S' := fun a _ => 860 ≤ a ∧ a ≤ 862) fun a k z => by unfold tw_S at z; omega)
    have hF1 := hM.upd u1
    obtain ⟨m2, c1, c2, c3, c4⟩ := tw_1 (k168 := fz_X11_takesWanted_168 2000000 k) (k := 1999998) (v := j) (sd := 1) hF1 j0 (by omega) (by omega) (by omega) (E57 u1 857 _ (by omega)) z1.1 z1.2
    have u2 := u1.trans (c2.weak (S' := fun a _ => 860 ≤ a ∧ a ≤ 862) fun a k z => by unfold tw_S at z; omega)
    have hF2 := hM.upd u2
    have u3 : bz_Upd m (az_wr m2 862 j j) (fun a _ => 860 ≤ a ∧ a ≤ 862) := bz_Upd.wr u2 (by omega) (by unfold bz_isFix; simp [bz_cap, bz_fixL, bz_rowsL])
    obtain ⟨τ', t1, t2⟩ := ih k (az_wr m2 862 j j) (j + 1) (by omega) (by omega) (by push_cast at hj; omega) u3 (fun v v0 v1 => by
      by_cases cv : v = j
      · subst cv
        refine ⟨fun sd s0 s1 => ?_, az_wr_same⟩
        have : sd = 0 ∨ sd = 1 := by omega
        rcases this with rfl | rfl
        · refine ⟨by rw [az_wr_ne (by omega), c2.2.2 _ _ (fun z => by unfold tw_S at z; omega)]; exact b3, fun i i0 i1 => ?_⟩
          rw [az_wr_ne (by omega), c2.2.2 _ _ (fun z => by unfold tw_S at z; omega), b4 i i0 i1]
          exact E57 ut 856 _ (by omega)
        · refine ⟨by rw [az_wr_ne (by omega)]; exact c3, fun i i0 i1 => ?_⟩
          rw [az_wr_ne (by omega), c4 i i0 i1]
          exact E57 u1 856 _ (by omega)
      · obtain ⟨h1, h2⟩ := h v v0 (by omega)
        refine ⟨fun sd s0 s1 => ⟨?_, fun i i0 i1 => ?_⟩, ?_⟩
        · rw [az_wr_ne (by omega), c2.2.2 _ _ (fun z => by unfold tw_S at z; omega), b2.2.2 _ _ (fun z => by unfold tw_S at z; omega)]; exact (h1 sd s0 s1).1
        · have := hz v sd v0 (by omega) s0 s1
          rw [az_wr_ne (by omega), c2.2.2 _ _ (fun z => by unfold tw_S at z; omega), b2.2.2 _ _ (fun z => by unfold tw_S at z; omega)]; exact (h1 sd s0 s1).2 i i0 i1
        · rw [az_wr_ne (by omega), c2.2.2 _ _ (fun z => by unfold tw_S at z; omega), b2.2.2 _ _ (fun z => by unfold tw_S at z; omega)]; exact h2)
    refine ⟨τ', ?_, t2⟩
    rw [← t1]
    conv => lhs; unfold fz_X11_takesWanted_168
    rw [e, if_pos (by omega)]
    show fz_X11_takesWanted_178 2000000 (fz_X11_takesWanted_168 2000000 k) (1999999 + 1) τ 804 j 0 = _
    rw [b1]
    show fz_X11_takesWanted_178 2000000 (fz_X11_takesWanted_168 2000000 k) (1999998 + 1) m1 804 j (0 + 1) = _
    rw [show (0 : Int) + 1 = 1 from rfl, c1]
    show fz_X11_takesWanted_178 2000000 (fz_X11_takesWanted_168 2000000 k) (1999997 + 1) m2 804 j (1 + 1) = _
    unfold fz_X11_takesWanted_178
    rw [if_neg (by decide), fx_804_104 hF2, Option.bind_some, bz_awr j0 (by rw [ln_862 hF2]; omega), Option.bind_some, az_w32_id (z := j + 1) (by omega) (by omega)]
end TW
