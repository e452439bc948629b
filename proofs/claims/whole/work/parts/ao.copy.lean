/-! the call term -/
def cz_nw (a k : Int) : Prop := cz_nm a k ∨ (a = 1 ∧ (k = 1 ∨ k = 3 ∨ k = 4)) ∨ (a = 804 ∧ (k = 1 ∨ k = 3 ∨ k = 4)) ∨ a = 379 ∨ a = 845
theorem cz_keepW {σ σ' : az_Hp} {T s : Int} (hU : bz_Upd σ σ' cz_nw) (h : cz_K σ T s) (hta : cz_Tape σ') (hst : cz_Stat σ') (htm : cz_Term σ' T s) : cz_K σ' T s := by
  obtain ⟨hc, h1, h2, h3, h4, h5, h6⟩ := h
  have hF : bz_Fx σ' := hc.1.upd hU
  have e0 := hU.1
  have E : ∀ a k, ¬ cz_nk a k → ¬ (a = 1 ∧ (k ≤ 4 ∨ k = 15)) → ¬ (a = 804 ∧ (k ≤ 4 ∨ k = 81 ∨ k = 82)) → a ≠ 375 → a ≠ 376 → a ≠ 844 → a ≠ 379 → a ≠ 845 → σ'.2 a k = σ.2 a k := fun a k q n1 n2 n3 n4 n5 n6 n7 => hU.2.2 a k (fun c => by
    rcases c with ((c | c | c) | c | c | c | c | c) | c | c | c | c
    · exact q c
    all_goals omega)
  obtain ⟨c1, c2, c3, c4, c5, c6, c7, c8⟩ := hc
  have hT := c8.1
  have ht : bz_tS σ σ' := fun a k q => E a k (cz_nk1 (by omega)) (by omega) (by omega) (by omega) (by omega) (by omega) (by omega) (by omega)
  have g5 : ∀ k, k = 14 ∨ k = 15 ∨ k = 57 ∨ k = 58 ∨ k = 87 ∨ k = 101 ∨ (108 ≤ k ∧ k ≤ 111) → σ'.2 804 k = σ.2 804 k := fun k q => E 804 k (cz_nk5 (by omega)) (by omega) (by omega) (by omega) (by omega) (by omega) (by omega) (by omega)
  have g6 : ∀ k, k = 5 ∨ k = 6 → σ'.2 1 k = σ.2 1 k := fun k q => E 1 k (cz_nk6 (by omega)) (by omega) (by omega) (by omega) (by omega) (by omega) (by omega) (by omega)
  refine ⟨⟨hF, ?_, ?_, ?_, ?_, ?_, ?_, c8.cong ht⟩, hta, hst, ?_, htm, ?_, ?_⟩
  · rw [g6 5 (by omega)]; exact c2
  · rw [g6 6 (by omega)]; exact c3
  · rw [g5 14 (by omega)]; exact c4
  · rw [g5 15 (by omega)]; exact c5
  · rw [E 243 2 (cz_nk8 (by omega)) (by omega) (by omega) (by omega) (by omega) (by omega) (by omega) (by omega)]; exact c6
  · rw [E 243 4 (cz_nk8 (by omega)) (by omega) (by omega) (by omega) (by omega) (by omega) (by omega) (by omega)]; exact c7
  · refine h3.cong hT ht (fun a k q => ?_)
    rcases q with q | q | q | q
    · exact E a k (cz_nk1 (by omega)) (by omega) (by omega) (by omega) (by omega) (by omega) (by omega) (by omega)
    · exact E a k (cz_nk1 (by omega)) (by omega) (by omega) (by omega) (by omega) (by omega) (by omega) (by omega)
    · exact E a k (cz_nk2 (by omega)) (by omega) (by omega) (by omega) (by omega) (by omega) (by omega) (by omega)
    · exact E a k (cz_nk2 (by omega)) (by omega) (by omega) (by omega) (by omega) (by omega) (by omega) (by omega)
  · exact h5.cong hT ht (fun k q0 q1 => E 380 k (cz_nk7 ⟨q0, q1⟩) (by omega) (by omega) (by omega) (by omega) (by omega) (by omega) (by omega)) (fun a k q => E a k (cz_nk3 q) (by omega) (by omega) (by omega) (by omega) (by omega) (by omega) (by omega)) (fun k q => g5 k (by omega))
  · exact h6.cong e0 (E 801 0 cz_nk9 (by omega) (by omega) (by omega) (by omega) (by omega) (by omega) (by omega)) (E 801 1 cz_nk9 (by omega) (by omega) (by omega) (by omega) (by omega) (by omega) (by omega)) (fun a k q => E a k (cz_nk4 q) (by omega) (by omega) (by omega) (by omega) (by omega) (by omega) (by omega)) (g5 57 (by omega)) (g5 58 (by omega))
theorem cz_Nm {σ : az_Hp} {T s : Int} (h : cz_K σ T s) : rd_Nm σ σ T s := by
  obtain ⟨c1, c2, c3, c4, c5, c6, c7, hT, hs, ⟨m0, m1, m2, m3, m4, m5⟩, -⟩ := h.1
  exact ⟨hT, hs, c5, ⟨m0, m1⟩, m2, m3, fun k k0 k1 => ⟨(m4 k k0 k1).1, (m4 k k0 k1).2.1⟩, m5⟩
theorem rd_t98 {m : az_Hp} {sz : Int} (hF : bz_Fx m) (s0 : 0 ≤ sz) (s6 : sz ≤ 60) : ∃ m', fz_X11_term_98 2000000 2000000 m 804 sz 0 = fz_X11_term_127 2000000 2000000 m' 804 0 ∧ bz_Upd m m' (fun a _ => a = 844) ∧ ∀ i, 0 ≤ i → i < sz → m'.2 844 i = m.2 841 i := by
  have gen : ∀ (d k : Nat) (m1 : az_Hp) (i : Int), d < k → 0 ≤ i → i + d = sz → bz_Upd m m1 (fun a _ => a = 844) → (∀ q, 0 ≤ q → q < i → m1.2 844 q = m.2 841 q) → ∃ m', fz_X11_term_98 2000000 k m1 804 sz i = fz_X11_term_127 2000000 2000000 m' 804 0 ∧ bz_Upd m m' (fun a _ => a = 844) ∧ ∀ i, 0 ≤ i → i < sz → m'.2 844 i = m.2 841 i := by
    intro d
    induction d with
    | zero =>
      intro k m1 i hk i0 hi u hq
      obtain ⟨k, rfl⟩ : ∃ q, k = q + 1 := ⟨k - 1, by omega⟩
      refine ⟨m1, ?_, u, fun q q0 q1 => hq q q0 (by omega)⟩
      conv => lhs; unfold fz_X11_term_98
      rw [if_neg (by omega)]
    | succ d ih =>
      intro k m1 i hk i0 hi u hq
      obtain ⟨k, rfl⟩ : ∃ q, k = q + 1 := ⟨k - 1, by omega⟩
      have hF1 := hF.upd u
      have es : m1.2 841 i = m.2 841 i := u.2.2 841 i (by omega)
      obtain ⟨m', y1, y2, y3⟩ := ih k (az_wr m1 844 i (m.2 841 i)) (i + 1) (by omega) (by omega) (by push_cast at hi; omega) (bz_Upd.wr u rfl (by unfold bz_isFix; simp [bz_cap, bz_fixL, bz_rowsL])) (fun q q0 q1 => by
        by_cases ez : q = i
        · rw [ez, az_wr_same]
        · rw [az_wr_ne (by omega)]; exact hq q q0 (by omega))
      refine ⟨m', ?_, y2, y3⟩
      rw [← y1]
      conv => lhs; unfold fz_X11_term_98
      rw [if_pos (by push_cast at hi; omega), fx_804_79 hF1, Option.bind_some, fx_804_69 hF1, Option.bind_some, bz_ard i0 (by rw [ln_841 hF1]; push_cast at hi; omega), Option.bind_some, es, bz_awr i0 (by rw [ln_844 hF1]; push_cast at hi; omega), Option.bind_some, az_w32_id (by omega) (by push_cast at hi; omega)]
  exact gen sz.toNat 2000000 m 0 (by omega) (by omega) (by omega) bz_Upd.refl (fun q q0 q1 => by omega)
theorem rd_t127 {m : az_Hp} {nv : Int} (hF : bz_Fx m) (hn : m.2 804 37 = nv) (s0 : 0 ≤ nv) (s6 : nv ≤ 12) : ∃ m', fz_X11_term_127 2000000 2000000 m 804 0 = some (m.2 804 81, az_wr m' 804 2 0) ∧ bz_Upd m m' (fun a _ => a = 845) ∧ ∀ i, 0 ≤ i → i < nv → m'.2 845 i = m.2 821 i := by
  have gen : ∀ (d k : Nat) (m1 : az_Hp) (i : Int), d < k → 0 ≤ i → i + d = nv → bz_Upd m m1 (fun a _ => a = 845) → (∀ q, 0 ≤ q → q < i → m1.2 845 q = m.2 821 q) → ∃ m', fz_X11_term_127 2000000 k m1 804 i = some (m.2 804 81, az_wr m' 804 2 0) ∧ bz_Upd m m' (fun a _ => a = 845) ∧ ∀ i, 0 ≤ i → i < nv → m'.2 845 i = m.2 821 i := by
    intro d
    induction d with
    | zero =>
      intro k m1 i hk i0 hi u hq
      obtain ⟨k, rfl⟩ : ∃ q, k = q + 1 := ⟨k - 1, by omega⟩
      refine ⟨m1, ?_, u, fun q q0 q1 => hq q q0 (by omega)⟩
      unfold fz_X11_term_127
      rw [u.2.2 804 37 (by omega), hn, if_neg (by omega), u.2.2 804 81 (by omega)]
      rfl
    | succ d ih =>
      intro k m1 i hk i0 hi u hq
      obtain ⟨k, rfl⟩ : ∃ q, k = q + 1 := ⟨k - 1, by omega⟩
      have hF1 := hF.upd u
      have es : m1.2 821 i = m.2 821 i := u.2.2 821 i (by omega)
      obtain ⟨m', y1, y2, y3⟩ := ih k (az_wr m1 845 i (m.2 821 i)) (i + 1) (by omega) (by omega) (by push_cast at hi; omega) (bz_Upd.wr u rfl (by unfold bz_isFix; simp [bz_cap, bz_fixL, bz_rowsL])) (fun q q0 q1 => by
        by_cases ez : q = i
        · rw [ez, az_wr_same]
        · rw [az_wr_ne (by omega)]; exact hq q q0 (by omega))
      refine ⟨m', ?_, y2, y3⟩
      rw [← y1]
      conv => lhs; unfold fz_X11_term_127
      rw [u.2.2 804 37 (by omega), hn, if_pos (by push_cast at hi; omega), fx_804_80 hF1, Option.bind_some, fx_804_35 hF1, Option.bind_some, bz_ard i0 (by rw [ln_821 hF1]; push_cast at hi; omega), Option.bind_some, es, bz_awr i0 (by rw [ln_845 hF1]; push_cast at hi; omega), Option.bind_some, az_w32_id (by omega) (by push_cast at hi; omega)]
  exact gen nv.toNat 2000000 m 0 (by omega) (by omega) (by omega) bz_Upd.refl (fun q q0 q1 => by omega)
theorem rd_takeTape {x : az_Hp} {w : Int} (hF : bz_Fx x) (hw : w = 0 ∨ w = 1) : fz_X10_takeTape x 1 w = some (w, az_wr (az_wr (az_wr x 1 1 0) 1 3 (if w = 0 then x.2 223 0 else 0)) 1 4 (if w = 0 then x.2 223 1 else -1)) := by
  have h1 : bz_Fx (az_wr x 1 1 0) := hF.upd (S := fun _ _ => True) (bz_Upd.wr bz_Upd.refl trivial (by decide))
  unfold fz_X10_takeTape
  by_cases c : w = 0
  · have h2 : bz_Fx (az_wr (az_wr x 1 1 0) 1 3 (x.2 223 0)) := h1.upd (S := fun _ _ => True) (bz_Upd.wr bz_Upd.refl trivial (by decide))
    rw [if_pos c, fx_1_8 h1, Option.bind_some, az_wr_ne (by omega)]
    unfold fz_X10_takeTape_21
    rw [if_pos c, fx_1_8 h2, Option.bind_some, if_pos hw, az_wr_ne (by omega), az_wr_ne (by omega), if_pos c, if_pos c]
  · rw [if_neg c]
    unfold fz_X10_takeTape_21
    rw [if_neg c, if_pos hw, if_neg c, if_neg c]
