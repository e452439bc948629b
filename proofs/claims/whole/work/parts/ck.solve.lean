/-! all ROUNDS: want_71 = solves_17 -/
section SK
variable {T s U : Int} {V : Int → Int → Prop}
theorem sv_clr {m : az_Hp} {M c : Int} (hM : bz_Fx m) (M2 : M ≤ 204) : ∀ (d k : Nat) (τ : az_Hp) (j : Int), d < k → 0 ≤ j → j + d = M → bz_Upd m τ (fun a _ => a = 865) → (∀ p, 0 ≤ p → p < j → τ.2 865 p = 0) → ∃ τ', fz_X11_round_9 2000000 k τ 804 M c j = fz_X11_round_29 2000000 2000000 τ' 804 M c 0 ∧ bz_Upd m τ' (fun a _ => a = 865) ∧ ∀ p, 0 ≤ p → p < M → τ'.2 865 p = 0 := by
  intro d
  induction d with
  | zero =>
    intro k τ j hk j0 hj ut h
    obtain ⟨k, rfl⟩ : ∃ k', k = k' + 1 := ⟨k - 1, by omega⟩
    refine ⟨τ, ?_, ut, fun p p0 p1 => h p p0 (by omega)⟩
    unfold fz_X11_round_9
    rw [if_neg (by omega)]
  | succ d ih =>
    intro k τ j hk j0 hj ut h
    obtain ⟨k, rfl⟩ : ∃ k', k = k' + 1 := ⟨k - 1, by omega⟩
    have hF := hM.upd ut
    have u1 : bz_Upd m (az_wr τ 865 j 0) (fun a _ => a = 865) := bz_Upd.wr ut rfl (by unfold bz_isFix; simp [bz_cap, bz_fixL, bz_rowsL])
    obtain ⟨τ', t1, t2⟩ := ih k (az_wr τ 865 j 0) (j + 1) (by omega) (by omega) (by push_cast at hj; omega) u1 (fun p p0 p1 => by
      by_cases e : p = j
      · rw [e, az_wr_same]
      · rw [az_wr_ne (by omega)]; exact h p p0 (by omega))
    refine ⟨τ', ?_, t2⟩
    rw [← t1]
    conv => lhs; unfold fz_X11_round_9
    rw [if_pos (by omega), fx_804_107 hF, Option.bind_some, bz_awz j0 (by rw [ln_865 hF]; omega) (Or.inl rfl), Option.bind_some, az_w32_id (z := j + 1) (by omega) (by omega)]
def sv_XS (a k : Int) : Prop := sv_XR a k ∨ (a = 380 ∧ k = 4)
def sv_MS (a k : Int) : Prop := sv_MR a k ∨ (a = 804 ∧ k = 111)
theorem sv_XR380 {a k : Int} (h : sv_XR a k) : ¬ (a = 380 ∧ (k = 4 ∨ k = 0 ∨ k = 5)) ∧ a ≠ 1 := by
  rcases h with h | h
  · constructor
    · have := sv_XC380 h; omega
    · rcases h with h | h
      · have := sv_X1s h; unfold sv_SX at this; omega
      · unfold sv_XB at h; omega
  · omega
theorem sv_MR804 {a k : Int} (h : sv_MR a k) : ¬ (a = 804 ∧ k = 111) := by
  rcases h with h | h | h
  · have := sv_M1s h; omega
  · unfold cz_SB cz_SM at h; omega
  · omega
/-- one ROUND -/
theorem sv_round {x m : az_Hp} {v : Int} (h : sv_End x m T s U V) (h109 : m.2 804 109 = 0) (h4 : x.2 380 4 = v) (h111 : m.2 804 111 = v) (v0 : 0 ≤ v) (v20 : v < 20) : ∃ c x' m', fz_X8_oneRound 2000000 x 380 T 243 = some x' ∧ fz_X11_round 2000000 (az_wr m 804 111 (az_w32 (m.2 804 111 + 1))) 804 = some (c, m') ∧ (c = 0 ∨ c = 1) ∧ x'.2 380 9 = c ∧ sv_End x' m' T s U V ∧ x'.2 380 4 = v + 1 ∧ m'.2 804 111 = v + 1 ∧ bz_Upd x x' sv_XS ∧ bz_Upd m m' sv_MS := by
  obtain ⟨⟨ρ, hB⟩, e2, e3, hh⟩ := h
  have R0 : ∃ n, sv_R0 x m T s U V n := by
    rcases hh with q | q
    · exact q.2
    · exact absurd h109 q.1
  obtain ⟨n, ⟨r1, r2, r3, r4⟩, r5, r6⟩ := R0
  have hT := hB.1.1.2.2.1.1
  obtain ⟨x1, hx1⟩ : ∃ y, y = az_wr (az_wr x 380 4 (v + 1)) 380 9 0 := ⟨_, rfl⟩
  obtain ⟨m1, hm1⟩ : ∃ y, y = az_wr m 804 111 (v + 1) := ⟨_, rfl⟩
  have ux : bz_Upd x x1 (fun a k => a = 380 ∧ (k = 4 ∨ k = 9)) := by rw [hx1]; exact bz_Upd.wr (bz_Upd.wr bz_Upd.refl ⟨rfl, Or.inl rfl⟩ (by decide)) ⟨rfl, Or.inr rfl⟩ (by decide)
  have um : bz_Upd m m1 (fun a k => a = 804 ∧ k = 111) := by rw [hm1]; exact bz_Upd.wr bz_Upd.refl ⟨rfl, rfl⟩ (by decide)
  have hM1 := hB.1.1.2.1.upd um
  obtain ⟨m2, t1, t2, t3⟩ := sv_clr (m := m1) (M := n) (c := 0) hM1 (by omega) n.toNat 2000000 m1 0 (by omega) (by omega) (by omega) bz_Upd.refl (fun p p0 p1 => by omega)
  have um2 : bz_Upd m m2 (fun a k => (a = 804 ∧ k = 111) ∨ a = 865) := (um.weak fun _ _ z => Or.inl z).trans (t2.weak fun _ _ z => Or.inr z)
  have tS : bz_tS m m2 := fun a k q => um2.2.2 a k (fun w => by omega)
  have B2 : sv_B x1 m2 T s U V ρ := hB.upd ux um2 (fun a k w => by unfold sv_SX; omega) (fun a k w => by unfold sv_SM; omega)
  have cp : ∀ p : Nat, (p : Int) ≤ n → sv_cnt (m2.2 865) p = p := fun p hp => by
    have := sv_cnt.run (g := m2.2 865) (a := 0) p (fun k k0 k1 => t3 k (by omega) (by omega))
    rw [Nat.zero_add] at this
    rw [this]
    show (0 : Int) + p = p
    omega
  have x383 : ∀ k, x1.2 383 k = x.2 383 k := fun k => ux.2.2 383 k (fun w => by omega)
  have L2 : sv_L x1 m2 T s U V n n 0 (-1) := by
    refine ⟨⟨by rw [ux.2.2 380 1 (fun w => by omega)]; exact r1, by rw [um2.2.2 804 108 (fun w => by omega)]; exact r2⟩, ⟨by omega, by omega, by omega, r4, by omega⟩, by rw [cp _ (by omega)]; omega, fun p p0 p1 => t3 p p0 p1, fun p p0 p1 pg _ => ?_, ⟨fun k k0 k1 => by rw [x383]; exact r6.1 k k0 k1, fun k p k0 k1 p0 p1 => by rw [x383, x383]; exact r6.2 k p k0 k1 p0 p1⟩⟩
    rw [cp _ (by omega), show ((p.toNat : Nat) : Int) = p by omega, x383]
    have sb := r6.1 p p0 (by omega)
    have en := r5 p p0 p1
    generalize x.2 383 p = q' at *
    exact en.cong hT tS (fun a k z => ux.2.2 a k (fun w => by omega)) (fun a k z => um2.2.2 a k (fun w => by omega)) (um2.ln _)
  obtain ⟨c, x', m', y1, y2, y3, y4, y5, y6, y7⟩ := sv_roundL (cn := n) r4 n.toNat 1999999 2000000 x1 m2 n n 0 0 ρ (by omega) (by omega) (by omega) (by omega) (by omega) B2 L2 (by rw [ux.2.2 380 2 (fun w => by omega), e2]; exact h109) (by rw [um2.2.2 804 109 (fun w => by omega)]; exact h109) (by rw [ux.2.2 380 3 (fun w => by omega), um2.2.2 804 110 (fun w => by omega)]; exact e3) (by rw [hx1, az_wr_same]) (Or.inl rfl)
  refine ⟨c, x', m', ?_, ?_, y3, y4, y5, ?_, ?_, (ux.weak fun a k w => ?_).trans (y6.weak fun _ _ w => Or.inl w), (um2.weak fun a k w => ?_).trans (y7.weak fun _ _ w => Or.inl w)⟩
  · unfold fz_X8_oneRound
    rw [h4, az_w32_id (z := v + 1) (by omega) (by omega), ← hx1, ux.2.2 380 1 (fun w => by omega), r1]
    exact y1
  · unfold fz_X11_round
    rw [h111, az_w32_id (z := v + 1) (by omega) (by omega), ← hm1, um.2.2 804 108 (fun w => by omega), r2, t1]
    exact y2
  · rw [y6.2.2 380 4 (fun w => by have := sv_XR380 w; omega), hx1, az_wr_ne (by omega), az_wr_same]
  · rw [y7.2.2 804 111 (fun w => sv_MR804 w ⟨rfl, rfl⟩), t2.2.2 804 111 (fun w => by omega), hm1, az_wr_same]
  · have : k = 4 ∨ k = 9 := w.2
    rcases this with q | q
    · exact Or.inr ⟨w.1, q⟩
    · exact Or.inl (Or.inr (Or.inr ⟨w.1, by omega⟩))
  · rcases w with w | w
    · exact Or.inr w
    · exact Or.inl (Or.inr (Or.inr (Or.inl (by omega))))
theorem sv_solve : ∀ (d k k' : Nat) (x m : az_Hp) (v c : Int), d < k → d < k' → 0 ≤ v → v + d = 20 → sv_End x m T s U V → x.2 1 5 = T → x.2 380 9 = c → (c = 0 ∨ c = 1) → x.2 380 4 = v → m.2 804 111 = v → ∃ x' m', fz_X10_want_71 2000000 k x 1 v = fz_X10_want_108 2000000 x' 1 ∧ fz_X11_solves_17 2000000 k' m 804 c = some m' ∧ sv_End x' m' T s U V ∧ x'.2 380 4 = m'.2 804 111 ∧ bz_Upd x x' sv_XS ∧ bz_Upd m m' sv_MS := by
  intro d
  induction d with
  | zero =>
    intro k k' x m v c hk hk' v0 hv hE h5 h9 hc h4 h111
    obtain ⟨k, rfl⟩ : ∃ k'', k = k'' + 1 := ⟨k - 1, by omega⟩
    obtain ⟨k', rfl⟩ : ∃ k'', k' = k'' + 1 := ⟨k' - 1, by omega⟩
    refine ⟨x, m, ?_, ?_, hE, by rw [h4, h111], bz_Upd.refl, bz_Upd.refl⟩
    · unfold fz_X10_want_71
      rw [if_neg (by omega)]
    · unfold fz_X11_solves_17
      rw [if_neg (show ¬ m.2 804 111 < 20 by omega)]
      split <;> rfl
  | succ d ih =>
    intro k k' x m v c hk hk' v0 hv hE h5 h9 hc h4 h111
    obtain ⟨k, rfl⟩ : ∃ k'', k = k'' + 1 := ⟨k - 1, by omega⟩
    obtain ⟨k', rfl⟩ : ∃ k'', k' = k'' + 1 := ⟨k' - 1, by omega⟩
    obtain ⟨ρ, hB⟩ := hE.1
    have hX := hB.1.1.1
    have hT := hB.1.1.2.2.1.1
    have e2 := hE.2.1
    have g5 : az_gref x 1 5 = some T := bz_gr h5 (by omega)
    by_cases go : m.2 804 109 = 0 ∧ c = 1
    · obtain ⟨c', x', m', y1, y2, y3, y4, y5, y6, y7, y8, y9⟩ := sv_round hE go.1 h4 h111 v0 (by omega)
      have h5' : x'.2 1 5 = T := by
        rw [y8.2.2 1 5 (fun w => ?_)]
        · exact h5
        · rcases w with w | w
          · exact (sv_XR380 w).2 rfl
          · exact absurd w.1 (by decide)
      obtain ⟨x'', m'', z1, z2, z3, z4, z5, z6⟩ := ih k k' x' m' (v + 1) c' (by omega) (by omega) (by omega) (by push_cast at hv; omega) y5 h5' y4 y3 y6 y7
      refine ⟨x'', m'', ?_, ?_, z3, z4, y8.trans z5, y9.trans z6⟩
      · rw [← z1]
        conv => lhs; unfold fz_X10_want_71
        rw [if_pos (by omega), fx_1_16 hX, Option.bind_some]
        unfold fz_X8_goesOn
        rw [e2, if_pos go.1, h9, if_neg (by omega), Option.bind_some, if_neg (by decide), Option.bind_some, g5, Option.bind_some, fx_1_11 hX, Option.bind_some, y1, Option.bind_some, az_w32_id (by omega) (by omega)]
      · rw [← z2]
        conv => lhs; unfold fz_X11_solves_17
        rw [if_neg (by omega), if_pos (by omega), if_pos go.1, y2, Option.bind_some]
    · refine ⟨x, m, ?_, ?_, hE, by rw [h4, h111], bz_Upd.refl, bz_Upd.refl⟩
      · unfold fz_X10_want_71
        rw [if_pos (by omega), fx_1_16 hX, Option.bind_some]
        unfold fz_X8_goesOn
        rw [e2, h9]
        by_cases q : m.2 804 109 = 0
        · rw [if_pos q, if_pos (by omega), Option.bind_some, if_pos rfl]
        · rw [if_neg q, Option.bind_some, if_pos rfl]
      · unfold fz_X11_solves_17
        by_cases q : c = 0
        · rw [if_pos q]
        · rw [if_neg q, if_neg (show ¬ m.2 804 109 = 0 from fun z => go ⟨z, by omega⟩)]
          split <;> rfl
end SK
