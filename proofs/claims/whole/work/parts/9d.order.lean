/-- the order from within -/
theorem sz_order0 {σ : az_Hp} {n : Int} (hF : bz_Fx σ) (hr : bz_rw σ 244) (hn : σ.2 244 1 = n) (n1 : 1 ≤ n) {f : Nat} {L : List Int} (h : sz_PO (bz_ra σ 244) f n.toNat 1 0 L) : ∃ σ', fz_X5_orderPlaces 2000000 σ 243 0 = some σ' ∧ bz_Upd σ σ' sz_S ∧ ∀ p : Nat, (p : Int) < n → L[p]? = some (σ'.2 249 p) := by
  have n60 : n ≤ 60 := by have := hr.2.2.1; have c60 := @bz_cap60 244; omega
  cases f with
  | zero => have := h.1; omega
  | succ f =>
  rcases h with ⟨h, -⟩ | ⟨-, d1, d2, L1, L2, e, h1, h2, rfl⟩
  · omega
  have len1 := sz_PO.len h1
  have len2 := sz_PO.len h2
  have d20 : d2 = 0 := len2.2.1 (by omega) (by omega)
  subst d20
  have L20 : L2 = [] := List.eq_nil_of_length_eq_zero len2.1
  subst L20
  have u1 : bz_Upd σ (az_wr (az_wr σ 250 0 0) 251 0 (bz_ra σ 244 0)) sz_S := bz_Upd.wr (bz_Upd.wr bz_Upd.refl (Or.inr (Or.inl rfl)) sz_fix.2.1) (Or.inr (Or.inr rfl)) sz_fix.2.2
  have keep : ∀ τ, bz_Upd σ τ sz_S → bz_rw τ 244 ∧ τ.2 244 1 = n ∧ ∀ j, bz_ra τ 244 j = bz_ra σ 244 j := by
    intro τ u
    have e1 : ∀ k, τ.2 244 k = σ.2 244 k := fun k => u.2.2 _ _ (by unfold sz_S; omega)
    have e2 : ∀ k, τ.2 245 k = σ.2 245 k := fun k => u.2.2 _ _ (by unfold sz_S; omega)
    refine ⟨?_, by rw [e1]; exact hn, fun j => ?_⟩
    · unfold bz_rw
      rw [e1]
      refine ⟨hr.1, hr.2.1, hr.2.2.1, fun j j0 j1 => ?_⟩
      show bz_I (τ.2 245 j)
      rw [e2]
      exact hr.2.2.2 j j0 j1
    · unfold bz_ra
      show bz_ar (τ.2 245 j) = bz_ar (σ.2 245 j)
      rw [e2]
  obtain ⟨K, hK⟩ : ∃ K : Nat, 2000000 = K + 1 + d1 + 1 := ⟨2000000 - d1 - 2, by omega⟩
  have A0 := sz_push (c := 0) (v := 0) (i := 0) hF hr hn (by omega) (by omega) (by omega) (by omega) (K + 1 + d1)
  rw [Int.zero_add] at A0
  have B : ∃ (m : Nat) (σ1 : az_Hp), 2000000 ≤ m + d1 ∧ fz_X5_orderPlaces_7 2000000 (K + 1 + d1 + 1) σ 243 0 0 0 0 = fz_X5_orderPlaces_71 2000000 (fz_X5_orderPlaces_7 2000000 (K + 1)) m σ1 243 0 d1 1 d1 0 ∧ bz_Upd σ σ1 sz_S ∧ σ1.2 251 0 = 0 ∧ σ1.2 250 0 = 0 ∧ ∀ p : Nat, p < d1 → L1[p]? = some (σ1.2 249 p) := by
    by_cases a0 : bz_ra σ 244 0 = 0
    · have d10 : d1 = 0 := len1.2.1 (by omega) a0
      subst d10
      refine ⟨2000000, _, by omega, ?_, u1, ?_, ?_, fun p hp => by omega⟩
      · simp only [Nat.add_zero, Int.natCast_zero] at A0 ⊢
        exact A0
      · rw [az_wr_same, a0]
      · rw [az_wr_ne (by omega), az_wr_same]
    · have a1 : 0 < bz_ra σ 244 0 := by have := len1.2.2.2; omega
      have ar3 : bz_ra σ 244 0 ≤ 3 := by
        unfold bz_ra bz_ar
        split <;> omega
      have hw := sz_wait (σ := az_wr (az_wr σ 250 0 0) 251 0 (bz_ra σ 244 0)) (c := 0) (v := 0) (i := 0) (hF.upd u1) (by rw [az_wr_same]; exact a0) (by omega) (by omega) (by omega) (by omega) (k7 := fz_X5_orderPlaces_7 2000000 (K + 1 + d1)) 1999999 (D := 1)
      obtain ⟨k1, k2, k3⟩ := keep _ u1
      obtain ⟨m, σ1, m0, z1, z2, z3, z4, z5, z6, z7⟩ := sz_forest (n := n) f h1 a1 (K + 1) (az_wr (az_wr σ 250 0 0) 251 0 (bz_ra σ 244 0)) 0 1 (hF.upd u1) k1 k2 k3 (by omega) (by omega) (by omega) (by omega) (by omega) (by rw [show (1 : Int) - 1 = 0 by omega, az_wr_same]) (by omega)
      rw [show (1 : Int) - 1 = 0 by omega] at z1 z3
      rw [show (0 : Int) + 1 + (d1 : Int) - 1 = d1 by omega, Int.zero_add (d1 : Int)] at z1
      refine ⟨m, σ1, m0, ?_, u1.trans z2, z3, ?_, fun p hp => ?_⟩
      · rw [A0, hw]; exact z1
      · rw [z5 0 (by omega), az_wr_ne (by omega), az_wr_same]
      · have := z7 p hp
        rw [Int.zero_add] at this
        exact this
  obtain ⟨m, σ1, m0, B1, B2, B3, B4, B5⟩ := B
  obtain ⟨m, rfl⟩ : ∃ m', m = m' + 1 + 1 := ⟨m - 2, by omega⟩
  have P := (sz_pop (σ := σ1) (c := d1) (v := 0) (i := d1) (p := 0) (hF.upd B2) B3 B4 (by omega) (by omega) (by omega) (k7 := fz_X5_orderPlaces_7 2000000 (K + 1)) (m + 1) (D := 1)).2 rfl
  have u2 : bz_Upd σ (az_wr σ1 249 d1 0) sz_S := bz_Upd.wr B2 (Or.inl rfl) sz_fix.1
  refine ⟨_, ?_, u2, fun p hp => ?_⟩
  · unfold fz_X5_orderPlaces
    have e0 : fz_X5_orderPlaces_7 2000000 2000000 σ 243 0 0 0 0 = fz_X5_orderPlaces_7 2000000 (K + 1 + d1 + 1) σ 243 0 0 0 0 := by rw [← hK]
    rw [e0, B1, P]
    conv => lhs; unfold fz_X5_orderPlaces_71
    rw [if_pos (by omega), az_w32_id (by omega) (by omega)]
    unfold fz_X5_orderPlaces_7
    rw [fx_243_3 (hF.upd u2), Option.bind_some, (keep _ u2).2.1, if_neg (by omega)]
  · by_cases e1 : p = d1
    · subst e1
      rw [az_wr_same, List.getElem?_append_right (by omega), len1.1, Nat.sub_self]
      rfl
    · rw [az_wr_ne (by omega), List.getElem?_append_left (by omega)]
      exact B5 p (by omega)
/-- the order from without -/
theorem sz_order1 {σ : az_Hp} {n : Int} (hF : bz_Fx σ) (hn : σ.2 244 1 = n) (n60 : n ≤ 60) : ∀ (d k : Nat) (σ1 : az_Hp) (i : Int), d < k → 0 ≤ i → i + d = n → bz_Upd σ σ1 sz_S → (∀ j, 0 ≤ j → j < i → σ1.2 249 j = j) → ∃ σ', fz_X5_orderPlaces_7 2000000 k σ1 243 1 0 0 i = some σ' ∧ bz_Upd σ σ' sz_S ∧ ∀ j, 0 ≤ j → j < n → σ'.2 249 j = j := by
  intro d
  induction d with
  | zero =>
    intro k σ1 i hk i0 hi u hj
    obtain ⟨k, rfl⟩ : ∃ k', k = k' + 1 := ⟨k - 1, by omega⟩
    refine ⟨σ1, ?_, u, fun j j0 j1 => hj j j0 (by omega)⟩
    unfold fz_X5_orderPlaces_7
    rw [fx_243_3 (hF.upd u), Option.bind_some, u.2.2 244 1 (by unfold sz_S; omega), if_neg (by omega)]
  | succ d ih =>
    intro k σ1 i hk i0 hi u hj
    obtain ⟨k, rfl⟩ : ∃ k', k = k' + 1 := ⟨k - 1, by omega⟩
    have l249 := ln_249 (hF.upd u)
    obtain ⟨σ', x1, x2, x3⟩ := ih k (az_wr σ1 249 i i) (i + 1) (by omega) (by omega) (by omega) (bz_Upd.wr u (Or.inl rfl) sz_fix.1) (fun j j0 j1 => by
      by_cases e : j = i
      · rw [e, az_wr_same]
      · rw [az_wr_ne (by omega)]; exact hj j j0 (by omega))
    refine ⟨σ', ?_, x2, x3⟩
    rw [← x1]
    conv => lhs; unfold fz_X5_orderPlaces_7
    rw [fx_243_3 (hF.upd u), Option.bind_some, u.2.2 244 1 (by unfold sz_S; omega), if_pos (by omega), if_pos rfl, fx_243_12 (hF.upd u), Option.bind_some, bz_awr i0 (by omega), Option.bind_some, az_w32_id (by omega) (by omega)]
