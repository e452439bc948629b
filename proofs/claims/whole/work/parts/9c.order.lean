/-- siblings under a frame: all are laid into the order, and the frame is found with nothing missing -/
theorem sz_forest {r0 : Int → Int} {n : Int} : ∀ (f : Nat) {d : Nat} {c i : Int} {L : List Int}, sz_PO r0 f d c i L → 0 < c → ∀ (K : Nat) (σ : az_Hp) (q v : Int), bz_Fx σ → bz_rw σ 244 → σ.2 244 1 = n → (∀ j, bz_ra σ 244 j = r0 j) → 0 < v → v ≤ i → 0 ≤ q → q ≤ i → i + d ≤ n → σ.2 251 (v - 1) = c → c ≤ 100 →
    ∃ (m : Nat) (σ' : az_Hp), 2000000 ≤ m + d ∧ fz_X5_orderPlaces_7 2000000 (K + d) σ 243 0 q v i = fz_X5_orderPlaces_71 2000000 (fz_X5_orderPlaces_7 2000000 K) m σ' 243 0 (q + d) v (i + d - 1) (v - 1) ∧ bz_Upd σ σ' sz_S ∧ σ'.2 251 (v - 1) = 0 ∧ (∀ j, j < v - 1 → σ'.2 251 j = σ.2 251 j) ∧ (∀ j, j < v → σ'.2 250 j = σ.2 250 j) ∧ (∀ j, j < q → σ'.2 249 j = σ.2 249 j) ∧ ∀ p : Nat, p < d → L[p]? = some (σ'.2 249 (q + p)) := by
  intro f
  induction f with
  | zero =>
    rintro d c i L ⟨rfl, rfl, rfl⟩ hc
    omega
  | succ f ih =>
    intro d c i L h hc K σ q v hF hr hn hra v0 v1 q0 q1 hd hm c100
    rcases h with ⟨-, h, -⟩ | ⟨-, d1, d2, L1, L2, e, h1, h2, rfl⟩
    · omega
    have n60 : n ≤ 60 := by have := hr.2.2.1; have c60 := @bz_cap60 244; omega
    have len1 := sz_PO.len h1
    have len2 := sz_PO.len h2
    -- its frame
    have A0 := sz_push (c := q) hF hr hn (by omega) (by omega) (by omega) v1 (K + d2 + d1)
    rw [hra i] at A0
    have u1 : bz_Upd σ (az_wr (az_wr σ 250 v i) 251 v (r0 i)) sz_S := bz_Upd.wr (bz_Upd.wr bz_Upd.refl (Or.inr (Or.inl rfl)) sz_fix.2.1) (Or.inr (Or.inr rfl)) sz_fix.2.2
    have keep : ∀ τ, bz_Upd σ τ sz_S → bz_rw τ 244 ∧ τ.2 244 1 = n ∧ ∀ j, bz_ra τ 244 j = r0 j := by
      intro τ u
      have e1 : ∀ k, τ.2 244 k = σ.2 244 k := fun k => u.2.2 _ _ (by unfold sz_S; omega)
      have e2 : ∀ k, τ.2 245 k = σ.2 245 k := fun k => u.2.2 _ _ (by unfold sz_S; omega)
      refine ⟨?_, by rw [e1]; exact hn, fun j => ?_⟩
      · unfold bz_rw
        rw [e1]
        refine ⟨hr.1, hr.2.1, hr.2.2.1, fun j j0 j1 => ?_⟩
        show bz_I (τ.2 245 j)
        rw [e2]
        exact hr.2.2.2 j j0 j1
      · rw [← hra j]
        unfold bz_ra
        show bz_ar (τ.2 245 j) = bz_ar (σ.2 245 j)
        rw [e2]
    -- the state in which it is done: kids laid
    have B : ∃ (m : Nat) (σ1 : az_Hp), 2000000 ≤ m + d1 ∧ fz_X5_orderPlaces_7 2000000 (K + d2 + d1 + 1) σ 243 0 q v i = fz_X5_orderPlaces_71 2000000 (fz_X5_orderPlaces_7 2000000 (K + d2)) m σ1 243 0 (q + d1) (v + 1) (i + d1) v ∧ bz_Upd σ σ1 sz_S ∧ σ1.2 251 v = 0 ∧ (∀ j, j < v → σ1.2 251 j = σ.2 251 j) ∧ (∀ j, j < v → σ1.2 250 j = σ.2 250 j) ∧ σ1.2 250 v = i ∧ (∀ j, j < q → σ1.2 249 j = σ.2 249 j) ∧ ∀ p : Nat, p < d1 → L1[p]? = some (σ1.2 249 (q + p)) := by
      by_cases a0 : r0 i = 0
      · have d10 : d1 = 0 := len1.2.1 (by omega) a0
        subst d10
        refine ⟨2000000, _, by omega, ?_, u1, ?_, fun j hj => ?_, fun j hj => ?_, ?_, fun j hj => ?_, fun p hp => by omega⟩
        · simp only [Nat.add_zero, Int.natCast_zero, Int.add_zero] at A0 ⊢
          exact A0
        · rw [az_wr_same, a0]
        · rw [az_wr_ne (by omega), az_wr_ne (by omega)]
        · rw [az_wr_ne (by omega), az_wr_ne (by omega)]
        · rw [az_wr_ne (by omega), az_wr_same]
        · rw [az_wr_ne (by omega), az_wr_ne (by omega)]
      · have a1 : 0 < r0 i := by have := len1.2.2.2; omega
        have ar3 : r0 i ≤ 3 := by
          rw [← hra i]
          unfold bz_ra bz_ar
          split <;> omega
        have hw := sz_wait (σ := az_wr (az_wr σ 250 v i) 251 v (r0 i)) (c := q) (v := v) (i := i) (hF.upd u1) (by rw [az_wr_same]; exact a0) (by omega) (by omega) (by omega) (by omega) (k7 := fz_X5_orderPlaces_7 2000000 (K + d2 + d1)) 1999999 (D := v + 1)
        obtain ⟨k1, k2, k3⟩ := keep _ u1
        obtain ⟨m, σ1, m0, z1, z2, z3, z4, z5, z6, z7⟩ := ih h1 a1 (K + d2) (az_wr (az_wr σ 250 v i) 251 v (r0 i)) q (v + 1) (hF.upd u1) k1 k2 k3 (by omega) (by omega) q0 (by omega) (by omega) (by rw [show v + 1 - 1 = v by omega, az_wr_same]) (by omega)
        rw [show v + 1 - 1 = v by omega] at z1 z3 z4
        rw [show i + 1 + (d1 : Int) - 1 = i + d1 by omega] at z1
        refine ⟨m, σ1, m0, ?_, u1.trans z2, z3, fun j hj => ?_, fun j hj => ?_, ?_, fun j hj => ?_, z7⟩
        · rw [A0, hw]; exact z1
        · rw [z4 j hj, az_wr_ne (by omega), az_wr_ne (by omega)]
        · rw [z5 j (by omega), az_wr_ne (by omega), az_wr_ne (by omega)]
        · rw [z5 v (by omega), az_wr_ne (by omega), az_wr_same]
        · rw [z6 j hj, az_wr_ne (by omega), az_wr_ne (by omega)]
    obtain ⟨m, σ1, m0, B1, B2, B3, B4, B5, B6, B7, B8⟩ := B
    obtain ⟨m, rfl⟩ : ∃ m', m = m' + 1 := ⟨m - 1, by omega⟩
    have hm1 : σ1.2 251 (v - 1) = c := by rw [B4 _ (by omega)]; exact hm
    have P := (sz_pop (σ := σ1) (c := q + d1) (v := v) (i := i + d1) (p := i) (hF.upd B2) B3 B6 (by omega) (by omega) (by omega) (k7 := fz_X5_orderPlaces_7 2000000 (K + d2)) m (D := v + 1)).1 v0 (by omega) (by omega)
    rw [hm1] at P
    have u2 : bz_Upd σ (az_wr (az_wr σ1 249 (q + d1) i) 251 (v - 1) (c - 1)) sz_S := bz_Upd.wr (bz_Upd.wr B2 (Or.inl rfl) sz_fix.1) (Or.inr (Or.inr rfl)) sz_fix.2.2
    have ed : K + d = K + d2 + d1 + 1 := by omega
    rw [ed, B1, P]
    by_cases c1 : c - 1 = 0
    · have d20 : d2 = 0 := len2.2.1 (by omega) c1
      subst d20
      have L20 : L2 = [] := by
        have := len2.1
        exact List.eq_nil_of_length_eq_zero this
      subst L20
      refine ⟨m, _, by omega, ?_, u2, ?_, fun j hj => ?_, fun j hj => ?_, fun j hj => ?_, fun p hp => ?_⟩
      · rw [show q + (d1 : Int) + 1 = q + d by omega, show i + (d1 : Int) = i + d - 1 by omega]
        rfl
      · rw [az_wr_same, c1]
      · rw [az_wr_ne (by omega), az_wr_ne (by omega), B4 j (by omega)]
      · rw [az_wr_ne (by omega), az_wr_ne (by omega), B5 j hj]
      · rw [az_wr_ne (by omega), az_wr_ne (by omega), B7 j hj]
      · rw [az_wr_ne (by omega)]
        by_cases e1 : p = d1
        · subst e1
          rw [az_wr_same, List.getElem?_append_right (by omega), len1.1, Nat.sub_self]
          rfl
        · rw [az_wr_ne (by omega), List.getElem?_append_left (by omega)]
          exact B8 p (by omega)
    · have c2 : 0 < c - 1 := by omega
      have mp : 0 < m := by omega
      obtain ⟨m, rfl⟩ : ∃ m', m = m' + 1 := ⟨m - 1, by omega⟩
      have hw := sz_wait (σ := az_wr (az_wr σ1 249 (q + d1) i) 251 (v - 1) (c - 1)) (c := q + d1 + 1) (v := v - 1) (i := i + d1) (hF.upd u2) (by rw [az_wr_same]; exact c1) (by omega) (by omega) (by omega) (by omega) (k7 := fz_X5_orderPlaces_7 2000000 (K + d2)) m (D := v)
      rw [hw]
      obtain ⟨k1, k2, k3⟩ := keep _ u2
      rw [show i + (d1 : Int) + 1 = i + 1 + d1 by omega]
      obtain ⟨m', σ', m0', z1, z2, z3, z4, z5, z6, z7⟩ := ih h2 c2 K (az_wr (az_wr σ1 249 (q + d1) i) 251 (v - 1) (c - 1)) (q + d1 + 1) v (hF.upd u2) k1 k2 k3 v0 (by omega) (by omega) (by omega) (by omega) az_wr_same (by omega)
      refine ⟨m', σ', by omega, ?_, u2.trans z2, z3, fun j hj => ?_, fun j hj => ?_, fun j hj => ?_, fun p hp => ?_⟩
      · rw [z1, show q + (d1 : Int) + 1 + d2 = q + d by omega, show i + 1 + (d1 : Int) + d2 - 1 = i + d - 1 by omega]
      · rw [z4 j hj, az_wr_ne (by omega), az_wr_ne (by omega), B4 j (by omega)]
      · rw [z5 j hj, az_wr_ne (by omega), az_wr_ne (by omega), B5 j hj]
      · rw [z6 j (by omega), az_wr_ne (by omega), az_wr_ne (by omega), B7 j hj]
      · by_cases e1 : p < d1
        · rw [List.getElem?_append_left (by omega), z6 _ (by omega), az_wr_ne (by omega), az_wr_ne (by omega)]
          exact B8 p e1
        · rw [List.getElem?_append_right (by omega), len1.1]
          by_cases e2 : p = d1
          · subst e2
            rw [Nat.sub_self, z6 _ (by omega), az_wr_ne (by omega), az_wr_same]
            rfl
          · obtain ⟨t, rfl⟩ : ∃ t, p = d1 + 1 + t := ⟨p - d1 - 1, by omega⟩
            rw [show d1 + 1 + t - d1 = t + 1 by omega, List.getElem?_cons_succ, z7 t (by omega), show q + (d1 : Int) + 1 + t = q + ((d1 + 1 + t : Nat) : Int) by omega]
