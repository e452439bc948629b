/-! the whole of expand; the call unknown -/
section QE
variable {x m : az_Hp} {T s U t : Int} {V : Int → Int → Prop} {ρ : Int → Nat}
theorem qz_expand {r A off n : Int} (hX : bz_Fx x) (hM : bz_Fx m) (ht : bz_tb (bz_ct m s) (bz_ft m s) (m.2 T 0) (m.2 T 1)) (vv : bz_VV V) (E : qz_Env x m T s U V ρ) (ρ6 : ∀ k, ρ k < 6) (ct : bz_cap t = 60) (t7 : t < 789) (hr : qz_Row x m T s U V r A off n) (rt : r ≠ t) :
    (∃ x' m', fz_X8_expand 2000000 x 380 r t = some (0, x') ∧ fz_X11_expands 2000000 m 804 A off n = some (0, m') ∧ bz_Upd x x' (qz_SX t) ∧ bz_Upd m m' yz_next) ∨
    (∃ x' m' sz, fz_X8_expand 2000000 x 380 r t = some (1, x') ∧ fz_X11_expands 2000000 m 804 A off n = some (1, m') ∧ bz_Upd x x' (qz_SX t) ∧ bz_Upd m m' yz_next ∧ qz_St m x' m' T s U V t sz ∧ 1 ≤ sz ∧ bz_Sc (bz_ra x' t) sz.toNat 1 0) := by
  have tp : 0 < bz_cap t := by omega
  have tn := qz_capn tp
  have tc := bz_cap_lt tp
  have fr := yz_free tp
  have rp := hr.1.1
  have rn := qz_capn rp
  have rc := bz_cap_lt rp
  have o1 := yz_odd tp rp
  have o2 := yz_odd rp tp
  have ua : bz_Upd x (az_wr x t 1 0) (qz_SX t) := bz_Upd.wr bz_Upd.refl (Or.inl (Or.inl ⟨rfl, rfl⟩)) fr.1
  have ub : bz_Upd x (az_wr (az_wr x t 1 0) 387 0 r) (qz_SX t) := bz_Upd.wr ua (Or.inr (Or.inl rfl)) (by unfold bz_isFix; simp [bz_cap, bz_fixL, bz_rowsL])
  have uc : bz_Upd x (az_wr (az_wr (az_wr x t 1 0) 387 0 r) 388 0 0) (qz_SX t) := bz_Upd.wr ub (Or.inr (Or.inr rfl)) (by unfold bz_isFix; simp [bz_cap, bz_fixL, bz_rowsL])
  have um : bz_Upd m (az_wr m 804 70 0) yz_next := bz_Upd.wr bz_Upd.refl (Or.inr ⟨rfl, rfl⟩) (by decide)
  have nn := hr.2.2.1
  have f6 : qz_f 6 (61 - 0) = 793 := by decide
  have J := qz_run (t := t) hX hM ht vv E ct t7 6 199 n.toNat 2000000 2000000 (az_wr (az_wr (az_wr x t 1 0) 387 0 r) 388 0 0) (az_wr m 804 70 0) 1 0 0 1 0 0 r A off n (by omega) uc um hr rt (fun i u _ _ _ _ _ => ρ6 u) (by rw [az_wr_ne (by omega), show (1 : Int) - 1 = 0 from rfl, az_wr_same]) (by rw [show (1 : Int) - 1 = 0 from rfl, az_wr_same]) (by omega) (by omega) (by omega) (by omega) ⟨by rw [az_wr_ne (by omega), az_wr_ne (by omega), az_wr_same], az_wr_same, ⟨by omega, by omega⟩, fun i i0 i1 => by omega⟩ (by omega) (by omega) hr.2.2.2.2.1 (by rw [show (1 : Int) + 0 = 1 from rfl]; exact yz_P.zero) (by rw [f6]; decide) (by rw [f6]; decide) (by omega) (by omega)
  have hXa := hX.upd ua
  have hXb := hX.upd ub
  have runX : fz_X8_expand 2000000 x 380 r t = fz_X8_expand_24 2000000 2000000 (az_wr (az_wr (az_wr x t 1 0) 387 0 r) 388 0 0) 380 t 1 0 := by
    unfold fz_X8_expand
    rw [fx_380_14 hXa, Option.bind_some, bz_awr (by omega) (by rw [ln_387 hXa]; omega), Option.bind_some, fx_380_15 hXb, Option.bind_some, bz_awr (by omega) (by rw [ln_388 hXb]; omega), Option.bind_some]
  have runM : fz_X11_expands 2000000 m 804 A off n = ((fz_X11_comes_3 2000000 (fz_X11_comes 2000000 199) 2000000 (az_wr m 804 70 0) 804 A off n 0).bind fun r1 => (if r1.1 = 0 ∨ r1.1 = 1 then some (r1.1, r1.2) else none)) := rfl
  rw [runX, runM]
  rcases J with ⟨x', m', i1, i2, i3, i4⟩ | ⟨x', m', sz', k', v4', i1, i2, i3, i4, i5, i6, i7, i8, i9, i10, i11⟩
  · exact Or.inl ⟨x', m', i1, by rw [i2, Option.bind_some, if_pos (Or.inl rfl)], i3, i4⟩
  · have s6 := i5.2.2.1
    have f7 : qz_f 6 (sz' - 0) = 13 * sz' := by unfold qz_f; omega
    rw [f7] at i9 i10
    obtain ⟨k', rfl⟩ : ∃ k'', k' = k'' + 1 := ⟨k' - 1, by omega⟩
    refine Or.inr ⟨x', m', sz', ?_, by rw [i2, Option.bind_some, if_pos (Or.inr rfl)], i3, i4, i5, by omega, ?_⟩
    · rw [i1]
      unfold fz_X8_expand_24
      rw [if_pos (by omega), if_neg (by omega)]
    · exact i6 (bz_ra x' t) 0 (fun _ _ _ => rfl) rfl
end QE
theorem cz_VW.vv {σ : az_Hp} : bz_VV (cz_VW σ) ∧ ∀ a b, cz_VW σ a b → a < 999999999 := by
  refine ⟨⟨fun a b h => ?_, fun a b a' b' h h' => ?_⟩, fun a b h => ?_⟩
  · have := h.2.2.1.rng
    have h1 := h.1
    have h2 := h.2.1
    omega
  · obtain ⟨h1, h2, h3, h4⟩ := h
    obtain ⟨h1', h2', h3', h4'⟩ := h'
    have I := h3.inj (Or.inr rfl) h3'
    constructor
    · intro e
      have := I.mp e
      rcases Int.lt_trichotomy b b' with q | q | q
      · exact absurd this (h4' b h1 q)
      · exact q
      · exact absurd this.symm (h4 b' h1' q)
    · intro e
      subst e
      exact I.mpr rfl
  · have := h.2.2.1.rng
    omega
theorem qz_bits : ∀ S : Fin 64, ∀ k : Fin 6, az_iandV (az_ishrV (S.val : Int) (k.val : Int)) 1 = (S.val : Int) / 2 ^ k.val % 2 := by decide +kernel
theorem qz_bound {σ y : az_Hp} {T s k : Int} (h : cz_Wan σ T s) (e : y.2 380 6 = σ.2 380 6) (k0 : 0 ≤ k) (k1 : k < σ.2 380 5) : fz_X8_isBound y 380 k = some (if 0 < σ.2 864 k then 1 else 0) := by
  obtain ⟨-, q2, -, q4, -⟩ := h
  have bn : ∀ i w, cz_bn σ i w = 0 ∨ cz_bn σ i w = w := fun i w => by
    unfold cz_bn
    by_cases c : i < σ.2 380 5 ∧ 0 < σ.2 864 i
    · rw [if_pos c]; exact Or.inr rfl
    · rw [if_neg c]; exact Or.inl rfl
  have bk : ∀ w, cz_bn σ k w = if 0 < σ.2 864 k then w else 0 := fun w => by
    unfold cz_bn
    by_cases c : 0 < σ.2 864 k
    · rw [if_pos ⟨k1, c⟩, if_pos c]
    · rw [if_neg (fun z => c z.2), if_neg c]
  have b0 := bn 0 1
  have b1 := bn 1 2
  have b2 := bn 2 4
  have b3 := bn 3 8
  have b4 := bn 4 16
  have b5 := bn 5 32
  have S0 : 0 ≤ σ.2 380 6 ∧ σ.2 380 6 < 64 := by omega
  have key := qz_bits ⟨(σ.2 380 6).toNat, by omega⟩ ⟨k.toNat, by omega⟩
  have e1 : (((σ.2 380 6).toNat : Nat) : Int) = σ.2 380 6 := by omega
  have e2 : ((k.toNat : Nat) : Int) = k := by omega
  simp only [e1, e2] at key
  unfold fz_X8_isBound
  rw [e, key]
  have k6 : k = 0 ∨ k = 1 ∨ k = 2 ∨ k = 3 ∨ k = 4 ∨ k = 5 := by omega
  rcases k6 with rfl | rfl | rfl | rfl | rfl | rfl
  · have := bk 1
    rw [show (2 : Int) ^ (0 : Int).toNat = 1 from rfl]
    by_cases c : 0 < σ.2 864 0
    · rw [if_pos c] at this ⊢; rw [if_neg (by omega)]
    · rw [if_neg c] at this ⊢; rw [if_pos (by omega)]
  · have := bk 2
    rw [show (2 : Int) ^ (1 : Int).toNat = 2 from rfl]
    by_cases c : 0 < σ.2 864 1
    · rw [if_pos c] at this ⊢; rw [if_neg (by omega)]
    · rw [if_neg c] at this ⊢; rw [if_pos (by omega)]
  · have := bk 4
    rw [show (2 : Int) ^ (2 : Int).toNat = 4 from rfl]
    by_cases c : 0 < σ.2 864 2
    · rw [if_pos c] at this ⊢; rw [if_neg (by omega)]
    · rw [if_neg c] at this ⊢; rw [if_pos (by omega)]
  · have := bk 8
    rw [show (2 : Int) ^ (3 : Int).toNat = 8 from rfl]
    by_cases c : 0 < σ.2 864 3
    · rw [if_pos c] at this ⊢; rw [if_neg (by omega)]
    · rw [if_neg c] at this ⊢; rw [if_pos (by omega)]
  · have := bk 16
    rw [show (2 : Int) ^ (4 : Int).toNat = 16 from rfl]
    by_cases c : 0 < σ.2 864 4
    · rw [if_pos c] at this ⊢; rw [if_neg (by omega)]
    · rw [if_neg c] at this ⊢; rw [if_pos (by omega)]
  · have := bk 32
    rw [show (2 : Int) ^ (5 : Int).toNat = 32 from rfl]
    by_cases c : 0 < σ.2 864 5
    · rw [if_pos c] at this ⊢; rw [if_neg (by omega)]
    · rw [if_neg c] at this ⊢; rw [if_pos (by omega)]
