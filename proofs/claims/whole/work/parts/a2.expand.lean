/-! what an UNKNOWN is is put in its place -/
def qz_SX (t a k : Int) : Prop := yz_S t a k ∨ a = 387 ∨ a = 388
def qz_f (R : Nat) (z : Int) : Int := (2 * (R : Int) + 1) * z
theorem qz_f_add {R : Nat} {a b : Int} : qz_f R (a + b) = qz_f R a + qz_f R b := Int.mul_add _ _ _
theorem qz_f_suc {R : Nat} {a : Int} : qz_f (R + 1) a = qz_f R a + 2 * a := by
  unfold qz_f
  rw [show (2 * ((R + 1 : Nat) : Int) + 1) = (2 * (R : Int) + 1) + 2 by push_cast; omega, Int.add_mul]
theorem qz_f_one {R : Nat} : qz_f R 1 = 2 * (R : Int) + 1 := Int.mul_one _
theorem qz_f_ge {R : Nat} {a : Int} (h : 0 ≤ a) : a ≤ qz_f R a := by
  unfold qz_f
  have : 0 ≤ 2 * (R : Int) * a := Int.mul_nonneg (by omega) h
  rw [Int.add_mul, Int.one_mul]
  omega
theorem qz_capn {r : Int} (h : 0 < bz_cap r) : r ≠ 386 ∧ r ≠ 387 ∧ r ≠ 388 ∧ r ≠ 380 ∧ r ≠ 379 := by
  refine ⟨?_, ?_, ?_, ?_, ?_⟩ <;> (rintro rfl; exact absurd h (by decide))
section QX
variable {x0 m0 : az_Hp} {T s U t : Int} {V : Int → Int → Prop} {ρ : Int → Nat}
def qz_Cd (m0 : az_Hp) (T s U : Int) (V : Int → Int → Prop) (c q : Int) : Prop := bz_cr (bz_ct m0 s) (bz_ft m0 s) (m0.2 T 0) (m0.2 T 1) V c q ∧ (2000 ≤ q → q - 2000 < U)
def qz_Row (x m : az_Hp) (T s U : Int) (V : Int → Int → Prop) (r A off n : Int) : Prop := bz_rw x r ∧ x.2 r 1 = n ∧ (1 ≤ n ∧ n ≤ 60) ∧ (∀ i, 0 ≤ i → i < n → qz_Cd m T s U V (x.2 (r + 1) i) (m.2 A (off + i))) ∧ bz_Sc (bz_ra x r) n.toNat 1 0 ∧ (0 ≤ off ∧ off + n ≤ az_ln m A ∧ az_ln m A ≤ 100000 ∧ A ≠ 840 ∧ A ≠ 804)
def qz_Env (x m : az_Hp) (T s U : Int) (V : Int → Int → Prop) (ρ : Int → Nat) : Prop := (0 ≤ U ∧ U ≤ 6) ∧ (∀ y : az_Hp, y.2 380 6 = x.2 380 6 → ∀ k, 0 ≤ k → k < U → fz_X8_isBound y 380 k = some (if 0 < m.2 864 k then 1 else 0)) ∧ (∀ k, 0 ≤ k → k < U → 0 < m.2 864 k → qz_Row x m T s U V (789 + 2 * k) 863 (60 * k) (m.2 864 k)) ∧ ∀ k i u, 0 ≤ k → k < U → 0 ≤ i → i < m.2 864 k → 0 ≤ u → m.2 863 (60 * k + i) = 2000 + u → 0 < m.2 864 u → ρ u < ρ k
def qz_St (m0 x m : az_Hp) (T s U : Int) (V : Int → Int → Prop) (t sz : Int) : Prop := x.2 t 1 = sz ∧ m.2 804 70 = sz ∧ (0 ≤ sz ∧ sz ≤ 60) ∧ ∀ i, 0 ≤ i → i < sz → qz_Cd m0 T s U V (x.2 (t + 1) i) (m.2 840 i) ∧ (2000 ≤ m.2 840 i → m0.2 864 (m.2 840 i - 2000) ≤ 0)
theorem qz_run (hX : bz_Fx x0) (hM : bz_Fx m0) (ht : bz_tb (bz_ct m0 s) (bz_ft m0 s) (m0.2 T 0) (m0.2 T 1)) (vv : bz_VV V) (E : qz_Env x0 m0 T s U V ρ) (ct : bz_cap t = 60) (t7 : t < 789) : ∀ (R D d k kk : Nat) (x m : az_Hp) (v3 v4 p c K sz r A off n : Int), R ≤ D → bz_Upd x0 x (qz_SX t) → bz_Upd m0 m yz_next → qz_Row x0 m0 T s U V r A off n → r ≠ t → (∀ i u, 0 ≤ i → i < n → 0 ≤ u → m0.2 A (off + i) = 2000 + u → 0 < m0.2 864 u → ρ u < R) → x.2 387 (v3 - 1) = r → x.2 388 (v3 - 1) = p → 1 ≤ v3 → v3 + R ≤ 7 → 0 ≤ p → p + d = n → qz_St m0 x m T s U V t sz → 0 ≤ c → 0 ≤ K → bz_Sc (bz_ra x0 r) d c p → yz_P (bz_ra x t) sz (c + K) → qz_f R (61 - sz) + 1 < k → v4 + qz_f R (61 - sz) + 1 ≤ 900000 → 0 ≤ v4 → d < kk →
    (∃ x' m', fz_X8_expand_24 2000000 k x 380 t v3 v4 = some (0, x') ∧ fz_X11_comes_3 2000000 (fz_X11_comes 2000000 D) kk m 804 A off n p = some (0, m') ∧ bz_Upd x0 x' (qz_SX t) ∧ bz_Upd m0 m' yz_next) ∨
    (∃ x' m' sz' k' v4', fz_X8_expand_24 2000000 k x 380 t v3 v4 = fz_X8_expand_24 2000000 k' x' 380 t (v3 - 1) v4' ∧ fz_X11_comes_3 2000000 (fz_X11_comes 2000000 D) kk m 804 A off n p = some (1, m') ∧ bz_Upd x0 x' (qz_SX t) ∧ bz_Upd m0 m' yz_next ∧ qz_St m0 x' m' T s U V t sz' ∧ yz_P (bz_ra x' t) sz' K ∧ (∀ i, i < v3 - 1 → x'.2 387 i = x.2 387 i ∧ x'.2 388 i = x.2 388 i) ∧ sz + d ≤ sz' ∧ (k : Int) ≤ k' + qz_f R (sz' - sz) + 1 ∧ v4' ≤ v4 + qz_f R (sz' - sz) + 1 ∧ v4 ≤ v4') := by
  have tp : 0 < bz_cap t := by omega
  have tn := qz_capn tp
  have fr1 := yz_free tp
  intro R
  induction R using Nat.strongRecOn with
  | ind R ihR =>
    intro D d
    induction d with
    | zero =>
      intro k kk x m v3 v4 p c K sz r A off n hD ux um hr rt hρ h387 h388 v31 v3R p0 hp st c0 K0 sc hP bk bv v40 hkk
      have s30 := st.2.2.1
      have ge := qz_f_ge (R := R) (a := 61 - sz) (by omega)
      obtain ⟨k, rfl⟩ : ∃ k', k = k' + 1 := ⟨k - 1, by omega⟩
      obtain ⟨kk, rfl⟩ : ∃ k', kk = k' + 1 := ⟨kk - 1, by omega⟩
      have hF := hX.upd ux
      have rp := hr.1.1
      have rc := bz_cap_lt rp
      have rn := qz_capn rp
      have o1 := yz_odd tp rp
      have o2 := yz_odd rp tp
      have l387 := ln_387 hF
      have l388 := ln_388 hF
      have e1 : x.2 r 1 = n := by rw [ux.2.2 r 1 (fun z => by unfold qz_SX yz_S at z; omega)]; exact hr.2.1
      have ec : c = 0 := sc
      have f0 : qz_f R (sz - sz) = 0 := by rw [Int.sub_self]; exact Int.mul_zero _
      refine Or.inr ⟨x, m, sz, k, v4 + 1, ?_, ?_, ux, um, st, by rw [ec, Int.zero_add] at hP; exact hP, fun i _ => ⟨rfl, rfl⟩, by omega, by omega, by omega, by omega⟩
      · have ar : az_arr x 387 (v3 - 1) = some r := by
          unfold az_arr
          rw [h387, if_pos ⟨⟨by omega, by omega⟩, by omega⟩]
        conv => lhs; unfold fz_X8_expand_24
        rw [if_pos (by omega), if_pos (by omega), fx_380_14 hF, Option.bind_some, az_w32_id (z := v3 - 1) (by omega) (by omega), ar, Option.bind_some, fx_380_15 hF, Option.bind_some, bz_ard (by omega) (by omega), Option.bind_some, h388, e1, if_neg (by omega), show az_w32 (v3 + -1) = v3 - 1 by rw [az_w32_id (by omega) (by omega)]; omega, az_w32_id (z := v4 + 1) (by omega) (by omega)]
      · unfold fz_X11_comes_3
        rw [if_neg (by omega)]
    | succ d ih =>
      intro k kk x m v3 v4 p c K sz r A off n hD ux um hr rt hρ h387 h388 v31 v3R p0 hp st c0 K0 sc hP bk bv v40 hkk
      have s30 := st.2.2.1
      have ge := qz_f_ge (R := R) (a := 61 - sz) (by omega)
      have ge60 : sz < 60 → qz_f R (61 - sz) = qz_f R (61 - (sz + 1)) + (2 * (R : Int) + 1) := fun _ => by
        rw [← qz_f_one, ← qz_f_add, show 61 - (sz + 1) + 1 = 61 - sz by omega]
      obtain ⟨k, rfl⟩ : ∃ k', k = k' + 1 := ⟨k - 1, by omega⟩
      obtain ⟨kk, rfl⟩ : ∃ k', kk = k' + 1 := ⟨kk - 1, by omega⟩
      have hF := hX.upd ux
      have hG := hM.upd um
      have rp := hr.1.1
      have rc := bz_cap_lt rp
      have rn := qz_capn rp
      have o1 := yz_odd tp rp
      have o2 := yz_odd rp tp
      have l387 := ln_387 hF
      have l388 := ln_388 hF
      have l840 := ln_840 hG
      have l864 := ln_864 hG
      have rl := bz_fxR hF rp
      have rcap := hr.1.2.2.1
      have e1 : x.2 r 1 = n := by rw [ux.2.2 r 1 (fun z => by unfold qz_SX yz_S at z; omega)]; exact hr.2.1
      have n60 := hr.2.2.1.2
      obtain ⟨s1, s2, s3, s4⟩ := st
      obtain ⟨o0, oA, oB, oC, oD⟩ := hr.2.2.2.2.2
      obtain ⟨cr, qU⟩ := hr.2.2.2.1 p p0 (by omega)
      have hI := cr.I ht vv
      have eA : m.2 A (off + p) = m0.2 A (off + p) := um.2.2 _ _ (fun z => by unfold yz_next at z; omega)
      have rdA : az_ard m A (off + p) = some (m0.2 A (off + p)) := by rw [bz_ard (by omega) (by rw [um.ln]; omega), eA]
      have e864 : ∀ u, m.2 864 u = m0.2 864 u := fun u => um.2.2 _ _ (fun z => by unfold yz_next at z; omega)
      have ar : az_arr x 387 (v3 - 1) = some r := by
        unfold az_arr
        rw [h387, if_pos ⟨⟨by omega, by omega⟩, by omega⟩]
      -- the head's frame goes on by one
      obtain ⟨x1, hx1⟩ : ∃ x1, x1 = az_wr x 388 (v3 - 1) (p + 1) := ⟨_, rfl⟩
      have u01 : bz_Upd x x1 (fun a _ => a = 388) := by
        rw [hx1]; exact bz_Upd.wr bz_Upd.refl rfl (by unfold bz_isFix; simp [bz_cap, bz_fixL, bz_rowsL])
      have u1 : bz_Upd x0 x1 (qz_SX t) := ux.trans (u01.weak fun a k z => Or.inr (Or.inr z))
      have hF1 := hX.upd u1
      have y1 : ∀ a k, a ≠ 388 → x1.2 a k = x.2 a k := fun a k q => u01.2.2 a k q
      have y388 : x1.2 388 (v3 - 1) = p + 1 := by rw [hx1]; exact az_wr_same
      have y388' : ∀ i, i ≠ v3 - 1 → x1.2 388 i = x.2 388 i := fun i q => by rw [hx1]; exact az_wr_ne (by omega)
      have c1 : x1.2 (r + 1) p = x0.2 (r + 1) p := u1.2.2 _ _ (fun z => by unfold qz_SX yz_S at z; omega)
      have e6 : x1.2 380 6 = x0.2 380 6 := u1.2.2 _ _ (fun z => by unfold qz_SX yz_S at z; omega)
      have w4 : az_w32 (v4 + 1) = v4 + 1 := az_w32_id (by omega) (by omega)
      have wp : az_w32 (p + 1) = p + 1 := az_w32_id (by omega) (by omega)
      have runX : fz_X8_expand_24 2000000 (k + 1) x 380 t v3 v4 = (if bz_kd (x0.2 (r + 1) p) = 3 then (if bz_nr (x0.2 (r + 1) p) < 6 then ((fz_X8_isBound x1 380 (bz_nr (x0.2 (r + 1) p))).bind fun r12 => (if r12 = 0 then fz_X8_expand_130 2000000 (fz_X8_expand_24 2000000 k) x1 380 t v3 v4 (x0.2 (r + 1) p) (bz_nr (x0.2 (r + 1) p)) 0 else fz_X8_expand_130 2000000 (fz_X8_expand_24 2000000 k) x1 380 t v3 v4 (x0.2 (r + 1) p) (bz_nr (x0.2 (r + 1) p)) 1)) else fz_X8_expand_130 2000000 (fz_X8_expand_24 2000000 k) x1 380 t v3 v4 (x0.2 (r + 1) p) (bz_nr (x0.2 (r + 1) p)) 0) else fz_X8_expand_130 2000000 (fz_X8_expand_24 2000000 k) x1 380 t v3 v4 (x0.2 (r + 1) p) (bz_nr (x0.2 (r + 1) p)) 0) := by
        have g1 : az_gref x1 r 0 = some (r + 1) := bz_gr (bz_fxR hF1 rp).1 (by omega)
        conv => lhs; unfold fz_X8_expand_24
        rw [if_pos (by omega), if_pos (by omega), fx_380_14 hF, Option.bind_some, az_w32_id (z := v3 - 1) (by omega) (by omega), ar, Option.bind_some, fx_380_15 hF, Option.bind_some, bz_ard (by omega) (by omega), Option.bind_some, h388, e1, if_pos (by omega), Option.bind_some, bz_ard (by omega) (by omega), Option.bind_some, h388, wp, bz_awr (by omega) (by omega), Option.bind_some, ← hx1, g1, Option.bind_some, bz_ard p0 (by rw [(bz_fxR hF1 rp).2]; have := hr.2.1; omega), Option.bind_some, c1, bz_number hI, Option.bind_some, bz_kind hI, Option.bind_some]
      have cpos : 0 < c := sc.1
      have sc2 := sc.2
      -- a code is put as it is
      have plain : (2000 ≤ m0.2 A (off + p) → m0.2 864 (m0.2 A (off + p) - 2000) ≤ 0) → (∃ w0, fz_X8_expand_24 2000000 (k + 1) x 380 t v3 v4 = fz_X8_expand_172 2000000 (fz_X8_expand_24 2000000 k) x1 380 t v3 v4 w0 ∧ w0 = x0.2 (r + 1) p) → fz_X11_comes_3 2000000 (fz_X11_comes 2000000 D) (kk + 1) m 804 A off n p = fz_X11_comes_72 2000000 (fz_X11_comes 2000000 D) (fz_X11_comes_3 2000000 (fz_X11_comes 2000000 D) kk) m 804 A off n p (m0.2 A (off + p)) → (∃ x' m', fz_X8_expand_24 2000000 (k + 1) x 380 t v3 v4 = some (0, x') ∧ fz_X11_comes_3 2000000 (fz_X11_comes 2000000 D) (kk + 1) m 804 A off n p = some (0, m') ∧ bz_Upd x0 x' (qz_SX t) ∧ bz_Upd m0 m' yz_next) ∨
          (∃ x' m' sz' k' v4', fz_X8_expand_24 2000000 (k + 1) x 380 t v3 v4 = fz_X8_expand_24 2000000 k' x' 380 t (v3 - 1) v4' ∧ fz_X11_comes_3 2000000 (fz_X11_comes 2000000 D) (kk + 1) m 804 A off n p = some (1, m') ∧ bz_Upd x0 x' (qz_SX t) ∧ bz_Upd m0 m' yz_next ∧ qz_St m0 x' m' T s U V t sz' ∧ yz_P (bz_ra x' t) sz' K ∧ (∀ i, i < v3 - 1 → x'.2 387 i = x.2 387 i ∧ x'.2 388 i = x.2 388 i) ∧ sz + ((d + 1 : Nat) : Int) ≤ sz' ∧ ((k + 1 : Nat) : Int) ≤ k' + qz_f R (sz' - sz) + 1 ∧ v4' ≤ v4 + qz_f R (sz' - sz) + 1 ∧ v4 ≤ v4') := by
        rintro hub ⟨w0, hX2, rfl⟩ hM2
        have t1 : x1.2 t 1 = sz := by rw [y1 t 1 (by omega)]; exact s1
        have AD := yz_add (c := x0.2 (r + 1) p) hF1 tp (by omega) (by omega)
        rw [hX2, hM2]
        unfold fz_X8_expand_172 fz_X11_comes_72
        rw [s2]
        by_cases full : sz = 60
        · left
          refine ⟨x1, m, ?_, by rw [if_pos full], u1, um⟩
          rw [AD.2 (by omega), Option.bind_some, if_pos rfl]
        · obtain ⟨x2, b1, b2, b3, b4, b5⟩ := AD.1 (by omega)
          clear AD
          rw [t1] at b3 b4 b5
          have m2u : bz_Upd m0 (az_wr (az_wr m 840 sz (m0.2 A (off + p))) 804 70 (sz + 1)) yz_next := bz_Upd.wr (bz_Upd.wr um (Or.inl rfl) (by unfold bz_isFix; simp [bz_cap, bz_fixL, bz_rowsL])) (Or.inr ⟨rfl, rfl⟩) (by decide)
          have u2 : bz_Upd x0 x2 (qz_SX t) := u1.trans (b2.weak fun a k z => Or.inl z)
          have k387 : ∀ i, x2.2 387 i = x.2 387 i := fun i => by rw [b2.2.2 387 i (fun z => by unfold yz_S at z; omega), y1 387 i (by omega)]
          have k388 : ∀ i, x2.2 388 i = x1.2 388 i := fun i => b2.2.2 388 i (fun z => by unfold yz_S at z; omega)
          have pre : ∀ i, 0 ≤ i → i < sz → bz_ra x2 t i = bz_ra x t i := fun i i0 i1 => by unfold bz_ra; rw [b4 i i1, y1 _ _ (by omega)]
          have one := yz_P.one (a' := bz_ra x2 t) s3.1 hP (by omega) pre
          rw [show bz_ra x2 t sz = bz_ra x0 r p by unfold bz_ra; rw [b5], show c + K - 1 + bz_ra x0 r p = (c - 1 + bz_ra x0 r p) + K by omega] at one
          have r0 := bz_ra0 (σ := x0) (r := r) p
          have g60 := ge60 (by omega)
          have I := ih k kk x2 _ v3 (v4 + 1) (p + 1) (c - 1 + bz_ra x0 r p) K (sz + 1) r A off n hD u2 m2u hr rt hρ (by rw [k387]; exact h387) (by rw [k388]; exact y388) v31 v3R (by omega) (by omega) ⟨b3, az_wr_same, ⟨by omega, by omega⟩, fun i i0 i1 => by
            rw [az_wr_ne (by omega)]
            by_cases e : i = sz
            · rw [e, az_wr_same, b5]; exact ⟨⟨cr, qU⟩, hub⟩
            · rw [az_wr_ne (by omega), b4 i (by omega), y1 _ _ (by omega)]; exact s4 i i0 (by omega)⟩ (by omega) K0 sc2 one (by omega) (by omega) (by omega) (by omega)
          have goX : ((fz_X7_add x1 t (x0.2 (r + 1) p)).bind fun r1 => (if r1.1 = 0 then (some (0, r1.2)) else fz_X8_expand_24 2000000 k r1.2 380 t v3 (az_w32 (v4 + 1)))) = fz_X8_expand_24 2000000 k x2 380 t v3 (v4 + 1) := by
            rw [b1, Option.bind_some, if_neg (show ¬ (1 : Int) = 0 by decide), w4]
          have goM : (if sz = 60 then (some (0, m)) else ((az_gref m 804 68).bind fun x1 => ((az_awr m x1 sz (m0.2 A (off + p))).bind fun s2 => fz_X11_comes_3 2000000 (fz_X11_comes 2000000 D) kk (az_wr s2 804 70 (az_w32 ((s2.2 804 70) + 1))) 804 A off n (az_w32 (p + 1))))) = fz_X11_comes_3 2000000 (fz_X11_comes 2000000 D) kk (az_wr (az_wr m 840 sz (m0.2 A (off + p))) 804 70 (sz + 1)) 804 A off n (p + 1) := by
            rw [if_neg full, fx_804_68 hG, Option.bind_some, bz_awr (by omega) (by omega), Option.bind_some, az_wr_ne (by omega), s2, az_w32_id (z := sz + 1) (by omega) (by omega), wp]
          rw [goX, goM]
          rcases I with ⟨x', m', i1, i2, i3, i4⟩ | ⟨x', m', sz', k', v4', i1, i2, i3, i4, i5, i6, i7, i8, i9, i10, i11⟩
          · exact Or.inl ⟨x', m', i1, i2, i3, i4⟩
          · have ff : qz_f R (sz' - sz) = qz_f R (sz' - (sz + 1)) + (2 * (R : Int) + 1) := by
              rw [← qz_f_one, ← qz_f_add, show sz' - (sz + 1) + 1 = sz' - sz by omega]
            refine Or.inr ⟨x', m', sz', k', v4', i1, i2, i3, i4, i5, i6, fun i hi => ?_, by push_cast; omega, by push_cast; omega, by omega, by omega⟩
            obtain ⟨j1, j2⟩ := i7 i hi
            exact ⟨by rw [j1, k387], by rw [j2, k388, y388' i (by omega)]⟩
      have p130 : ∀ w, fz_X8_expand_130 2000000 (fz_X8_expand_24 2000000 k) x1 380 t v3 v4 (x0.2 (r + 1) p) w 0 = fz_X8_expand_172 2000000 (fz_X8_expand_24 2000000 k) x1 380 t v3 v4 (x0.2 (r + 1) p) := fun w => by unfold fz_X8_expand_130; rw [if_pos rfl]
      have wo : az_w32 (off + p) = off + p := az_w32_id (by omega) (by omega)
      by_cases c2 : m0.2 A (off + p) < 2000
      · have kd3 : ¬ bz_kd (x0.2 (r + 1) p) = 3 := by
          rw [cr.kd ht]
          repeat' split
          all_goals omega
        refine plain (fun z => by omega) ⟨_, by rw [runX, if_neg kd3, p130], rfl⟩ ?_
        conv => lhs; unfold fz_X11_comes_3
        rw [if_pos (by omega), wo, rdA, Option.bind_some, if_pos c2]
      · obtain ⟨u, hu⟩ : ∃ u, u = m0.2 A (off + p) - 2000 := ⟨_, rfl⟩
        have uU := qU (by omega)
        have hU := E.1
        have kd3 : bz_kd (x0.2 (r + 1) p) = 3 := by rw [cr.kd ht, if_neg (by omega), if_neg (by omega), if_neg c2]
        have cx : x0.2 (r + 1) p = u * 16 + 3 := by
          have tb := ht
          unfold bz_tb at tb
          rcases cr with z | z | z | z
          · omega
          · omega
          · omega
          · omega
        have nr : bz_nr (x0.2 (r + 1) p) = u := by unfold bz_nr; rw [cx, if_neg (by omega)]; omega
        have isb := E.2.1 x1 e6 u (by omega) (by omega)
        have wu : az_w32 (m0.2 A (off + p) - 2000) = u := by rw [az_w32_id (by omega) (by omega)]; omega
        have refM : fz_X11_comes_3 2000000 (fz_X11_comes 2000000 D) (kk + 1) m 804 A off n p = (if 0 < m0.2 864 u then ((fz_X11_comes 2000000 D m 804 863 (az_w32 (60 * u)) (m0.2 864 u)).bind fun r7 => (if r7.1 = 0 then (some (0, r7.2)) else fz_X11_comes_3 2000000 (fz_X11_comes 2000000 D) kk r7.2 804 A off n (p + 1))) else fz_X11_comes_72 2000000 (fz_X11_comes 2000000 D) (fz_X11_comes_3 2000000 (fz_X11_comes 2000000 D) kk) m 804 A off n p (m0.2 A (off + p))) := by
          conv => lhs; unfold fz_X11_comes_3
          rw [if_pos (by omega), wo, rdA, Option.bind_some, if_neg c2, fx_804_106 hG, Option.bind_some, wu, bz_ard (by omega) (by omega), Option.bind_some, e864, fx_804_105 hG, Option.bind_some, Option.bind_some, bz_ard (by omega) (by omega), Option.bind_some, e864, wp]
        by_cases bd : 0 < m0.2 864 u
        · rw [if_pos bd] at isb
          have ρu := hρ p u p0 (by omega) (by omega) (by omega) bd
          obtain ⟨R', rfl⟩ : ∃ R', R = R' + 1 := ⟨R - 1, by omega⟩
          obtain ⟨D', rfl⟩ : ∃ D', D = D' + 1 := ⟨D - 1, by omega⟩
          have hrow := E.2.2.1 u (by omega) (by omega) bd
          have f61 := qz_f_suc (R := R') (a := 61 - sz)
          obtain ⟨x2, hx2⟩ : ∃ x2, x2 = az_wr (az_wr x1 387 v3 (789 + 2 * u)) 388 v3 0 := ⟨_, rfl⟩
          have u12 : bz_Upd x1 x2 (fun a _ => a = 387 ∨ a = 388) := by
            rw [hx2]; exact bz_Upd.wr (bz_Upd.wr bz_Upd.refl (Or.inl rfl) (by unfold bz_isFix; simp [bz_cap, bz_fixL, bz_rowsL])) (Or.inr rfl) (by unfold bz_isFix; simp [bz_cap, bz_fixL, bz_rowsL])
          have u2 : bz_Upd x0 x2 (qz_SX t) := u1.trans (u12.weak fun a k z => Or.inr z)
          have same : ∀ a k, a = t ∨ a = t + 1 → x2.2 a k = x.2 a k := fun a k q => by rw [u12.2.2 a k (by omega), y1 a k (by omega)]
          have hPn : yz_P (bz_ra x2 t) sz (1 + (c - 1 + K)) := by
            rw [show 1 + (c - 1 + K) = c + K by omega]
            exact hP.cong (fun i i0 i1 => by unfold bz_ra; rw [same _ _ (by omega)])
          have stp : fz_X8_expand_24 2000000 (k + 1) x 380 t v3 v4 = fz_X8_expand_24 2000000 k x2 380 t (v3 + 1) (v4 + 1) := by
            have hF2 : bz_Fx (az_wr x1 387 v3 (789 + 2 * u)) := hF1.upd (S := fun _ _ => True) (bz_Upd.wr bz_Upd.refl trivial (by unfold bz_isFix; simp [bz_cap, bz_fixL, bz_rowsL]))
            obtain ⟨lA, vA⟩ := bz_fxA hF1 (show ((382 : Int), (6 : Int), (789 : Int), (2 : Int)) ∈ bz_rowsL by decide)
            have a382 : az_arr x1 382 u = some (789 + 2 * u) := by
              unfold az_arr
              rw [vA u (by omega) (by omega), if_pos ⟨⟨by omega, by omega⟩, by omega⟩]
            rw [runX, if_pos kd3, nr, if_pos (by omega), isb, Option.bind_some, if_neg (show ¬ (1 : Int) = 0 by decide)]
            unfold fz_X8_expand_130
            rw [if_neg (show ¬ (1 : Int) = 0 by decide), fx_380_14 hF1, Option.bind_some, if_pos (by rw [ln_387 hF1]; omega), Option.bind_some, fx_380_8 hF1, Option.bind_some, a382, Option.bind_some, bz_awr (by omega) (by rw [ln_387 hF1]; omega), Option.bind_some, fx_380_15 hF2, Option.bind_some, bz_awr (by omega) (by rw [ln_388 hF2]; omega), Option.bind_some, ← hx2, az_w32_id (z := v3 + 1) (by omega) (by omega), w4]
          have nn := hrow.2.2.1
          have J := ihR R' (by omega) D' (m0.2 864 u).toNat k 2000000 x2 m (v3 + 1) (v4 + 1) 0 1 (c - 1 + K) sz (789 + 2 * u) 863 (60 * u) (m0.2 864 u) (by omega) u2 um hrow (by omega) (fun i w i0 i1 w0 e1 e2 => by have := E.2.2.2 u i w (by omega) (by omega) i0 i1 w0 e1 e2; omega) (by rw [hx2, az_wr_ne (by omega), show v3 + 1 - 1 = v3 by omega, az_wr_same]) (by rw [hx2, show v3 + 1 - 1 = v3 by omega, az_wr_same]) (by omega) (by push_cast at v3R; omega) (by omega) (by omega) ⟨by rw [same _ _ (by omega)]; exact s1, s2, s3, fun i i0 i1 => by rw [same _ _ (by omega)]; exact s4 i i0 i1⟩ (by omega) (by omega) hrow.2.2.2.2.1 hPn (by push_cast at bk; omega) (by omega) (by omega) (by omega)
          have recM : fz_X11_comes 2000000 (D' + 1) m 804 863 (az_w32 (60 * u)) (m0.2 864 u) = fz_X11_comes_3 2000000 (fz_X11_comes 2000000 D') 2000000 m 804 863 (60 * u) (m0.2 864 u) 0 := by
            rw [az_w32_id (by omega) (by omega)]; rfl
          rw [stp, refM, if_pos bd, recM]
          rcases J with ⟨x', m', i1, i2, i3, i4⟩ | ⟨x', m', sz', k', v4', i1, i2, i3, i4, i5, i6, i7, i8, i9, i10, i11⟩
          · exact Or.inl ⟨x', m', i1, by rw [i2, Option.bind_some, if_pos rfl], i3, i4⟩
          · rw [i1, i2, Option.bind_some, if_neg (show ¬ (1 : Int) = 0 by decide), show v3 + 1 - 1 = v3 by omega]
            have q387 : ∀ i, i < v3 → x'.2 387 i = x.2 387 i := fun i hi => by
              rw [(i7 i (by omega)).1, hx2, az_wr_ne (by omega), az_wr_ne (by omega), y1 387 i (by omega)]
            have q388 : ∀ i, i < v3 → x'.2 388 i = x1.2 388 i := fun i hi => by
              rw [(i7 i (by omega)).2, hx2, az_wr_ne (by omega), az_wr_ne (by omega)]
            have fa : qz_f (R' + 1) (61 - sz) = qz_f (R' + 1) (61 - sz') + qz_f (R' + 1) (sz' - sz) := by
              rw [← qz_f_add, show 61 - sz' + (sz' - sz) = 61 - sz by omega]
            have fb := qz_f_suc (R := R') (a := sz' - sz)
            have sz1 := i5.2.2.1
            have arj : bz_ra x0 r p = 0 := by
              unfold bz_ra bz_ar
              rw [cx, if_neg (by omega)]; omega
            rw [arj, show c - 1 + 0 = c - 1 by omega] at sc2
            have I := ih k' kk x' m' v3 v4' (p + 1) (c - 1) K sz' r A off n hD i3 i4 hr rt hρ (by rw [q387 _ (by omega)]; exact h387) (by rw [q388 _ (by omega)]; exact y388) v31 v3R (by omega) (by omega) i5 (by omega) K0 sc2 i6 (by push_cast at bk i9 ⊢; omega) (by omega) (by omega) (by omega)
            rcases I with ⟨x'', m'', j1, j2, j3, j4⟩ | ⟨x'', m'', sz'', k'', v4'', j1, j2, j3, j4, j5, j6, j7, j8, j9, j10, j11⟩
            · exact Or.inl ⟨x'', m'', j1, j2, j3, j4⟩
            · have fc : qz_f (R' + 1) (sz'' - sz) = qz_f (R' + 1) (sz'' - sz') + qz_f (R' + 1) (sz' - sz) := by
                rw [← qz_f_add, show sz'' - sz' + (sz' - sz) = sz'' - sz by omega]
              refine Or.inr ⟨x'', m'', sz'', k'', v4'', j1, j2, j3, j4, j5, j6, fun i hi => ?_, by push_cast; omega, by push_cast; omega, by omega, by omega⟩
              obtain ⟨l1, l2⟩ := j7 i hi
              exact ⟨by rw [l1, q387 i (by omega)], by rw [l2, q388 i (by omega), y388' i (by omega)]⟩
        · rw [if_neg bd] at isb
          refine plain (fun _ => by rw [← hu]; omega) ⟨_, by rw [runX, if_pos kd3, nr, if_pos (by omega), isb, Option.bind_some, if_pos rfl, p130], rfl⟩ ?_
          rw [refM, if_neg bd]
end QX
