/-! all of a ROUND; all ROUNDS -/
section SN
variable {T s U : Int} {V : Int → Int → Prop}
/-- what holds behind a ROUND -/
def sv_End (x m : az_Hp) (T s U : Int) (V : Int → Int → Prop) : Prop := (∃ ρ, sv_B x m T s U V ρ) ∧ x.2 380 2 = m.2 804 109 ∧ x.2 380 3 = m.2 804 110 ∧ ((m.2 804 109 = 0 ∧ ∃ n, sv_R0 x m T s U V n) ∨ (m.2 804 109 ≠ 0 ∧ x.2 380 1 = m.2 804 108 ∧ sv_Sl x))
theorem sv_roundL {cn : Int} (c100 : cn ≤ 100) : ∀ (d k k' : Nat) (x m : az_Hp) (n M i c : Int) (ρ : Int → Nat), d < k → d + 1 < k' → 0 ≤ i → i + d = cn → cn ≤ M → sv_B x m T s U V ρ → sv_L x m T s U V n M i (-1) → x.2 380 2 = 0 → m.2 804 109 = 0 → x.2 380 3 = m.2 804 110 → x.2 380 9 = c → (c = 0 ∨ c = 1) →
    ∃ c' x' m', fz_X8_oneRound_26 2000000 (k + 1) x 380 T 243 cn (sv_cnt (m.2 865) i.toNat) i = some x' ∧ fz_X11_round_29 2000000 k' m 804 cn c i = some (c', m') ∧ (c' = 0 ∨ c' = 1) ∧ x'.2 380 9 = c' ∧ sv_End x' m' T s U V ∧ bz_Upd x x' sv_XR ∧ bz_Upd m m' sv_MR := by
  intro d
  induction d with
  | zero =>
    intro k k' x m n M i c ρ hk hk' i0 hi cM hB hL h2 h109 h3 h9 hc
    obtain ⟨k', rfl⟩ : ∃ k'', k' = k'' + 1 := ⟨k' - 1, by omega⟩
    obtain ⟨m', c1, c2, c3, c4⟩ := sv_close hB hL
    refine ⟨c, x, m', ?_, ?_, hc, h9, ⟨⟨ρ, c4⟩, ?_, ?_, Or.inl ⟨?_, n, c3⟩⟩, bz_Upd.refl, c2.weak fun a k w => ?_⟩
    · unfold fz_X8_oneRound_26
      rw [if_neg (by omega)]
    · unfold fz_X11_round_29
      rw [if_neg (by omega), c1, Option.bind_some, if_pos hc]
    · rw [h2, c2.2.2 804 109 (fun w => by unfold sv_KA at w; omega), h109]
    · rw [c2.2.2 804 110 (fun w => by unfold sv_KA at w; omega)]; exact h3
    · rw [c2.2.2 804 109 (fun w => by unfold sv_KA at w; omega)]; exact h109
    · unfold sv_KA at w; exact Or.inr (Or.inr (by omega))
  | succ d ih =>
    intro k k' x m n M i c ρ hk hk' i0 hi cM hB hL h2 h109 h3 h9 hc
    obtain ⟨k, rfl⟩ : ∃ k'', k = k'' + 1 := ⟨k - 1, by omega⟩
    obtain ⟨k', rfl⟩ : ∃ k'', k' = k'' + 1 := ⟨k' - 1, by omega⟩
    have hT := hB.1.1.2.2.1.1
    have hL0 := hL
    obtain ⟨v, x1, m1, n1, M1, ρ1, hv, runX, asks, B1, L1, MM, ux, um, o1, hP⟩ := sv_one hB hL (by omega) h2
    obtain ⟨⟨l1, l2⟩, ⟨l3, l4, l5, l6, l7⟩, l8, l9, l10, l11⟩ := hL
    have gi := l9 i (Int.le_refl _) (by omega)
    have en := l10 i l3 (by omega) gi (by omega)
    have gi' : m.2 865 ((i.toNat : Nat) : Int) = 0 := by rw [show ((i.toNat : Nat) : Int) = i by omega]; exact gi
    have cl := sv_cnt.lt (g := m.2 865) (a := i.toNat) (b := M.toNat) (by omega) gi'
    have cb := (sv_cnt.bd (g := m.2 865) i.toNat).1
    have ca : sv_cnt (m1.2 865) i.toNat = sv_cnt (m.2 865) i.toNat := sv_cnt.same _ (fun k k0 k1 => um.2.2 865 k (fun w => by have := sv_MC804 w; omega))
    have sb := l11.1 _ cb (show sv_cnt (m.2 865) i.toNat < 100 by omega)
    generalize hat : sv_cnt (m.2 865) i.toNat = at' at *
    generalize hsl : x.2 383 at' = sl at *
    have rX := runX (k + 1) cn (by omega)
    have hX1 := B1.1.1.1
    have hM1 := B1.1.1.2.1
    have f0 : ∀ k, k ≠ 1 → k ≠ 6 → x1.2 380 k = x.2 380 k := fun k q q' => ux.2.2 380 k (fun w => by have := sv_XC380 w; omega)
    have f1 : ∀ k, 109 ≤ k → k ≤ 111 → m1.2 804 k = m.2 804 k := fun k q q' => um.2.2 804 k (fun w => by have := sv_MC804 w; omega)
    have w1 : az_w32 (i + 1) = i + 1 := az_w32_id (by omega) (by omega)
    have w2 : az_w32 (at' + 1) = at' + 1 := az_w32_id (by omega) (by omega)
    have uxR : bz_Upd x x1 sv_XR := ux.weak fun _ _ z => Or.inl z
    have umR : bz_Upd m m1 sv_MR := um.weak fun _ _ z => sv_MCR z
    have rM : fz_X11_round_29 2000000 (k' + 1) m 804 cn c i = (if (if v = 4 then 0 else if v = 0 then -1 else v) = 0 then ((az_gref m1 804 107).bind fun x10 => ((az_awz m1 x10 i 1).bind fun s11 => fz_X11_round_29 2000000 k' s11 804 cn 1 (i + 1))) else (if (if v = 4 then 0 else if v = 0 then -1 else v) = (-1) then ((az_gref m1 804 112).bind fun x6 => ((fz_X11_putsSide 2000000 m1 804 i 0 x6 0 (m1.2 804 114)).bind fun r7 => ((az_gref r7 804 113).bind fun x8 => ((fz_X11_putsSide 2000000 r7 804 i 1 x8 0 (r7.2 804 115)).bind fun r9 => fz_X11_round_29 2000000 k' r9 804 cn c (i + 1))))) else ((az_gref (az_wr m1 804 109 (if v = 4 then 0 else if v = 0 then -1 else v)) 804 104).bind fun x4 => ((az_ard (az_wr m1 804 109 (if v = 4 then 0 else if v = 0 then -1 else v)) x4 i).bind fun x5 => fz_X11_round_29 2000000 k' (az_wr (az_wr m1 804 109 (if v = 4 then 0 else if v = 0 then -1 else v)) 804 110 x5) 804 cn c (i + 1))))) := by
      conv => lhs; unfold fz_X11_round_29
      rw [if_pos (by omega), if_pos h109, asks, Option.bind_some, w1]
    rw [rX, rM]
    by_cases v4 : v = 4
    · subst v4
      have ln1 := L1.1.1
      have Lb := L1.2.1
      have c8 := L1.2.2.1
      have cl1 : at' < n1 := by
        have g1 : m1.2 865 ((i.toNat : Nat) : Int) = 0 := by rw [show ((i.toNat : Nat) : Int) = i by omega]; exact L1.2.2.2.1 i (Int.le_refl _) (by omega)
        have := sv_cnt.lt (g := m1.2 865) (a := i.toNat) (b := M1.toNat) (by omega) g1
        omega
      have ua : bz_Upd x1 (az_wr x1 380 9 1) (fun a k => a = 383 ∨ (a = 380 ∧ (k = 1 ∨ k = 9))) := bz_Upd.wr bz_Upd.refl (Or.inr ⟨rfl, Or.inr rfl⟩) (by decide)
      obtain ⟨x2, t1, t2, t3, t4, t5, t6⟩ := sv_rm (x := az_wr x1 380 9 1) (at' := at') (n := n1) (hX1.upd ua) cb cl1 (by omega) (by rw [az_wr_ne (by omega)]; exact ln1)
      have e383 : ∀ q, (az_wr x1 380 9 1).2 383 q = x1.2 383 q := fun q => az_wr_ne (by omega)
      simp only [e383] at t4 t5 t6
      have ub : bz_Upd x1 x2 (fun a k => a = 383 ∨ (a = 380 ∧ (k = 1 ∨ k = 9))) := ua.trans (t2.weak fun a k w => by omega)
      have uc : bz_Upd m1 (az_wr m1 865 i 1) (fun a k => a = 865 ∧ k = i) := bz_Upd.wr bz_Upd.refl ⟨rfl, rfl⟩ (by unfold bz_isFix; simp [bz_cap, bz_fixL, bz_rowsL])
      obtain ⟨L2, cnt2⟩ := L1.go hT (by omega) (by omega) ub uc az_wr_same t3 (by rw [ca]; exact t4) (by rw [ca]; exact t5) (by rw [ca]; exact t6)
      have B2 : sv_B x2 (az_wr m1 865 i 1) T s U V ρ1 := B1.upd ub uc (fun a k w => by unfold sv_SX; omega) (fun a k w => by unfold sv_SM; omega)
      obtain ⟨c', x', m', r1, r2, r3, r4, r5, r6, r7⟩ := ih k k' x2 (az_wr m1 865 i 1) (n1 - 1) M1 (i + 1) 1 ρ1 (by omega) (by omega) (by omega) (by omega) (by omega) B2 L2 (by rw [t2.2.2 380 2 (fun w => by omega), az_wr_ne (by omega), f0 2 (by omega) (by omega)]; exact h2) (by rw [az_wr_ne (by omega), f1 109 (by omega) (by omega)]; exact h109) (by rw [t2.2.2 380 3 (fun w => by omega), az_wr_ne (by omega), f0 3 (by omega) (by omega), az_wr_ne (by omega), f1 110 (by omega) (by omega)]; exact h3) (by rw [t2.2.2 380 9 (fun w => by omega), az_wr_same]) (Or.inr rfl)
      refine ⟨c', x', m', ?_, ?_, r3, r4, r5, (uxR.trans (ub.weak fun a k w => Or.inr (by omega))).trans r6, (umR.trans (uc.weak fun a k w => Or.inr (Or.inr (by omega)))).trans r7⟩
      · rw [cnt2, ca] at r1
        unfold fz_X8_oneRound_140
        rw [if_pos rfl, t1, Option.bind_some]
        unfold fz_X8_oneRound_163
        rw [if_pos rfl, w1]
        exact r1
      · rw [if_pos rfl, if_pos rfl, fx_804_107 hM1, Option.bind_some, bz_awz (by omega) (by rw [ln_865 hM1]; omega) (Or.inr rfl), Option.bind_some]
        exact r2
    · by_cases v0 : v = 0
      · subst v0
        obtain ⟨a, b, P⟩ := hP rfl
        obtain ⟨m2, m3, s1, s2, s3, s4, s5, s6, s7, s8⟩ := P.stay (by omega)
        have e114 : m1.2 804 114 = a := P.2.2.2.2.2.2.1
        obtain ⟨c', x', m', r1, r2, r3, r4, r5, r6, r7⟩ := ih k k' x1 m3 n1 M1 (i + 1) c ρ1 (by omega) (by omega) (by omega) (by omega) (by omega) s6 s7 (by rw [f0 2 (by omega) (by omega)]; exact h2) (by rw [s5.2.2 804 109 (fun w => by omega), f1 109 (by omega) (by omega)]; exact h109) (by rw [f0 3 (by omega) (by omega), s5.2.2 804 110 (fun w => by omega), f1 110 (by omega) (by omega)]; exact h3) (by rw [f0 9 (by omega) (by omega)]; exact h9) hc
        refine ⟨c', x', m', ?_, ?_, r3, r4, r5, uxR.trans r6, (umR.trans (s5.weak fun a k w => Or.inr (Or.inr (by omega)))).trans r7⟩
        · rw [s8, ca] at r1
          unfold fz_X8_oneRound_140
          rw [if_neg (by decide)]
          unfold fz_X8_oneRound_163
          rw [if_neg (by decide), if_pos rfl, w1, w2]
          exact r1
        · rw [if_neg (show ¬ (0 : Int) = 4 by decide), if_pos rfl, if_neg (show ¬ (-1 : Int) = 0 by decide), if_pos rfl, fx_804_112 hM1, Option.bind_some, e114, s1, Option.bind_some, fx_804_113 s3, Option.bind_some, s2, s4, Option.bind_some]
          exact r2
      · -- WRONG
        rw [if_neg v4, if_neg v0, if_neg v0, if_neg (show ¬ v = -1 by omega)]
        obtain ⟨x2, hx2⟩ : ∃ y, y = az_wr (az_wr x1 380 2 v) 380 3 (m1.2 862 i) := ⟨_, rfl⟩
        obtain ⟨m2, hm2⟩ : ∃ y, y = az_wr (az_wr m1 804 109 v) 804 110 (m1.2 862 i) := ⟨_, rfl⟩
        have ua : bz_Upd x1 (az_wr x1 380 2 v) (fun a k => a = 380 ∧ (k = 2 ∨ k = 3)) := bz_Upd.wr bz_Upd.refl ⟨rfl, Or.inl rfl⟩ (by decide)
        have ub : bz_Upd x1 x2 (fun a k => a = 380 ∧ (k = 2 ∨ k = 3)) := by rw [hx2]; exact bz_Upd.wr ua ⟨rfl, Or.inr rfl⟩ (by decide)
        have uc0 : bz_Upd m1 (az_wr m1 804 109 v) (fun a k => a = 804 ∧ (k = 109 ∨ k = 110)) := bz_Upd.wr bz_Upd.refl ⟨rfl, Or.inl rfl⟩ (by decide)
        have uc : bz_Upd m1 m2 (fun a k => a = 804 ∧ (k = 109 ∨ k = 110)) := by rw [hm2]; exact bz_Upd.wr uc0 ⟨rfl, Or.inr rfl⟩ (by decide)
        have B2 : sv_B x2 m2 T s U V ρ1 := B1.upd ub uc (fun a k w => by unfold sv_SX; omega) (fun a k w => by unfold sv_SM; omega)
        have hM2 := B2.1.1.2.1
        obtain ⟨⟨q1, q2⟩, ⟨q3, q4, q5, q6, q7⟩, q8, q9, q10, q11⟩ := L1
        have g2 : m2.2 865 = m1.2 865 := funext fun k => uc.2.2 865 k (fun w => by omega)
        have g61 : ∀ k, m2.2 861 k = m1.2 861 k := fun k => uc.2.2 861 k (fun w => by omega)
        obtain ⟨m3, c1, c2, c3, -⟩ := sv_cu (M := M1) hM2 (by rw [uc.2.2 804 108 (fun w => by omega)]; exact q2) (by omega) (by omega) (fun p p0 p1 pg sd s0 s1 => by
          rw [g2] at pg
          rw [g61]
          have : sd = 0 ∨ sd = 1 := by omega
          by_cases e : p = i
          · subst e
            obtain ⟨e1, e2, -⟩ := en
            have b1 := e1.2.2.1
            have b2 := e2.2.2.1
            rw [um.2.2 861 _ (fun w => by have := sv_MC804 w; omega)]
            rcases this with rfl | rfl
            · omega
            · omega
          · obtain ⟨e1, e2, -⟩ := q10 p p0 p1 pg e
            have b1 := e1.2.2.1
            have b2 := e2.2.2.1
            rcases this with rfl | rfl
            · omega
            · omega)
        have B3 : sv_B x2 m3 T s U V ρ1 := B2.upd (bz_Upd.refl (S := fun _ _ => False)) c2 (fun a k z => z.elim) (fun a k z => by unfold sv_KA at z; unfold sv_SM; omega)
        have k2 : x2.2 380 2 = v := by rw [hx2, az_wr_ne (by omega), az_wr_same]
        have k109 : m3.2 804 109 = v := by rw [c2.2.2 804 109 (fun w => by unfold sv_KA at w; omega), hm2, az_wr_ne (by omega), az_wr_same]
        refine ⟨c, x2, m3, ?_, ?_, hc, by rw [ub.2.2 380 9 (fun w => by omega), f0 9 (by omega) (by omega)]; exact h9, ⟨⟨ρ1, B3⟩, by rw [k2, k109], ?_, Or.inr ⟨by omega, ?_, ?_⟩⟩, uxR.trans (ub.weak fun a k w => Or.inr (by omega)), (umR.trans (uc.weak fun a k w => Or.inr (Or.inr (by omega)))).trans (c2.weak fun a k w => Or.inr (Or.inr (by unfold sv_KA at w; omega)))⟩
        · unfold fz_X8_oneRound_140
          rw [if_neg v4]
          unfold fz_X8_oneRound_163
          have e384 : (az_wr x1 380 2 v).2 384 sl = m1.2 862 i := by rw [az_wr_ne (by omega)]; exact o1
          rw [if_neg v4, if_neg v0, fx_380_11 (hX1.upd ua), Option.bind_some, bz_ard (by omega) (by rw [ln_384 (hX1.upd ua)]; omega), Option.bind_some, e384, ← hx2, w1, w2]
          unfold fz_X8_oneRound_26
          rw [k2, if_neg v0]
          split <;> rfl
        · have e862 : (az_wr m1 804 109 v).2 862 i = m1.2 862 i := az_wr_ne (by omega)
          rw [fx_804_104 (hM1.upd uc0), Option.bind_some, bz_ard (by omega) (by rw [ln_862 (hM1.upd uc0)]; omega), Option.bind_some, e862, ← hm2]
          obtain ⟨k', rfl⟩ : ∃ k'', k' = k'' + 1 := ⟨k' - 1, by omega⟩
          have j109 : m2.2 804 109 = v := by rw [hm2, az_wr_ne (by omega), az_wr_same]
          unfold fz_X11_round_29
          rw [j109, if_neg v0, c1]
          simp only [Option.bind_some, if_pos hc]
          split <;> rfl
        · rw [hx2, az_wr_same, c2.2.2 804 110 (fun w => by unfold sv_KA at w; omega), hm2, az_wr_same]
        · rw [ub.2.2 380 1 (fun w => by omega), q1, c3, g2, q8]
        · exact ⟨fun q q0 q1 => by rw [ub.2.2 383 q (fun w => by omega)]; exact q11.1 q q0 q1, fun q p q0 q1 p0 p1 => by rw [ub.2.2 383 q (fun w => by omega), ub.2.2 383 p (fun w => by omega)]; exact q11.2 q p q0 q1 p0 p1⟩
end SN
