/-! one EQUALITY of a ROUND -/
theorem sv_cnt.ne {g : Int → Int} {a b : Nat} (h : a ≠ b) (ha : g a = 0) (hb : g b = 0) : sv_cnt g a ≠ sv_cnt g b := by
  rcases Nat.lt_or_gt_of_ne h with c | c
  · have := sv_cnt.lt c ha; omega
  · have := sv_cnt.lt c hb; omega
/-- the rows of the one that is looked at change -/
theorem sv_L.row {x m x' m' : az_Hp} {T s U : Int} {V : Int → Int → Prop} {n M i e sl : Int} (h : sv_L x m T s U V n M i e) (hT : T = 3 ∨ T = 82) (tS : bz_tS m m') (i0 : 0 ≤ i) (iM : i < M) (hs : x.2 383 (sv_cnt (m.2 865) i.toNat) = sl) (he : e = i ∨ e = -1) (X : ∀ a k, (a = 380 ∧ k = 1) ∨ a = 383 ∨ a = 384 ∨ (389 ≤ a ∧ a ≤ 788 ∧ (a < 389 + 4 * sl ∨ 392 + 4 * sl < a)) → x'.2 a k = x.2 a k) (M' : ∀ a k, (a = 804 ∧ k = 108) ∨ (860 ≤ a ∧ a ≤ 862) ∨ a = 865 → m'.2 a k = m.2 a k) (hl : az_ln m' 860 = az_ln m 860) : sv_L x' m' T s U V n M i i := by
  obtain ⟨⟨l1, l2⟩, ⟨l3, l4, l5, l6, l7⟩, l8, l9, l10, l11⟩ := h
  have g : m'.2 865 = m.2 865 := funext fun k => M' 865 k (by omega)
  have x383 : ∀ k, x'.2 383 k = x.2 383 k := fun k => X 383 k (by omega)
  have gi := l9 i (Int.le_refl _) iM
  refine ⟨⟨by rw [X 380 1 (by omega)]; exact l1, by rw [M' 804 108 (by omega)]; exact l2⟩, ⟨l3, l4, l5, l6, l7⟩, by rw [g]; exact l8, by rw [g]; exact l9, fun p p0 p1 pg pe => ?_, ⟨fun k k0 k1 => by rw [x383]; exact l11.1 k k0 k1, fun k p k0 k1 p0 p1 => by rw [x383, x383]; exact l11.2 k p k0 k1 p0 p1⟩⟩
  rw [g] at pg ⊢
  rw [x383]
  have pg' : m.2 865 ((p.toNat : Nat) : Int) = 0 := by rw [show ((p.toNat : Nat) : Int) = p by omega]; exact pg
  have gi' : m.2 865 ((i.toNat : Nat) : Int) = 0 := by rw [show ((i.toNat : Nat) : Int) = i by omega]; exact gi
  have cl := sv_cnt.lt (g := m.2 865) (a := p.toNat) (b := M.toNat) (by omega) pg'
  have cb := (sv_cnt.bd (g := m.2 865) p.toNat).1
  have cl' := sv_cnt.lt (g := m.2 865) (a := i.toNat) (b := M.toNat) (by omega) gi'
  have cb' := (sv_cnt.bd (g := m.2 865) i.toNat).1
  have cn := sv_cnt.ne (g := m.2 865) (a := p.toNat) (b := i.toNat) (by omega) pg' gi'
  have sb := l11.1 _ cb (show sv_cnt (m.2 865) p.toNat < 100 by omega)
  have ne : x.2 383 (sv_cnt (m.2 865) p.toNat) ≠ sl := fun z => cn (l11.2 _ _ cb (by omega) cb' (by omega) (z.trans hs.symm))
  have en := l10 p p0 p1 pg (by omega)
  generalize x.2 383 (sv_cnt (m.2 865) p.toNat) = q' at *
  exact en.cong hT tS (fun a k z => X a k (by omega)) (fun a k z => M' a k (by omega)) hl
section SO
variable {T s U : Int} {V : Int → Int → Prop} {ρ : Int → Nat}
theorem sv_c21 {m : az_Hp} {n e : Int} (hM : bz_Fx m) (h70 : m.2 804 70 = n) (n60 : n ≤ 60) : ∀ (d k : Nat) (τ : az_Hp) (j : Int), d < k → 0 ≤ j → j + d = n → bz_Upd m τ (fun a _ => a = 866) → (∀ i, 0 ≤ i → i < j → τ.2 866 i = m.2 840 i) → ∃ τ', fz_X11_asks_21 2000000 k τ 804 e j = ((fz_X11_reducesSide 2000000 τ' 804 e 1).bind fun r1 => (if r1.1 = 0 then (some (3, r1.2)) else fz_X11_asks_68 2000000 2000000 (az_wr r1.2 804 115 (r1.2.2 804 70)) 804 e 0)) ∧ bz_Upd m τ' (fun a _ => a = 866) ∧ ∀ i, 0 ≤ i → i < n → τ'.2 866 i = m.2 840 i := by
  intro d
  induction d with
  | zero =>
    intro k τ j hk j0 hj ut h
    obtain ⟨k, rfl⟩ : ∃ k', k = k' + 1 := ⟨k - 1, by omega⟩
    have e70 : τ.2 804 70 = n := by rw [ut.2.2 804 70 (fun z => by omega)]; exact h70
    refine ⟨τ, ?_, ut, fun i i0 i1 => h i i0 (by omega)⟩
    unfold fz_X11_asks_21
    rw [if_neg (by omega)]
  | succ d ih =>
    intro k τ j hk j0 hj ut h
    obtain ⟨k, rfl⟩ : ∃ k', k = k' + 1 := ⟨k - 1, by omega⟩
    have hF := hM.upd ut
    have e70 : τ.2 804 70 = n := by rw [ut.2.2 804 70 (fun z => by omega)]; exact h70
    have e840 : τ.2 840 j = m.2 840 j := ut.2.2 _ _ (fun z => by omega)
    have u1 : bz_Upd m (az_wr τ 866 j (m.2 840 j)) (fun a _ => a = 866) := bz_Upd.wr ut rfl (by unfold bz_isFix; simp [bz_cap, bz_fixL, bz_rowsL])
    obtain ⟨τ', t1, t2, t3⟩ := ih k (az_wr τ 866 j (m.2 840 j)) (j + 1) (by omega) (by omega) (by omega) u1 (fun i i0 i1 => by
      by_cases c : i = j
      · rw [c, az_wr_same]
      · rw [az_wr_ne (by omega)]; exact h i i0 (by omega))
    refine ⟨τ', ?_, t2, t3⟩
    rw [← t1]
    conv => lhs; unfold fz_X11_asks_21
    rw [if_pos (by omega), fx_804_112 hF, Option.bind_some, fx_804_68 hF, Option.bind_some, bz_ard j0 (by rw [ln_840 hF]; omega), Option.bind_some, e840, bz_awr j0 (by rw [ln_866 hF]; omega), Option.bind_some, az_w32_id (z := j + 1) (by omega) (by omega)]
theorem sv_c68 {m : az_Hp} {n e : Int} (hM : bz_Fx m) (h70 : m.2 804 70 = n) (n60 : n ≤ 60) : ∀ (d k : Nat) (τ : az_Hp) (j : Int), d < k → 0 ≤ j → j + d = n → bz_Upd m τ (fun a _ => a = 867) → (∀ i, 0 ≤ i → i < j → τ.2 867 i = m.2 840 i) → ∃ τ', fz_X11_asks_68 2000000 k τ 804 e j = sv_ask τ' e ∧ bz_Upd m τ' (fun a _ => a = 867) ∧ ∀ i, 0 ≤ i → i < n → τ'.2 867 i = m.2 840 i := by
  intro d
  induction d with
  | zero =>
    intro k τ j hk j0 hj ut h
    obtain ⟨k, rfl⟩ : ∃ k', k = k' + 1 := ⟨k - 1, by omega⟩
    have e70 : τ.2 804 70 = n := by rw [ut.2.2 804 70 (fun z => by omega)]; exact h70
    refine ⟨τ, ?_, ut, fun i i0 i1 => h i i0 (by omega)⟩
    unfold fz_X11_asks_68 sv_ask
    rw [if_neg (by omega)]
  | succ d ih =>
    intro k τ j hk j0 hj ut h
    obtain ⟨k, rfl⟩ : ∃ k', k = k' + 1 := ⟨k - 1, by omega⟩
    have hF := hM.upd ut
    have e70 : τ.2 804 70 = n := by rw [ut.2.2 804 70 (fun z => by omega)]; exact h70
    have e840 : τ.2 840 j = m.2 840 j := ut.2.2 _ _ (fun z => by omega)
    have u1 : bz_Upd m (az_wr τ 867 j (m.2 840 j)) (fun a _ => a = 867) := bz_Upd.wr ut rfl (by unfold bz_isFix; simp [bz_cap, bz_fixL, bz_rowsL])
    obtain ⟨τ', t1, t2, t3⟩ := ih k (az_wr τ 867 j (m.2 840 j)) (j + 1) (by omega) (by omega) (by omega) u1 (fun i i0 i1 => by
      by_cases c : i = j
      · rw [c, az_wr_same]
      · rw [az_wr_ne (by omega)]; exact h i i0 (by omega))
    refine ⟨τ', ?_, t2, t3⟩
    rw [← t1]
    conv => lhs; unfold fz_X11_asks_68
    rw [if_pos (by omega), fx_804_113 hF, Option.bind_some, fx_804_68 hF, Option.bind_some, bz_ard j0 (by rw [ln_840 hF]; omega), Option.bind_some, e840, bz_awr j0 (by rw [ln_867 hF]; omega), Option.bind_some, az_w32_id (z := j + 1) (by omega) (by omega)]
def sv_XC (a k : Int) : Prop := sv_X1 a k ∨ sv_XB a k
def sv_MC (M a k : Int) : Prop := sv_M1 a k ∨ sv_MB M a k ∨ a = 866 ∨ a = 867 ∨ (a = 804 ∧ (k = 114 ∨ k = 115))
def sv_One (x m : az_Hp) (T s U : Int) (V : Int → Int → Prop) (M i sl at' : Int) : Prop := ∃ v x' m' n' M' ρ', (0 ≤ v ∧ v ≤ 4) ∧ (∀ (k : Nat) (cn : Int), i < cn → fz_X8_oneRound_26 2000000 (k + 1) x 380 T 243 cn at' i = fz_X8_oneRound_140 2000000 (fz_X8_oneRound_26 2000000 k) x' 380 T 243 cn at' i sl v) ∧ fz_X11_asks 2000000 m 804 i = some (if v = 4 then 0 else if v = 0 then -1 else v, m') ∧ sv_B x' m' T s U V ρ' ∧ sv_L x' m' T s U V n' M' i i ∧ M ≤ M' ∧ bz_Upd x x' sv_XC ∧ bz_Upd m m' (sv_MC M) ∧ x'.2 384 sl = m'.2 862 i ∧ (v = 0 → ∃ n1 n2, sv_P x' m' T s U V ρ' n' M' i i sl n1 n2)
theorem sv_one {x m : az_Hp} {n M i : Int} (hB : sv_B x m T s U V ρ) (hL : sv_L x m T s U V n M i (-1)) (iM : i < M) (h2 : x.2 380 2 = 0) : sv_One x m T s U V M i (x.2 383 (sv_cnt (m.2 865) i.toNat)) (sv_cnt (m.2 865) i.toNat) := by
  have hH := hB.1.1
  have hX := hH.1
  have hM := hH.2.1
  have hT := hH.2.2.1.1
  have hL0 := hL
  obtain ⟨⟨l1, l2⟩, ⟨l3, l4, l5, l6, l7⟩, l8, l9, l10, l11⟩ := hL
  have gi := l9 i (Int.le_refl _) iM
  have gi' : m.2 865 ((i.toNat : Nat) : Int) = 0 := by rw [show ((i.toNat : Nat) : Int) = i by omega]; exact gi
  have cl := sv_cnt.lt (g := m.2 865) (a := i.toNat) (b := M.toNat) (by omega) gi'
  have cb := (sv_cnt.bd (g := m.2 865) i.toNat).1
  have sb := l11.1 _ cb (show sv_cnt (m.2 865) i.toNat < 100 by omega)
  have en := l10 i l3 iM gi (by omega)
  obtain ⟨at', hat⟩ : ∃ a, a = sv_cnt (m.2 865) i.toNat := ⟨_, rfl⟩
  obtain ⟨sl, hs⟩ : ∃ q, q = x.2 383 at' := ⟨_, rfl⟩
  rw [← hat] at cl cb sb en ⊢
  rw [← hs] at sb en ⊢
  obtain ⟨e1, e2, e3⟩ := en
  have rs := fun {y : az_Hp} (h : bz_Fx y) => sv_refs (x := y) h sb.1 sb.2
  have cL := sv_cap (r := 389 + 4 * sl) (by omega) (by omega)
  have cR := sv_cap (r := 391 + 4 * sl) (by omega) (by omega)
  have c244 : bz_cap 244 = 60 := by decide
  have n60a := e1.2.2.1
  have n60b := e2.2.2.1
  have asks : ∀ w m1, fz_X11_reducesSide 2000000 m 804 i 0 = some (w, m1) → fz_X11_asks 2000000 m 804 i = if w = 0 then some (3, m1) else fz_X11_asks_21 2000000 2000000 (az_wr m1 804 114 (m1.2 804 70)) 804 i 0 := fun w m1 h => by
    unfold fz_X11_asks
    rw [h, Option.bind_some]
  have one : ∀ (k : Nat) (cn : Int), i < cn → fz_X8_oneRound_26 2000000 (k + 1) x 380 T 243 cn at' i = ((fz_X8_expand 2000000 x 380 (389 + 4 * sl) 244).bind fun r6 => (if r6.1 = 0 then fz_X8_oneRound_140 2000000 (fz_X8_oneRound_26 2000000 k) r6.2 380 T 243 cn at' i sl 3 else ((fz_X5_reduceAll 2000000 r6.2 243 0).bind fun r7 => (if r7.1 = 0 then ((az_gref r7.2 380 12).bind fun x8 => ((az_arr r7.2 x8 sl).bind fun x9 => ((az_gref r7.2 243 3).bind fun x10 => ((fz_X7_take r7.2 x9 x10).bind fun r11 => ((az_gref r11 380 13).bind fun x12 => ((az_arr r11 x12 sl).bind fun x13 => ((az_gref r11 243 3).bind fun x14 => ((fz_X8_expand 2000000 r11 380 x13 x14).bind fun r15 => (if r15.1 = 0 then fz_X8_oneRound_140 2000000 (fz_X8_oneRound_26 2000000 k) r15.2 380 T 243 cn at' i sl 3 else ((fz_X5_reduceAll 2000000 r15.2 243 0).bind fun r16 => (if r16.1 = 0 then ((az_gref r16.2 380 13).bind fun x17 => ((az_arr r16.2 x17 sl).bind fun x18 => ((az_gref r16.2 243 3).bind fun x19 => ((fz_X7_take r16.2 x18 x19).bind fun r20 => ((fz_X8_settle 2000000 r20 380 T sl).bind fun r21 => fz_X8_oneRound_140 2000000 (fz_X8_oneRound_26 2000000 k) r21.2 380 T 243 cn at' i sl r21.1))))) else fz_X8_oneRound_140 2000000 (fz_X8_oneRound_26 2000000 k) r16.2 380 T 243 cn at' i sl 3))))))))))) else fz_X8_oneRound_140 2000000 (fz_X8_oneRound_26 2000000 k) r7.2 380 T 243 cn at' i sl 3)))) := fun k cn hc => by
    conv => lhs; unfold fz_X8_oneRound_26
    rw [if_pos hc, if_pos h2, fx_380_10 hX, Option.bind_some, bz_ard cb (by rw [ln_383 hX]; omega), Option.bind_some, ← hs, fx_380_12 hX, Option.bind_some, (rs hX).1, Option.bind_some, fx_243_3 hX, Option.bind_some]
  have X1c : ∀ a k, sv_X1 a k → ¬ ((a = 380) ∨ a = 383 ∨ a = 384 ∨ (389 ≤ a ∧ a ≤ 788)) := fun a k z => by
    unfold sv_X1 qz_SX yz_RX yz_TX sz_TY sz_TX rz_TX cz_SJ sz_S yz_S at z
    omega
  have sL : ∀ {x' m' : az_Hp}, bz_Upd x x' (fun a k => sv_X1 a k ∨ yz_S (389 + 4 * sl) a k ∨ yz_S (391 + 4 * sl) a k) → bz_Upd m m' (fun a k => sv_M1 a k ∨ a = 866 ∨ a = 867 ∨ (a = 804 ∧ (k = 114 ∨ k = 115))) → sv_B x' m' T s U V ρ ∧ sv_L x' m' T s U V n M i i ∧ x'.2 384 sl = m'.2 862 i ∧ bz_Upd x x' sv_XC ∧ bz_Upd m m' (sv_MC M) ∧ bz_tS m m' ∧ m'.2 865 = m.2 865 ∧ ∀ k, x'.2 383 k = x.2 383 k := fun {x' m'} ux um => by
    have fm : ∀ a k, (a = 804 ∧ k = 108) ∨ (860 ≤ a ∧ a ≤ 862) ∨ a = 865 → m'.2 a k = m.2 a k := fun a k z => um.2.2 a k (fun w => by
      rcases w with w | w
      · have := sv_M1s w; omega
      · omega)
    have tS : bz_tS m m' := fun a k q => um.2.2 a k (fun w => by
      rcases w with w | w
      · have := sv_M1s w; omega
      · omega)
    have fx : ∀ a k, (a = 380 ∧ k = 1) ∨ a = 383 ∨ a = 384 ∨ (389 ≤ a ∧ a ≤ 788 ∧ (a < 389 + 4 * sl ∨ 392 + 4 * sl < a)) → x'.2 a k = x.2 a k := fun a k z => ux.2.2 a k (fun w => by
      rcases w with w | w
      · have := X1c a k w; omega
      · unfold yz_S at w; omega)
    refine ⟨hB.upd ux um (fun a k w => ?_) (fun a k w => ?_), hL0.row hT tS l3 iM (by rw [← hat, ← hs]) (Or.inr rfl) fx fm (um.ln _), by rw [fx 384 sl (by omega), fm 862 i (by omega)]; exact e3, ux.weak fun a k w => ?_, um.weak fun a k w => ?_, tS, funext fun k => fm 865 k (by omega), fun k => fx 383 k (by omega)⟩
    · rcases w with w | w
      · exact sv_X1s w
      · unfold yz_S at w; unfold sv_SX; omega
    · rcases w with w | w
      · have := sv_M1s w; unfold sv_SM; omega
      · unfold sv_SM; omega
    · rcases w with w | w
      · exact Or.inl w
      · exact Or.inr (by unfold yz_S at w; unfold sv_XB; omega)
    · rcases w with w | w
      · exact Or.inl w
      · exact Or.inr (Or.inr w)
  rcases sv_side (r := 389 + 4 * sl) (p := i) (sd := 0) hB e1 (by omega) l3 (by omega) (by omega) (by omega) rfl with ⟨x1, m1, f1, f2, f3, f4⟩ | ⟨xe, x1, m1, n1, f1, f2, f3, f4, f5, f6, f7, f8⟩
  · obtain ⟨B1, L1, o1, ux, um, -, -, -⟩ := sL (f3.weak fun _ _ z => Or.inl z) (f4.weak fun _ _ z => Or.inl z)
    refine ⟨3, x1, m1, n, M, ρ, by omega, fun k cn hc => ?_, by rw [asks _ _ f2, if_pos rfl]; rfl, B1, L1, Int.le_refl _, ux, um, o1, fun z => by omega⟩
    rw [one k cn hc]
    rcases f1 with f1 | ⟨xe, w, g1, g2, g3⟩
    · rw [f1, Option.bind_some, if_pos rfl]
    · rw [g1, Option.bind_some, if_neg (show ¬ (1 : Int) = 0 by decide), g2, Option.bind_some, if_neg g3]
  · have n1b := f4.2.2.1
    have hX1 := hX.upd f7
    have hM1 := hM.upd f8
    obtain ⟨x2, t1, t2, t3, t4⟩ := yz_take (σ := x1) (r := 389 + 4 * sl) (q := 244) hX1 (by omega) (by omega) (by omega) (by rw [f4.2.1]; omega) (by rw [f4.2.1]; omega) (by rw [f4.2.1]; omega)
    rw [f4.2.1] at t3 t4
    have hX2 := hX1.upd t2
    have u114 : bz_Upd m1 (az_wr m1 804 114 n1) (fun a k => a = 804 ∧ k = 114) := bz_Upd.wr bz_Upd.refl ⟨rfl, rfl⟩ (by decide)
    have hM1a := hM1.upd u114
    obtain ⟨m2, y1, y2, y3⟩ := sv_c21 (e := i) (m := az_wr m1 804 114 n1) (n := n1) hM1a (by rw [az_wr_ne (by omega)]; exact f6) n1b.2 n1.toNat 2000000 (az_wr m1 804 114 n1) 0 (by omega) (by omega) (by omega) bz_Upd.refl (fun i i0 i1 => by omega)
    have hM2 := hM1a.upd y2
    have ux2 : bz_Upd x x2 (fun a k => sv_X1 a k ∨ yz_S (389 + 4 * sl) a k ∨ yz_S (391 + 4 * sl) a k) := (f7.weak fun _ _ z => Or.inl z).trans (t2.weak fun _ _ z => Or.inr (Or.inl z))
    have um2 : bz_Upd m m2 (fun a k => sv_M1 a k ∨ a = 866 ∨ a = 867 ∨ (a = 804 ∧ (k = 114 ∨ k = 115))) := ((f8.weak fun _ _ z => Or.inl z).trans (u114.weak fun _ _ z => Or.inr (Or.inr (Or.inr ⟨z.1, Or.inl z.2⟩)))).trans (y2.weak fun _ _ z => Or.inr (Or.inl z))
    obtain ⟨B2, L2, o2, uxc2, umc2, tS2, -, -⟩ := sL ux2 um2
    have v12 : bz_Upd m1 m2 (fun a k => (a = 804 ∧ k = 114) ∨ a = 866) := (u114.weak fun _ _ z => Or.inl z).trans (y2.weak fun _ _ z => Or.inr z)
    have tS12 : bz_tS m1 m2 := fun a k q => v12.2.2 a k (fun z => by omega)
    have R1 : rz_R x2 m2 T s V (389 + 4 * sl) 866 n1 := by
      obtain ⟨a1, a2, a3, a4, a5, a6, a7, a8⟩ := f4
      have cr : ∀ j, 0 ≤ j → j < n1 → bz_cr (bz_ct m2 s) (bz_ft m2 s) (m2.2 T 0) (m2.2 T 1) V (x2.2 (389 + 4 * sl + 1) j) (m2.2 866 j) := fun j j0 j1 => by
        rw [bz_ct_tS tS12, bz_ft_tS tS12, tS12 T 0 (by omega), tS12 T 1 (by omega), t4 j j0 j1, y3 j j0 j1, az_wr_ne (by omega)]
        exact a4 j j0 j1
      have l866 := ln_866 hM2
      refine ⟨⟨by omega, by omega, by omega, fun j j0 j1 => (cr j j0 (by omega)).I B2.1.1.tb.2.1 a7⟩, t3, a3, cr, ?_, ⟨by omega, by omega, by omega⟩, a7, a8⟩
      refine a5.cong (fun j j0 j1 => ?_)
      unfold bz_ra
      rw [t4 j j0 (by omega)]
    have e864 : ∀ k, m2.2 864 k = m.2 864 k := fun k => um2.2.2 864 k (fun w => by
      rcases w with w | w
      · have := sv_M1s w; omega
      · omega)
    have Q1 : ∀ j, 0 ≤ j → j < n1 → sv_Q m2 U (m2.2 866 j) := fun j j0 j1 z => by
      rw [y3 j j0 j1, az_wr_ne (by omega)] at z ⊢
      rw [e864]
      exact f5 j j0 j1 z
    have ux2a : bz_Upd x x2 (fun a k => sv_X1 a k ∨ yz_S (389 + 4 * sl) a k) := (f7.weak fun _ _ z => Or.inl z).trans (t2.weak fun _ _ z => Or.inr z)
    have kR : ∀ a k, a = 391 + 4 * sl ∨ a = 391 + 4 * sl + 1 → x2.2 a k = x.2 a k := fun a k q => ux2a.2.2 a k (fun w => by
      rcases w with w | w
      · have := X1c a k w; omega
      · unfold yz_S at w; omega)
    have k86 : ∀ a k, 860 ≤ a → a ≤ 862 → m2.2 a k = m.2 a k := fun a k q q' => um2.2.2 a k (fun w => by
      rcases w with w | w
      · have := sv_M1s w; omega
      · omega)
    have e2' : qz_Row x2 m2 T s U V (391 + 4 * sl) 860 (60 * (2 * i + 1)) (m.2 861 (2 * i + 1)) := e2.cong hT tS2 (fun k => kR _ k (Or.inl rfl)) (fun k => kR _ k (Or.inr rfl)) (fun j _ _ => k86 _ _ (by omega) (by omega)) (um2.ln _)
    have oneX : ∀ (k : Nat) (cn : Int), i < cn → fz_X8_oneRound_26 2000000 (k + 1) x 380 T 243 cn at' i = ((fz_X8_expand 2000000 x2 380 (391 + 4 * sl) 244).bind fun r15 => (if r15.1 = 0 then fz_X8_oneRound_140 2000000 (fz_X8_oneRound_26 2000000 k) r15.2 380 T 243 cn at' i sl 3 else ((fz_X5_reduceAll 2000000 r15.2 243 0).bind fun r16 => (if r16.1 = 0 then ((az_gref r16.2 380 13).bind fun x17 => ((az_arr r16.2 x17 sl).bind fun x18 => ((az_gref r16.2 243 3).bind fun x19 => ((fz_X7_take r16.2 x18 x19).bind fun r20 => ((fz_X8_settle 2000000 r20 380 T sl).bind fun r21 => fz_X8_oneRound_140 2000000 (fz_X8_oneRound_26 2000000 k) r21.2 380 T 243 cn at' i sl r21.1))))) else fz_X8_oneRound_140 2000000 (fz_X8_oneRound_26 2000000 k) r16.2 380 T 243 cn at' i sl 3)))) := fun k cn hc => by
      rw [one k cn hc, f1, Option.bind_some, if_neg (show ¬ (1 : Int) = 0 by decide), f2, Option.bind_some, if_pos rfl, fx_380_12 hX1, Option.bind_some, (rs hX1).1, Option.bind_some, fx_243_3 hX1, Option.bind_some, t1, Option.bind_some, fx_380_13 hX2, Option.bind_some, (rs hX2).2, Option.bind_some, fx_243_3 hX2, Option.bind_some]
    have oneM : fz_X11_asks 2000000 m 804 i = ((fz_X11_reducesSide 2000000 m2 804 i 1).bind fun r1 => (if r1.1 = 0 then (some (3, r1.2)) else fz_X11_asks_68 2000000 2000000 (az_wr r1.2 804 115 (r1.2.2 804 70)) 804 i 0)) := by
      rw [asks _ _ f3, if_neg (show ¬ (1 : Int) = 0 by decide), f6, y1]
    rcases sv_side (r := 391 + 4 * sl) (p := i) (sd := 1) B2 e2' (by omega) l3 (by omega) (by omega) (by omega) (k86 861 _ (by omega) (by omega)) with ⟨x3, m3, g1, g2, g3, g4⟩ | ⟨xe', x3, m3, n2, g1, g2, g3, g4, g5, g6, g7, g8⟩
    · obtain ⟨B3, L3, o3, ux, um, -, -, -⟩ := sL (ux2.trans (g3.weak fun _ _ z => Or.inl z)) (um2.trans (g4.weak fun _ _ z => Or.inl z))
      refine ⟨3, x3, m3, n, M, ρ, by omega, fun k cn hc => ?_, by rw [oneM, g2, Option.bind_some, if_pos rfl]; rfl, B3, L3, Int.le_refl _, ux, um, o3, fun z => by omega⟩
      rw [oneX k cn hc]
      rcases g1 with g1 | ⟨xe', w, h1, h2, h3⟩
      · rw [g1, Option.bind_some, if_pos rfl]
      · rw [h1, Option.bind_some, if_neg (show ¬ (1 : Int) = 0 by decide), h2, Option.bind_some, if_neg h3]
    · have n2b := g4.2.2.1
      have hX3 := hX2.upd g7
      have hM3 := hM2.upd g8
      obtain ⟨x4, p1, p2, p3, p4⟩ := yz_take (σ := x3) (r := 391 + 4 * sl) (q := 244) hX3 (by omega) (by omega) (by omega) (by rw [g4.2.1]; omega) (by rw [g4.2.1]; omega) (by rw [g4.2.1]; omega)
      rw [g4.2.1] at p3 p4
      have u115 : bz_Upd m3 (az_wr m3 804 115 n2) (fun a k => a = 804 ∧ k = 115) := bz_Upd.wr bz_Upd.refl ⟨rfl, rfl⟩ (by decide)
      have hM3a := hM3.upd u115
      obtain ⟨m4, z1, z2, z3⟩ := sv_c68 (e := i) (m := az_wr m3 804 115 n2) (n := n2) hM3a (by rw [az_wr_ne (by omega)]; exact g6) n2b.2 n2.toNat 2000000 (az_wr m3 804 115 n2) 0 (by omega) (by omega) (by omega) bz_Upd.refl (fun i i0 i1 => by omega)
      have hM4 := hM3a.upd z2
      have uxb : bz_Upd x2 x4 (fun a k => sv_X1 a k ∨ yz_S (391 + 4 * sl) a k) := (g7.weak fun _ _ z => Or.inl z).trans (p2.weak fun _ _ z => Or.inr z)
      have umb : bz_Upd m2 m4 (fun a k => sv_M1 a k ∨ a = 867 ∨ (a = 804 ∧ k = 115)) := ((g8.weak fun _ _ z => Or.inl z).trans (u115.weak fun _ _ z => Or.inr (Or.inr z))).trans (z2.weak fun _ _ z => Or.inr (Or.inl z))
      obtain ⟨B4, L4, o4, uxc, umc, tS4, g865, k383⟩ := sL (ux2.trans (uxb.weak fun _ _ z => z.imp id Or.inr)) (um2.trans (umb.weak fun a k z => z.imp id fun z => by omega))
      have v34 : bz_Upd m3 m4 (fun a k => (a = 804 ∧ k = 115) ∨ a = 867) := (u115.weak fun _ _ z => Or.inl z).trans (z2.weak fun _ _ z => Or.inr z)
      have tS34 : bz_tS m3 m4 := fun a k q => v34.2.2 a k (fun z => by omega)
      have R2 : rz_R x4 m4 T s V (391 + 4 * sl) 867 n2 := by
        obtain ⟨a1, a2, a3, a4, a5, a6, a7, a8⟩ := g4
        have cr : ∀ j, 0 ≤ j → j < n2 → bz_cr (bz_ct m4 s) (bz_ft m4 s) (m4.2 T 0) (m4.2 T 1) V (x4.2 (391 + 4 * sl + 1) j) (m4.2 867 j) := fun j j0 j1 => by
          rw [bz_ct_tS tS34, bz_ft_tS tS34, tS34 T 0 (by omega), tS34 T 1 (by omega), p4 j j0 j1, z3 j j0 j1, az_wr_ne (by omega)]
          exact a4 j j0 j1
        have l867 := ln_867 hM4
        refine ⟨⟨by omega, by omega, by omega, fun j j0 j1 => (cr j j0 (by omega)).I B4.1.1.tb.2.1 a7⟩, p3, a3, cr, ?_, ⟨by omega, by omega, by omega⟩, a7, a8⟩
        refine a5.cong (fun j j0 j1 => ?_)
        unfold bz_ra
        rw [p4 j j0 (by omega)]
      have km : ∀ a k, a = 866 ∨ a = 864 ∨ (a = 804 ∧ k = 114) → m4.2 a k = m2.2 a k := fun a k q => umb.2.2 a k (fun w => by
        rcases w with w | w
        · have := sv_M1s w; omega
        · omega)
      have R1' : rz_R x4 m4 T s V (389 + 4 * sl) 866 n1 := yz_gR R1 hT uxb umb (fun a k w => by
        rcases w with w | w
        · have := X1c a k w; omega
        · unfold yz_S at w; omega) (fun a k w => by
        rcases w with w | w
        · have := sv_M1s w; unfold nz_t; omega
        · unfold nz_t; omega)
      have Q1' : ∀ j, 0 ≤ j → j < n1 → sv_Q m4 U (m4.2 866 j) := fun j j0 j1 z => by
        rw [km 866 j (by omega)] at z ⊢
        rw [km 864 _ (by omega)]
        exact Q1 j j0 j1 z
      have Q2 : ∀ j, 0 ≤ j → j < n2 → sv_Q m4 U (m4.2 867 j) := fun j j0 j1 z => by
        rw [z3 j j0 j1, az_wr_ne (by omega)] at z ⊢
        rw [km 864 _ (by omega)]
        exact g5 j j0 j1 z
      have e114 : m4.2 804 114 = n1 := by rw [km 804 114 (by omega), y2.2.2 804 114 (fun z => by omega), az_wr_same]
      have e115 : m4.2 804 115 = n2 := by rw [z2.2.2 804 115 (fun z => by omega), az_wr_same]
      have P4 : sv_P x4 m4 T s U V ρ n M i i sl n1 n2 := ⟨B4, L4, ⟨l3, iM, by rw [g865]; exact gi, by rw [g865, k383, ← hat, ← hs], sb.1, sb.2⟩, o4, ⟨R1', Q1'⟩, ⟨R2, Q2⟩, e114, e115⟩
      obtain ⟨v, x', m', n', M', ρ', c1, c2, c3, c4, c5, c6, c7, c8, c9, c10⟩ := sv_settle P4
      refine ⟨v, x', m', n', M', ρ', c1, fun k cn hc => ?_, ?_, c4, c5, c6, uxc.trans (c7.weak fun _ _ z => Or.inr z), umc.trans (c8.weak fun _ _ z => Or.inr (Or.inl z)), c9, fun z => ⟨n1, n2, c10 z⟩⟩
      · rw [oneX k cn hc, g1, Option.bind_some, if_neg (show ¬ (1 : Int) = 0 by decide), g2, Option.bind_some, if_pos rfl, fx_380_13 hX3, Option.bind_some, (rs hX3).2, Option.bind_some, fx_243_3 hX3, Option.bind_some, p1, Option.bind_some, c2, Option.bind_some]
      · rw [oneM, g3, Option.bind_some, if_neg (show ¬ (1 : Int) = 0 by decide), g6, z1, c3]
end SO
