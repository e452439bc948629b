-- the call ends
theorem en_ard {σ y : az_Hp} {a i : Int} (h1 : az_ln y a = az_ln σ a) (h2 : y.2 a i = σ.2 a i) : az_ard y a i = az_ard σ a i := by
  unfold az_ard
  rw [h1, h2]
theorem en_isEq {σ y : az_Hp} {e : Int} (hF : bz_Fx σ) (hY : bz_Fx y) (hl : az_ln y 808 = az_ln σ 808) (h14 : y.2 804 14 = σ.2 804 14) (h8 : ∀ k, y.2 808 k = σ.2 808 k) : fz_X11_isEquation y 804 e = fz_X11_isEquation σ 804 e := by
  unfold fz_X11_isEquation
  rw [fx_804_18 hY, fx_804_18 hF, Option.bind_some, Option.bind_some, h14, en_ard hl (h8 _)]
  rfl
def en_S (a k : Int) : Prop := cz_SJ a k ∨ pz_SX a k ∨ (a = 1 ∧ k = 2)
def en_SM (a k : Int) : Prop := cz_SM a k ∨ (a = 804 ∧ (k = 57 ∨ k = 58 ∨ k = 60 ∨ k = 2)) ∨ a = 837 ∨ a = 836
theorem en_np {a k : Int} (h : en_S a k ∨ en_SM a k) : cz_np a k := by
  unfold en_S en_SM cz_SJ cz_SM pz_SX pz_SP at h
  unfold cz_np cz_ns cz_nk
  rcases h with (h | h | h) | (h | h | h | h)
  · exact Or.inl (Or.inl (Or.inr (Or.inl (by omega))))
  · rcases h with (h | h) | h
    · exact Or.inr (Or.inl h)
    · exact Or.inr (Or.inr (Or.inl h))
    · exact Or.inl (Or.inl (by omega))
  · exact Or.inl (Or.inr (Or.inl h))
  · exact Or.inl (Or.inl (by omega))
  · by_cases z : k = 57 ∨ k = 58
    · exact Or.inr (Or.inr (Or.inr (Or.inr ⟨h.1, z⟩)))
    · by_cases z2 : k = 2
      · exact Or.inl (Or.inr (Or.inr ⟨h.1, z2⟩))
      · exact Or.inl (Or.inl (by omega))
  · exact Or.inl (Or.inl (by omega))
  · exact Or.inr (Or.inr (Or.inr (Or.inl h)))
/-- both equations are there, their left sides meet -/
theorem en_good {σ x4 m6 : az_Hp} {T s a b c : Int} (h : cz_K σ T s) (qa : 0 ≤ a ∧ a < σ.2 T 2) (qb : 0 ≤ b ∧ b < σ.2 T 2) (cw : c = 0 ∨ c = 1) (rX : fz_X1_meetLefts 2000000 σ 242 T a b = some (1, x4)) (ux4 : bz_Upd σ x4 cz_SJ) (P : mz_PostT σ σ T s a b x4 m6) :
    ∃ r σ1 σ2, fz_X10_ends_15 2000000 σ 1 a b c = some (r, σ1) ∧ fz_X11_ends_ 2000000 σ1 804 a b c = some (r, σ2) ∧ cz_J σ2 := by
  have hF := h.1.1
  have hT := h.1.2.2.2.2.2.2.2.1
  have g5 := cz_t5 h
  have eX1 := cz_isEqX (e := a) h
  have eX2 := cz_isEqX (e := b) h
  have eM1 := cz_isEqM (e := a) h
  have eM2 := cz_isEqM (e := b) h
  rw [if_pos qa] at eX1 eM1
  rw [if_pos qb] at eX2 eM2
  have H0 : mz_H σ σ T s := (cz_rzC h (bz_Upd.refl (σ := σ))).1.1
  obtain ⟨x5, x6, _, r, _, n1, n2, ux46, ux45, -, -, -, r0, pu, -⟩ := en_core H0 qa.1 qa.2 qb.1 qb.2 cw ux4 P
  have ux5 := ux4.trans ux45
  have ux6 := ux4.trans ux46
  have F4 := hF.upd ux4
  have F5 := hF.upd ux5
  have F6 := hF.upd ux6
  have u7 : bz_Upd x6 (az_wr x6 801 0 0) pz_SX := bz_Upd.wr bz_Upd.refl (Or.inl (Or.inl ⟨rfl, Or.inl rfl⟩)) (by decide)
  have F7 := F6.upd u7
  have sj : ∀ a k, cz_SJ a k → ¬ (a = 801) ∧ a ≠ 802 ∧ a ≤ 867 ∧ a ≠ 1 := fun a k z => by unfold cz_SJ at z; omega
  have O7 : pz_O (az_wr x6 801 0 0) [] := (pz_start h).cong ux6.1 (fun k => by
    by_cases e : k = 0
    · rw [e, az_wr_same, az_wr_same]
    · rw [az_wr_ne (by omega), az_wr_ne (by omega)]
      exact ux6.2.2 801 k (fun z => (sj _ _ z).1 rfl)) (fun a k z => by
    rw [az_wr_ne (by omega), az_wr_ne (by omega)]
    exact ux6.2.2 a k (fun w => by have := sj _ _ w; omega))
  obtain ⟨x8, p1, p2, -⟩ := pu _ (pz_U.of u7) O7
  have ux8 : pz_U σ x8 en_S := ((pz_U.of (ux6.weak fun _ _ z => Or.inl z)).trans (pz_U.of (u7.weak fun _ _ z => Or.inr (Or.inl z)))).trans (p2.weak fun _ _ z => Or.inr (Or.inl z))
  have F8 := ux8.fx hF
  obtain ⟨y, hy⟩ : ∃ y, y = az_wr x8 1 2 0 := ⟨_, rfl⟩
  have uy : pz_U σ y en_S := by
    rw [hy]
    exact ux8.trans (pz_U.of (bz_Upd.wr bz_Upd.refl (Or.inr (Or.inr ⟨rfl, rfl⟩)) (by decide)))
  have FY := uy.fx hF
  have Hy : mz_H σ y T s := pz_gH H0 (pz_U.refl (S := fun _ _ => False)) uy (fun a k z => z.elim) (fun a k z => by unfold en_S cz_SJ pz_SX pz_SP at z; unfold nz_t; omega)
  -- the reference
  obtain ⟨v', x4', m6', rX', rM', -, -, um', post'⟩ := mz_meetT Hy qa.1 qa.2 qb.1 qb.2
  have d1 := sy_det rX rX'
  obtain ⟨rfl, rfl⟩ : 1 = v' ∧ x4 = x4' := by
    rw [Prod.mk.injEq] at d1
    exact d1
  have P' := post' rfl
  have fam := en_fam Hy qa.1 qa.2 qb.1 qb.2 P'
  obtain ⟨x5', x6', m7, r', Wl, n1', n2', -, -, l1, l2, -, -, pu', tn⟩ := en_core Hy qa.1 qa.2 qb.1 qb.2 cw ux4 P'
  have d2 := sy_det n1 n1'
  subst d2
  have d3 := sy_det n2 n2'
  obtain ⟨rfl, rfl⟩ : r = r' ∧ x6 = x6' := by
    rw [Prod.mk.injEq] at d3
    exact d3
  obtain ⟨x8', p1', -, O8⟩ := pu' _ (pz_U.of u7) O7
  have d4 := sy_det p1 p1'
  subst d4
  obtain ⟨m8, hm8⟩ : ∃ m8, m8 = az_wr (az_wr m7 804 57 0) 804 58 1 := ⟨_, rfl⟩
  obtain ⟨m9, t1, t2, t3⟩ := tn m8 hm8 ⟨by rw [hm8, az_wr_ne (by omega), az_wr_same]; rfl, by simp, fun i hi => absurd hi (by simp)⟩
  have FM6 := FY.upd um'
  have u60 : bz_Upd m6' (az_wr m6' 804 60 0) lt_S := bz_Upd.wr bz_Upd.refl (Or.inl ⟨rfl, rfl⟩) (by decide)
  have F60 := FM6.upd u60
  have FM7 := F60.upd l2
  have u8 : bz_Upd y m8 en_SM := by
    rw [hm8]
    refine bz_Upd.wr (bz_Upd.wr (((um'.weak fun _ _ z => Or.inl z).trans (u60.weak fun a k z => ?_)).trans (l2.weak fun a k z => ?_)) (Or.inr (Or.inl ⟨rfl, Or.inl rfl⟩)) (by decide)) (Or.inr (Or.inl ⟨rfl, Or.inr (Or.inl rfl)⟩)) (by decide)
    · unfold lt_S at z; omega
    · unfold lt_S at z; omega
  have FM8 := FY.upd u8
  have u9 : bz_Upd y m9 en_SM := u8.trans (t2.weak fun a k z => by unfold pz_SR at z; unfold en_SM; omega)
  obtain ⟨f, hf⟩ : ∃ f, f = az_wr m9 804 2 0 := ⟨_, rfl⟩
  have uf : bz_Upd y f en_SM := by rw [hf]; exact u9.wr (Or.inr (Or.inl ⟨rfl, Or.inr (Or.inr (Or.inr rfl))⟩)) (by decide)
  have sm : ∀ a k, en_SM a k → a = 804 ∨ (823 ≤ a ∧ a ≤ 837) := fun a k z => by unfold en_SM cz_SM at z; omega
  have E : ∀ a k, a ≠ 804 → ¬ (823 ≤ a ∧ a ≤ 837) → ¬ (a = 1 ∧ k = 2) → f.2 a k = x8.2 a k := fun a k z1 z2 z3 => by
    rw [uf.2.2 a k (fun w => by have := sm a k w; omega), hy, az_wr_ne z3]
  have Of : pz_O f Wl := O8.cong (by rw [uf.1, hy]; rfl) (fun k => E 801 k (by omega) (by omega) (by omega)) (fun a k z => E a k (by omega) (by omega) (by omega))
  have Rf : pz_R f Wl := by
    rw [hf]
    exact ⟨by rw [az_wr_ne (by omega)]; exact t3.1, t3.2.1, fun i hi => by rw [az_wr_ne (by omega)]; exact t3.2.2 i hi⟩
  have e58 : f.2 804 58 = 1 := by
    rw [hf, az_wr_ne (by omega), t2.2.2 804 58 (by unfold pz_SR; omega), hm8, az_wr_same]
  have uz : pz_U σ f cz_np := (uy.weak fun a k z => en_np (Or.inl z)).trans (pz_U.of (uf.weak fun a k z => en_np (Or.inr z)))
  have e0 : x8.2 801 0 = Wl.length := by obtain ⟨j, -, -, -, -, -, j6, -⟩ := O8; exact j6
  refine ⟨(Wl.length : Int), y, f, ?_, ?_, T, s, cz_keepP uz h (pz_done Of Rf e58), ?_⟩
  · have g : ∀ {x'}, bz_Fx x' → (∀ k, x'.2 1 k = σ.2 1 k) → az_gref x' 1 5 = some T := fun _ hk => bz_gr (by rw [hk]; exact h.1.2.1) (by omega)
    have k5 : ∀ k, x5.2 1 k = σ.2 1 k := fun k => ux5.2.2 1 k (fun z => (sj _ _ z).2.2.2 rfl)
    have k6 : ∀ k, x6.2 1 k = σ.2 1 k := fun k => ux6.2.2 1 k (fun z => (sj _ _ z).2.2.2 rfl)
    have k7 : ∀ k, (az_wr x6 801 0 0).2 1 k = σ.2 1 k := fun k => by rw [az_wr_ne (by omega)]; exact k6 k
    have tg5 := bz_tg F5 hT
    have H5 : mz_H x5 σ T s := H0.gen ux5 (bz_Upd.refl (S := cz_SM)) (fun a k z => by unfold cz_SJ at z; unfold nz_t; omega) (fun a k z => by unfold cz_SM at z; unfold nz_t; omega)
    have eq5 : x5.2 T 2 = σ.2 T 2 := ux5.2.2 _ _ (fun z => by unfold cz_SJ at z; omega)
    have refa := mz_leftRef H5 qa.1 (by rw [eq5]; exact qa.2)
    have refb := mz_leftRef H5 qb.1 (by rw [eq5]; exact qb.2)
    have last : ∀ e', e' = (if c = 0 then a else b) → az_arr x5 (T + 10) e' = some (T + 17 + 4 * e') → fz_X10_ends_94 2000000 x5 1 c 231 (T + 10) e' = some ((Wl.length : Int), y) := by
      intro e' he hr
      rw [← he] at n2
      unfold fz_X10_ends_94
      rw [hr, Option.bind_some, n2, Option.bind_some, fx_1_17 F6, Option.bind_some, fx_1_17 F7, Option.bind_some, fx_1_9 F7, Option.bind_some, g F7 k7, Option.bind_some, p1, Option.bind_some, fx_1_17 F8, Option.bind_some, e0, hy]
      rfl
    unfold fz_X10_ends_15
    rw [eX1, Option.bind_some, if_neg (by decide), eX2, Option.bind_some, if_neg (by decide), fx_1_10 hF, Option.bind_some, g5, Option.bind_some, rX, Option.bind_some, if_pos rfl, fx_1_9 F4, Option.bind_some, fx_1_10 F4, Option.bind_some, n1, Option.bind_some, fx_1_9 F5, Option.bind_some, g F5 k5, Option.bind_some, refa.2.2.1, Option.bind_some]
    by_cases c0 : c = 0
    · rw [if_pos c0]
      exact last a (by rw [if_pos c0]) refa.2.2.2.1
    · rw [if_neg c0]
      exact last b (by rw [if_neg c0]) refb.2.2.2.1
  · have fa := (mz_fam Hy qa.1 qa.2).1
    have fb := (mz_fam Hy qb.1 qb.2).1
    have ky : ∀ a k, a = 808 ∨ (a = 804 ∧ k = 14) → y.2 a k = σ.2 a k := fun a k z => uy.2.2 a k (by omega) (fun w => by unfold en_S cz_SJ pz_SX pz_SP at w; omega)
    have iq : ∀ e, fz_X11_isEquation y 804 e = fz_X11_isEquation σ 804 e := fun e => en_isEq hF FY (uy.1 808 (by omega)) (ky _ _ (by omega)) (fun k => ky _ _ (by omega))
    have k833 : ∀ k, (az_wr m6' 804 60 0).2 833 k = m6'.2 833 k := fun k => az_wr_ne (by omega)
    have k833' : ∀ k, m8.2 833 k = m6'.2 833 k := fun k => by rw [hm8, az_wr_ne (by omega), az_wr_ne (by omega), l2.2.2 833 k (by unfold lt_S; omega), az_wr_ne (by omega)]
    have w2 : az_w32 (2 + c) = 2 + c := az_w32_id (by omega) (by omega)
    have fr : fz_X11_isFrom y c 0 1 = some 1 := by
      unfold fz_X11_isFrom
      rw [if_neg (by omega), if_neg (by omega)]
    unfold fz_X11_ends_
    rw [fr, Option.bind_some, if_neg (by decide), iq, eM1, Option.bind_some, if_neg (by decide), iq, eM2, Option.bind_some, if_neg (by decide), fa, Option.bind_some, fb, Option.bind_some, if_pos fam, rM', Option.bind_some, if_pos rfl, fx_804_53 F60, Option.bind_some, bz_ard (by omega) (by rw [ln_833 F60]; omega), Option.bind_some, k833, l1, Option.bind_some, ← hm8, fx_804_53 FM8, Option.bind_some, w2, bz_ard (by omega) (by rw [ln_833 FM8]; omega), Option.bind_some, k833', t1, Option.bind_some, t3.1, hf]
    rfl
  · have z1 : f.2 1 2 = 0 := by rw [uf.2.2 1 2 (fun w => by have := sm 1 2 w; omega), hy, az_wr_same]
    have z2 : f.2 804 2 = 0 := by rw [hf, az_wr_same]
    rw [z1, z2]
theorem cz_op_ends : bz_op_ends cz_J := by
  rintro a b c ha hb hc σ ⟨T, s, h, eq⟩
  have hF := h.1.1
  have hT := h.1.2.2.2.2.2.2.2.1
  have g5 := cz_t5 h
  have h1 : ∀ v, cz_K (az_wr σ 1 2 v) T s := fun v => cz_K1 h v
  have eX1 := cz_isEqX (e := a) h
  have eX2 := cz_isEqX (e := b) h
  have eM1 := fun v => cz_isEqM (e := a) (h1 v)
  have eM2 := fun v => cz_isEqM (e := b) (h1 v)
  have et : ∀ v, (az_wr σ 1 2 v).2 T 2 = σ.2 T 2 := fun v => az_wr_ne (by omega)
  simp only [et] at eM1 eM2
  by_cases q : c < 0 ∨ 1 < c
  · refine cz_rd (f := fun σ => fz_X10_ends 2000000 σ 1 a b c) (g := fun σ => fz_X11_ends_ 2000000 σ 804 a b c) h (r := -1) (v := 1) ?_ ?_
    · simp only [fz_X10_ends, fz_X10_refuse, Option.bind_some]
      rw [if_neg (by omega), if_neg (by omega)]
    · simp only [fz_X11_ends_, fz_X11_refuse, fz_X11_isFrom]
      by_cases q' : c < 0
      · rw [if_pos q']; rfl
      · rw [if_neg q', if_pos (by omega)]; rfl
  have cw : c = 0 ∨ c = 1 := by omega
  have n1 : ¬ c < 0 := by omega
  have n2 : ¬ 1 < c := by omega
  have pX : fz_X10_ends 2000000 σ 1 a b c = fz_X10_ends_15 2000000 σ 1 a b c := by
    unfold fz_X10_ends
    by_cases c0 : c = 0
    · rw [if_pos c0]
    · rw [if_neg c0, if_pos (by omega)]
  have fr : ∀ y, fz_X11_isFrom y c 0 1 = some 1 := fun y => by
    unfold fz_X11_isFrom
    rw [if_neg n1, if_neg n2]
  by_cases qa : 0 ≤ a ∧ a < σ.2 T 2
  · by_cases qb : 0 ≤ b ∧ b < σ.2 T 2
    · have H0 : mz_H σ σ T s := (cz_rzC h (bz_Upd.refl (σ := σ))).1.1
      obtain ⟨v, x4, m6, rX, -, hv, ux4, -, post⟩ := mz_meetT H0 qa.1 qa.2 qb.1 qb.2
      by_cases v1 : v = 1
      · subst v1
        obtain ⟨r, σ1, σ2, r1, r2, r3⟩ := en_good h qa qb cw rX ux4 (post rfl)
        exact ⟨r, σ1, σ2, by show fz_X10_ends 2000000 σ 1 a b c = _; rw [pX]; exact r1, r2, r3⟩
      · have uk4 : bz_Upd σ x4 cz_nk := ux4.weak (fun a k z => by unfold cz_SJ at z; unfold cz_nk; omega)
        obtain ⟨u1, k1, -, eT, -⟩ := tz_at (v := 5) h uk4
        have H1 : mz_H σ (az_wr x4 1 2 5) T s := (cz_rzC h u1).1.1
        obtain ⟨v', x4', m6', rX', rM', -, -, um', -⟩ := mz_meetT H1 qa.1 qa.2 qb.1 qb.2
        have d1 := sy_det rX rX'
        obtain ⟨rfl, rfl⟩ : v = v' ∧ x4 = x4' := by
          rw [Prod.mk.injEq] at d1
          exact d1
        have fa := (mz_fam H1 qa.1 qa.2).1
        have fb := (mz_fam H1 qb.1 qb.2).1
        have m1 := cz_isEqM (e := a) k1
        have m2 := cz_isEqM (e := b) k1
        rw [eT, if_pos qa] at m1
        rw [eT, if_pos qb] at m2
        rw [if_pos qa] at eX1
        rw [if_pos qb] at eX2
        have runX : fz_X10_ends 2000000 σ 1 a b c = some (-1, az_wr x4 1 2 5) := by
          rw [pX]
          unfold fz_X10_ends_15
          rw [eX1, Option.bind_some, if_neg (by decide), eX2, Option.bind_some, if_neg (by decide), fx_1_10 hF, Option.bind_some, g5, Option.bind_some, rX, Option.bind_some, if_neg v1]
          rfl
        by_cases qo : σ.2 (T + 7) a = σ.2 (T + 7) b
        · refine cz_rw (f := fun σ => fz_X10_ends 2000000 σ 1 a b c) (g := fun σ => fz_X11_ends_ 2000000 σ 804 a b c) h (r := -1) (v := 5) uk4 runX (um'.weak (fun a k z => by unfold cz_SM at z; unfold cz_nk; omega)) ?_
          show fz_X11_ends_ 2000000 (az_wr x4 1 2 5) 804 a b c = _
          unfold fz_X11_ends_
          rw [fr, Option.bind_some, if_neg (by decide), m1, Option.bind_some, if_neg (by decide), m2, Option.bind_some, if_neg (by decide), fa, Option.bind_some, fb, Option.bind_some, if_pos qo, rM', Option.bind_some, if_neg v1]
          rfl
        · refine cz_rw (f := fun σ => fz_X10_ends 2000000 σ 1 a b c) (g := fun σ => fz_X11_ends_ 2000000 σ 804 a b c) h (r := -1) (v := 5) uk4 runX bz_Upd.refl ?_
          show fz_X11_ends_ 2000000 (az_wr x4 1 2 5) 804 a b c = _
          unfold fz_X11_ends_
          rw [fr, Option.bind_some, if_neg (by decide), m1, Option.bind_some, if_neg (by decide), m2, Option.bind_some, if_neg (by decide), fa, Option.bind_some, fb, Option.bind_some, if_neg qo]
          rfl
    · refine cz_rd (f := fun σ => fz_X10_ends 2000000 σ 1 a b c) (g := fun σ => fz_X11_ends_ 2000000 σ 804 a b c) h (r := -1) (v := 2) ?_ ?_
      · show fz_X10_ends 2000000 σ 1 a b c = _
        rw [pX]
        rw [if_pos qa] at eX1
        rw [if_neg qb] at eX2
        unfold fz_X10_ends_15
        rw [eX1, Option.bind_some, if_neg (by decide), eX2, Option.bind_some, if_pos rfl]
        rfl
      · show fz_X11_ends_ 2000000 (az_wr σ 1 2 2) 804 a b c = _
        have z1 := eM1 2
        have z2 := eM2 2
        rw [if_pos qa] at z1
        rw [if_neg qb] at z2
        unfold fz_X11_ends_
        rw [fr, Option.bind_some, if_neg (by decide), z1, Option.bind_some, if_neg (by decide), z2, Option.bind_some, if_pos rfl]
        rfl
  · refine cz_rd (f := fun σ => fz_X10_ends 2000000 σ 1 a b c) (g := fun σ => fz_X11_ends_ 2000000 σ 804 a b c) h (r := -1) (v := 2) ?_ ?_
    · show fz_X10_ends 2000000 σ 1 a b c = _
      rw [pX]
      rw [if_neg qa] at eX1
      unfold fz_X10_ends_15
      rw [eX1, Option.bind_some, if_pos rfl]
      rfl
    · show fz_X11_ends_ 2000000 (az_wr σ 1 2 2) 804 a b c = _
      have z1 := eM1 2
      rw [if_neg qa] at z1
      unfold fz_X11_ends_
      rw [fr, Option.bind_some, if_neg (by decide), z1, Option.bind_some, if_pos rfl]
      rfl
