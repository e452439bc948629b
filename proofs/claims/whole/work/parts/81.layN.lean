/-! a NAME laid out, and every TERM -/
section TM5
variable {ct ft : Int → Int} {nc nf : Int} {W : Int → Int → Int → Prop} {r st who fl en A off : Int}
theorem lz_frm_at {σ : az_Hp} {D ν a : Int} (ha : 0 < a) : (∀ b k, b ≠ 240 → b ≠ 241 → (lz_frm σ D ν a).2 b k = σ.2 b k) ∧ (∀ j, j ≠ D → (lz_frm σ D ν a).2 240 j = σ.2 240 j ∧ (lz_frm σ D ν a).2 241 j = σ.2 241 j) ∧ (lz_frm σ D ν a).2 240 D = ν ∧ (lz_frm σ D ν a).2 241 D = 0 := by
  unfold lz_frm
  rw [if_pos ha]
  refine ⟨fun b k h1 h2 => by rw [az_wr_ne (by omega), az_wr_ne (by omega)], fun j hj => ⟨by rw [az_wr_ne (by omega), az_wr_ne (by omega)], by rw [az_wr_ne (by omega), az_wr_ne (by omega)]⟩, by rw [az_wr_ne (by omega), az_wr_same], az_wr_same⟩
/-- the class at a NAME -/
theorem lz_nvX {σx σm : az_Hp} {c D dep v6 i : Int} (hEn : lz_En ct ft nc nf W r st who fl en A off σx σm) (hLS : lz_LS ct ft nc nf W σx σm c) (hc : c < 120) (hFR : lz_FR σx c dep D) (hD : D ≤ 100) (hi : st ≤ i) (hie : i < en) (hnh : ¬ (fl = 1 ∧ st < i ∧ bz_kd (σx.2 (r + 1) i) = 2)) (hv : ¬ ez_iX (σx.2 (r + 1) i)) (K : Nat) :
    fz_X0_lay_16 2000000 (K + 1) σx 231 r st who fl en v6 dep i = fz_X0_lay_16 2000000 K (lz_frm (lz_att (lz_new σx who i (σx.2 (r + 1) i)) D c) D c (bz_ar (σx.2 (r + 1) i))) 231 r st who fl en (if 0 < D then v6 else c) (if 0 < bz_ar (σx.2 (r + 1) i) then D + 1 else D) (i + 1) := by
  obtain ⟨t1, t2, t3, t4⟩ := hEn.tk hi hie
  obtain ⟨hFx, hFm, hsd, htb, hct, hft, hrw, ⟨s0, s1, s2, s3, s4, s5⟩, hcr, ⟨hVV, hW9⟩, hfl⟩ := hEn
  have hLI := hLS.I htb
  obtain ⟨⟨e231, e49, c0, c1⟩, -⟩ := hLS
  have h60 := @bz_cap60 r
  have hcapr := hrw.2.2.1
  have h1 := hFR.1
  have h2 := hFR.2.1
  have h3 := hFR.2.2.1
  obtain ⟨n1, n2, n3, n4, n5, n6, n7⟩ := lz_new_at (σ := σx) (who := who) (i := i) (s := σx.2 (r + 1) i)
  have FRn := lz_FR.new (σ := σx) (who := who) (i := i) (s := σx.2 (r + 1) i) (dep := dep) (D := D) (by rw [e231]; exact hFR)
  have uN := lz_new_upd (σ := σx) (who := who) (i := i) (sign := σx.2 (r + 1) i)
  rw [e231] at n1 n2 n3 n4 n5 n6 FRn
  have ua := lz_att_upd (σ := lz_new σx who i (σx.2 (r + 1) i)) (D := D) (ν := c)
  have hI' : ∀ q, dz_In (c + 1) q → bz_I ((lz_new σx who i (σx.2 (r + 1) i)).2 232 q) := by
    intro q hq
    by_cases e : q = c
    · rw [e, n2]; exact t4
    · have hq' : dz_In c q := ⟨hq.1, by have := hq.2; omega⟩
      rw [(n6 q hq').1]
      exact hLI q hq'
  rw [(lz_head (n := 2000000) (who := who) (st := st) (en := en) (fl := fl) (v6 := v6) (dep := dep) (k := K) hFx hrw (by omega) (by omega : i < σx.2 r 1) hie hfl rfl).2.2 hnh hv, lz_alloc hFx (by omega) (by omega) (by omega) h3, e231, lz_pop (c := c + 1) (hFx.upd uN) (by omega) hI' (dep - D).toNat 2000000 dep (by omega) (by omega) FRn, lz_attach (hFx.upd uN) (by omega) FRn, lz_frame ((hFx.upd uN).upd ua) h1 (by omega) t4, az_w32_id (by omega) (by omega)]
/-- what a NAME's node is; the reference's new node -/
theorem lz_nvS {σx σm : az_Hp} {c D dep i rd : Int} {d : Nat} (hEn : lz_En ct ft nc nf W r st who fl en A off σx σm) (hSt : lz_St ct ft nc nf W r st en who fl off d σx σm c) (hd : 0 < d) (hFR : lz_FR σx c dep D) (hi : st ≤ i) (hie : i < en) (hv : ¬ ez_iX (σx.2 (r + 1) i)) (hnh : ¬ (fl = 1 ∧ st < i ∧ bz_kd (σx.2 (r + 1) i) = 2)) :
    let σN := lz_att (lz_new σx who i (σx.2 (r + 1) i)) D c
    let σM := az_wr (az_wr (az_wr (az_wr σm 804 52 rd) 823 c (σm.2 A (off + i))) 825 c c) 804 49 (c + 1)
    bz_Upd σx σN lz_S ∧ bz_Upd σm σM lz_T ∧ lz_LS ct ft nc nf W σN σM (c + 1) ∧ ((fl = 1 → lz_FL r st en who off σN σM (c + 1) ∧ σM.2 804 51 = σm.2 804 51) ∧ σM.2 804 51 = σm.2 804 51) ∧ lz_kX σx σN c ∧ lz_kM σm σM c ∧ (∀ x, σM.2 824 x = σm.2 824 x) ∧ σN.2 232 c = σx.2 (r + 1) i ∧ (σN.2 235 c = c ∧ σN.2 233 c = who) ∧ σM.2 825 c = c ∧ σM.2 804 52 = rd ∧ σm.2 A (off + i) < 1000 ∧ (∀ j, σN.2 240 j = σx.2 240 j) ∧ (∀ j, (0 < D → j ≠ D - 1) → σN.2 241 j = σx.2 241 j) ∧ (0 < D → σN.2 241 (D - 1) = σx.2 241 (D - 1) + 1 ∧ σN.2 238 (3 * σx.2 240 (D - 1) + σx.2 241 (D - 1)) = c) ∧ ∀ x, (0 < D → x ≠ 3 * σx.2 240 (D - 1) + σx.2 241 (D - 1)) → σN.2 238 x = σx.2 238 x := by
  intro σN σM
  have hEn0 := hEn
  obtain ⟨t1, t2, t3, t4⟩ := hEn.tk hi hie
  obtain ⟨hFx, hFm, hsd, htb, hct, hft, hrw, ⟨s0, s1, s2, s3, s4, s5⟩, hcr, ⟨hVV, hW9⟩, hfl⟩ := hEn
  obtain ⟨hLS, hFL, hc120⟩ := hSt
  have hLS0 := hLS
  obtain ⟨⟨e231, e49, c0, c1⟩, lnd, ⟨b0, b1⟩, lvd, linc, lall⟩ := hLS
  have hcri := hcr i hi hie
  obtain ⟨n1, n2, n3, n4, n5, n6, n7⟩ := lz_new_at (σ := σx) (who := who) (i := i) (s := σx.2 (r + 1) i)
  have uN := lz_new_upd (σ := σx) (who := who) (i := i) (sign := σx.2 (r + 1) i)
  rw [e231] at n1 n2 n3 n4 n5 n6
  obtain ⟨a1, a2, a3, a4⟩ := lz_att_at (σ := lz_new σx who i (σx.2 (r + 1) i)) (D := D) (ν := c)
  have ua := lz_att_upd (σ := lz_new σx who i (σx.2 (r + 1) i)) (D := D) (ν := c)
  have e240 : ∀ j, (lz_new σx who i (σx.2 (r + 1) i)).2 240 j = σx.2 240 j := fun j => n7 _ _ (by omega)
  have e241 : ∀ j, (lz_new σx who i (σx.2 (r + 1) i)).2 241 j = σx.2 241 j := fun j => n7 _ _ (by omega)
  have e238 : ∀ j, (lz_new σx who i (σx.2 (r + 1) i)).2 238 j = σx.2 238 j := fun j => n7 _ _ (by omega)
  rw [e240, e241] at a3 a4
  have uM : bz_Upd σm σM lz_T := lz_Tw (lz_Tw (lz_Tw (lz_Tw bz_Upd.refl (by unfold lz_T; omega)) (by unfold lz_T; omega)) (by unfold lz_T; omega)) (by unfold lz_T; omega)
  have em : ∀ b k, b ≠ 804 → b ≠ 823 → b ≠ 825 → σM.2 b k = σm.2 b k := fun b k h1 h2 h3 => by
    show (az_wr (az_wr (az_wr (az_wr σm 804 52 rd) 823 c (σm.2 A (off + i))) 825 c c) 804 49 (c + 1)).2 b k = _
    rw [az_wr_ne (by omega), az_wr_ne (by omega), az_wr_ne (by omega), az_wr_ne (by omega)]
  have em804 : ∀ k, k ≠ 49 → k ≠ 52 → σM.2 804 k = σm.2 804 k := fun k h1 h2 => by
    show (az_wr (az_wr (az_wr (az_wr σm 804 52 rd) 823 c (σm.2 A (off + i))) 825 c c) 804 49 (c + 1)).2 804 k = _
    rw [az_wr_ne (by omega), az_wr_ne (by omega), az_wr_ne (by omega), az_wr_ne (by omega)]
  -- a NAME
  have hm1 : σm.2 A (off + i) < 1000 ∧ bz_cr ct ft nc nf (fun _ _ => False) (σx.2 (r + 1) i) (σm.2 A (off + i)) := by
    unfold ez_iX at hv
    obtain ⟨z1, z2, z3, z4, z5, z6⟩ := htb
    rcases hcri with h | h | h | h
    · omega
    · exact ⟨by omega, Or.inr (Or.inl h)⟩
    · exact ⟨by omega, Or.inr (Or.inr (Or.inl h))⟩
    · omega
  have x823 : ∀ n, dz_In c n → σM.2 823 n = σm.2 823 n := fun n hn => by
    have := hn.2
    show (az_wr (az_wr (az_wr (az_wr σm 804 52 rd) 823 c (σm.2 A (off + i))) 825 c c) 804 49 (c + 1)).2 823 n = _
    rw [az_wr_ne (by omega), az_wr_ne (by omega), az_wr_ne (by omega), az_wr_ne (by omega)]
  have x825 : ∀ n, dz_In c n → σM.2 825 n = σm.2 825 n := fun n hn => by
    have := hn.2
    show (az_wr (az_wr (az_wr (az_wr σm 804 52 rd) 823 c (σm.2 A (off + i))) 825 c c) 804 49 (c + 1)).2 825 n = _
    rw [az_wr_ne (by omega), az_wr_ne (by omega), az_wr_ne (by omega), az_wr_ne (by omega)]
  have y823 : σM.2 823 c = σm.2 A (off + i) := by
    show (az_wr (az_wr (az_wr (az_wr σm 804 52 rd) 823 c (σm.2 A (off + i))) 825 c c) 804 49 (c + 1)).2 823 c = _
    rw [az_wr_ne (by omega), az_wr_ne (by omega), az_wr_same]
  have y825 : σM.2 825 c = c := by
    show (az_wr (az_wr (az_wr (az_wr σm 804 52 rd) 823 c (σm.2 A (off + i))) 825 c c) 804 49 (c + 1)).2 825 c = _
    rw [az_wr_ne (by omega), az_wr_same]
  have y49 : σM.2 804 49 = c + 1 := az_wr_same
  have y52 : σM.2 804 52 = rd := by
    show (az_wr (az_wr (az_wr (az_wr σm 804 52 rd) 823 c (σm.2 A (off + i))) 825 c c) 804 49 (c + 1)).2 804 52 = _
    rw [az_wr_ne (by omega), az_wr_ne (by omega), az_wr_ne (by omega), az_wr_same]
  have s232 : ∀ n, σN.2 232 n = (lz_new σx who i (σx.2 (r + 1) i)).2 232 n := fun n => a1 _ _ (by decide) (by decide)
  have s233 : ∀ n, σN.2 233 n = (lz_new σx who i (σx.2 (r + 1) i)).2 233 n := fun n => a1 _ _ (by decide) (by decide)
  have s234 : ∀ n, σN.2 234 n = (lz_new σx who i (σx.2 (r + 1) i)).2 234 n := fun n => a1 _ _ (by decide) (by decide)
  have s235 : ∀ n, σN.2 235 n = (lz_new σx who i (σx.2 (r + 1) i)).2 235 n := fun n => a1 _ _ (by decide) (by decide)
  have kx : lz_kX σx σN c := fun n hn => by
    rw [s232, s233, s234, s235]
    exact n6 n hn
  refine ⟨uN.trans ua, uM, ?_, ⟨fun f => ?_, em804 51 (by decide) (by decide)⟩, kx, fun n hn => ⟨x823 n hn, x825 n hn⟩, fun x => em _ _ (by decide) (by decide) (by decide), by rw [s232]; exact n2, ⟨by rw [s235]; exact n5, by rw [s233]; exact n3⟩, y825, y52, hm1.1, fun j => by rw [show σN.2 240 j = (lz_new σx who i (σx.2 (r + 1) i)).2 240 j from a1 _ _ (by decide) (by decide)]; exact e240 j, fun j hj => by rw [show σN.2 241 j = (lz_new σx who i (σx.2 (r + 1) i)).2 241 j from a2 j hj]; exact e241 j, a4, fun x hx => by rw [show σN.2 238 x = (lz_new σx who i (σx.2 (r + 1) i)).2 238 x from a3 x hx]; exact e238 x⟩
  · refine hLS0.grow (by omega) ?_ y49 (fun n hn => ⟨(kx n hn).1, (kx n hn).2.1⟩) x823 ?_ (fun k k0 k1 => ⟨em _ _ (by decide) (by decide) (by decide), em _ _ (by decide) (by decide) (by decide), em _ _ (by decide) (by decide) (by decide)⟩) (Or.inl ⟨em804 50 (by decide) (by decide), ?_⟩)
    · rw [show σN.2 231 0 = (lz_new σx who i (σx.2 (r + 1) i)).2 231 0 from a1 _ _ (by decide) (by decide)]; exact n1
    · rw [s232, n2, y823]
      exact Or.inr ⟨hv, hm1.1, hm1.2⟩
    · rw [s232, n2]; exact fun h => absurd h hv
  · obtain ⟨x1, x2⟩ := hFL f
    refine ⟨x1.cong hrw.1 (uN.trans ua) (by omega) (em804 51 (by decide) (by decide)) (fun n hn => ⟨(kx n hn).1, (kx n hn).2.1, (kx n hn).2.2.1⟩) (fun n => ⟨em _ _ (by decide) (by decide) (by decide), em _ _ (by decide) (by decide) (by decide), em _ _ (by decide) (by decide) (by decide)⟩) (fun n n0 n1' => ?_), em804 51 (by decide) (by decide)⟩
    rw [show n = c by omega, s232, n2]
    intro h
    apply hv
    rw [h]
    unfold ez_iX lz_hid; omega
/-- arguments of a NAME's node, then all that a TERM says; L the reference's loop -/
theorem lz_nvA {d : Nat} {Q : Nat → Prop} (IH : ∀ e, e < d → lz_Term ct ft nc nf W r st who fl en A off e) {σx σm : az_Hp} {c D dep v6 i rd : Int} {L : Nat → Nat → az_Hp → Int → Option (Int × az_Hp)} (hEn : lz_En ct ft nc nf W r st who fl en A off σx σm) (hSt : lz_St ct ft nc nf W r st en who fl off d σx σm c) (hFR : lz_FR σx c dep D) (hDd : D + d ≤ 100) (hi : st ≤ i) (hie : i + d ≤ en) (hSc : bz_Sc (bz_ra σx r) d 1 i) (hv : ¬ ez_iX (σx.2 (r + 1) i)) (hnh : ¬ (fl = 1 ∧ st < i ∧ bz_kd (σx.2 (r + 1) i) = 2)) (ha : 0 < bz_ar (σx.2 (r + 1) i)) (hrd : rd = off + i + 1)
    (hL0 : ∀ (Dm kf : Nat) (σ : az_Hp), Q Dm → bz_Upd (az_wr (az_wr (az_wr (az_wr σm 804 52 rd) 823 c (σm.2 A (off + i))) 825 c c) 804 49 (c + 1)) σ lz_T → L Dm (kf + 1) σ (bz_ar (σx.2 (r + 1) i)) = some (c, σ))
    (hL1 : ∀ (Dm kf : Nat) (σ : az_Hp) (k : Int), Q Dm → bz_Upd (az_wr (az_wr (az_wr (az_wr σm 804 52 rd) 823 c (σm.2 A (off + i))) 825 c c) 804 49 (c + 1)) σ lz_T → 0 ≤ k → k < bz_ar (σx.2 (r + 1) i) → L Dm (kf + 1) σ k = (fz_X11_builds 2000000 Dm σ 804 A who fl).bind fun r3 => (az_awr r3.2 824 (3 * c + k) r3.1).bind fun s4 => L Dm kf s4 (k + 1)) :
    ∃ (m : Nat) (σx' σm' : az_Hp) (c' dep' : Int), m ≤ d ∧ (∀ K : Nat, fz_X0_lay_16 2000000 (K + m) σx 231 r st who fl en v6 dep i = fz_X0_lay_16 2000000 K σx' 231 r st who fl en (if 0 < D then v6 else c) dep' (i + d)) ∧ (∀ Dm : Nat, Q Dm → d ≤ Dm + 1 → L Dm 2000000 (az_wr (az_wr (az_wr (az_wr σm 804 52 rd) 823 c (σm.2 A (off + i))) 825 c c) 804 49 (c + 1)) 0 = some (c, σm')) ∧
      lz_Ps ct ft nc nf W r st en who fl off d σx σm σx' σm' c c' ∧ (D ≤ dep' ∧ dep' ≤ D + d ∧ ∀ j, D ≤ j → j < dep' → dz_In c' (σx'.2 240 j) ∧ bz_ar (σx'.2 232 (σx'.2 240 j)) ≤ σx'.2 241 j) ∧ (∀ j, 0 ≤ j → j < D → σx'.2 240 j = σx.2 240 j) ∧ (∀ j, 0 ≤ j → j < D - 1 → σx'.2 241 j = σx.2 241 j) ∧
      dz_In c' c ∧ (lz_rc σx' σm' c c' (fun x => x = c) ∧ (ez_iX (σx'.2 232 c) ∨ c ≤ c)) ∧ (0 < D → σx'.2 241 (D - 1) = σx.2 241 (D - 1) + 1 ∧ σx'.2 238 (3 * σx.2 240 (D - 1) + σx.2 241 (D - 1)) = c) ∧
      (∀ x, 0 ≤ x → x < 3 * c → (0 < D → x ≠ 3 * σx.2 240 (D - 1) + σx.2 241 (D - 1)) → σx'.2 238 x = σx.2 238 x) ∧ (∀ x, 0 ≤ x → x < 3 * c → σm'.2 824 x = σm.2 824 x) ∧ σm'.2 804 52 = off + i + d := by
  have dp := hSc.pos (by omega)
  have c0 := hSt.1.1.2.2.1
  have c120 := hSt.2.2
  have hcap := hEn.2.2.2.2.2.2.1.1
  obtain ⟨u1, u2, ls, ⟨hfl, h51⟩, kx, km, e824, s232, ⟨s235, s233⟩, y825, y52, hm1, e240, e241, at1, e238⟩ := lz_nvS (rd := rd) hEn hSt dp hFR hi (by omega) hv hnh
  have run0 := fun K => lz_nvX (v6 := v6) hEn hSt.1 (by omega) hFR (by omega) hi (by omega) hnh hv K
  obtain ⟨w1, w2, w3, w4⟩ := lz_frm_at (σ := lz_att (lz_new σx who i (σx.2 (r + 1) i)) D c) (D := D) (ν := c) ha
  have uf := lz_frm_upd (σ := lz_att (lz_new σx who i (σx.2 (r + 1) i)) D c) (D := D) (ν := c) (a := bz_ar (σx.2 (r + 1) i))
  generalize hN : lz_att (lz_new σx who i (σx.2 (r + 1) i)) D c = σN at *
  generalize hM : az_wr (az_wr (az_wr (az_wr σm 804 52 rd) 823 c (σm.2 A (off + i))) 825 c c) 804 49 (c + 1) = σM at *
  generalize hFF : lz_frm σN D c (bz_ar (σx.2 (r + 1) i)) = σF at *
  have ar3 := (@bz_ar_rng (σx.2 (r + 1) i)).2
  have h0D := hFR.1
  obtain ⟨d', rfl⟩ : ∃ d', d = d' + 1 := ⟨d - 1, by omega⟩
  have hS2 : bz_Sc (bz_ra σF r) d' ((bz_ar (σx.2 (r + 1) i)).toNat : Nat) (i + 1) := by
    rw [lz_raS hcap (u1.trans uf), show (((bz_ar (σx.2 (r + 1) i)).toNat : Nat) : Int) = 1 - 1 + bz_ra σx r i by unfold bz_ra; omega]
    exact hSc.2
  have lsF : lz_LS ct ft nc nf W σF σM (c + 1) := ls.cong (w1 _ _ (by decide) (by decide)) rfl rfl (fun n => ⟨w1 _ _ (by decide) (by decide), w1 _ _ (by decide) (by decide)⟩) (fun n => ⟨rfl, rfl, rfl, rfl⟩)
  have flF : fl = 1 → lz_FL r st en who off σF σM (c + 1) ∧ σM.2 804 51 + (d' : Int) ≤ 64 := fun f => by
    obtain ⟨x1, x2⟩ := hfl f
    have := (hSt.2.1 f).2
    refine ⟨x1.cong hcap uf (Int.le_refl _) rfl (fun n _ => ⟨w1 _ _ (by decide) (by decide), w1 _ _ (by decide) (by decide), w1 _ _ (by decide) (by decide)⟩) (fun n => ⟨rfl, rfl, rfl⟩) (fun n n0 n1 => by omega), ?_⟩
    push_cast at this
    omega
  push_cast at hie hDd c120
  obtain ⟨m, σx', σm', c', dep', md, run, Lr, P, ⟨ga1, ga2, ga3⟩, gb, gc, gd, ge, gf, rc, rd'⟩ := lz_args (N0 := d' + 1) (Q := Q) IH (σm0 := σM) (a := bz_ar (σx.2 (r + 1) i)) (ν := c) (D := D) (B := D + (d' + 1)) (v6 := if 0 < D then v6 else c) (L := L) (by omega) hL0 hL1 h0D (by omega) (bz_ar (σx.2 (r + 1) i)).toNat d' 2000000 σF σM (c + 1) 0 (D + 1) (i + 1) (by omega) (by omega) (hEn.upd (u1.trans uf) u2) ⟨lsF, flF, by omega⟩ (by omega) (by omega) (by omega) (fun j j0 j1 => by omega) w3 w4 ⟨c0, by omega⟩ (by rw [w1 _ _ (by decide) (by decide), s232]) (by omega) (by omega) (by omega) (by omega) hS2 (by rw [y52, hrd]; omega) bz_Upd.refl
  obtain ⟨v1, v2, ls3, fl3, ⟨cc3, cc4, cc5⟩, kx2, km2, nn2⟩ := P
  have inC : ∀ n, dz_In c n → dz_In (c + 1) n := fun n hn => ⟨hn.1, by have := hn.2; omega⟩
  have cC : dz_In (c + 1) c := ⟨c0, by omega⟩
  have sc' : σx'.2 232 c = σx.2 (r + 1) i := by rw [(kx2 c cC).1, w1 _ _ (by decide) (by decide), s232]
  refine ⟨m + 1, σx', σm', c', dep', by omega, fun K => ?_, fun Dm hQ hDm => Lr Dm hQ hDm, ⟨(u1.trans uf).trans v1, u2.trans v2, ls3, fun f => ⟨(fl3 f).1, ?_⟩, ⟨by omega, by push_cast; omega, fun f => (cc5 f).trans h51⟩, fun n hn => ?_, fun n hn => ?_, fun n n0 n1 => ?_⟩, ⟨by omega, by push_cast; omega, fun j j0 j1 => ?_⟩, fun j j0 j1 => ?_, fun j j0 j1 => ?_, ⟨c0, by omega⟩, ⟨?_, Or.inr (Int.le_refl c)⟩, fun hD => ?_, fun x x0 x1 hx => ?_, fun x x0 x1 => ?_, ?_⟩
  · rw [show K + (m + 1) = (K + m) + 1 by omega, run0 (K + m), if_pos ha, run K]
    congr 1
    push_cast
    omega
  · have q1 := (fl3 f).2
    have q2 := (hfl f).2
    push_cast
    omega
  · obtain ⟨p1, p2, p3, p4⟩ := kx n hn
    obtain ⟨q1, q2, q3, q4⟩ := kx2 n (inC n hn)
    rw [w1 _ _ (by decide) (by decide)] at q1 q2 q3 q4
    exact ⟨q1.trans p1, q2.trans p2, q3.trans p3, q4.trans p4⟩
  · obtain ⟨p1, p2⟩ := km n hn
    obtain ⟨q1, q2⟩ := km2 n (inC n hn)
    exact ⟨q1.trans p1, q2.trans p2⟩
  · by_cases e : n = c
    · subst e
      refine ⟨?_, ?_, fun hv' k k0 k1 => ?_, by rw [(kx2 n cC).2.1, w1 _ _ (by decide) (by decide), s233]⟩
      · rw [(kx2 n cC).2.2.2, w1 _ _ (by decide) (by decide), s235]
      · rw [(km2 n cC).2, y825]
      · rw [sc'] at k1
        exact ge k k0 k1
    · exact nn2 n (by omega) n1
  · by_cases e : j = D
    · subst e
      rw [gb j h0D (by omega), w3, sc', gd]
      exact ⟨⟨c0, by omega⟩, Int.le_refl _⟩
    · exact ga3 j (by omega) j1
  · rw [gb j j0 (by omega), (w2 j (by omega)).1, e240 j]
  · rw [gc j j0 (by omega), (w2 j (by omega)).2, e241 j (fun _ => by omega)]
  · intro V hV hcl n n0 n1
    have vc : V c := hV c rfl
    by_cases e : n = c
    · rw [e]; exact vc
    · refine rc V (fun x hx => ?_) (fun x x0 x1 hv' vx k k0 k1 => hcl x (by omega) x1 hv' vx k k0 k1) n (by omega) n1
      obtain ⟨j, j0, j1, rfl⟩ := hx
      exact hcl c (Int.le_refl c) (by omega) (by rw [sc']; exact hv) vc j j0 (by rw [sc']; exact j1)
  · obtain ⟨q1, q2, q3⟩ := hFR.2.2.2.2 hD
    have r3 := (@bz_ar_rng (σx.2 232 (σx.2 240 (D - 1)))).2
    have p0 := q1.1
    have p1 := q1.2
    obtain ⟨z1, z2⟩ := at1 hD
    refine ⟨?_, ?_⟩
    · rw [gc (D - 1) (by omega) (by omega), (w2 (D - 1) (by omega)).2, z1]
    · rw [(gf _ (by omega) (by omega) (by omega)).1, w1 _ _ (by decide) (by decide), z2]
  · rw [(gf x x0 (by omega) (by omega)).1, w1 _ _ (by decide) (by decide), e238 x hx]
  · rw [(gf x x0 (by omega) (by omega)).2, e824 x]
  · rw [rd']; push_cast; omega
theorem lz_term : ∀ d : Nat, lz_Term ct ft nc nf W r st who fl en A off d := by
  have main : ∀ N d : Nat, d < N → lz_Term ct ft nc nf W r st who fl en A off d := by
    intro N
    induction N with
    | zero => intro d h; omega
    | succ N ihN =>
      intro d hdN σx σm c D dep v6 i hEn hSt hFR hDd hi hie hSc hfam hra
      have dp := hSc.pos (by omega)
      obtain ⟨t1, t2, t3, t4⟩ := hEn.tk hi (by omega)
      have htb := hEn.2.2.2.1
      have hFm := hEn.2.1
      have hcri := hEn.2.2.2.2.2.2.2.2.1 i hi (by omega)
      have hfl := hEn.2.2.2.2.2.2.2.2.2.2
      obtain ⟨s0, s1, s2, s3, s4, s5⟩ := hEn.2.2.2.2.2.2.2.1
      have e49 := hSt.1.1.2.1
      have c0 := hSt.1.1.2.2.1
      have c1 := hSt.1.1.2.2.2
      have c120 := hSt.2.2
      by_cases hv : ez_iX (σx.2 (r + 1) i)
      · exact lz_termVar hEn hSt hFR hi hie hSc hv hra
      by_cases hh : fl = 1 ∧ st < i ∧ bz_kd (σx.2 (r + 1) i) = 2
      · refine lz_termHid hEn hSt hFR hh.2.1 hie hSc hh.1 ?_ hra
        have := hcri.kd htb
        rw [hh.2.2] at this
        have mc := hcri.mc htb
        unfold bz_mc at mc
        by_cases q1 : σm.2 A (off + i) < 200
        · rw [if_pos q1] at this; omega
        · by_cases q2 : σm.2 A (off + i) < 1000
          · exact ⟨by omega, q2⟩
          · rw [if_neg q1, if_neg q2] at this
            split at this <;> omega
      -- a NAME that is not hidden
      obtain ⟨u1, u2, ls, ⟨hfl', h51⟩, kx, km, e824, s232, ⟨s235, s233⟩, y825, y52, hm1, e240, e241, at1, e238⟩ := lz_nvS (rd := off + i + 1) hEn hSt dp hFR hi (by omega) hv hh
      have nfam : fl = 0 ∨ (fl = 1 ∧ ¬ (200 ≤ σm.2 A (off + i) ∧ σm.2 A (off + i) < 1000)) := by
        rcases hfl with h | h
        · exact Or.inl h
        · refine Or.inr ⟨h, ?_⟩
          rcases hfam h with q | q
          · intro hf
            apply hh
            refine ⟨h, q, ?_⟩
            rw [hcri.kd htb, if_neg (by omega), if_pos (by omega)]
          · exact q
      have um : bz_Upd σm (az_wr σm 804 52 (off + i + 1)) lz_T := lz_Tw bz_Upd.refl (by unfold lz_T; omega)
      have m49 : (az_wr σm 804 52 (off + i + 1)).2 804 49 = c := by rw [az_wr_ne (by omega)]; exact e49
      have bldE : ∀ Dm : Nat, fz_X11_builds 2000000 (Dm + 1) σm 804 A who fl = fz_X11_builds_89 2000000 (fz_X11_builds 2000000 Dm) 2000000 (az_wr (az_wr (az_wr (az_wr σm 804 52 (off + i + 1)) 823 c (σm.2 A (off + i))) 825 c c) 804 49 (c + 1)) 804 A who fl (σm.2 A (off + i)) c 0 := by
        intro Dm
        rw [lz_bld (x := σm.2 A (off + i)) (by rw [hra]; exact t1) nfam]
        unfold fz_X11_builds_52
        have ad := lz_adds (σ := az_wr σm 804 52 (off + i + 1)) (v := σm.2 A (off + i)) (hFm.upd um) (by rw [m49]; exact c0) (by rw [m49]; omega)
        rw [m49] at ad
        rw [hra, az_w32_id (by omega) (by omega), ez_isVarM.2 (by omega), Option.bind_some, if_pos rfl, ad, Option.bind_some]
      have tkU : ∀ σ, bz_Upd (az_wr (az_wr (az_wr (az_wr σm 804 52 (off + i + 1)) 823 c (σm.2 A (off + i))) 825 c c) 804 49 (c + 1)) σ lz_T → fz_X11_takes σ 804 (σm.2 A (off + i)) = some (bz_ar (σx.2 (r + 1) i)) := fun σ hU => by
        have uu := u2.trans hU
        have h := (hEn.upd bz_Upd.refl uu).tk hi (by omega)
        have e : σ.2 A (off + i) = σm.2 A (off + i) := uu.2.2 _ _ (by unfold lz_T; omega)
        rw [e] at h
        exact h.2.1
      have lo0 : ∀ (Dm kf : Nat) (σ : az_Hp), True → bz_Upd (az_wr (az_wr (az_wr (az_wr σm 804 52 (off + i + 1)) 823 c (σm.2 A (off + i))) 825 c c) 804 49 (c + 1)) σ lz_T → fz_X11_builds_89 2000000 (fz_X11_builds 2000000 Dm) (kf + 1) σ 804 A who fl (σm.2 A (off + i)) c (bz_ar (σx.2 (r + 1) i)) = some (c, σ) := by
        intro Dm kf σ _ hU
        unfold fz_X11_builds_89
        rw [tkU σ hU, Option.bind_some, if_neg (by omega)]
      have lo1 : ∀ (Dm kf : Nat) (σ : az_Hp) (k : Int), True → bz_Upd (az_wr (az_wr (az_wr (az_wr σm 804 52 (off + i + 1)) 823 c (σm.2 A (off + i))) 825 c c) 804 49 (c + 1)) σ lz_T → 0 ≤ k → k < bz_ar (σx.2 (r + 1) i) → fz_X11_builds_89 2000000 (fz_X11_builds 2000000 Dm) (kf + 1) σ 804 A who fl (σm.2 A (off + i)) c k = (fz_X11_builds 2000000 Dm σ 804 A who fl).bind fun r3 => (az_awr r3.2 824 (3 * c + k) r3.1).bind fun s4 => fz_X11_builds_89 2000000 (fz_X11_builds 2000000 Dm) kf s4 804 A who fl (σm.2 A (off + i)) c (k + 1) := by
        intro Dm kf σ k _ hU k0 k1
        have ar3 := (@bz_ar_rng (σx.2 (r + 1) i)).2
        conv => lhs; unfold fz_X11_builds_89
        rw [tkU σ hU, Option.bind_some, if_pos k1, fx_804_40 (hFm.upd (u2.trans hU)), Option.bind_some, az_w32_id (z := 3 * c) (by omega) (by omega), az_w32_id (z := 3 * c + k) (by omega) (by omega), az_w32_id (z := k + 1) (by omega) (by omega)]
      by_cases ha : 0 < bz_ar (σx.2 (r + 1) i)
      · obtain ⟨m, σx', σm', c', dep', g1, g2, g3, g4, g5⟩ := lz_nvA (Q := fun _ => True) (fun e he => ihN e (by omega)) (v6 := v6) (rd := off + i + 1) (L := fun Dm kf σ k => fz_X11_builds_89 2000000 (fz_X11_builds 2000000 Dm) kf σ 804 A who fl (σm.2 A (off + i)) c k) hEn hSt hFR hDd hi hie hSc hv hh ha rfl lo0 lo1
        refine ⟨m, σx', σm', c', c, dep', g1, g2, fun Dm hDm => ?_, g4, g5⟩
        obtain ⟨Dm, rfl⟩ : ∃ k', Dm = k' + 1 := ⟨Dm - 1, by omega⟩
        rw [bldE Dm]
        exact g3 Dm trivial (by omega)
      · have ar0 := (@bz_ar_rng (σx.2 (r + 1) i)).1
        have az : bz_ar (σx.2 (r + 1) i) = 0 := by omega
        have ed : d = 1 := by
          obtain ⟨d', rfl⟩ : ∃ d', d = d' + 1 := ⟨d - 1, by omega⟩
          have q := hSc.2
          have : bz_ra σx r i = 0 := az
          rw [this] at q
          cases d' with
          | zero => rfl
          | succ d' => have := q.1; omega
        subst ed
        -- without arguments: as a leaf
        obtain ⟨n1, n2, n3, n4, n5, n6, n7⟩ := lz_new_at (σ := σx) (who := who) (i := i) (s := σx.2 (r + 1) i)
        have e231 := hSt.1.1.1
        rw [e231] at n1 n2 n3 n4 n5 n6
        have uN := lz_new_upd (σ := σx) (who := who) (i := i) (sign := σx.2 (r + 1) i)
        obtain ⟨a1, a2, a3, a4⟩ := lz_att_at (σ := lz_new σx who i (σx.2 (r + 1) i)) (D := D) (ν := c)
        have ua := lz_att_upd (σ := lz_new σx who i (σx.2 (r + 1) i)) (D := D) (ν := c)
        have lsN : lz_LS ct ft nc nf W (lz_new σx who i (σx.2 (r + 1) i)) (az_wr (az_wr (az_wr (az_wr σm 804 52 (off + i + 1)) 823 c (σm.2 A (off + i))) 825 c c) 804 49 (c + 1)) (c + 1) := ls.cong (a1 _ _ (by decide) (by decide)).symm rfl rfl (fun n => ⟨(a1 _ _ (by decide) (by decide)).symm, (a1 _ _ (by decide) (by decide)).symm⟩) (fun n => ⟨rfl, rfl, rfl, rfl⟩)
        refine lz_leaf (c1 := c + 1) (ν := c) (σ1 := lz_new σx who i (σx.2 (r + 1) i)) hEn hFR (by omega) uN (fun n hn => n6 n hn) (fun x => n7 _ _ (by omega)) (fun x => n7 _ _ (by omega)) (fun x => n7 _ _ (by omega)) u2 km e824 lsN (fun f => ?_) (fun _ => h51) (by omega) (by omega) c0 ⟨c0, by omega⟩ (Or.inr (Int.le_refl c)) (fun _ => ⟨rfl, n5, y825, Or.inr (by rw [n2]; exact az), n3⟩) (by rw [y52]; rfl) (fun K => ?_) (fun Dm hDm => ?_)
        · obtain ⟨x1, x2⟩ := hfl' f
          have hcap := hEn.2.2.2.2.2.2.1.1
          obtain ⟨y1, -⟩ := hSt.2.1 f
          have em : ∀ b k, b ≠ 804 → b ≠ 823 → b ≠ 825 → (az_wr (az_wr (az_wr (az_wr σm 804 52 (off + i + 1)) 823 c (σm.2 A (off + i))) 825 c c) 804 49 (c + 1)).2 b k = σm.2 b k := fun b k h1 h2 h3 => by rw [az_wr_ne (by omega), az_wr_ne (by omega), az_wr_ne (by omega), az_wr_ne (by omega)]
          refine ⟨y1.cong hcap uN (by omega) x2 (fun n hn => ⟨(n6 n hn).1, (n6 n hn).2.1, (n6 n hn).2.2.1⟩) (fun n => ⟨em _ _ (by decide) (by decide) (by decide), em _ _ (by decide) (by decide) (by decide), em _ _ (by decide) (by decide) (by decide)⟩) (fun n n0 n1' => ?_), by omega⟩
          rw [show n = c by omega, n2]
          intro h
          apply hv
          rw [h]
          unfold ez_iX lz_hid; omega
        · have := lz_nvX (v6 := v6) hEn hSt.1 (by omega) hFR (by omega) hi (by omega) hh hv K
          rw [if_neg ha] at this
          unfold lz_frm at this
          rw [if_neg ha] at this
          exact this
        · obtain ⟨Dm, rfl⟩ : ∃ k', Dm = k' + 1 := ⟨Dm - 1, by omega⟩
          have := lo0 Dm 1999999 _ trivial bz_Upd.refl
          rw [az] at this
          rw [bldE Dm]
          exact this
  exact fun d => main (d + 1) d (by omega)
end TM5
