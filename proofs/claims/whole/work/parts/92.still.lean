/-! where an equation fires -/
def rz_TX (a k : Int) : Prop := cz_SJ a k ∨ a = 252
def rz_TM (a k : Int) : Prop := cz_SM a k ∨ a = 838 ∨ a = 839
/-- what both know of the equations: the class's table against the reference's -/
def rz_C (σx σm : az_Hp) (T s : Int) : Prop := mz_H σx σm T s ∧ σx.2 243 2 = T ∧ ∀ i e, 0 ≤ i → i < e → e < σx.2 T 2 → σx.2 (T + 7) i = σx.2 (T + 7) e → σx.2 (T + 11) (16 * i + e) = σm.2 835 (16 * i + e) ∧ (σm.2 835 (16 * i + e) = 0 ∨ σm.2 835 (16 * i + e) = 1)
def rz_A (A : Int) : Prop := A ≠ 833 ∧ A ≠ 838 ∧ A ≠ 839
theorem rz_C.upd {σx σm σx' σm' : az_Hp} {T s : Int} (h : rz_C σx σm T s) (hx : bz_Upd σx σx' rz_TX) (hm : bz_Upd σm σm' rz_TM) : rz_C σx' σm' T s := by
  obtain ⟨h1, h2, h3⟩ := h
  have hT := h1.2.2.1.1
  have ex : ∀ a k, a = T ∨ a = T + 7 ∨ a = T + 11 ∨ a = 243 → σx'.2 a k = σx.2 a k := fun a k q => hx.2.2 a k (fun c => by unfold rz_TX cz_SJ at c; omega)
  have em : ∀ k, σm'.2 835 k = σm.2 835 k := fun k => hm.2.2 _ k (fun c => by unfold rz_TM cz_SM at c; omega)
  refine ⟨h1.gen hx hm (fun a k q => by unfold rz_TX cz_SJ at q; unfold nz_t; omega) (fun a k q => by unfold rz_TM cz_SM at q; unfold nz_t; omega), by rw [ex _ _ (by omega)]; exact h2, fun i e => ?_⟩
  rw [ex T 2 (by omega), ex (T + 7) i (by omega), ex (T + 7) e (by omega), ex (T + 11) _ (by omega), em]
  exact h3 i e
theorem rz_keepT {σx σx' : az_Hp} {r : Int} (hr : 0 < bz_cap r) (hU : bz_Upd σx σx' rz_TX) : (∀ k, σx'.2 r k = σx.2 r k) ∧ (∀ k, σx'.2 (r + 1) k = σx.2 (r + 1) k) ∧ bz_ra σx' r = bz_ra σx r := by
  have h1 := rz_cap252 hr
  have h2 := lz_cap_ne hr
  have e2 : ∀ k, σx'.2 (r + 1) k = σx.2 (r + 1) k := fun k => hU.2.2 _ _ (fun c => by unfold rz_TX cz_SJ at c; omega)
  exact ⟨fun k => hU.2.2 _ _ (fun c => by unfold rz_TX cz_SJ at c; omega), e2, funext fun k => by unfold bz_ra; rw [e2]⟩
theorem rz_R.updT {σx σm σx' σm' : az_Hp} {T s r A n : Int} {V : Int → Int → Prop} (h : rz_R σx σm T s V r A n) (hT : T = 3 ∨ T = 82) (hA : rz_A A) (hx : bz_Upd σx σx' rz_TX) (hm : bz_Upd σm σm' rz_TM) : rz_R σx' σm' T s V r A n := by
  unfold rz_A at hA
  obtain ⟨a1, a2, a3, a4, a5, a6, a7, a8⟩ := h
  obtain ⟨k1, k2, k3⟩ := rz_keepT a1.1 hx
  have tS : bz_tS σm σm' := fun a k q => hm.2.2 a k (fun c => by unfold rz_TM cz_SM at c; omega)
  refine ⟨by unfold bz_rw at a1 ⊢; simp only [k1, k2]; exact a1, by rw [k1]; exact a2, a3, fun i i0 i1 => ?_, by rw [k3]; exact a5, by rw [hm.ln]; exact a6, a7, a8⟩
  rw [bz_ct_tS tS, bz_ft_tS tS, tS T 0 (by omega), tS T 1 (by omega), k2, hm.2.2 A i (fun c => by unfold rz_TM cz_SM at c; omega)]
  exact a4 i i0 i1
section FR
variable {T s r A n : Int} {V : Int → Int → Prop}
theorem rz_fitX {L at' : Int} : ∀ (d k : Nat) (σ : az_Hp) (v : Int), bz_Fx σ → d < k → 0 ≤ v → v + d = 6 → (∀ u, 0 ≤ u → u < v → σ.2 252 u = -1) → ∃ σ', fz_X5_fits_14 2000000 k σ 243 r at' L v = fz_X5_fits_41 2000000 2000000 σ' 243 r L at' 0 ∧ bz_Upd σ σ' rz_SX ∧ ∀ u, 0 ≤ u → u < 6 → σ'.2 252 u = -1 := by
  intro d
  induction d with
  | zero =>
    intro k σ v hF hk v0 hv hu
    obtain ⟨k, rfl⟩ : ∃ k', k = k' + 1 := ⟨k - 1, by omega⟩
    refine ⟨σ, ?_, bz_Upd.refl, fun u u0 u1 => hu u u0 (by omega)⟩
    conv => lhs; unfold fz_X5_fits_14
    rw [if_neg (by omega)]
  | succ d ih =>
    intro k σ v hF hk v0 hv hu
    obtain ⟨k, rfl⟩ : ∃ k', k = k' + 1 := ⟨k - 1, by omega⟩
    have l := ln_252 hF
    have u1 : bz_Upd σ (az_wr σ 252 v (-1)) rz_SX := bz_Upd.wr bz_Upd.refl rfl rz_fix252
    obtain ⟨σ', y1, y2, y3⟩ := ih k (az_wr σ 252 v (-1)) (v + 1) (hF.upd u1) (by omega) (by omega) (by omega) (fun u p1 p2 => by
      by_cases e : u = v
      · subst e; exact az_wr_same
      · rw [az_wr_ne (by omega)]; exact hu u p1 (by omega))
    refine ⟨σ', ?_, u1.trans y2, y3⟩
    rw [← y1]
    conv => lhs; unfold fz_X5_fits_14
    rw [if_pos (by omega), fx_243_15 hF, Option.bind_some, bz_awr v0 (by omega), Option.bind_some, az_w32_id (by omega) (by omega)]
theorem rz_fitM {e at' q : Int} : ∀ (d k : Nat) (σ : az_Hp) (v : Int), bz_Fx σ → bz_sd σ → fz_X11_eqAt σ 804 e = some q → d < k → 0 ≤ v → v + d = 6 → (∀ u, 0 ≤ u → u < v → σ.2 839 u = 0) → ∃ σ', fz_X11_fits_3 2000000 k σ 804 e A at' v = fz_X11_fits_40 2000000 2000000 σ' 804 e A at' (az_w32 (16 * q)) 0 ∧ bz_Upd σ σ' rz_SM ∧ ∀ u, 0 ≤ u → u < 6 → σ'.2 839 u = 0 := by
  intro d
  induction d with
  | zero =>
    intro k σ v hF hsd hq hk v0 hv hu
    obtain ⟨k, rfl⟩ : ∃ k', k = k' + 1 := ⟨k - 1, by omega⟩
    refine ⟨σ, ?_, bz_Upd.refl, fun u u0 u1 => hu u u0 (by omega)⟩
    conv => lhs; unfold fz_X11_fits_3
    rw [if_neg (by omega), hq, Option.bind_some]
  | succ d ih =>
    intro k σ v hF hsd hq hk v0 hv hu
    obtain ⟨k, rfl⟩ : ∃ k', k = k' + 1 := ⟨k - 1, by omega⟩
    have l := ln_839 hF
    have u1 : bz_Upd σ (az_wr σ 839 v 0) rz_SM := bz_Upd.wr bz_Upd.refl (Or.inr rfl) rz_fix839
    have hq' : fz_X11_eqAt (az_wr σ 839 v 0) 804 e = some q := by
      rw [← hq]
      unfold fz_X11_eqAt
      rw [az_wr_ne (by omega)]
    obtain ⟨σ', y1, y2, y3⟩ := ih k (az_wr σ 839 v 0) (v + 1) (hF.upd u1) (by unfold bz_sd at hsd ⊢; rw [az_wr_ne (by omega)]; exact hsd) hq' (by omega) (by omega) (by omega) (fun u p1 p2 => by
      by_cases e : u = v
      · subst e; exact az_wr_same
      · rw [az_wr_ne (by omega)]; exact hu u p1 (by omega))
    refine ⟨σ', ?_, u1.trans y2, y3⟩
    rw [← y1]
    conv => lhs; unfold fz_X11_fits_3
    rw [if_pos (by omega), fx_804_67 hF, Option.bind_some, bz_awr v0 (by omega), Option.bind_some, az_w32_id (by omega) (by omega)]
theorem rz_fits {σx σm : az_Hp} {e at' : Int} (hC : rz_C σx σm T s) (hR : rz_R σx σm T s V r A n) (hA : rz_A A) (e0 : 0 ≤ e) (e1 : e < σx.2 T 2) (a0 : 0 ≤ at') (a1 : at' < n) :
    ∃ q σx' σm', fz_X5_fits 2000000 σx 243 e r at' = some (q, σx') ∧ fz_X11_fits 2000000 σm 804 e A at' = some (q, σm') ∧ (q = 0 ∨ q = 1) ∧ bz_Upd σx σx' rz_SX ∧ bz_Upd σm σm' rz_SM ∧ (q = 1 → rz_B σx' σm' r n ∧ ∀ v, 0 ≤ v → v < σx.2 (T + 8) e → σx'.2 252 v ≠ -1) := by
  obtain ⟨h, hT2, -⟩ := hC
  have hT := h.2.2.1.1
  have ref := mz_leftRef h e0 e1
  obtain ⟨b1, b2, b3, b4, b5, b6, rl, rr, ra1, ra2, e16⟩ := h.r e0 e1
  have hE := h.2.2.1.2.2.2.2 e e0 (by rw [← h.n.2.2]; exact e1)
  obtain ⟨q1, q2, q3, q4, q5, q6, q7, q8, q9, q10, q11⟩ := hE
  have hs := h.2.2.1.2.1
  obtain ⟨dr, drp, dr1, dr2⟩ := hR.sub a0 a1
  obtain ⟨x1, f1, u1, w1⟩ := rz_fitX (r := r) (L := T + 15 + 4 * e) (at' := at') 6 2000000 σx 0 h.1 (by omega) (by omega) (by omega) (fun u p1 p2 => by omega)
  obtain ⟨m1, f2, u2, w2⟩ := rz_fitM (A := A) (e := e) (at' := at') (q := 16 * s + e) 6 2000000 σm 0 h.2.1 h.tb.1 ref.2.2.2.2.2.2 (by omega) (by omega) (by omega) (fun u p1 p2 => by omega)
  have h' := rz_H h u1 u2
  have hR' := hR.upd hT ⟨hA.2.1, hA.2.2⟩ u1 u2
  obtain ⟨k1, k2, k3⟩ := rz_keepX hR.1.1 u1
  have nT : ∀ a k, a ≠ 252 → x1.2 a k = σx.2 a k := fun a k ha => u1.2.2 a k ha
  have sz : 0 ≤ σx.2 (T + 15 + 4 * e) 1 := rl.2.1
  have nra : bz_ra x1 (T + 15 + 4 * e) = bz_ra σx (T + 15 + 4 * e) := funext fun x => by unfold bz_ra; rw [nT _ _ (by omega)]
  obtain ⟨q, σx', σm', y1, y2, y3, y4, y5, y6⟩ := rz_fitL (e := e) ⟨hA.2.1, hA.2.2⟩ (σx.2 (T + 15 + 4 * e) 1).toNat 2000000 x1 m1 0 at' 1 dr h' hR' e0 (by rw [nT _ _ (by omega)]; exact e1) (by have := q1.2.2; rw [← b1] at this; omega) (by omega) (by rw [nT _ _ (by omega)]; omega) (by rw [nra, ra1, b1]; exact q6) a0 (by omega) (by rw [k3]; exact dr2) (fun v v0 v1 => Or.inl ⟨w1 v v0 v1, w2 v v0 v1⟩)
  refine ⟨q, σx', σm', ?_, ?_, y3, u1.trans y4, u2.trans y5, fun hq => ⟨(y6 hq).1, fun v v0 v1 => ?_⟩⟩
  · have g2 : az_gref σx 243 2 = some T := bz_gr hT2 (by omega)
    unfold fz_X5_fits
    rw [g2, Option.bind_some, ref.1, Option.bind_some, ref.2.1, Option.bind_some, f1, y1]
  · unfold fz_X11_fits
    rw [f2, az_w32_id (by omega) (by omega), y2]
  · obtain ⟨i, i1, i2, i3⟩ := q11 v v0 (by rw [← b6]; exact v1)
    have hv6 := q3.2.2
    refine (y6 hq).2.2 i v (by omega) (by rw [nT _ _ (by omega), b1]; exact i2) v0 (by rw [b6] at v1; omega) ?_
    rw [u2.2.2 815 _ (by unfold rz_SM; omega)]
    exact i3
/-- whether an equation is apart from the TERM flat -/
theorem rz_apart {σx σm : az_Hp} {i at' : Int} (h : mz_H σx σm T s) (hR : rz_R σx σm T s V r A n) (hA : rz_A A) (i0 : 0 ≤ i) (i1 : i < σx.2 T 2) (a0 : 0 ≤ at') (a1 : at' < n) (hfam : 200 ≤ σm.2 A at' ∧ σm.2 A at' < 1000) :
    ∃ (v : Int) (x1 x2 x3 m3 : az_Hp) (a b : Int), fz_X0_lay 2000000 (az_wr σx 231 0 0) 231 (T + 15 + 4 * i) 0 0 0 = some (a, x1) ∧ fz_X0_lay 2000000 x1 231 r at' 1 1 = some (b, x2) ∧ fz_X0_join 2000000 x2 231 a b 0 = some (v, x3) ∧ bz_Upd σx x1 cz_SJ ∧ bz_Upd σx x2 cz_SJ ∧ bz_Upd σx x3 cz_SJ ∧ bz_Upd σm m3 cz_SM ∧ fz_X11_isApart 2000000 σm 804 i A at' = some (if v = 0 then 1 else 0, m3) := by
  have hT := h.2.2.1.1
  have hs := h.2.2.1.2.1
  unfold rz_A at hA
  have ux0 : bz_Upd σx (az_wr σx 231 0 0) cz_SJ := bz_Upd.wr bz_Upd.refl (by unfold cz_SJ; omega) (by decide)
  have um0 : bz_Upd σm (az_wr (az_wr (az_wr σm 804 49 0) 804 50 0) 804 51 0) cz_SM := bz_Upd.wr (bz_Upd.wr (bz_Upd.wr bz_Upd.refl (by unfold cz_SM; omega) (by decide)) (by unfold cz_SM; omega) (by decide)) (by unfold cz_SM; omega) (by decide)
  have H0 := h.upd ux0 um0 (fun _ _ q => q) (fun _ _ q => q)
  have tM : ∀ {σ' : az_Hp}, bz_Upd σm σ' cz_SM → bz_tS σm σ' := fun hU a k q => hU.2.2 a k (fun c => by unfold cz_SM at c; omega)
  have eqs : ∀ {σ' : az_Hp}, bz_Upd σx σ' cz_SJ → σ'.2 T 2 = σx.2 T 2 := fun hU => hU.2.2 _ _ (fun c => by unfold cz_SJ at c; omega)
  -- the left side
  have ref := mz_leftRef H0 i0 (by rw [eqs ux0]; exact i1)
  have hr := H0.r i0 (by rw [eqs ux0]; exact i1)
  have sz : 0 ≤ (az_wr σx 231 0 0).2 (T + 15 + 4 * i) 1 := hr.2.2.2.2.2.2.1.2.1
  have i16 := hr.2.2.2.2.2.2.2.2.2.2
  obtain ⟨En1, Sc1, d16⟩ := mz_EnL (who := 0) H0 i0 (by rw [eqs ux0]; exact i1) (d := ((az_wr σx 231 0 0).2 (T + 15 + 4 * i) 1).toNat) (by omega)
  obtain ⟨g1, g2, g3, g4⟩ := mz_tabs (s := s) hT (tM um0)
  rw [g1, g2, g3, g4] at En1
  have En1' := En1.cw (W' := fun w => if w = 0 then bz_VE 6 else V) (by rfl)
  have LS0 : lz_LS (bz_ct σm s) (bz_ft σm s) (σm.2 T 0) (σm.2 T 1) (fun w => if w = 0 then bz_VE 6 else V) (az_wr σx 231 0 0) (az_wr (az_wr (az_wr σm 804 49 0) 804 50 0) 804 51 0) 0 := ⟨⟨az_wr_same, by rw [az_wr_ne (by omega), az_wr_ne (by omega), az_wr_same], by omega, by omega⟩, fun n hn => by have := hn.1; have := hn.2; omega, by rw [az_wr_ne (by omega), az_wr_same]; omega, fun k k0 k1 => by rw [az_wr_ne (by omega), az_wr_same] at k1; omega, fun k j k0 kj j1 => by rw [az_wr_ne (by omega), az_wr_same] at j1; omega, fun n hn => by have := hn.1; have := hn.2; omega⟩
  have GK0 : lz_GK (az_wr σx 231 0 0) (az_wr (az_wr (az_wr σm 804 49 0) 804 50 0) 804 51 0) 0 := fun n hn => by have := hn.1; have := hn.2; omega
  obtain ⟨x1, m1, c1, a, lx1, lm1, u1, w1, L1, b1, GK1, G1, -, wh1, fl1⟩ := lz_lay1 En1' LS0 GK0 (by omega) (by omega) Sc1 (fun f => by omega)
  have ux1 : bz_Upd σx x1 cz_SJ := ux0.trans (u1.weak fun _ _ q => mz_SJ q)
  have um1 : bz_Upd σm m1 cz_SM := um0.trans (w1.weak fun _ _ q => mz_SM q)
  have H1 := h.upd ux1 um1 (fun _ _ q => q) (fun _ _ q => q)
  have fl0 : m1.2 804 51 = 0 := by rw [fl1 rfl]; exact az_wr_same
  -- the row
  have hR1 : rz_R x1 m1 T s V r A n := hR.updT hT hA (ux1.weak fun _ _ q => Or.inl q) (um1.weak fun _ _ q => Or.inl q)
  obtain ⟨d, dp, d1, dS⟩ := hR1.sub a0 a1
  have n60 := hR1.2.2.1.2
  have En2 := hR1.en (who := 1) (fl := 1) H1 (Or.inr rfl) (W := fun w => if w = 0 then bz_VE 6 else V) (by rfl) (st := at') (en := at' + d) a0 d1
  obtain ⟨e1, e2, e3, e4⟩ := mz_tabs (s := s) hT (tM um1)
  rw [e1, e2, e3, e4] at En2
  have mA : m1.2 A at' = σm.2 A at' := um1.2.2 _ _ (fun c => by have := hR.2.2.2.2.2.1.2.2; unfold cz_SM at c; omega)
  obtain ⟨x2, m2, c2, b, lx2, lm2, u2, w2, L2, b2, GK2, G2⟩ := lz_lay2 En2 L1 GK1 (by omega) (by omega) dS ⟨⟨⟨by omega, by have := L1.1.2.2.1; omega⟩, fun k k0 k1 => by omega, fun k j k0 kj j1 => by omega, fun n hn _ hw => by rw [wh1 n hn.1 hn.2] at hw; omega⟩, by omega⟩ (by rw [Int.zero_add, mA]; exact hfam)
  have ux2 : bz_Upd σx x2 cz_SJ := ux1.trans (u2.weak fun _ _ q => mz_SJ q)
  have um2 : bz_Upd σm m2 cz_SM := um1.trans (w2.weak fun _ _ q => mz_SM q)
  have H2 := h.upd ux2 um2 (fun _ _ q => q) (fun _ _ q => q)
  obtain ⟨t1, t2, t3, t4⟩ := H2.tb
  obtain ⟨k1, k2, k3, k4⟩ := mz_tabs (s := s) hT (tM um2)
  rw [k1, k2, k3, k4] at t2
  rw [k1] at t3
  rw [k2] at t4
  obtain ⟨ok, X2, M2, -⟩ := lz_graph t1 t2 t3 t4 L2 GK2
  obtain ⟨g1a, g1b, g1c, g1d, g1e, g1f⟩ := G1
  obtain ⟨g2a, g2b, g2c, g2d, g2e, g2f⟩ := G2
  have ia : dz_In c2 a := ⟨g1d.1, by have := g1d.2; omega⟩
  have idx : ∀ n, dz_In c2 n → x2.2 235 n = n := fun n hn => by
    by_cases q : n < c1
    · rw [(g2a n ⟨hn.1, q⟩).2.1]; exact (g1c n hn.1 q).1
    · exact (g2c n (by omega) hn.2).1
  have idm : ∀ n, dz_In c2 n → m2.2 825 n = n := fun n hn => by
    by_cases q : n < c1
    · rw [(g2a n ⟨hn.1, q⟩).2.2.2]; exact (g1c n hn.1 q).2
    · exact (g2c n (by omega) hn.2).2
  obtain ⟨vx, x3, jx, ujx, rx⟩ := ez_join0 ok H2.1 X2 idx ia g2d
  obtain ⟨vm, m3, jm, ujm, -, rm⟩ := ez_joins0 ok H2.2.1 M2 idm ia g2d
  have evv : vx = vm := by
    rcases rx with ⟨p1, p2⟩ | ⟨p1, p2⟩
    · rcases rm with ⟨p3, p4⟩ | ⟨p3, p4⟩
      · omega
      · exact absurd p4 p2.fin.2
    · rcases rm with ⟨p3, p4⟩ | ⟨p3, p4⟩
      · exact absurd p2 p4.fin.2
      · omega
  have lm1' : fz_X11_leftNode 2000000 (az_wr (az_wr (az_wr σm 804 49 0) 804 50 0) 804 51 0) 804 i 0 = some (a, m1) := by
    unfold fz_X11_leftNode
    rw [ref.2.2.2.2.1, Option.bind_some, ref.2.2.2.2.2.2, Option.bind_some, az_w32_id (by omega) (by omega)]
    rw [Int.add_zero] at lm1
    rw [lm1, Option.bind_some]
  refine ⟨vx, x1, x2, x3, m3, a, b, lx1, lx2, jx, ux1, ux2, ux2.trans (ujx.weak (fun a k q => by unfold cz_SJ; omega)), um2.trans (ujm.weak fun _ _ q => mz_RS q), ?_⟩
  unfold fz_X11_isApart fz_X11_clears
  rw [Int.zero_add] at lm2
  simp only [Option.bind_some, lm1', lm2, jm, evv]
  split <;> rfl
theorem rz_stillL {e at' : Int} (hA : rz_A A) (a0 : 0 ≤ at') (a1 : at' < n) : ∀ (d k : Nat) (σx σm : az_Hp) (i : Int), rz_C σx σm T s → rz_R σx σm T s V r A n → (200 ≤ σm.2 A at' ∧ σm.2 A at' < 1000) → d < k → 0 ≤ i → i + d = e → e < σx.2 T 2 →
    ∃ q σx' σm', fz_X5_firstStill_29 2000000 k σx 243 e r at' (σx.2 (T + 7) e) i = some (q, σx') ∧ fz_X11_mayStill_25 2000000 k σm 804 e A at' i = some (q, σm') ∧ bz_Upd σx σx' cz_SJ ∧ bz_Upd σm σm' cz_SM ∧ -1 ≤ q := by
  intro d
  induction d with
  | zero =>
    intro k σx σm i hC hR hf hk i0 hi e1
    obtain ⟨k, rfl⟩ : ∃ k', k = k' + 1 := ⟨k - 1, by omega⟩
    refine ⟨-1, σx, σm, ?_, ?_, bz_Upd.refl, bz_Upd.refl, by omega⟩
    · unfold fz_X5_firstStill_29
      rw [if_neg (by omega)]
    · unfold fz_X11_mayStill_25
      rw [if_neg (by omega)]
  | succ d ih =>
    intro k σx σm i hC hR hf hk i0 hi e1
    obtain ⟨k, rfl⟩ : ∃ k', k = k' + 1 := ⟨k - 1, by omega⟩
    have hC0 := hC
    obtain ⟨h, hT2, hAg⟩ := hC
    have hT := h.2.2.1.1
    have nb := mz_nb h
    have g2 : az_gref σx 243 2 = some T := bz_gr hT2 (by omega)
    obtain ⟨fmi, fo1, fo2⟩ := mz_fam h i0 (by omega)
    obtain ⟨fme, -, -⟩ := mz_fam h (e := e) (by omega) e1
    have w1 : az_w32 (i + 1) = i + 1 := az_w32_id (by omega) (by omega)
    by_cases ho : σx.2 (T + 7) i = σx.2 (T + 7) e
    · obtain ⟨ag1, ag2⟩ := hAg i e i0 (by omega) e1 ho
      have l11 := (bz_tl h.1 hT).2.2.2.2.2.2.2.2.1
      have g13 := (bz_tg h.1 hT).2.2.2.2.2.2.2.2.2.2.1
      have l835 := ln_835 h.2.1
      have ag : fz_X9_agree σx T i e = some (σm.2 835 (16 * i + e)) := by
        unfold fz_X9_agree
        rw [g13, Option.bind_some, az_w32_id (z := i * 16) (by omega) (by omega), az_w32_id (by omega) (by omega), bz_ard (by omega) (by omega), Option.bind_some, show i * 16 + e = 16 * i + e by omega, ag1, if_pos ag2]
      have am : az_ard σm 835 (az_w32 (az_w32 (16 * i) + e)) = some (σm.2 835 (16 * i + e)) := by rw [az_w32_id (z := 16 * i) (by omega) (by omega), az_w32_id (by omega) (by omega), bz_ard (by omega) (by omega)]
      by_cases az : σm.2 835 (16 * i + e) = 0
      · obtain ⟨v, x1, x2, x3, m3, a, b, lx1, lx2, jx, ux1, ux2, ux3, um3, ap⟩ := rz_apart h hR hA i0 (by omega) a0 a1 hf
        have ux0 : bz_Upd σx (az_wr σx 231 0 0) cz_SJ := bz_Upd.wr bz_Upd.refl (by unfold cz_SJ; omega) (by decide)
        have k0 := fx_243_0 h.1
        have k1 := fx_243_0 (h.1.upd ux0)
        have k2 := fx_243_0 (h.1.upd ux1)
        have k3 := fx_243_0 (h.1.upd ux2)
        have h0 := h.upd ux0 (bz_Upd.refl (S := cz_SM)) (fun _ _ q => q) (fun _ _ q => q)
        have ref := mz_leftRef h0 i0 (by rw [az_wr_ne (by omega)]; omega)
        have g2' : az_gref (az_wr σx 231 0 0) 243 2 = some T := bz_gr (by rw [az_wr_ne (by omega)]; exact hT2) (by omega)
        have runX : fz_X5_firstStill_29 2000000 (k + 1) σx 243 e r at' (σx.2 (T + 7) e) i = (if v = 0 then fz_X5_firstStill_29 2000000 k x3 243 e r at' (σx.2 (T + 7) e) (i + 1) else some (i, x3)) := by
          conv => lhs; unfold fz_X5_firstStill_29
          rw [if_pos (by omega)]
          unfold fz_X0_clear
          simp only [g2, g2', fo1, fo2, ag, k0, k1, k2, k3, ref.1, ref.2.1, lx1, lx2, jx, w1, Option.bind_some]
          rw [if_pos ho, if_pos az]
        have runM : fz_X11_mayStill_25 2000000 (k + 1) σm 804 e A at' i = (if v = 0 then fz_X11_mayStill_25 2000000 k m3 804 e A at' (i + 1) else some (i, m3)) := by
          conv => lhs; unfold fz_X11_mayStill_25
          rw [if_pos (by omega), fmi, Option.bind_some, fme, Option.bind_some, if_pos ho, fx_804_55 h.2.1, Option.bind_some, am, Option.bind_some, if_pos az, ap, Option.bind_some, w1]
          by_cases vz : v = 0
          · rw [if_pos vz, if_pos vz, if_neg (show ¬ (1 : Int) = 0 by decide)]
          · rw [if_neg vz, if_neg vz, if_pos rfl]
        rw [runX, runM]
        by_cases vz : v = 0
        · rw [if_pos vz, if_pos vz]
          have tx := ux3.weak (S' := rz_TX) fun _ _ q => Or.inl q
          have tm := um3.weak (S' := rz_TM) fun _ _ q => Or.inl q
          have n3 : x3.2 T 2 = σx.2 T 2 := ux3.2.2 _ _ (fun c => by unfold cz_SJ at c; omega)
          have o7 : x3.2 (T + 7) e = σx.2 (T + 7) e := ux3.2.2 _ _ (fun c => by unfold cz_SJ at c; omega)
          have mA : m3.2 A at' = σm.2 A at' := um3.2.2 _ _ (fun c => by have := hR.2.2.2.2.2.1.2.2; unfold rz_A at hA; unfold cz_SM at c; omega)
          obtain ⟨q, σx', σm', y1, y2, y3, y4, y5⟩ := ih k x3 m3 (i + 1) (hC0.upd tx tm) (hR.updT hT hA tx tm) (by rw [mA]; exact hf) (by omega) (by omega) (by omega) (by rw [n3]; exact e1)
          rw [o7] at y1
          exact ⟨q, σx', σm', y1, y2, ux3.trans y3, um3.trans y4, y5⟩
        · rw [if_neg vz, if_neg vz]
          exact ⟨i, x3, m3, rfl, rfl, ux3, um3, by omega⟩
      · have runX : fz_X5_firstStill_29 2000000 (k + 1) σx 243 e r at' (σx.2 (T + 7) e) i = fz_X5_firstStill_29 2000000 k σx 243 e r at' (σx.2 (T + 7) e) (i + 1) := by
          conv => lhs; unfold fz_X5_firstStill_29
          rw [if_pos (by omega)]
          simp only [g2, fo1, fo2, ag, w1, Option.bind_some]
          rw [if_pos ho, if_neg az]
        have runM : fz_X11_mayStill_25 2000000 (k + 1) σm 804 e A at' i = fz_X11_mayStill_25 2000000 k σm 804 e A at' (i + 1) := by
          conv => lhs; unfold fz_X11_mayStill_25
          rw [if_pos (by omega), fmi, Option.bind_some, fme, Option.bind_some, if_pos ho, fx_804_55 h.2.1, Option.bind_some, am, Option.bind_some, if_neg az, w1]
        rw [runX, runM]
        exact ih k σx σm (i + 1) hC0 hR hf (by omega) (by omega) (by omega) e1
    · have runX : fz_X5_firstStill_29 2000000 (k + 1) σx 243 e r at' (σx.2 (T + 7) e) i = fz_X5_firstStill_29 2000000 k σx 243 e r at' (σx.2 (T + 7) e) (i + 1) := by
        conv => lhs; unfold fz_X5_firstStill_29
        rw [if_pos (by omega), g2, Option.bind_some, fo1, Option.bind_some, fo2, Option.bind_some, if_neg ho, w1]
      have runM : fz_X11_mayStill_25 2000000 (k + 1) σm 804 e A at' i = fz_X11_mayStill_25 2000000 k σm 804 e A at' (i + 1) := by
        conv => lhs; unfold fz_X11_mayStill_25
        rw [if_pos (by omega), fmi, Option.bind_some, fme, Option.bind_some, if_neg ho, w1]
      rw [runX, runM]
      exact ih k σx σm (i + 1) hC0 hR hf (by omega) (by omega) (by omega) e1
theorem rz_still {σx σm : az_Hp} {e at' : Int} (hC : rz_C σx σm T s) (hR : rz_R σx σm T s V r A n) (hA : rz_A A) (e0 : 0 ≤ e) (e1 : e < σx.2 T 2) (a0 : 0 ≤ at') (a1 : at' < n) (hf : 200 ≤ σm.2 A at' ∧ σm.2 A at' < 1000) :
    ∃ q σx' σm', fz_X5_firstStill 2000000 σx 243 e r at' = some (q, σx') ∧ fz_X11_mayStill 2000000 σm 804 e A at' = some (q, σm') ∧ bz_Upd σx σx' cz_SJ ∧ bz_Upd σm σm' cz_SM ∧ -1 ≤ q := by
  obtain ⟨h, hT2, hAg⟩ := hC
  have hT := h.2.2.1.1
  have hs := h.2.2.1.2.1
  have nb := mz_nb h
  have g2 : az_gref σx 243 2 = some T := bz_gr hT2 (by omega)
  obtain ⟨fme, fo1, fo2⟩ := mz_fam h e0 e1
  have hN := h.2.2.1.2.2.1
  have hE := h.2.2.1.2.2.2.2 e e0 (by rw [← h.n.2.2]; exact e1)
  obtain ⟨b1, b2, b3, b4, b5, b6, rl, rr, ra1, ra2, e16⟩ := h.r e0 e1
  -- the family's number
  have fr : 0 ≤ σx.2 (T + 7) e ∧ σx.2 (T + 7) e < σm.2 T 1 := by
    have c0 := hE.2.2.2.1 0 (by omega) (by have := hE.1.2.1; omega)
    rw [Int.add_zero] at c0
    have q8 := hE.2.2.2.2.2.2.2.1
    have nc8 := hN.2.2.1.2.1
    rw [b5]
    rcases c0 with w | w | w | w <;> omega
  have clo := (hN.2.2.2.2.1 (σx.2 (T + 7) e) fr.1 fr.2).2.2.1
  have nf5 := hN.2.2.1.2.2.2.1
  have t5 : σx.2 (T + 5) (σx.2 (T + 7) e) = σm.2 813 (5 * s + σx.2 (T + 7) e) := by rw [h.2.2.2.1 (T + 5) _ (by omega)]; exact clo.1
  have l5 := (bz_tl h.1 hT).2.2.2.2.1
  have l813 := ln_813 h.2.1
  have runX : fz_X5_firstStill 2000000 σx 243 e r at' = (if σm.2 813 (5 * s + σx.2 (T + 7) e) = 0 then some (-1, σx) else fz_X5_firstStill_29 2000000 2000000 σx 243 e r at' (σx.2 (T + 7) e) 0) := by
    unfold fz_X5_firstStill
    rw [g2, Option.bind_some, fo1, Option.bind_some, fo2, Option.bind_some, Option.bind_some, (bz_tg h.1 hT).2.2.2.2.1, Option.bind_some, bz_ard fr.1 (by omega), Option.bind_some, t5]
  have runM : fz_X11_mayStill 2000000 σm 804 e A at' = (if σm.2 813 (5 * s + σx.2 (T + 7) e) = 0 then some (-1, σm) else fz_X11_mayStill_25 2000000 2000000 σm 804 e A at' 0) := by
    unfold fz_X11_mayStill
    rw [fx_804_23 h.2.1, Option.bind_some, fme, Option.bind_some, h.2.2.2.2, az_w32_id (z := 5 * s) (by omega) (by omega), az_w32_id (by omega) (by omega), bz_ard (by omega) (by omega), Option.bind_some]
  rw [runX, runM]
  by_cases cz : σm.2 813 (5 * s + σx.2 (T + 7) e) = 0
  · rw [if_pos cz, if_pos cz]
    exact ⟨-1, σx, σm, rfl, rfl, bz_Upd.refl, bz_Upd.refl, by omega⟩
  · rw [if_neg cz, if_neg cz]
    exact rz_stillL hA a0 a1 e.toNat 2000000 σx σm 0 ⟨h, hT2, hAg⟩ hR hf (by omega) (by omega) (by omega) e1
end FR
