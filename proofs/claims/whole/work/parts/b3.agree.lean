/-! whether right sides agree, by the graphs that the reference lays -/
def sy_Ag (e o T s : Int) (m0 m1 m2 m3 m4 : az_Hp) (cE c1 c3 c4 a b p q f : Int) : Prop :=
  (fz_X11_leftNode 2000000 m0 804 e 0 = some (a, m1) ∧ fz_X11_leftNode 2000000 m1 804 o 1 = some (b, m2) ∧ fz_X11_rightNode 2000000 m2 804 e 0 0 = some (p, m3) ∧ fz_X11_rightNode 2000000 m3 804 o 1 0 = some (q, m4)) ∧
  (m1.2 804 49 = cE ∧ m2.2 804 49 = c1 ∧ m3.2 804 49 = c3 ∧ m4.2 804 49 = c4) ∧ (0 ≤ cE ∧ cE ≤ c1 ∧ c1 ≤ c3 ∧ c3 ≤ c4 ∧ cE ≤ 16 ∧ c1 ≤ 32 ∧ c3 ≤ 48 ∧ c4 ≤ 64) ∧ (dz_ok (lz_g m2 c1) ∧ dz_ok (lz_g m4 c4)) ∧
  (f = 1 ↔ dz_Clash (lz_g m2 c1) a b ∨ (¬ dz_Clash (lz_g m2 c1) a b ∧ dz_NC (lz_g m2 c1) a b ∧ dz_Sm (lz_g m4 c4) (sy_P (lz_g m2 c1) c1 a b) p q))
theorem sy_agree {σx σm : az_Hp} {T s e o : Int} (h : mz_H σx σm T s) (e0 : 0 ≤ e) (e1 : e < σx.2 T 2) (o0 : 0 ≤ o) (o1 : o < σx.2 T 2) (z49 : σm.2 804 49 = 0) (z50 : σm.2 804 50 = 0) :
    ∃ (f : Int) (x' m1 m2 m3 m4 : az_Hp) (cE c1 c3 c4 a b p q : Int), fz_X1_rightsAgree 2000000 σx 242 T e o = some (f, x') ∧ (f = 0 ∨ f = 1) ∧ sy_Ag e o T s σm m1 m2 m3 m4 cE c1 c3 c4 a b p q f := by
  have hT := h.2.2.1.1
  have ux0 : bz_Upd σx (az_wr σx 231 0 0) cz_SJ := bz_Upd.wr bz_Upd.refl (by unfold cz_SJ; omega) (by decide)
  have H0 := h.upd ux0 (bz_Upd.refl (S := cz_SM)) (fun _ _ q => q) (fun _ _ q => q)
  have tM : ∀ {σ' : az_Hp}, bz_Upd σm σ' cz_SM → bz_tS σm σ' := fun hU a k q => hU.2.2 a k (fun c => by unfold cz_SM at c; omega)
  have eqs : ∀ {σ' : az_Hp}, bz_Upd σx σ' cz_SJ → σ'.2 T 2 = σx.2 T 2 := fun hU => hU.2.2 _ _ (fun c => by unfold cz_SJ at c; omega)
  have L0 : mz_L σm T s (az_wr σx 231 0 0) σm 0 := mz_L0 az_wr_same z49 z50
  obtain ⟨x1, m1, cE, a, lx1, lm1, u1, w1, L1, b1, G1⟩ := mz_layL (who := 0) H0 bz_tS.refl hT e0 (by rw [eqs ux0]; exact e1) L0 (by omega)
  have ux1 : bz_Upd σx x1 cz_SJ := ux0.trans (u1.weak fun _ _ q => mz_SJ q)
  have uy1 : bz_Upd σx (az_wr x1 242 1 a) cz_SJ := ux1.wr (by unfold cz_SJ; omega) (by decide)
  have um1 : bz_Upd σm m1 cz_SM := w1.weak fun _ _ q => mz_SM q
  have H1 := h.upd uy1 um1 (fun _ _ q => q) (fun _ _ q => q)
  have L1' : mz_L σm T s (az_wr x1 242 1 a) m1 cE := L1.cong (fun a k q => az_wr_ne (by omega)) (fun a k q => rfl)
  obtain ⟨x2, m2, c1, b, lx2, lm2, u2, w2, L2, b2, G2⟩ := mz_layL (who := 1) H1 (tM um1) hT o0 (by rw [eqs uy1]; exact o1) L1' (by omega)
  have ux2 : bz_Upd σx x2 cz_SJ := uy1.trans (u2.weak fun _ _ q => mz_SJ q)
  have um2 : bz_Upd σm m2 cz_SM := um1.trans (w2.weak fun _ _ q => mz_SM q)
  have H2 := h.upd ux2 um2 (fun _ _ q => q) (fun _ _ q => q)
  obtain ⟨x3', m3, c3, p, lx3, lm3, u3, w3, L3, b3, G3⟩ := mz_layR (who := 0) H2 (tM um2) hT e0 (by rw [eqs ux2]; exact e1) L2 (by omega)
  have um3 : bz_Upd σm m3 cz_SM := um2.trans (w3.weak fun _ _ q => mz_SM q)
  have ux3' : bz_Upd σx x3' cz_SJ := ux2.trans (u3.weak fun _ _ q => mz_SJ q)
  have H3 := h.upd ux3' um3 (fun _ _ q => q) (fun _ _ q => q)
  obtain ⟨x4', m4, c4, q, lx4, lm4, u4, w4, L4, b4, G4⟩ := mz_layR (who := 1) H3 (tM um3) hT o0 (by rw [eqs ux3']; exact o1) L3 (by omega)
  have um4 : bz_Upd σm m4 cz_SM := um3.trans (w4.weak fun _ _ q => mz_SM q)
  have H4' := h.upd (ux3'.trans (u4.weak fun _ _ q => mz_SJ q)) um4 (fun _ _ q => q) (fun _ _ q => q)
  obtain ⟨g1a, g1b, g1c, g1d, g1e, g1f⟩ := G1
  obtain ⟨g2a, g2b, g2c, g2d, g2e, g2f⟩ := G2
  obtain ⟨g3a, g3b, g3c, g3d, g3e, g3f⟩ := G3
  obtain ⟨g4a, g4b, g4c, g4d, g4e, g4f⟩ := G4
  obtain ⟨hg, hX, hM, hord⟩ := mz_graph H2 (tM um2) hT L2
  obtain ⟨hg4, -, -, -⟩ := mz_graph H4' (tM um4) hT L4
  have ia : dz_In c1 a := ⟨g1d.1, by have := g1d.2; omega⟩
  have ib : dz_In c1 b := g2d
  have idx2 : ∀ n, dz_In c1 n → x2.2 235 n = n := by
    intro n hn
    by_cases qn : n < cE
    · rw [(g2a n ⟨hn.1, qn⟩).2.1, az_wr_ne (by omega)]
      exact (g1c n hn.1 qn).1
    · exact (g2c n (by omega) hn.2).1
  have hFx2 := H2.1
  obtain ⟨vj, x3, jx, jxu, jxr⟩ := ez_join0 hg hFx2 hX (fun n hn => idx2 n hn) ia ib
  have x242 : x2.2 242 1 = a := by rw [u2.2.2 242 1 (by unfold lz_S; omega), az_wr_same]
  have ujx : bz_Upd x2 x3 cz_SJ := jxu.weak (fun a k q => by unfold cz_SJ; omega)
  have ux3 : bz_Upd σx x3 cz_SJ := ux2.trans ujx
  have ref := mz_leftRef H0 e0 (by rw [eqs ux0]; exact e1)
  have refo := mz_leftRef H1 o0 (by rw [eqs uy1]; exact o1)
  have k0 := fx_242_0 h.1
  have k1 := fx_242_0 H0.1
  have k2 := fx_242_0 H1.1
  have k3 := fx_242_0 hFx2
  have hFx3 := h.1.upd ux3
  have k4 := fx_242_0 hFx3
  have runX : fz_X1_meetLefts 2000000 σx 242 T e o = (if vj = 0 then some (0, x3) else (fz_X0_hasCircle 2000000 x3 231).bind fun r14 => (if r14.1 = 0 then (some (1, r14.2)) else (some (2, r14.2)))) := by
    unfold fz_X1_meetLefts fz_X0_clear
    simp only [k0, k1, k2, k3, k4, ref.1, ref.2.1, refo.1, refo.2.1, lx1, lx2, jx, x242, Option.bind_some]
  have cc : m1.2 804 49 = cE ∧ m2.2 804 49 = c1 ∧ m3.2 804 49 = c3 ∧ m4.2 804 49 = c4 := ⟨L1.1.1.2.1, L2.1.1.2.1, L3.1.1.2.1, L4.1.1.2.1⟩
  have cb : 0 ≤ cE ∧ cE ≤ c1 ∧ c1 ≤ c3 ∧ c3 ≤ c4 ∧ cE ≤ 16 ∧ c1 ≤ 32 ∧ c3 ≤ 48 ∧ c4 ≤ 64 := ⟨g1f, g2f, g3f, g4f, by omega, by omega, by omega, by omega⟩
  rcases jxr with ⟨ev, hIx⟩ | ⟨ev, hcl⟩
  rotate_left
  · -- APART
    rw [if_pos ev] at runX
    refine ⟨1, x3, m1, m2, m3, m4, cE, c1, c3, c4, a, b, p, q, ?_, Or.inr rfl, ⟨lm1, lm2, lm3, lm4⟩, cc, cb, ⟨hg, hg4⟩, ⟨fun _ => Or.inl hcl, fun _ => rfl⟩⟩
    unfold fz_X1_rightsAgree
    rw [runX, Option.bind_some, if_neg (show ¬ (0 : Int) = 1 by decide), if_pos rfl]
  have ncl := hIx.fin.2
  have hX3 : ez_X x3 (lz_g m2 c1) := hX.cong (fun n => jxu.2.2 232 n (by omega)) (fun n => jxu.2.2 238 n (by omega))
  obtain ⟨rx, x4, hcx, ucx, rcx⟩ := ez_hasCircle hg hFx3 hX3 hIx.1 (by rw [jxu.2.2 231 0 (by omega)]; exact L2.1.1.1)
  have ux4 : bz_Upd σx x4 cz_SJ := ux3.trans (ucx.weak (fun a k q => by unfold cz_SJ; omega))
  rw [if_neg (by omega), hcx, Option.bind_some] at runX
  have iff : (∃ ρ, dz_RK (lz_g m2 c1) (x3.2 235) ρ) ↔ dz_NC (lz_g m2 c1) a b := ⟨fun ⟨ρ, hρ⟩ => hρ.nc hg hIx, fun hn => hn.rk hg hIx⟩
  rw [iff] at rcx
  have e235 : x4.2 235 = x3.2 235 := funext fun n => ucx.2.2 235 n (by omega)
  rcases rcx with ⟨er, hnc⟩ | ⟨er, hnc⟩
  rotate_left
  · -- BY A CIRCLE
    rw [if_neg (by simp only; omega)] at runX
    refine ⟨0, x4, m1, m2, m3, m4, cE, c1, c3, c4, a, b, p, q, ?_, Or.inl rfl, ⟨lm1, lm2, lm3, lm4⟩, cc, cb, ⟨hg, hg4⟩, ⟨fun z => by omega, fun z => ?_⟩⟩
    · unfold fz_X1_rightsAgree
      rw [runX, Option.bind_some, if_neg (show ¬ (2 : Int) = 1 by decide), if_neg (show ¬ (2 : Int) = 0 by decide)]
    · rcases z with z | z
      · exact absurd z ncl
      · exact absurd z.2.1 hnc
  rw [if_pos er] at runX
  have H4 : mz_H x4 m2 T s := h.upd ux4 um2 (fun _ _ q => q) (fun _ _ q => q)
  have L4x : mz_L σm T s x4 m2 c1 := L2.cong (fun a k q => by rw [ucx.2.2 a k (by omega), jxu.2.2 a k (by omega)]) (fun a k q => rfl)
  obtain ⟨x5, m3', c3', p', lx5, lm3', u5, w3', L5, b5, G5⟩ := mz_layR (who := 0) H4 (tM um2) hT e0 (by rw [eqs ux4]; exact e1) L4x (by omega)
  rw [lm3] at lm3'
  simp only [Option.some.injEq, Prod.mk.injEq] at lm3'
  obtain ⟨rfl, rfl⟩ := lm3'
  have ec3 : c3' = c3 := by rw [← cc.2.2.1]; exact L5.1.1.2.1.symm
  subst ec3
  have ux5 : bz_Upd x4 x5 cz_SJ := u5.weak fun _ _ q => mz_SJ q
  have H5 := h.upd (ux4.trans ux5) um3 (fun _ _ q => q) (fun _ _ q => q)
  obtain ⟨x6, m4', c4', q', lx6, lm4', u6, w4', L6, b6, G6⟩ := mz_layR (who := 1) H5 (tM um3) hT o0 (by rw [eqs (ux4.trans ux5)]; exact o1) L5 (by omega)
  rw [lm4] at lm4'
  simp only [Option.some.injEq, Prod.mk.injEq] at lm4'
  obtain ⟨rfl, rfl⟩ := lm4'
  have ec4 : c4' = c4 := by rw [← cc.2.2.2]; exact L6.1.1.2.1.symm
  subst ec4
  have ux6 : bz_Upd x5 x6 cz_SJ := u6.weak fun _ _ q => mz_SJ q
  have H6 := h.upd ((ux4.trans ux5).trans ux6) um4 (fun _ _ q => q) (fun _ _ q => q)
  obtain ⟨g5a, g5b, g5c, g5d, g5e, g5f⟩ := G5
  obtain ⟨g6a, g6b, g6c, g6d, g6e, g6f⟩ := G6
  obtain ⟨ok2, X2, M2, ord2⟩ := mz_graph H6 (tM um4) hT L6
  have in3 : ∀ n, dz_In c1 n → dz_In c3' n := fun n hn => ⟨hn.1, by have := hn.2; omega⟩
  have ext : dz_X (lz_g m2 c1) (lz_g m4 c4') := mz_ext (by omega) hg (by rw [w4.2.2 804 15 (by unfold lz_T; omega), w3.2.2 804 15 (by unfold lz_T; omega)]) (fun n hn => by rw [(g6a n (in3 n hn)).2.2.1, (g5a n hn).2.2.1]) (fun x x0 x1 => by rw [(g6b x x0 (by omega)).2, (g5b x x0 x1).2]) (fun k => by rw [w4.2.2 811 k (by unfold lz_T; omega), w3.2.2 811 k (by unfold lz_T; omega)]) (fun k => by rw [w4.2.2 812 k (by unfold lz_T; omega), w3.2.2 812 k (by unfold lz_T; omega)])
  have agx : ∀ n, dz_In c1 n → x6.2 235 n = x3.2 235 n := fun n hn => by rw [(g6a n (in3 n hn)).2.1, (g5a n hn).2.1, e235]
  have idx : ∀ n, c1 ≤ n → n < c4' → x6.2 235 n = n := fun n n0 n1 => by
    by_cases q3 : n < c3'
    · rw [(g6a n ⟨by omega, q3⟩).2.1]; exact (g5c n n0 q3).1
    · exact (g6c n (by omega) n1).1
  obtain ⟨ea1, ea2, ea3, ea4, ea5⟩ := dz_ext hg ok2 ext hIx agx idx
  have ip : dz_In c4' p := ⟨g5d.1, by have := g5d.2; omega⟩
  have iq : dz_In c4' q := g6d
  obtain ⟨f, x7, jx7, ujx7, jr⟩ := ez_join1 ok2 H6.1 X2 ea1 ea2 ea3 ip iq
  have hf : f = 0 ∨ f = 1 := by rcases jr with ⟨q, -⟩ | ⟨q, -⟩ <;> omega
  have hPP : dz_P (x6.2 235) (dz_N (lz_g m4 c4')) = sy_P (lz_g m2 c1) c1 a b := funext fun x => funext fun y => propext (ea4 x y)
  rw [hPP] at jr
  refine ⟨f, x7, m1, m2, m3, m4, cE, c1, c3', c4', a, b, p, q, ?_, hf, ⟨lm1, lm2, lm3, lm4⟩, cc, cb, ⟨hg, hg4⟩, ?_⟩
  · have k4 := fx_242_0 H4.1
    have k5 := fx_242_0 H5.1
    have k6 := fx_242_0 H6.1
    have ref := mz_leftRef H4 e0 (by rw [eqs ux4]; exact e1)
    have refo := mz_leftRef H5 o0 (by rw [eqs (ux4.trans ux5)]; exact o1)
    unfold fz_X1_rightsAgree
    rw [runX, Option.bind_some, if_pos rfl]
    simp only [k4, k5, k6, ref.2.2.1, ref.2.2.2.1, refo.2.2.1, refo.2.2.2.1, lx5, lx6, jx7, Option.bind_some]
    rw [if_pos hf]
  · rcases jr with ⟨z1, z2⟩ | ⟨z1, z2⟩
    · exact ⟨fun _ => Or.inr ⟨ncl, hnc, z2⟩, fun _ => z1⟩
    · refine ⟨fun z => by omega, fun z => ?_⟩
      rcases z with z | z
      · exact absurd z ncl
      · exact absurd z.2.2 z2
