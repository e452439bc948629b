/-! two right sides, flat: whether they are bad together -/
theorem mz_layRF {σ0 σx σm : az_Hp} {T s e who c : Int} (h : mz_H σx σm T s) (h0 : bz_tS σ0 σm) (hT0 : T = 3 ∨ T = 82) (e0 : 0 ≤ e) (e1 : e < σx.2 T 2) (hL : mz_L σ0 T s σx σm c) (hc : c ≤ 100) (z51 : σm.2 804 51 = 0) (hw : ∀ n, dz_In c n → σx.2 232 n = lz_hid → σx.2 233 n ≠ who) (nf' : ¬ (200 ≤ σm.2 816 (16 * (16 * s + e)) ∧ σm.2 816 (16 * (16 * s + e)) < 1000)) :
    ∃ (σx' σm' : az_Hp) (c' ρ : Int), fz_X0_lay 2000000 σx 231 (T + 17 + 4 * e) 0 who 1 = some (ρ, σx') ∧ fz_X11_rightNode 2000000 σm 804 e who 1 = some (ρ, σm') ∧ bz_Upd σx σx' lz_S ∧ bz_Upd σm σm' lz_T ∧ mz_L σ0 T s σx' σm' c' ∧ c' ≤ c + 16 ∧ lz_Gr σx σm σx' σm' c c' ρ ∧ (∀ n, dz_In c n → σx'.2 233 n = σx.2 233 n) ∧ ∀ n, c ≤ n → n < c' → σx'.2 233 n = who := by
  obtain ⟨g1, g2, g3, g4⟩ := mz_tabs (s := s) hT0 h0
  have ref := mz_leftRef h e0 e1
  have hr := h.r e0 e1
  have sz : 0 ≤ σx.2 (T + 17 + 4 * e) 1 := hr.2.2.2.2.2.2.2.1.2.1
  have n3 := hr.2.2.2.2.2.2.2.2.2.2
  have hs := h.2.2.1.2.1
  obtain ⟨a1, a2, a3⟩ := mz_EnR (who := who) (fl := 1) h e0 e1 (Or.inr rfl) (d := (σx.2 (T + 17 + 4 * e) 1).toNat) (by omega)
  rw [g1, g2, g3, g4] at a1
  have c0 := hL.1.1.2.2.1
  obtain ⟨σx', σm', c', ρ, x1, x2, x3, x4, x5, x6, x7, x8, x9, x10, -⟩ := lz_lay1 a1 hL.1 hL.2 (by omega) (by omega) a2 (fun f => ⟨⟨⟨by omega, by omega⟩, fun k k0 k1 => by omega, fun k j k0 kj j1 => by omega, fun n hn hh hw' => absurd hw' (hw n hn hh)⟩, by omega, by rw [Int.add_zero]; exact nf'⟩)
  refine ⟨σx', σm', c', ρ, x1, ?_, x3, x4, ⟨x5, x7⟩, by omega, x8, x9, x10⟩
  unfold fz_X11_rightNode
  rw [ref.2.2.2.2.2.1, Option.bind_some, ref.2.2.2.2.2.2, Option.bind_some, az_w32_id (by omega) (by omega)]
  rw [Int.add_zero] at x2
  rw [x2, Option.bind_some]
theorem mz_bad {σx σm : az_Hp} {T s e o : Int} (h : mz_H σx σm T s) (e0 : 0 ≤ e) (e1 : e < σx.2 T 2) (o0 : 0 ≤ o) (o1 : o < σx.2 T 2) (ne : ¬ (200 ≤ σm.2 816 (16 * (16 * s + e)) ∧ σm.2 816 (16 * (16 * s + e)) < 1000)) (no : ¬ (200 ≤ σm.2 816 (16 * (16 * s + o)) ∧ σm.2 816 (16 * (16 * s + o)) < 1000)) :
    ∃ (f : Int) (x' m' : az_Hp), fz_X1_badTogether 2000000 σx 242 T e o = some (f, x') ∧ fz_X11_areBad 2000000 σm 804 e o = some (f, m') ∧ bz_Upd σx x' cz_SJ ∧ bz_Upd σm m' cz_SM := by
  have hT := h.2.2.1.1
  have ux0 : bz_Upd σx (az_wr σx 231 0 0) cz_SJ := bz_Upd.wr bz_Upd.refl (by unfold cz_SJ; omega) (by decide)
  have um0 : bz_Upd σm (az_wr (az_wr (az_wr σm 804 49 0) 804 50 0) 804 51 0) cz_SM := bz_Upd.wr (bz_Upd.wr (bz_Upd.wr bz_Upd.refl (by unfold cz_SM; omega) (by decide)) (by unfold cz_SM; omega) (by decide)) (by unfold cz_SM; omega) (by decide)
  have H0 := h.upd ux0 um0 (fun _ _ q => q) (fun _ _ q => q)
  have tM : ∀ {σ' : az_Hp}, bz_Upd σm σ' cz_SM → bz_tS σm σ' := fun hU a k q => hU.2.2 a k (fun c => by unfold cz_SM at c; omega)
  have eqs : ∀ {σ' : az_Hp}, bz_Upd σx σ' cz_SJ → σ'.2 T 2 = σx.2 T 2 := fun hU => hU.2.2 _ _ (fun c => by unfold cz_SJ at c; omega)
  have e816 : ∀ {σ' : az_Hp} (k : Int), bz_Upd σm σ' cz_SM → σ'.2 816 k = σm.2 816 k := fun k hU => hU.2.2 _ _ (fun c => by unfold cz_SM at c; omega)
  have L0 : mz_L σm T s (az_wr σx 231 0 0) (az_wr (az_wr (az_wr σm 804 49 0) 804 50 0) 804 51 0) 0 := mz_L0 az_wr_same (by rw [az_wr_ne (by omega), az_wr_ne (by omega), az_wr_same]) (by rw [az_wr_ne (by omega), az_wr_same])
  -- right e, flat
  obtain ⟨x1, m1, cE, a, lx1, lm1, u1, w1, L1, b1, G1, h1a, h1b⟩ := mz_layRF (who := 0) H0 (tM um0) hT e0 (by rw [eqs ux0]; exact e1) L0 (by omega) az_wr_same (fun n hn => by have := hn.1; have := hn.2; omega) (by rw [e816 _ um0]; exact ne)
  have ux1 : bz_Upd σx x1 cz_SJ := ux0.trans (u1.weak fun _ _ q => mz_SJ q)
  have um1 : bz_Upd σm m1 cz_SM := um0.trans (w1.weak fun _ _ q => mz_SM q)
  have un1 : bz_Upd σm (az_wr m1 804 51 0) cz_SM := um1.wr (by unfold cz_SM; omega) (by decide)
  have H1 := h.upd ux1 un1 (fun _ _ q => q) (fun _ _ q => q)
  have L1' : mz_L σm T s x1 (az_wr m1 804 51 0) cE := L1.cong (fun a k q => rfl) (fun a k q => az_wr_ne (by omega))
  -- right o, flat
  obtain ⟨x2, m2, c1, b, lx2, lm2, u2, w2, L2, b2, G2, h2a, h2b⟩ := mz_layRF (who := 1) H1 (tM un1) hT o0 (by rw [eqs ux1]; exact o1) L1' (by omega) az_wr_same (fun n hn _ => by rw [h1b n hn.1 hn.2]; decide) (by rw [e816 _ un1]; exact no)
  have ux2 : bz_Upd σx x2 cz_SJ := ux1.trans (u2.weak fun _ _ q => mz_SJ q)
  have um2 : bz_Upd σm m2 cz_SM := un1.trans (w2.weak fun _ _ q => mz_SM q)
  have H2 := h.upd ux2 um2 (fun _ _ q => q) (fun _ _ q => q)
  -- left e, left o: the class's heap isn't changed by these
  obtain ⟨x3', m3, c3, p, lx3, lm3, u3, w3, L3, b3, G3⟩ := mz_layL (who := 0) H2 (tM um2) hT e0 (by rw [eqs ux2]; exact e1) L2 (by omega)
  have um3 : bz_Upd σm m3 cz_SM := um2.trans (w3.weak fun _ _ q => mz_SM q)
  have ux3' : bz_Upd σx x3' cz_SJ := ux2.trans (u3.weak fun _ _ q => mz_SJ q)
  have H3 := h.upd ux3' um3 (fun _ _ q => q) (fun _ _ q => q)
  obtain ⟨x4', m4, c2, q, lx4, lm4, u4, w4, L4, b4, G4⟩ := mz_layL (who := 1) H3 (tM um3) hT o0 (by rw [eqs ux3']; exact o1) L3 (by omega)
  have um4 : bz_Upd σm m4 cz_SM := um3.trans (w4.weak fun _ _ q => mz_SM q)
  obtain ⟨g1a, g1b, g1c, g1d, g1e, g1f⟩ := G1
  obtain ⟨g2a, g2b, g2c, g2d, g2e, g2f⟩ := G2
  obtain ⟨g3a, g3b, g3c, g3d, g3e, g3f⟩ := G3
  obtain ⟨g4a, g4b, g4c, g4d, g4e, g4f⟩ := G4
  have c49 : m4.2 804 49 = c2 := L4.1.1.2.1
  obtain ⟨hg, hX, hM, hord⟩ := mz_graph H2 (tM um2) hT L2
  have hNg : dz_N (lz_g m2 c1) = c1 := rfl
  have ia : dz_In c1 a := ⟨g1d.1, by have := g1d.2; omega⟩
  have ib : dz_In c1 b := g2d
  have idm2 : ∀ n, dz_In c1 n → m2.2 825 n = n := by
    intro n hn
    by_cases qn : n < cE
    · have nn : dz_In cE n := ⟨hn.1, qn⟩
      rw [(g2a n nn).2.2.2, az_wr_ne (by omega)]
      exact (g1c n hn.1 qn).2
    · exact (g2c n (by omega) hn.2).2
  have idx2 : ∀ n, dz_In c1 n → x2.2 235 n = n := by
    intro n hn
    by_cases qn : n < cE
    · have nn : dz_In cE n := ⟨hn.1, qn⟩
      rw [(g2a n nn).2.1]
      exact (g1c n hn.1 qn).1
    · exact (g2c n (by omega) hn.2).1
  have in3 : ∀ n, dz_In c1 n → dz_In c3 n := fun n hn => ⟨hn.1, by have := hn.2; omega⟩
  have op4 : ∀ n, dz_In c1 n → m4.2 823 n = m2.2 823 n ∧ m4.2 825 n = n := by
    intro n hn
    have z3 := g3a n hn
    have z4 := g4a n (in3 n hn)
    refine ⟨?_, ?_⟩
    · rw [z4.2.2.1, z3.2.2.1]
    · rw [z4.2.2.2, z3.2.2.2]
      exact idm2 n hn
  have kd4 : ∀ x, 0 ≤ x → x < 3 * c1 → m4.2 824 x = m2.2 824 x := by
    intro x x0 x1
    rw [(g4b x x0 (by omega)).2, (g3b x x0 x1).2]
  have w34 := w3.trans w4
  have tm : ∀ k A, A = 811 ∨ A = 812 → m4.2 A k = m2.2 A k := fun k A hA => w34.2.2 A k (by unfold lz_T; omega)
  have e15 : m4.2 804 15 = m2.2 804 15 := w34.2.2 _ _ (by unfold lz_T; omega)
  have hM4 : ez_M m4 (lz_g m2 c1) := hM.part hg e15 (fun n hn => (op4 n hn).1) kd4 (fun k => tm k 811 (by omega)) (fun k => tm k 812 (by omega))
  have hFx2 := H2.1
  have hFm4 := h.2.1.upd um4
  have hRc : dz_Rc (lz_g m2 c1) a b := by
    intro V va vb hcl n hn
    have cl : ∀ x, dz_In c1 x → ¬ ez_iX (x2.2 232 x) → V x → ∀ k, 0 ≤ k → k < bz_ar (x2.2 232 x) → V (m2.2 824 (3 * x + k)) := by
      intro x hx hv vx k k0 k1
      have ex := hX x hx
      have nv : ¬ dz_iv (lz_g m2 c1) x := fun q => hv (ex.2.1.mpr q)
      exact hcl x hx nv vx k k0 (by rw [← (ex.2.2 nv).1]; exact k1)
    by_cases qn : n < cE
    · refine g1e V (fun x hx => by rw [hx]; exact va) (fun x x0 x1' hv vx k k0 k1 => ?_) n hn.1 qn
      have nn : dz_In cE x := ⟨x0, x1'⟩
      have e232 : x2.2 232 x = x1.2 232 x := (g2a x nn).1
      have ar3 := (@bz_ar_rng (x1.2 232 x)).2
      have e824 : m2.2 824 (3 * x + k) = m1.2 824 (3 * x + k) := by rw [(g2b (3 * x + k) (by omega) (by omega)).2, az_wr_ne (by omega)]
      rw [← e824]
      exact cl x ⟨x0, by omega⟩ (by rw [e232]; exact hv) vx k k0 (by rw [e232]; exact k1)
    · exact g2e V (fun x hx => by rw [hx]; exact vb) (fun x x0 x1' hv vx k k0 k1 => cl x ⟨by have := g1f; omega, x1'⟩ hv vx k k0 k1) n (by omega) hn.2
  obtain ⟨vj, x3, jx, jxu, jxr⟩ := ez_join0 hg hFx2 hX (fun n hn => idx2 n hn) ia ib
  obtain ⟨vm, m5, jm, jmu, jmo, jmr⟩ := ez_joins0 hg hFm4 hM4 (fun n hn => (op4 n hn).2) ia ib
  have ujx : bz_Upd x2 x3 cz_SJ := jxu.weak (fun a k q => by unfold cz_SJ; omega)
  have ux3 : bz_Upd σx x3 cz_SJ := ux2.trans ujx
  have ujm : bz_Upd σm m5 cz_SM := um4.trans (jmu.weak fun _ _ q => mz_RS q)
  have ref := mz_leftRef H0 e0 (by rw [eqs ux0]; exact e1)
  have refo := mz_leftRef H1 o0 (by rw [eqs ux1]; exact o1)
  have k0 := fx_242_0 h.1
  have k1 := fx_242_0 H0.1
  have k2 := fx_242_0 H1.1
  have k3 := fx_242_0 hFx2
  have hFx3 := h.1.upd ux3
  have k4 := fx_242_0 hFx3
  have runX0 : ∀ R, (if vj = 0 then some (0, x3) else ((fz_X0_hasCircle 2000000 x3 231).bind fun r14 => (if r14.1 = 0 then ((az_gref r14.2 242 0).bind fun x15 => ((az_gref r14.2 T 11).bind fun x16 => ((az_arr r14.2 x16 e).bind fun x17 => ((fz_X0_lay 2000000 r14.2 x15 x17 0 0 0).bind fun r18 => ((az_gref r18.2 242 0).bind fun x19 => ((az_gref r18.2 T 11).bind fun x20 => ((az_arr r18.2 x20 o).bind fun x21 => ((fz_X0_lay 2000000 r18.2 x19 x21 0 1 0).bind fun r22 => ((az_gref r22.2 242 0).bind fun x23 => ((fz_X0_join 2000000 r22.2 x23 r18.1 r22.1 1).bind fun r24 => (if r24.1 = 0 then (some (1, r24.2)) else (some (0, r24.2))))))))))))) else (some (0, r14.2))))) = R → fz_X1_badTogether 2000000 σx 242 T e o = R := by
    intro R hR
    rw [← hR]
    unfold fz_X1_badTogether fz_X0_clear
    simp only [k0, k1, k2, k3, k4, ref.2.2.1, ref.2.2.2.1, refo.2.2.1, refo.2.2.2.1, lx1, lx2, jx, Option.bind_some]
  have runM0 : ∀ R, (if vm = 0 then some (0, m5) else ((fz_X11_hasCircle 2000000 m5 804 a).bind fun r7 => (if r7.1 = 0 then ((fz_X11_areSame 2000000 200 r7.2 804 p q).bind fun r8 => (if r8 = 0 then (some (1, r7.2)) else (some (0, r7.2)))) else (some (0, r7.2))))) = R → fz_X11_areBad 2000000 σm 804 e o = R := by
    intro R hR
    rw [← hR]
    unfold fz_X11_areBad fz_X11_clears
    simp only [Option.bind_some, lm1, lm2, lm3, lm4, jm]
  rcases jxr with ⟨ev, hIx⟩ | ⟨ev, hcl⟩
  · rcases jmr with ⟨ev', hIm⟩ | ⟨ev', hcl'⟩
    · have hX3 : ez_X x3 (lz_g m2 c1) := hX.cong (fun n => jxu.2.2 232 n (by omega)) (fun n => jxu.2.2 238 n (by omega))
      obtain ⟨rx, x4, hcx, ucx, rcx⟩ := ez_hasCircle hg hFx3 hX3 hIx.1 (by rw [jxu.2.2 231 0 (by omega)]; exact L2.1.1.1)
      have m549 : m5.2 804 49 = c2 := by rw [jmu.2.2 804 49 (by unfold ez_RS; omega)]; exact c49
      obtain ⟨rm, m6, hcm, ucm, ucm', rcm⟩ := ez_hasCircleM hg (h.2.1.upd ujm) (hM4.upd jmu) hIm ia ib hRc (by rw [m549]; show c1 ≤ c2; omega) (by rw [m549]; omega)
      have ux4 : bz_Upd σx x4 cz_SJ := ux3.trans (ucx.weak (fun a k q => by unfold cz_SJ; omega))
      have um6 : bz_Upd σm m6 cz_SM := ujm.trans (ucm.weak fun _ _ q => mz_RS q)
      have iff : (∃ ρ, dz_RK (lz_g m2 c1) (x3.2 235) ρ) ↔ dz_NC (lz_g m2 c1) a b := ⟨fun ⟨ρ, hρ⟩ => hρ.nc hg hIx, fun hn => hn.rk hg hIx⟩
      rw [iff] at rcx
      have e235 : x4.2 235 = x3.2 235 := funext fun n => ucx.2.2 235 n (by omega)
      have e825 : m6.2 825 = m5.2 825 := funext ucm'
      rcases rcx with ⟨er, hnc⟩ | ⟨er, hnc⟩
      · rcases rcm with ⟨er', hnc'⟩ | ⟨er', hnc'⟩
        · -- no circle: the left sides
          have H4 : mz_H x4 m2 T s := h.upd ux4 um2 (fun _ _ q => q) (fun _ _ q => q)
          have L2x : mz_L σm T s x4 m2 c1 := L2.cong (fun a k q => by rw [ucx.2.2 a k (by omega), jxu.2.2 a k (by omega)]) (fun a k q => rfl)
          obtain ⟨x5, m3', c3', p', lx5, lm3', u5, w3', L5, b5, G5⟩ := mz_layL (who := 0) H4 (tM um2) hT e0 (by rw [eqs ux4]; exact e1) L2x (by omega)
          rw [lm3] at lm3'
          simp only [Option.some.injEq, Prod.mk.injEq] at lm3'
          obtain ⟨rfl, rfl⟩ := lm3'
          have ux5 : bz_Upd σx x5 cz_SJ := ux4.trans (u5.weak fun _ _ q => mz_SJ q)
          have H5 : mz_H x5 m3 T s := h.upd ux5 um3 (fun _ _ q => q) (fun _ _ q => q)
          obtain ⟨x6, m4', c2', q', lx6, lm4', u6, w4', L6, b6, G6⟩ := mz_layL (who := 1) H5 (tM um3) hT o0 (by rw [eqs ux5]; exact o1) L5 (by omega)
          rw [lm4] at lm4'
          simp only [Option.some.injEq, Prod.mk.injEq] at lm4'
          obtain ⟨rfl, rfl⟩ := lm4'
          have ec3 : c3' = c3 := by rw [← L3.1.1.2.1]; exact L5.1.1.2.1.symm
          have ec2 : c2' = c2 := by rw [← c49]; exact L6.1.1.2.1.symm
          subst ec2
          subst ec3
          have ux6 : bz_Upd σx x6 cz_SJ := ux5.trans (u6.weak fun _ _ q => mz_SJ q)
          have H6 : mz_H x6 m4 T s := h.upd ux6 um4 (fun _ _ q => q) (fun _ _ q => q)
          obtain ⟨g5a, g5b, g5c, g5d, g5e, g5f⟩ := G5
          obtain ⟨g6a, g6b, g6c, g6d, g6e, g6f⟩ := G6
          obtain ⟨ok2, X2, M2, ord2⟩ := mz_graph H6 (tM um4) hT L6
          have c12 : c1 ≤ c2' := by omega
          have ext : dz_X (lz_g m2 c1) (lz_g m4 c2') := mz_ext c12 hg e15 (fun n hn => (op4 n hn).1) kd4 (fun k => tm k 811 (by omega)) (fun k => tm k 812 (by omega))
          have agx : ∀ n, dz_In c1 n → x6.2 235 n = x4.2 235 n := fun n hn => by rw [(g6a n (in3 n hn)).2.1, (g5a n hn).2.1]
          have idx : ∀ n, c1 ≤ n → n < c2' → x6.2 235 n = n := fun n n0 n1 => by
            by_cases q3 : n < c3'
            · rw [(g6a n ⟨by have := L2.1.1.2.2.1; omega, q3⟩).2.1]; exact (g5c n n0 q3).1
            · exact (g6c n (by omega) n1).1
          have idn : ∀ n, c1 ≤ n → n < c2' → m6.2 825 n = n := fun n n0 n1 => by
            rw [ucm' n, jmo n (fun hin => by have := hin.2; rw [hNg] at this; omega)]
            by_cases q3 : n < c3'
            · rw [(g4a n ⟨by have := L2.1.1.2.2.1; omega, q3⟩).2.2.2]
              exact (g3c n n0 q3).2
            · exact (g4c n (by omega) n1).2
          have Ix : dz_Inv (lz_g m2 c1) (dz_Cl (lz_g m2 c1) a b) a b (x4.2 235) (fun _ _ => False) := by rw [e235]; exact hIx
          have Im : dz_Inv (lz_g m2 c1) (dz_Cl (lz_g m2 c1) a b) a b (m6.2 825) (fun _ _ => False) := by rw [e825]; exact hIm
          obtain ⟨ea1, ea2, ea3, ea4, ea5⟩ := dz_ext hg ok2 ext Ix agx idx
          obtain ⟨eb1, eb2, eb3, eb4, eb5⟩ := dz_ext hg ok2 ext Im (fun n _ => rfl) idn
          obtain ⟨ρ, rk, rkb⟩ := dz_extRK hg ok2 ext Im (fun n _ => rfl) idn hnc ord2
          have ip : dz_In c2' p := ⟨g5d.1, by have := g5d.2; omega⟩
          have iq : dz_In c2' q := g6d
          have hPP : dz_P (x6.2 235) (dz_N (lz_g m4 c2')) = dz_P (m6.2 825) (dz_N (lz_g m4 c2')) := funext fun x => funext fun y => propext ((ea4 x y).trans (eb4 x y).symm)
          obtain ⟨f, x7, jx7, ujx7, jr⟩ := ez_join1 ok2 H6.1 X2 ea1 ea2 ea3 ip iq
          have M6 : ez_M m6 (lz_g m4 c2') := M2.upd (jmu.trans ucm)
          obtain ⟨r, r1, r2⟩ := ez_areSame ok2 (h.2.1.upd um6) M6 eb1 eb2 eb3 (ρ := ρ) rk 200 p q ip iq (by have := rkb (dz_tp (m6.2 825) p); omega)
          rw [← hPP] at r2
          have efr : f = r := by
            rcases jr with ⟨z1, z2⟩ | ⟨z1, z2⟩
            · rcases r2 with ⟨y1, y2⟩ | ⟨y1, y2⟩
              · rw [y1, z1]
              · exact absurd z2 y2
            · rcases r2 with ⟨y1, y2⟩ | ⟨y1, y2⟩
              · exact absurd y2 z2
              · rw [y1, z1]
          have ux7 : bz_Upd σx x7 cz_SJ := ux6.trans (ujx7.weak (fun a k q => by unfold cz_SJ; omega))
          refine ⟨if f = 0 then 1 else 0, x7, m6, runX0 _ ?_, runM0 _ ?_, ux7, um6⟩
          · have kk4 := fx_242_0 H4.1
            have kk5 := fx_242_0 H5.1
            have kk6 := fx_242_0 H6.1
            have r4 := mz_leftRef H4 e0 (by rw [eqs ux4]; exact e1)
            have r5 := mz_leftRef H5 o0 (by rw [eqs ux5]; exact o1)
            rw [if_neg (by omega), hcx, Option.bind_some, if_pos er]
            simp only [kk4, kk5, kk6, r4.1, r4.2.1, r5.1, r5.2.1, lx5, lx6, jx7, Option.bind_some]
            split <;> rfl
          · rw [if_neg (by omega), hcm, Option.bind_some, if_pos er']
            simp only [r1, Option.bind_some, ← efr]
            split <;> rfl
        · exact absurd hnc hnc'
      · rcases rcm with ⟨er', hnc'⟩ | ⟨er', hnc'⟩
        · exact absurd hnc' hnc
        · refine ⟨0, x4, m6, runX0 _ ?_, runM0 _ ?_, ux4, um6⟩
          · rw [if_neg (by omega), hcx, Option.bind_some, if_neg (by simp only; omega)]
          · rw [if_neg (by omega), hcm, Option.bind_some, if_neg (by simp only; omega)]
    · exact absurd hcl' hIx.fin.2
  · rcases jmr with ⟨ev', hIm⟩ | ⟨ev', hcl'⟩
    · exact absurd hcl hIm.fin.2
    · exact ⟨0, x3, m5, runX0 _ (if_pos ev), runM0 _ (if_pos ev'), ux3, ujm⟩
