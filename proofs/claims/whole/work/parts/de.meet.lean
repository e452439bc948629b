-- ends: two left sides that meet, with what is known of their trees
def mz_PostT (σx σm : az_Hp) (T s e o : Int) (x4 m6 : az_Hp) : Prop :=
  ∃ (n2 m3 m4 : az_Hp) (c1 c2 a b p q : Int), mz_H x4 n2 T s ∧ (bz_tS σm n2 ∧ x4.2 T 2 = σx.2 T 2) ∧ mz_L σm T s x4 n2 c1 ∧ c1 ≤ 32 ∧ c2 ≤ 64 ∧ c1 ≤ c2 ∧ dz_In c1 a ∧ dz_In c1 b ∧
  fz_X11_rightNode 2000000 n2 804 e 0 0 = some (p, m3) ∧ fz_X11_rightNode 2000000 (az_wr m3 833 2 p) 804 o 1 0 = some (q, m4) ∧
  dz_Inv (lz_g n2 c1) (dz_Cl (lz_g n2 c1) a b) a b (x4.2 235) (fun _ _ => False) ∧ dz_Inv (lz_g n2 c1) (dz_Cl (lz_g n2 c1) a b) a b (m6.2 825) (fun _ _ => False) ∧ dz_NC (lz_g n2 c1) a b ∧
  bz_Upd (az_wr m4 833 3 q) m6 ez_RS ∧ (∀ n, c1 ≤ n → n < c2 → m6.2 825 n = n) ∧ m4.2 804 49 = c2 ∧ bz_Upd σm m6 cz_SM ∧ m6.2 833 0 = a ∧ m6.2 833 1 = b ∧ m6.2 833 2 = p ∧ m6.2 833 3 = q ∧ x4.2 242 1 = a ∧ (tr_G (lz_g n2 c1) a b ∧ (tr_St n2 c1 ∧ tr_Un n2) ∧ tr_V σm n2 T e 0 ∧ tr_V σm n2 T o 1 ∧ n2.2 823 a = σm.2 815 (16 * (16 * s + e)) ∧ n2.2 823 b = σm.2 815 (16 * (16 * s + o))) ∧ dz_Rc (lz_g n2 c1) a b
theorem mz_meetT {σx σm : az_Hp} {T s e o : Int} (h : mz_H σx σm T s) (e0 : 0 ≤ e) (e1 : e < σx.2 T 2) (o0 : 0 ≤ o) (o1 : o < σx.2 T 2) :
    ∃ (v : Int) (x4 m6 : az_Hp), fz_X1_meetLefts 2000000 σx 242 T e o = some (v, x4) ∧ fz_X11_meeting 2000000 σm 804 e o = some (v, m6) ∧ (v = 0 ∨ v = 1 ∨ v = 2) ∧ bz_Upd σx x4 cz_SJ ∧ bz_Upd σm m6 cz_SM ∧ (v = 1 → mz_PostT σx σm T s e o x4 m6) := by
  have hT := h.2.2.1.1
  -- cleared
  have ux0 : bz_Upd σx (az_wr σx 231 0 0) cz_SJ := bz_Upd.wr bz_Upd.refl (by unfold cz_SJ; omega) (by decide)
  have um0 : bz_Upd σm (az_wr (az_wr (az_wr σm 804 49 0) 804 50 0) 804 51 0) cz_SM := bz_Upd.wr (bz_Upd.wr (bz_Upd.wr bz_Upd.refl (by unfold cz_SM; omega) (by decide)) (by unfold cz_SM; omega) (by decide)) (by unfold cz_SM; omega) (by decide)
  have H0 := h.upd ux0 um0 (fun _ _ q => q) (fun _ _ q => q)
  have tM : ∀ {σ' : az_Hp}, bz_Upd σm σ' cz_SM → bz_tS σm σ' := fun hU a k q => hU.2.2 a k (fun c => by unfold cz_SM at c; omega)
  have eqs : ∀ {σ' : az_Hp}, bz_Upd σx σ' cz_SJ → σ'.2 T 2 = σx.2 T 2 := fun hU => hU.2.2 _ _ (fun c => by unfold cz_SJ at c; omega)
  have L0 : mz_L σm T s (az_wr σx 231 0 0) (az_wr (az_wr (az_wr σm 804 49 0) 804 50 0) 804 51 0) 0 := mz_L0 az_wr_same (by rw [az_wr_ne (by omega), az_wr_ne (by omega), az_wr_same]) (by rw [az_wr_ne (by omega), az_wr_same])
  -- left e
  obtain ⟨x1, m1, cE, a, lx1, lm1, u1, w1, L1, b1, G1⟩ := mz_layL (who := 0) H0 (tM um0) hT e0 (by rw [eqs ux0]; exact e1) L0 (by omega)
  have ux1 : bz_Upd σx x1 cz_SJ := ux0.trans (u1.weak fun _ _ q => mz_SJ q)
  have uy1 : bz_Upd σx (az_wr x1 242 1 a) cz_SJ := ux1.wr (by unfold cz_SJ; omega) (by decide)
  have um1 : bz_Upd σm m1 cz_SM := um0.trans (w1.weak fun _ _ q => mz_SM q)
  have un1 : bz_Upd σm (az_wr m1 833 0 a) cz_SM := mz_wr833 um1
  have H1 := h.upd uy1 un1 (fun _ _ q => q) (fun _ _ q => q)
  have L1' : mz_L σm T s (az_wr x1 242 1 a) (az_wr m1 833 0 a) cE := L1.cong (fun a k q => az_wr_ne (by omega)) (fun a k q => az_wr_ne (by omega))
  -- left o
  obtain ⟨x2, m2, c1, b, lx2, lm2, u2, w2, L2, b2, G2⟩ := mz_layL (who := 1) H1 (tM un1) hT o0 (by rw [eqs uy1]; exact o1) L1' (by omega)
  have ux2 : bz_Upd σx x2 cz_SJ := uy1.trans (u2.weak fun _ _ q => mz_SJ q)
  have um2 : bz_Upd σm m2 cz_SM := un1.trans (w2.weak fun _ _ q => mz_SM q)
  have un2 : bz_Upd σm (az_wr m2 833 1 b) cz_SM := mz_wr833 um2
  have H2 := h.upd ux2 un2 (fun _ _ q => q) (fun _ _ q => q)
  have L2' : mz_L σm T s x2 (az_wr m2 833 1 b) c1 := L2.cong (fun a k q => rfl) (fun a k q => az_wr_ne (by omega))
  -- right e, right o: the class's heap isn't changed by these
  obtain ⟨x3', m3, c3, p, lx3, lm3, u3, w3, L3, b3, G3⟩ := mz_layR (who := 0) H2 (tM un2) hT e0 (by rw [eqs ux2]; exact e1) L2' (by omega)
  have um3 : bz_Upd σm m3 cz_SM := un2.trans (w3.weak fun _ _ q => mz_SM q)
  have un3 : bz_Upd σm (az_wr m3 833 2 p) cz_SM := mz_wr833 um3
  have ux3' : bz_Upd σx x3' cz_SJ := ux2.trans (u3.weak fun _ _ q => mz_SJ q)
  have H3 := h.upd ux3' un3 (fun _ _ q => q) (fun _ _ q => q)
  have L3' : mz_L σm T s x3' (az_wr m3 833 2 p) c3 := L3.cong (fun a k q => rfl) (fun a k q => az_wr_ne (by omega))
  obtain ⟨x4', m4, c2, q, lx4, lm4, u4, w4, L4, b4, G4⟩ := mz_layR (who := 1) H3 (tM un3) hT o0 (by rw [eqs ux3']; exact o1) L3' (by omega)
  have um4 : bz_Upd σm m4 cz_SM := un3.trans (w4.weak fun _ _ q => mz_SM q)
  have un4 : bz_Upd σm (az_wr m4 833 3 q) cz_SM := mz_wr833 um4
  obtain ⟨g1a, g1b, g1c, g1d, g1e, g1f⟩ := G1
  obtain ⟨g2a, g2b, g2c, g2d, g2e, g2f⟩ := G2
  obtain ⟨g3a, g3b, g3c, g3d, g3e, g3f⟩ := G3
  obtain ⟨g4a, g4b, g4c, g4d, g4e, g4f⟩ := G4
  have c49 : m4.2 804 49 = c2 := L4.1.1.2.1
  -- the graph of both left sides
  obtain ⟨hg, hX, hM, hord⟩ := mz_graph H2 (tM un2) hT L2'
  have hNg : dz_N (lz_g (az_wr m2 833 1 b) c1) = c1 := rfl
  have ia : dz_In c1 a := ⟨g1d.1, by have := g1d.2; omega⟩
  have ib : dz_In c1 b := g2d
  -- roots
  have r833 : ∀ {σ σ' : az_Hp} (k : Int), bz_Upd σ σ' lz_T → σ'.2 833 k = σ.2 833 k := fun k hU => hU.2.2 _ _ (by unfold lz_T; omega)
  have root0 : (az_wr m4 833 3 q).2 833 0 = a := by
    rw [az_wr_ne (by omega), r833 0 w4, az_wr_ne (by omega), r833 0 w3, az_wr_ne (by omega), r833 0 w2, az_wr_same]
  have root1 : (az_wr m4 833 3 q).2 833 1 = b := by
    rw [az_wr_ne (by omega), r833 1 w4, az_wr_ne (by omega), r833 1 w3, az_wr_same]
  have root2 : (az_wr m4 833 3 q).2 833 2 = p := by
    rw [az_wr_ne (by omega), r833 2 w4, az_wr_same]
  have root3 : (az_wr m4 833 3 q).2 833 3 = q := az_wr_same
  have idm2 : ∀ n, dz_In c1 n → m2.2 825 n = n := by
    intro n hn
    by_cases qn : n < cE
    · have nn : dz_In cE n := ⟨hn.1, qn⟩
      rw [(g2a n nn).2.2.2, az_wr_ne (by omega)]
      exact (g1c n hn.1 qn).2
    · exact (g2c n (by omega) hn.2).2
  have idx2 : ∀ n, dz_In c1 n → x2.2 235 n = n := by
    intro n hn
    by_cases qn : n < cE
    · have nn : dz_In cE n := ⟨hn.1, qn⟩
      rw [(g2a n nn).2.1, az_wr_ne (by omega)]
      exact (g1c n hn.1 qn).1
    · exact (g2c n (by omega) hn.2).1
  have c3c : c1 ≤ c3 := g3f
  have in3 : ∀ n, dz_In c1 n → dz_In c3 n := fun n hn => ⟨hn.1, by have := hn.2; omega⟩
  have op4 : ∀ n, dz_In c1 n → (az_wr m4 833 3 q).2 823 n = (az_wr m2 833 1 b).2 823 n ∧ (az_wr m4 833 3 q).2 825 n = n := by
    intro n hn
    have z3 := g3a n hn
    have z4 := g4a n (in3 n hn)
    refine ⟨?_, ?_⟩
    · rw [az_wr_ne (by omega), z4.2.2.1, az_wr_ne (by omega), z3.2.2.1]
    · rw [az_wr_ne (by omega), z4.2.2.2, az_wr_ne (by omega), z3.2.2.2, az_wr_ne (by omega)]
      exact idm2 n hn
  have kd4 : ∀ x, 0 ≤ x → x < 3 * c1 → (az_wr m4 833 3 q).2 824 x = (az_wr m2 833 1 b).2 824 x := by
    intro x x0 x1
    rw [az_wr_ne (by omega), (g4b x x0 (by omega)).2, az_wr_ne (by omega), (g3b x x0 x1).2]
  have wT : bz_Upd (az_wr m2 833 1 b) m3 lz_T := w3
  have tm : ∀ k A, A = 811 ∨ A = 812 → (az_wr m4 833 3 q).2 A k = (az_wr m2 833 1 b).2 A k := fun k A hA => by
    rw [az_wr_ne (by omega), w4.2.2 A k (by unfold lz_T; omega), az_wr_ne (by omega), w3.2.2 A k (by unfold lz_T; omega)]
  have hM4 : ez_M (az_wr m4 833 3 q) (lz_g (az_wr m2 833 1 b) c1) := hM.part hg (by rw [az_wr_ne (by omega), w4.2.2 804 15 (by unfold lz_T; omega), az_wr_ne (by omega), w3.2.2 804 15 (by unfold lz_T; omega)]) (fun n hn => (op4 n hn).1) kd4 (fun k => tm k 811 (by omega)) (fun k => tm k 812 (by omega))
  have hFx2 := H2.1
  have hFm4 := h.2.1.upd un4
  -- every node lies under a or b
  have hRc : dz_Rc (lz_g (az_wr m2 833 1 b) c1) a b := by
    intro V va vb hcl n hn
    have cl : ∀ x, dz_In c1 x → ¬ ez_iX (x2.2 232 x) → V x → ∀ k, 0 ≤ k → k < bz_ar (x2.2 232 x) → V (m2.2 824 (3 * x + k)) := by
      intro x hx hv vx k k0 k1
      have ex := hX x hx
      have nv : ¬ dz_iv (lz_g (az_wr m2 833 1 b) c1) x := fun q => hv (ex.2.1.mpr q)
      have := hcl x hx nv vx k k0 (by rw [← (ex.2.2 nv).1]; exact k1)
      have e3 : dz_kd (lz_g (az_wr m2 833 1 b) c1) x k = m2.2 824 (3 * x + k) := by
        show (az_wr m2 833 1 b).2 824 (3 * x + k) = _
        exact az_wr_ne (by omega)
      rw [e3] at this
      exact this
    by_cases qn : n < cE
    · refine g1e V (fun x hx => by rw [hx]; exact va) (fun x x0 x1' hv vx k k0 k1 => ?_) n hn.1 qn
      have nn : dz_In cE x := ⟨x0, x1'⟩
      have e232 : x2.2 232 x = x1.2 232 x := by rw [(g2a x nn).1, az_wr_ne (by omega)]
      have ar3 := (@bz_ar_rng (x1.2 232 x)).2
      have e824 : m2.2 824 (3 * x + k) = m1.2 824 (3 * x + k) := by rw [(g2b (3 * x + k) (by omega) (by omega)).2, az_wr_ne (by omega)]
      rw [← e824]
      exact cl x ⟨x0, by omega⟩ (by rw [e232]; exact hv) vx k k0 (by rw [e232]; exact k1)
    · exact g2e V (fun x hx => by rw [hx]; exact vb) (fun x x0 x1' hv vx k k0 k1 => cl x ⟨by have := g1f; omega, x1'⟩ hv vx k k0 k1) n (by omega) hn.2
  -- joined by both
  obtain ⟨vj, x3, jx, jxu, jxr⟩ := ez_join0 hg hFx2 hX (fun n hn => idx2 n hn) ia ib
  obtain ⟨vm, m5, jm, jmu, jmo, jmr⟩ := ez_joins0 hg hFm4 hM4 (fun n hn => (op4 n hn).2) ia ib
  have x242 : x2.2 242 1 = a := by rw [u2.2.2 242 1 (by unfold lz_S; omega), az_wr_same]
  have ujx : bz_Upd x2 x3 cz_SJ := jxu.weak (fun a k q => by unfold cz_SJ; omega)
  have ux3 : bz_Upd σx x3 cz_SJ := ux2.trans ujx
  have ujm : bz_Upd σm m5 cz_SM := un4.trans (jmu.weak fun _ _ q => mz_RS q)
  -- the class's run
  have ref := mz_leftRef H0 e0 (by rw [eqs ux0]; exact e1)
  have refo := mz_leftRef H1 o0 (by rw [eqs uy1]; exact o1)
  have k0 := fx_242_0 h.1
  have k1 := fx_242_0 H0.1
  have k2 := fx_242_0 H1.1
  have k3 := fx_242_0 hFx2
  have hFx3 := h.1.upd ux3
  have k4 := fx_242_0 hFx3
  have runX : fz_X1_meetLefts 2000000 σx 242 T e o = (if vj = 0 then some (0, x3) else (fz_X0_hasCircle 2000000 x3 231).bind fun r14 => (if r14.1 = 0 then (some (1, r14.2)) else (some (2, r14.2)))) := by
    unfold fz_X1_meetLefts fz_X0_clear
    simp only [k0, k1, k2, k3, k4, ref.1, ref.2.1, refo.1, refo.2.1, lx1, lx2, jx, x242, Option.bind_some]
  -- the reference's run
  have g53 : ∀ {σ' : az_Hp}, bz_Upd σm σ' cz_SM → az_gref σ' 804 53 = some 833 := fun hU => fx_804_53 (h.2.1.upd hU)
  have l53 : ∀ {σ' : az_Hp}, bz_Upd σm σ' cz_SM → az_ln σ' 833 = 4 := fun hU => ln_833 (h.2.1.upd hU)
  have aw : ∀ {σ' : az_Hp} (k v : Int), bz_Upd σm σ' cz_SM → 0 ≤ k → k < 4 → az_awr σ' 833 k v = some (az_wr σ' 833 k v) := fun k v hU k0 k1 => bz_awr k0 (by rw [l53 hU]; exact k1)
  have r0 : az_ard (az_wr m4 833 3 q) 833 0 = some a := by rw [bz_ard (by omega) (by rw [l53 un4]; omega), root0]
  have r1 : az_ard (az_wr m4 833 3 q) 833 1 = some b := by rw [bz_ard (by omega) (by rw [l53 un4]; omega), root1]
  have r5 : az_ard m5 833 0 = some a := by rw [bz_ard (by omega) (by rw [l53 ujm]; omega), jmu.2.2 833 0 (by unfold ez_RS; omega), root0]
  have runM : fz_X11_meeting 2000000 σm 804 e o = (if vm = 0 then some (0, m5) else (fz_X11_hasCircle 2000000 m5 804 a).bind fun r21 => (if r21.1 = 0 then (some (1, r21.2)) else (some (2, r21.2)))) := by
    unfold fz_X11_meeting fz_X11_clears
    simp only [Option.bind_some, g53 um0, lm1, aw 0 a um1 (by omega) (by omega), g53 un1, lm2, aw 1 b um2 (by omega) (by omega), g53 un2, lm3, aw 2 p um3 (by omega) (by omega), g53 un3, lm4, aw 3 q um4 (by omega) (by omega), g53 un4, r0, r1, jm, g53 ujm, r5]
  rcases jxr with ⟨ev, hIx⟩ | ⟨ev, hcl⟩
  · rcases jmr with ⟨ev', hIm⟩ | ⟨ev', hcl'⟩
    · -- they meet: is there a circle?
      have hX3 : ez_X x3 (lz_g (az_wr m2 833 1 b) c1) := hX.cong (fun n => jxu.2.2 232 n (by omega)) (fun n => jxu.2.2 238 n (by omega))
      obtain ⟨rx, x4, hcx, ucx, rcx⟩ := ez_hasCircle hg hFx3 hX3 hIx.1 (by rw [jxu.2.2 231 0 (by omega)]; exact L2.1.1.1)
      have m549 : m5.2 804 49 = c2 := by rw [jmu.2.2 804 49 (by unfold ez_RS; omega), az_wr_ne (by omega)]; exact c49
      obtain ⟨rm, m6, hcm, ucm, ucm', rcm⟩ := ez_hasCircleM hg (h.2.1.upd ujm) (hM4.upd jmu) hIm ia ib hRc (by rw [m549]; show c1 ≤ c2; omega) (by rw [m549]; omega)
      have ux4 : bz_Upd σx x4 cz_SJ := ux3.trans (ucx.weak (fun a k q => by unfold cz_SJ; omega))
      have um6 : bz_Upd σm m6 cz_SM := ujm.trans (ucm.weak fun _ _ q => mz_RS q)
      rw [if_neg (by omega), hcx, Option.bind_some] at runX
      rw [if_neg (by omega), hcm, Option.bind_some] at runM
      have iff : (∃ ρ, dz_RK (lz_g (az_wr m2 833 1 b) c1) (x3.2 235) ρ) ↔ dz_NC (lz_g (az_wr m2 833 1 b) c1) a b := ⟨fun ⟨ρ, hρ⟩ => hρ.nc hg hIx, fun hn => hn.rk hg hIx⟩
      rw [iff] at rcx
      have e235 : x4.2 235 = x3.2 235 := funext fun n => ucx.2.2 235 n (by omega)
      have e825 : m6.2 825 = m5.2 825 := funext ucm'
      rcases rcx with ⟨er, hnc⟩ | ⟨er, hnc⟩
      · rcases rcm with ⟨er', hnc'⟩ | ⟨er', hnc'⟩
        · rw [if_pos er] at runX
          rw [if_pos er'] at runM
          refine ⟨1, x4, m6, runX, runM, Or.inr (Or.inl rfl), ux4, um6, fun _ => ⟨az_wr m2 833 1 b, m3, m4, c1, c2, a, b, p, q, h.upd ux4 un2 (fun _ _ q => q) (fun _ _ q => q), ⟨tM un2, eqs ux4⟩, L2'.cong (fun a k q => ?_) (fun a k q => rfl), by omega, by omega, by omega, ia, ib, lm3, lm4, by rw [e235]; exact hIx, by rw [e825]; exact hIm, hnc, jmu.trans ucm, fun n n0 n1 => ?_, c49, um6, ?_, ?_, ?_, ?_, ?_, tr_both h e0 e1 o0 o1 um0 (by rw [az_wr_ne (by omega), az_wr_ne (by omega), az_wr_same]) (by rw [az_wr_ne (by omega), az_wr_same]) lm1 lm2 L2.1.1.2.1 hg, hRc⟩⟩
          · rw [ucx.2.2 a k (by omega), jxu.2.2 a k (by omega)]
          · rw [ucm' n, jmo n (fun hin => by have := hin.2; rw [hNg] at this; omega), az_wr_ne (by omega)]
            by_cases q3 : n < c3
            · rw [(g4a n ⟨by have := g1f; have := g2f; omega, q3⟩).2.2.2, az_wr_ne (by omega)]
              exact (g3c n n0 q3).2
            · exact (g4c n (by omega) n1).2
          · rw [ucm.2.2 833 0 (by unfold ez_RS; omega), jmu.2.2 833 0 (by unfold ez_RS; omega), root0]
          · rw [ucm.2.2 833 1 (by unfold ez_RS; omega), jmu.2.2 833 1 (by unfold ez_RS; omega), root1]
          · rw [ucm.2.2 833 2 (by unfold ez_RS; omega), jmu.2.2 833 2 (by unfold ez_RS; omega), root2]
          · rw [ucm.2.2 833 3 (by unfold ez_RS; omega), jmu.2.2 833 3 (by unfold ez_RS; omega), root3]
          · rw [ucx.2.2 242 1 (by omega), jxu.2.2 242 1 (by omega), x242]
        · exact absurd hnc hnc'
      · rcases rcm with ⟨er', hnc'⟩ | ⟨er', hnc'⟩
        · exact absurd hnc' hnc
        · rw [if_neg (by simp only; omega)] at runX
          rw [if_neg (by simp only; omega)] at runM
          exact ⟨2, x4, m6, runX, runM, Or.inr (Or.inr rfl), ux4, um6, fun q => by omega⟩
    · exact absurd hcl' hIx.fin.2
  · rcases jmr with ⟨ev', hIm⟩ | ⟨ev', hcl'⟩
    · exact absurd hcl hIm.fin.2
    · rw [if_pos ev] at runX
      rw [if_pos ev'] at runM
      exact ⟨0, x3, m5, runX, runM, Or.inl rfl, ux3, ujm, fun q => by omega⟩
