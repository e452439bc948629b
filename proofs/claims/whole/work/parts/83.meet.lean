/-! equations laid out and joined -/
/-- the tables and rows of two heaps that tell the same -/
def mz_W : Int → Int → Int → Prop := fun _ => bz_VE 6
theorem bz_cr.weak {ct ft : Int → Int} {nc nf : Int} {V V' : Int → Int → Prop} {c m : Int} (h : bz_cr ct ft nc nf V c m) (hV : ∀ a b, V a b → V' a b) : bz_cr ct ft nc nf V' c m := by
  rcases h with h | h | h | h
  · exact Or.inl ⟨h.1, h.2.1, h.2.2.1, hV _ _ h.2.2.2⟩
  · exact Or.inr (Or.inl h)
  · exact Or.inr (Or.inr (Or.inl h))
  · exact Or.inr (Or.inr (Or.inr h))
/-- the class's heap and the reference's, which holds what both tell -/
def mz_H (σx σm : az_Hp) (T s : Int) : Prop := bz_Fx σx ∧ bz_Fx σm ∧ bz_TR σm T s ∧ mz_cS T σm σx ∧ σm.2 804 15 = s
theorem mz_H.tb {σx σm : az_Hp} {T s : Int} (h : mz_H σx σm T s) : bz_sd σm ∧ bz_tb (bz_ct σm s) (bz_ft σm s) (σm.2 T 0) (σm.2 T 1) ∧ (∀ k, σm.2 811 (8 * σm.2 804 15 + k) = bz_ct σm s k) ∧ (∀ k, σm.2 812 (5 * σm.2 804 15 + k) = bz_ft σm s k) := by
  obtain ⟨h1, h2, h3, h4, h5⟩ := h
  refine ⟨?_, h3.2.2.1.2.2.1, fun k => ?_, fun k => ?_⟩
  · unfold bz_sd; rw [h5]; exact h3.2.1
  · rw [h5]; rfl
  · rw [h5]; rfl
theorem mz_H.upd {σx σm σx' σm' : az_Hp} {T s : Int} (h : mz_H σx σm T s) {S S' : Int → Int → Prop} (hx : bz_Upd σx σx' S) (hm : bz_Upd σm σm' S') (hs : ∀ a k, S a k → cz_SJ a k) (hs' : ∀ a k, S' a k → cz_SM a k) : mz_H σx' σm' T s := by
  obtain ⟨h1, h2, h3, h4, h5⟩ := h
  have tm : bz_tS σm σm' := fun a k q => hm.2.2 a k (fun c => by have := hs' a k c; unfold cz_SM at this; omega)
  have hT := h3.1
  refine ⟨h1.upd hx, h2.upd hm, h3.cong tm, fun a k q => ?_, ?_⟩
  · rw [hx.2.2 a k (fun c => by have := hs a k c; unfold cz_SJ at this; omega), tm a k (by omega)]
    exact h4 a k q
  · rw [hm.2.2 804 15 (fun c => by have := hs' _ _ c; unfold cz_SM at this; omega)]
    exact h5
/-- how many are told, in both -/
theorem mz_H.n {σx σm : az_Hp} {T s : Int} (h : mz_H σx σm T s) : σx.2 T 0 = σm.2 T 0 ∧ σx.2 T 1 = σm.2 T 1 ∧ σx.2 T 2 = σm.2 T 2 := by
  have hT := h.2.2.1.1
  exact ⟨h.2.2.2.1 _ _ (by omega), h.2.2.2.1 _ _ (by omega), h.2.2.2.1 _ _ (by omega)⟩
/-- an equation's rows, in both -/
theorem mz_H.r {σx σm : az_Hp} {T s : Int} (h : mz_H σx σm T s) {e : Int} (e0 : 0 ≤ e) (e1 : e < σx.2 T 2) : (∀ k, σx.2 (T + 15 + 4 * e) k = σm.2 (T + 15 + 4 * e) k) ∧ (∀ k, σx.2 (T + 15 + 4 * e + 1) k = σm.2 (T + 15 + 4 * e + 1) k) ∧ (∀ k, σx.2 (T + 17 + 4 * e) k = σm.2 (T + 17 + 4 * e) k) ∧ (∀ k, σx.2 (T + 17 + 4 * e + 1) k = σm.2 (T + 17 + 4 * e + 1) k) ∧ (∀ k, σx.2 (T + 7) k = σm.2 (T + 7) k) ∧ (∀ k, σx.2 (T + 8) k = σm.2 (T + 8) k) ∧ bz_rw σx (T + 15 + 4 * e) ∧ bz_rw σx (T + 17 + 4 * e) ∧ bz_ra σx (T + 15 + 4 * e) = bz_ra σm (T + 15 + 4 * e) ∧ bz_ra σx (T + 17 + 4 * e) = bz_ra σm (T + 17 + 4 * e) ∧ e < 16 := by
  have hT := h.2.2.1.1
  have n := h.n
  have n3 := h.2.2.1.2.2.2.1.2.2
  have e16 : e < 16 := by omega
  have a1 : ∀ k, σx.2 (T + 15 + 4 * e) k = σm.2 (T + 15 + 4 * e) k := fun k => h.2.2.2.1 _ _ (by omega)
  have a2 : ∀ k, σx.2 (T + 15 + 4 * e + 1) k = σm.2 (T + 15 + 4 * e + 1) k := fun k => h.2.2.2.1 _ _ (by omega)
  have a3 : ∀ k, σx.2 (T + 17 + 4 * e) k = σm.2 (T + 17 + 4 * e) k := fun k => h.2.2.2.1 _ _ (by omega)
  have a4 : ∀ k, σx.2 (T + 17 + 4 * e + 1) k = σm.2 (T + 17 + 4 * e + 1) k := fun k => h.2.2.2.1 _ _ (by omega)
  have rw' := bz_ER.rw h.2.2.1 e0 (by omega)
  refine ⟨a1, a2, a3, a4, fun k => h.2.2.2.1 _ _ (by omega), fun k => h.2.2.2.1 _ _ (by omega), ?_, ?_, funext fun k => by unfold bz_ra; rw [a2], funext fun k => by unfold bz_ra; rw [a4], e16⟩
  · unfold bz_rw
    simp only [a1, a2]
    exact rw'.1
  · unfold bz_rw
    simp only [a3, a4]
    exact rw'.2
theorem mz_SJ {a k : Int} (h : lz_S a k) : cz_SJ a k := by unfold lz_S at h; unfold cz_SJ; omega
theorem mz_SM {a k : Int} (h : lz_T a k) : cz_SM a k := by unfold lz_T at h; unfold cz_SM; omega
theorem mz_tabs {σx σx' : az_Hp} {T s : Int} (hT : T = 3 ∨ T = 82) (h : bz_tS σx σx') : bz_ct σx' s = bz_ct σx s ∧ bz_ft σx' s = bz_ft σx s ∧ σx'.2 T 0 = σx.2 T 0 ∧ σx'.2 T 1 = σx.2 T 1 := ⟨bz_ct_tS h s, bz_ft_tS h s, h _ _ (by omega), h _ _ (by omega)⟩
/-- the left side of an equation -/
theorem mz_EnL {σx σm : az_Hp} {T s e who : Int} (h : mz_H σx σm T s) (e0 : 0 ≤ e) (e1 : e < σx.2 T 2) {d : Nat} (hd : (d : Int) = σx.2 (T + 15 + 4 * e) 1) : lz_En (bz_ct σm s) (bz_ft σm s) (σm.2 T 0) (σm.2 T 1) mz_W (T + 15 + 4 * e) 0 who 0 (0 + d) 815 (16 * (16 * s + e)) σx σm ∧ bz_Sc (bz_ra σx (T + 15 + 4 * e)) d 1 0 ∧ d ≤ 16 := by
  obtain ⟨t1, t2, t3, t4⟩ := h.tb
  obtain ⟨a1, a2, a3, a4, a5, a6, r1, r2, ra1, ra2, e16⟩ := h.r e0 e1
  have hn := h.n
  obtain ⟨h1, h2, h3, h4, h5⟩ := h
  obtain ⟨hT, hs, hN, ⟨n1, n2, n3⟩, hE⟩ := h3
  obtain ⟨q1, q2, q3, q4, q5, q6, q7, q8, q9, q10, q11⟩ := hE e e0 (by omega)
  have l := ln_815 h2
  rw [a1] at hd
  refine ⟨⟨h1, h2, t1, t2, t3, t4, r1, ⟨by omega, by rw [a1]; omega, by omega, by omega, by omega, by omega⟩, fun j j0 j1 => ?_, ⟨bz_VE.vv (by omega), fun a b q => by unfold mz_W bz_VE at q; omega⟩, Or.inl rfl⟩, ?_, by omega⟩
  · rw [a2]
    exact (q4 j j0 (by omega)).weak (fun a b q => by unfold mz_W bz_VE; unfold bz_VE at q; omega)
  · rw [ra1, show d = (σm.2 (T + 15 + 4 * e) 1).toNat by omega]
    exact q6
theorem mz_EnR {σx σm : az_Hp} {T s e who fl : Int} (h : mz_H σx σm T s) (e0 : 0 ≤ e) (e1 : e < σx.2 T 2) (hfl : fl = 0 ∨ fl = 1) {d : Nat} (hd : (d : Int) = σx.2 (T + 17 + 4 * e) 1) : lz_En (bz_ct σm s) (bz_ft σm s) (σm.2 T 0) (σm.2 T 1) mz_W (T + 17 + 4 * e) 0 who fl (0 + d) 816 (16 * (16 * s + e)) σx σm ∧ bz_Sc (bz_ra σx (T + 17 + 4 * e)) d 1 0 ∧ d ≤ 16 := by
  obtain ⟨t1, t2, t3, t4⟩ := h.tb
  obtain ⟨a1, a2, a3, a4, a5, a6, r1, r2, ra1, ra2, e16⟩ := h.r e0 e1
  have hn := h.n
  obtain ⟨h1, h2, h3, h4, h5⟩ := h
  obtain ⟨hT, hs, hN, ⟨n1, n2, n3⟩, hE⟩ := h3
  obtain ⟨q1, q2, q3, q4, q5, q6, q7, q8, q9, q10, q11⟩ := hE e e0 (by omega)
  have l := ln_816 h2
  rw [a3] at hd
  refine ⟨⟨h1, h2, t1, t2, t3, t4, r2, ⟨by omega, by rw [a3]; omega, by omega, by omega, by omega, by omega⟩, fun j j0 j1 => ?_, ⟨bz_VE.vv (by omega), fun a b q => by unfold mz_W bz_VE at q; omega⟩, hfl⟩, ?_, by omega⟩
  · rw [a4]
    exact (q5 j j0 (by omega)).weak (fun a b q => by unfold mz_W bz_VE; unfold bz_VE at q; omega)
  · rw [ra2, show d = (σm.2 (T + 17 + 4 * e) 1).toNat by omega]
    exact q7
/-- laid so far: both graphs, over the tables of a heap σ0 -/
def mz_L (σ0 : az_Hp) (T s : Int) (σx σm : az_Hp) (c : Int) : Prop := lz_LS (bz_ct σ0 s) (bz_ft σ0 s) (σ0.2 T 0) (σ0.2 T 1) mz_W σx σm c ∧ lz_GK σx σm c
theorem mz_leftRef {σx σm : az_Hp} {T s e : Int} (h : mz_H σx σm T s) (e0 : 0 ≤ e) (e1 : e < σx.2 T 2) : az_gref σx T 11 = some (T + 9) ∧ az_arr σx (T + 9) e = some (T + 15 + 4 * e) ∧ az_gref σx T 12 = some (T + 10) ∧ az_arr σx (T + 10) e = some (T + 17 + 4 * e) ∧ az_gref σm 804 25 = some 815 ∧ az_gref σm 804 26 = some 816 ∧ fz_X11_eqAt σm 804 e = some (16 * s + e) := by
  have hsd := h.tb.1
  have hn := h.n
  obtain ⟨h1, h2, h3, h4, h5⟩ := h
  have hT := h3.1
  have n3 := h3.2.2.2.1.2.2
  have tg := bz_tg h1 hT
  have tr := bz_tr h1 hT e0 (by omega)
  have eq := bz_eqAt (e := e) hsd e0 (by omega)
  rw [h5] at eq
  exact ⟨tg.2.2.2.2.2.2.2.2.1, tr.1, tg.2.2.2.2.2.2.2.2.2.1, tr.2, fx_804_25 h2, fx_804_26 h2, eq⟩
theorem mz_layL {σ0 σx σm : az_Hp} {T s e who c : Int} (h : mz_H σx σm T s) (h0 : bz_tS σ0 σm) (hT0 : T = 3 ∨ T = 82) (e0 : 0 ≤ e) (e1 : e < σx.2 T 2) (hL : mz_L σ0 T s σx σm c) (hc : c ≤ 100) :
    ∃ (σx' σm' : az_Hp) (c' ρ : Int), fz_X0_lay 2000000 σx 231 (T + 15 + 4 * e) 0 who 0 = some (ρ, σx') ∧ fz_X11_leftNode 2000000 σm 804 e who = some (ρ, σm') ∧ bz_Upd σx σx' lz_S ∧ bz_Upd σm σm' lz_T ∧ mz_L σ0 T s σx' σm' c' ∧ c' ≤ c + 16 ∧ lz_Gr σx σm σx' σm' c c' ρ := by
  obtain ⟨g1, g2, g3, g4⟩ := mz_tabs (s := s) hT0 h0
  have ref := mz_leftRef h e0 e1
  have hr := h.r e0 e1
  have sz : 0 ≤ σx.2 (T + 15 + 4 * e) 1 := hr.2.2.2.2.2.2.1.2.1
  have n3 := hr.2.2.2.2.2.2.2.2.2.2
  have hs := h.2.2.1.2.1
  obtain ⟨a1, a2, a3⟩ := mz_EnL (who := who) h e0 e1 (d := (σx.2 (T + 15 + 4 * e) 1).toNat) (by omega)
  rw [g1, g2, g3, g4] at a1
  obtain ⟨σx', σm', c', ρ, x1, x2, x3, x4, x5, x6, x7, x8, -⟩ := lz_lay1 a1 hL.1 hL.2 (by omega) (by omega) a2 (fun f => by omega)
  refine ⟨σx', σm', c', ρ, x1, ?_, x3, x4, ⟨x5, x7⟩, by omega, x8⟩
  unfold fz_X11_leftNode
  rw [ref.2.2.2.2.1, Option.bind_some, ref.2.2.2.2.2.2, Option.bind_some, az_w32_id (by omega) (by omega)]
  rw [Int.add_zero] at x2
  rw [x2, Option.bind_some]
theorem mz_layR {σ0 σx σm : az_Hp} {T s e who c : Int} (h : mz_H σx σm T s) (h0 : bz_tS σ0 σm) (hT0 : T = 3 ∨ T = 82) (e0 : 0 ≤ e) (e1 : e < σx.2 T 2) (hL : mz_L σ0 T s σx σm c) (hc : c ≤ 100) :
    ∃ (σx' σm' : az_Hp) (c' ρ : Int), fz_X0_lay 2000000 σx 231 (T + 17 + 4 * e) 0 who 0 = some (ρ, σx') ∧ fz_X11_rightNode 2000000 σm 804 e who 0 = some (ρ, σm') ∧ bz_Upd σx σx' lz_S ∧ bz_Upd σm σm' lz_T ∧ mz_L σ0 T s σx' σm' c' ∧ c' ≤ c + 16 ∧ lz_Gr σx σm σx' σm' c c' ρ := by
  obtain ⟨g1, g2, g3, g4⟩ := mz_tabs (s := s) hT0 h0
  have ref := mz_leftRef h e0 e1
  have hr := h.r e0 e1
  have sz : 0 ≤ σx.2 (T + 17 + 4 * e) 1 := hr.2.2.2.2.2.2.2.1.2.1
  have n3 := hr.2.2.2.2.2.2.2.2.2.2
  have hs := h.2.2.1.2.1
  obtain ⟨a1, a2, a3⟩ := mz_EnR (who := who) (fl := 0) h e0 e1 (Or.inl rfl) (d := (σx.2 (T + 17 + 4 * e) 1).toNat) (by omega)
  rw [g1, g2, g3, g4] at a1
  obtain ⟨σx', σm', c', ρ, x1, x2, x3, x4, x5, x6, x7, x8, -⟩ := lz_lay1 a1 hL.1 hL.2 (by omega) (by omega) a2 (fun f => by omega)
  refine ⟨σx', σm', c', ρ, x1, ?_, x3, x4, ⟨x5, x7⟩, by omega, x8⟩
  unfold fz_X11_rightNode
  rw [ref.2.2.2.2.2.1, Option.bind_some, ref.2.2.2.2.2.2, Option.bind_some, az_w32_id (by omega) (by omega)]
  rw [Int.add_zero] at x2
  rw [x2, Option.bind_some]
/-- nothing is laid: both cleared -/
theorem mz_L0 {σ0 σx σm : az_Hp} {T s : Int} (h1 : σx.2 231 0 = 0) (h2 : σm.2 804 49 = 0) (h3 : σm.2 804 50 = 0) : mz_L σ0 T s σx σm 0 := by
  refine ⟨⟨⟨h1, h2, by omega, by omega⟩, fun n hn => by have := hn.1; have := hn.2; omega, ⟨by omega, by omega⟩, fun k k0 k1 => by omega, fun k j k0 kj j1 => by omega, fun n hn => by have := hn.1; have := hn.2; omega⟩, fun n hn => by have := hn.1; have := hn.2; omega⟩
theorem mz_L.cong {σ0 σx σm σx' σm' : az_Hp} {T s c : Int} (h : mz_L σ0 T s σx σm c) (ex : ∀ a k, a = 231 ∨ a = 232 ∨ a = 233 ∨ a = 238 → σx'.2 a k = σx.2 a k) (em : ∀ a k, (a = 804 ∧ (k = 49 ∨ k = 50)) ∨ a = 823 ∨ a = 824 ∨ (827 ≤ a ∧ a ≤ 829) → σm'.2 a k = σm.2 a k) : mz_L σ0 T s σx' σm' c := by
  refine ⟨h.1.cong (ex _ _ (by omega)) (em _ _ (by omega)) (em _ _ (by omega)) (fun n => ⟨ex _ _ (by omega), ex _ _ (by omega)⟩) (fun n => ⟨em _ _ (by omega), em _ _ (by omega), em _ _ (by omega), em _ _ (by omega)⟩), fun n hn hv k k0 k1 => ?_⟩
  rw [ex _ _ (by omega)] at hv k1
  rw [ex 238 _ (by omega), em 824 _ (by omega), ex 232 _ (by omega)]
  exact h.2 n hn hv k k0 k1
theorem mz_graph {σ0 σx σm : az_Hp} {T s c : Int} (h : mz_H σx σm T s) (h0 : bz_tS σ0 σm) (hT0 : T = 3 ∨ T = 82) (hL : mz_L σ0 T s σx σm c) : dz_ok (lz_g σm c) ∧ ez_X σx (lz_g σm c) ∧ ez_M σm (lz_g σm c) ∧ (∀ n, dz_In c n → ¬ dz_iv (lz_g σm c) n → ∀ k, 0 ≤ k → k < dz_ar (lz_g σm c) n → dz_iv (lz_g σm c) (dz_kd (lz_g σm c) n k) ∨ n < dz_kd (lz_g σm c) n k) := by
  obtain ⟨g1, g2, g3, g4⟩ := mz_tabs (s := s) hT0 h0
  obtain ⟨t1, t2, t3, t4⟩ := h.tb
  rw [g1, g2, g3, g4] at t2
  rw [g1] at t3
  rw [g2] at t4
  exact lz_graph t1 t2 t3 t4 hL.1 hL.2
/-- a graph in a heap that has more nodes -/
theorem ez_M.part {σ σ' : az_Hp} {g : dz_G} (hg : dz_ok g) (h : ez_M σ g) (e0 : σ'.2 804 15 = σ.2 804 15) (e1 : ∀ n, dz_In (dz_N g) n → σ'.2 823 n = σ.2 823 n) (e2 : ∀ x, 0 ≤ x → x < 3 * dz_N g → σ'.2 824 x = σ.2 824 x) (e3 : ∀ n, σ'.2 811 n = σ.2 811 n) (e4 : ∀ n, σ'.2 812 n = σ.2 812 n) : ez_M σ' g := by
  obtain ⟨h1, h2⟩ := h
  refine ⟨by unfold bz_sd at h1 ⊢; rw [e0]; exact h1, fun n hn => ?_⟩
  obtain ⟨q1, q2, q3⟩ := h2 n hn
  rw [e1 n hn]
  refine ⟨q1, q2, fun hv => ?_⟩
  obtain ⟨p1, p2, p3⟩ := q3 hv
  have ar := hg.2.2.1 n hn hv
  refine ⟨?_, fun k k0 k1 => ?_, p3⟩
  · unfold bz_tk at p1 ⊢
    rw [e0, e3, e4]
    exact p1
  · have n0 := hn.1
    have n1 := hn.2
    rw [e2 _ (by omega) (by omega)]
    exact p2 k k0 k1
