/-! rewriting at a place that was found -/
section RW
variable {T s n : Int} {V : Int → Int → Prop} {Q : Int → Prop}
def yz_WM (a k : Int) : Prop := yz_F a k ∨ a = 838 ∨ a = 839
theorem yz_rewrite {σx σm x0 x1 : az_Hp} {q p : Int} (hQ : ∀ m, m < 2000 → Q m) (hQ0 : ∀ i, 0 ≤ i → i < n → Q (σm.2 840 i)) (hC : rz_C σx σm T s) (hR : rz_R σx σm T s V 244 840 n) (hC0 : rz_C x0 σm T s) (hR0 : rz_R x0 σm T s V 244 840 n) (h70 : σm.2 804 70 = n) (h5 : σx.2 243 5 = q) (h9 : σx.2 243 9 = -1) (h8 : σx.2 243 8 = p) (h73 : σm.2 804 73 = p) (p0 : 0 ≤ p) (p1 : p < n) (q0 : 0 ≤ q) (q1 : q < σx.2 T 2) (hf : fz_X5_fits 2000000 x0 243 q 244 p = some (1, x1)) (h252 : ∀ v, σx.2 252 v = x1.2 252 v) (h245 : ∀ k, x0.2 245 k = σx.2 245 k) (hv0 : x0.2 (T + 8) q = σx.2 (T + 8) q) (h2 : x0.2 T 2 = σx.2 T 2) :
    ∃ v x' τ', fz_X5_rewrite 2000000 σx 243 = some (v, x') ∧ fz_X11_makes 2000000 σm 804 q = some (v, τ') ∧ bz_Upd σm τ' yz_WM ∧ ((v = 0 ∧ bz_Upd σx x' (yz_S 246)) ∨ (v = 1 ∧ bz_Upd σx x' (fun a k => yz_S 246 a k ∨ yz_S 244 a k) ∧ ∃ m', yz_new (yz_rl σm T s V Q) x' τ' m')) := by
  have hH := hC.1
  have hX := hH.1
  have hM := hH.2.1
  have hT := hH.2.2.1.1
  have n60 := hR.2.2.1.2
  have nb := mz_nb hH
  have hE0 := uz_eq hH q0 q1
  have uX : bz_Upd σx (az_wr σx 246 1 0) (yz_S 246) := bz_Upd.wr bz_Upd.refl (Or.inl ⟨rfl, rfl⟩) (by decide)
  have uM : bz_Upd σm (az_wr (az_wr σm 804 71 0) 804 74 0) yz_F := bz_Upd.wr (bz_Upd.wr bz_Upd.refl (Or.inr ⟨rfl, Or.inl rfl⟩) (by decide)) (Or.inr ⟨rfl, Or.inr rfl⟩) (by decide)
  have hX1 := hX.upd uX
  have hM1 := hM.upd uM
  have l840 := ln_840 hM1
  have s244 : σx.2 244 1 = n := hR.2.1
  have ok0 : yz_ok (yz_rl σm T s V Q) (az_wr σx 246 1 0) (az_wr (az_wr σm 804 71 0) 804 74 0) 0 := ⟨az_wr_same, by rw [az_wr_ne (by omega)]; exact az_wr_same, by omega, by omega, az_wr_same, fun i i0 i1 => by omega⟩
  obtain ⟨v, xa, τa, a1, a2, a3, a4, a5⟩ := yz_app (Rl := yz_rl σm T s V Q) (q := 244) (a := 0) (b := p) (A := 840) (o := 0) hX1 hM1 (by decide) (by decide) (by rw [az_wr_ne (by omega), s244]; exact n60) (by omega) (by omega) (by rw [az_wr_ne (by omega)]; omega) ⟨by decide, by decide⟩ (by omega) (by omega) (by omega) ok0 (fun i i0 i1 => by
    rw [az_wr_ne (by omega), az_wr_ne (by omega), az_wr_ne (by omega), Int.zero_add, show (244 : Int) + 1 = 245 from rfl]
    exact ⟨hR.2.2.2.1 i i0 (by omega), hQ0 i i0 (by omega)⟩)
  rw [show p - 0 = p by omega] at a2
  rw [show 0 + (p - 0) = p by omega] at a5
  have ua := uM.trans a4
  have Ca : rz_C x0 τa T s := yz_gC hC0 bz_Upd.refl ua (S := fun _ _ => False) (fun a k q => q.elim) (fun a k q => by unfold yz_F at q; unfold nz_t; omega)
  have Ra : rz_R x0 τa T s V 244 840 n := yz_gR hR0 hT bz_Upd.refl ua (S := fun _ _ => False) (fun a k q => q.elim) (fun a k q => by unfold yz_F at q; unfold nz_t; omega)
  obtain ⟨qq, x1', τb, f1, f2, f3, f4, f5, f6⟩ := rz_fits Ca Ra ⟨by decide, by decide, by decide⟩ q0 (by rw [h2]; exact q1) p0 p1
  rw [hf] at f1
  simp only [Option.some.injEq, Prod.mk.injEq] at f1
  obtain ⟨rfl, rfl⟩ := f1
  obtain ⟨B1, B2⟩ := f6 rfl
  have ub : bz_Upd σm τb yz_WM := (ua.weak fun _ _ z => Or.inl z).trans (f5.weak fun _ _ z => Or.inr z)
  have Hb : mz_H σx τb T s := hH.gen bz_Upd.refl ub (S := fun _ _ => False) (fun a k q => q.elim) (fun a k q => by unfold yz_WM yz_F at q; unfold nz_t; omega)
  have Rb : rz_R σx τb T s V 244 840 n := yz_gR hR hT bz_Upd.refl ub (S := fun _ _ => False) (fun a k q => q.elim) (fun a k q => by unfold yz_WM yz_F at q; unfold nz_t; omega)
  have k245 : ∀ k, x1.2 245 k = σx.2 245 k := fun k => by rw [f4.2.2 245 k (fun z => by unfold rz_SX at z; omega)]; exact h245 k
  have k3 : bz_ra x1 244 = bz_ra σx 244 := funext fun k => by unfold bz_ra; rw [show (244 : Int) + 1 = 245 from rfl, k245]
  have Bb : rz_B σx τb 244 n := by
    intro v v0 v6
    have := B1 v v0 v6
    rw [← h252, k3] at this
    simp only [show (244 : Int) + 1 = 245 from rfl, k245] at this ⊢
    exact this
  have tS : bz_tS σm τb := fun a k q => ub.2.2 a k (fun z => by unfold yz_WM yz_F at z; omega)
  have eRl : yz_rl τb T s V Q = yz_rl σm T s V Q := by
    unfold yz_rl
    rw [bz_ct_tS tS, bz_ft_tS tS, tS T 0 (by omega), tS T 1 (by omega)]
  have Qb : ∀ i, 0 ≤ i → i < n → Q (τb.2 840 i) := fun i i0 i1 => by rw [ub.2.2 840 i (fun z => by unfold yz_WM yz_F at z; omega)]; exact hQ0 i i0 i1
  have hE := uz_eq Hb q0 q1
  have ER := Hb.2.2.1.2.2.2.2 q q0 (by rw [← Hb.n.2.2]; exact q1)
  obtain ⟨r1, r2, r3, r4, r5, r6, r7, r8, r9, r10, r11⟩ := Hb.r q0 q1
  obtain ⟨g1, g2, g3, g4, g5, g6, g7, g8, g9, g10, g11⟩ := ER
  obtain ⟨c, c0, c1, c2⟩ := yz_P.pre hR.2.2.2.2.1 p.toNat (by omega)
  rw [show ((p.toNat : Nat) : Int) = p by omega] at c1 c2
  obtain ⟨z, d2, ed, z1, z2⟩ := bz_Sc.split bz_ra0 (c1 := 1) (c2 := c - 1) (i := p) (by omega) (by omega) (by rw [show 1 + (c - 1) = c by omega]; exact c1)
  have eE : σx.2 (T + 17 + 4 * q) 1 = τb.2 (T + 17 + 4 * q) 1 := r3 1
  obtain ⟨v2, xc, τc, mc, y1, y2, y3, y4, y5⟩ := yz_lay (at' := p) (K := c - 1) (V := V) (n := n) (by omega) hQ Qb Hb.tb.2.1 hE hX Hb.2.1 hT Rb Bb (fun v v0 v1 => by rw [h252]; exact B2 v v0 (by rw [hv0]; exact v1)) (fun i i0 i1 i2 => by
      have rr := g5 i i0 (by rw [← eE]; exact i1)
      have lt := g10 i i0 (by rw [← eE]; exact i1)
      have t := Hb.tb.2.1
      unfold bz_tb at t
      have g32 := g3.2.2
      rcases rr with w | w | w | w
      · have := w.2.2.2
        unfold bz_VE at this
        omega
      · omega
      · omega
      · omega) (σx.2 (T + 17 + 4 * q) 1).toNat 2000000 2000000 xa τb v p 0 (by omega) (by omega) (by omega) (by omega) (uX.trans a3) bz_Upd.refl (by
      rw [eRl]
      refine a5.imp (fun ⟨w1, w2, w3, w4⟩ => ⟨w1, ?_, 1, by omega, ?_, ?_⟩) (fun ⟨w1, w2, w3⟩ => ⟨w1, ?_, ?_⟩)
      · obtain ⟨o1, o2, o3, o4, o5, o6⟩ := w2
        have e841 : ∀ i, τb.2 841 i = τa.2 841 i := fun i => f5.2.2 _ _ (fun z => by unfold rz_SM at z; omega)
        refine ⟨o1, by rw [f5.2.2 804 71 (fun z => by unfold rz_SM at z; omega)]; exact o2, o3, o4, by rw [f5.2.2 804 74 (fun z => by unfold rz_SM at z; omega)]; exact o5, fun i i0 i1 => by rw [e841]; exact o6 i i0 i1⟩
      · rw [r10, eE]; exact g7
      · rw [show 1 + (c - 1) = c by omega]
        refine c2.cong (fun i i0 i1 => ?_)
        unfold bz_ra
        have := w4 i i0 (by omega)
        rw [Int.zero_add, az_wr_ne (by omega)] at this
        rw [show (246 : Int) + 1 = 247 from rfl, this]
      · rw [f5.2.2 804 71 (fun z => by unfold rz_SM at z; omega)]; exact w2
      · rw [f5.2.2 804 74 (fun z => by unfold rz_SM at z; omega)]; exact w3)
  have e70 : τb.2 804 70 = n := by rw [ub.2.2 804 70 (fun z => by unfold yz_WM yz_F at z; omega)]; exact h70
  obtain ⟨v3, x3, τ3, t1, t2, t3, t4⟩ := yz_end Qb Hb Rb e70 h8 p0 z1 z2 (by omega) y3 y4 y5
  rw [eRl] at t4
  refine ⟨v3, x3, τ3, ?_, ?_, ub.trans (t3.weak fun _ _ z => Or.inl z), t4⟩
  · rw [← t1, ← y1]
    have gT : az_gref σx 243 2 = some T := bz_gr hC.2.1 (by omega)
    unfold fz_X5_rewrite
    rw [h9, if_pos rfl]
    unfold fz_X5_rewrite_13
    rw [if_pos rfl, h5, if_neg (by omega)]
    unfold fz_X5_rewrite_28
    rw [if_pos rfl, gT, Option.bind_some, hE.2.1.1, Option.bind_some, h5, hE.2.1.2.1, Option.bind_some]
    unfold fz_X5_rewrite_59
    rw [fx_243_10 hX, Option.bind_some, fx_243_10 hX1, Option.bind_some, fx_243_3 hX1, Option.bind_some, az_wr_ne (a := 246) (b := 243) (by omega), h8, a1, Option.bind_some]
  · rw [← t2, ← y2]
    have e15 : fz_X11_eqAt τb 804 q = some (16 * s + q) := hE.2.2.2.1.2.2.2.2.2
    have hMa := hM1.upd a4
    have ws : az_w32 (16 * (16 * s + q)) = 16 * (16 * s + q) := az_w32_id (by have := hE.2.2.2.2.2.1; omega) (by have := hE.2.2.2.2.2.1; omega)
    unfold fz_X11_makes
    rw [fx_804_68 hM1, Option.bind_some, h73, a2, Option.bind_some, if_pos (by omega), fx_804_68 hMa, Option.bind_some, f2, Option.bind_some, e15, Option.bind_some, ws]
end RW
