/-! one step and all steps with what is given -/
section GS
variable {T s n : Int} {V : Int → Int → Prop} {Q : Int → Prop}
def gv_I (σx σm : az_Hp) (T s : Int) (V : Int → Int → Prop) (Q : Int → Prop) (n : Int) : Prop := (rz_C σx σm T s ∧ rz_R σx σm T s V 244 840 n ∧ gv_R σx σm T s V Q ∧ True ∧ σm.2 804 70 = n) ∧ (∀ m, m < 2000 → Q m) ∧ ∀ i, 0 ≤ i → i < n → Q (σm.2 840 i)
theorem gv_I.upd {σx σm σx' σm' : az_Hp} {S S' : Int → Int → Prop} (h : gv_I σx σm T s V Q n) (hx : bz_Upd σx σx' S) (hm : bz_Upd σm σm' S') (hs : ∀ a k, S a k → ¬ nz_t a ∧ a ≠ 14 ∧ a ≠ 93 ∧ ¬ (a = 243 ∧ (k = 2 ∨ k = 4)) ∧ a ≠ 244 ∧ a ≠ 245 ∧ ¬ (161 ≤ a ∧ a ≤ 190)) (hs' : ∀ a k, S' a k → ¬ nz_t a ∧ ¬ (806 ≤ a ∧ a ≤ 819) ∧ ¬ (a = 804 ∧ (k = 15 ∨ k = 70 ∨ k = 72 ∨ k = 85)) ∧ a ≠ 835 ∧ a ≠ 840 ∧ ¬ (848 ≤ a ∧ a ≤ 851)) : gv_I σx' σm' T s V Q n := by
  obtain ⟨⟨h1, h2, h3, h4, h5⟩, h6, h7⟩ := h
  have hT := h1.1.2.2.1.1
  exact ⟨⟨yz_gC h1 hx hm (fun a k q => by have := hs a k q; exact ⟨this.1, by omega, by omega, by omega⟩) (fun a k q => by have := hs' a k q; exact ⟨this.1, this.2.1, by omega, by omega⟩), yz_gR h2 hT hx hm (fun a k q => by have := hs a k q; omega) (fun a k q => by have := hs' a k q; exact ⟨this.1, this.2.1, by omega⟩), h3.upd hT hx hm (fun a k q => by have := hs a k q; omega) (fun a k q => by have := hs' a k q; exact ⟨this.1, this.2.1, by omega, by omega⟩), h4, by rw [hm.2.2 804 70 (fun q => by have := hs' _ _ q; omega)]; exact h5⟩, h6, fun i i0 i1 => by rw [hm.2.2 840 i (fun q => by have := hs' _ _ q; omega)]; exact h7 i i0 i1⟩
theorem gv_first {σx σm : az_Hp} {o : Int} (ho : o = 0 ∨ o = 1) (hI : gv_I σx σm T s V Q n) :
    ∃ q σx' σm', fz_X5_findPlace 2000000 σx 243 o = some (if q = -1 then 0 else 1, σx') ∧ (if o = 0 then fz_X11_firstWithin 2000000 200 σm 804 0 else fz_X11_firstWithout 2000000 σm 804) = some (q, σm') ∧ bz_Upd σx σx' sz_TY ∧ bz_Upd σm σm' sz_TM ∧ -1 ≤ q ∧ q < 106 ∧ gv_I σx' σm' T s V Q n ∧ (q ≠ -1 → True ∧ ∃ v x' τ', fz_X5_rewrite 2000000 σx' 243 = some (v, x') ∧ fz_X11_makes 2000000 σm' 804 q = some (v, τ') ∧ bz_Upd σm' τ' yz_WM ∧ ((v = 0 ∧ bz_Upd σx' x' (yz_S 246)) ∨ (v = 1 ∧ bz_Upd σx' x' (fun a k => yz_S 246 a k ∨ yz_S 244 a k) ∧ ∃ m', yz_new (yz_rl σm' T s V Q) x' τ' m'))) := by
  have hI0 := hI
  obtain ⟨⟨hC, hR, hG, -, h70⟩, hQ, hQ0⟩ := hI
  have hT := hC.1.2.2.1.1
  have nb := mz_nb hC.1
  obtain ⟨q, σ1, x1, m1, y1, y2, y3, y4, y5, y6, y7, y8⟩ := gv_place ho hC hR hG h70
  have I1 : gv_I x1 m1 T s V Q n := gv_I.upd hI0 y4 y5 (fun a k q => by unfold sz_TY sz_TX rz_TX cz_SJ sz_S at q; unfold nz_t; omega) (fun a k q => by unfold sz_TM rz_TM cz_SM at q; unfold nz_t; omega)
  refine ⟨q, x1, m1, y2, y3, y4, y5, y6, by omega, I1, fun hq => ⟨trivial, ?_⟩⟩
  rcases y8 hq with ⟨e1, e2', f1, f2, f3, f4, f5, f6, x0, x2, g1, g2, g3⟩ | ⟨g, e1, e2, e3, e4, f9, f5, ⟨f3, f4⟩, f73⟩
  · have u0 : bz_Upd σx x0 sz_TY := (y1.weak fun _ _ z => Or.inr z).trans (g1.weak fun _ _ z => Or.inl z)
    have I0 : gv_I x0 m1 T s V Q n := gv_I.upd hI0 u0 y5 (fun a k q => by unfold sz_TY sz_TX rz_TX cz_SJ sz_S at q; unfold nz_t; omega) (fun a k q => by unfold sz_TM rz_TM cz_SM at q; unfold nz_t; omega)
    have e : ∀ a k, a = 245 ∨ a = T + 8 ∨ a = T → x0.2 a k = x1.2 a k := fun a k q => by
      rw [u0.2.2 a k (fun q => by unfold sz_TY sz_TX rz_TX cz_SJ sz_S at q; omega), y4.2.2 a k (fun q => by unfold sz_TY sz_TX rz_TX cz_SJ sz_S at q; omega)]
    have e2 : x1.2 T 2 = σx.2 T 2 := y4.2.2 T 2 (fun q => by unfold sz_TY sz_TX rz_TX cz_SJ sz_S at q; omega)
    have e3 : σ1.2 T 2 = σx.2 T 2 := y1.2.2 T 2 (fun q => by unfold sz_S at q; omega)
    exact yz_rewrite I1.2.1 I1.2.2 I1.1.1 I1.1.2.1 I0.1.1 I0.1.2.1 I1.1.2.2.2.2 f1 f2 rfl f5 f3 f4 (by omega) (by omega) g2 g3 (fun k => e _ _ (by omega)) (e _ _ (by omega)) (e _ _ (by omega))
  · rw [e1]
    exact gv_rewrite I1.2.2 I1.1.1 I1.1.2.1 I1.1.2.2.1 I1.1.2.2.2.2 f9 rfl f73 f3 f4 e2 e3 e4
theorem gv_step {σx σm : az_Hp} {o : Int} (ho : o = 0 ∨ o = 1) (hI : gv_I σx σm T s V Q n) :
    ∃ w σx' σm' n', fz_X11_steps 2000000 σm 804 o = some (w, σm') ∧ bz_Upd σx σx' yz_TX ∧ bz_Upd σm σm' yz_TM ∧ -2 ≤ w ∧ w < 106 ∧ gv_I σx' σm' T s V Q n' ∧ ((w = -1 ∧ fz_X5_findPlace 2000000 σx 243 o = some (0, σx')) ∨ ∃ x1, fz_X5_findPlace 2000000 σx 243 o = some (1, x1) ∧ ((w = -2 ∧ fz_X5_rewrite 2000000 x1 243 = some (0, σx')) ∨ (0 ≤ w ∧ fz_X5_rewrite 2000000 x1 243 = some (1, σx') ∧ True))) := by
  obtain ⟨q, x1, m1, y1, y2, y3, y4, y5, y6, I1, y7⟩ := gv_first ho hI
  rw [yz_stepsEq, y2, Option.bind_some]
  unfold fz_X11_steps_16
  by_cases hq : q = -1
  · refine ⟨-1, x1, m1, n, by rw [if_pos hq], y3.weak fun _ _ z => Or.inl z, y4.weak fun _ _ z => Or.inl z, by omega, by omega, I1, Or.inl ⟨rfl, by rw [y1, if_pos hq]⟩⟩
  · obtain ⟨f1, v, x2, m2, r1, r2, r3, r4⟩ := y7 hq
    rw [if_neg hq, r2, Option.bind_some]
    rcases r4 with ⟨rfl, ux⟩ | ⟨rfl, ux, m', ⟨w1, w60⟩, w2, w3, w4, w5⟩
    · refine ⟨-2, x2, m2, n, by rw [if_pos rfl], (y3.weak fun _ _ z => Or.inl z).trans (ux.weak fun _ _ z => Or.inr (Or.inl z)), (y4.weak fun _ _ z => Or.inl z).trans (r3.weak fun _ _ z => Or.inr (Or.inl z)), by omega, by omega, I1.upd ux r3 (fun a k q => by unfold yz_S at q; unfold nz_t; omega) (fun a k q => by unfold yz_WM yz_F at q; unfold nz_t; omega), Or.inr ⟨x1, by rw [y1, if_neg hq], Or.inl ⟨rfl, r1⟩⟩⟩
    · obtain ⟨⟨C1, R1, h4, h72, h70⟩, hQ, hQ0⟩ := I1
      have hT := C1.1.2.2.1.1
      have hM2 := C1.1.2.1.upd r3
      obtain ⟨m3, b1, b2, b3, b4⟩ := yz_becomesNext hM2 w3 (by omega) w60
      have u3 : bz_Upd m1 m3 (fun a k => yz_WM a k ∨ yz_next a k) := (r3.weak fun _ _ z => Or.inl z).trans (b2.weak fun _ _ z => Or.inr z)
      have tS : bz_tS m1 m3 := fun a k q => u3.2.2 a k (fun z => by unfold yz_WM yz_F yz_next at z; omega)
      have C3 : rz_C x2 m3 T s := yz_gC C1 ux u3 (fun a k q => by unfold yz_S at q; unfold nz_t; omega) (fun a k q => by unfold yz_WM yz_F yz_next at q; unfold nz_t; omega)
      have t := C1.1.tb.2.1
      have cr : ∀ i, 0 ≤ i → i < m' → bz_cr (bz_ct m3 s) (bz_ft m3 s) (m3.2 T 0) (m3.2 T 1) V (x2.2 (244 + 1) i) (m3.2 840 i) := fun i i0 i1 => by
        rw [bz_ct_tS tS, bz_ft_tS tS, tS T 0 (by omega), tS T 1 (by omega), b4 i i0 i1]
        exact (w4 i i0 i1).1
      have l840 := ln_840 C3.1.2.1
      have c244 : bz_cap 244 = 60 := by decide
      have R3 : rz_R x2 m3 T s V 244 840 m' := ⟨⟨by omega, by omega, by omega, fun i i0 i1 => (cr i i0 (by omega)).I C3.1.tb.2.1 R1.2.2.2.2.2.2.1⟩, w2, ⟨w1, w60⟩, cr, w5, ⟨by omega, by omega, by omega⟩, R1.2.2.2.2.2.2.1, R1.2.2.2.2.2.2.2⟩
      refine ⟨q, x2, m3, m', by rw [if_neg (show ¬ (1 : Int) = 0 by decide), b1, Option.bind_some], (y3.weak fun _ _ z => Or.inl z).trans (ux.weak fun _ _ z => Or.inr z), (y4.weak fun _ _ z => Or.inl z).trans (u3.weak fun _ _ z => Or.inr z), by omega, y6, ⟨⟨C3, R3, ?_, ?_, b3⟩, hQ, fun i i0 i1 => by rw [b4 i i0 i1]; exact (w4 i i0 i1).2⟩, Or.inr ⟨x1, by rw [y1, if_neg hq], Or.inr ⟨by omega, r1, ?_⟩⟩⟩
      · exact h4.upd hT ux u3 (fun a k q => by unfold yz_S at q; omega) (fun a k q => by unfold yz_WM yz_F yz_next at q; unfold nz_t; omega)
      · exact trivial
      · exact trivial
end GS
section GP
variable {T s n : Int} {V : Int → Int → Prop} {Q : Int → Prop}
theorem gv_cmpG {x τ : az_Hp} {r A off N : Int} (hI : gv_I x τ T s V Q n) (p1 : bz_rw x r) (p2 : x.2 r 1 = N) (p3 : 1 ≤ N ∧ N ≤ 60) (p4 : ∀ k, 0 ≤ k → k < N → bz_cr (bz_ct τ s) (bz_ft τ s) (τ.2 T 0) (τ.2 T 1) V (x.2 (r + 1) k) (τ.2 A (off + k))) (p5 : bz_Sc (bz_ra x r) N.toNat 1 0) (o0 : 0 ≤ off) (o1 : off + N ≤ az_ln τ A) (o2 : az_ln τ A ≤ 100000) : ∃ c : Int, (c = 0 ∨ c = 1) ∧ fz_X7_same 2000000 x r 244 = some c ∧ (if N = n then fz_X11_isSame 2000000 τ A off 840 0 n else some 0) = some c := by
  obtain ⟨⟨hC, hR, h4, h72, h70⟩, hQ, hQ0⟩ := hI
  obtain ⟨a1, a2, a3, a4, a5, a6, a7, a8⟩ := hR
  unfold fz_X7_same
  rw [p2, a2]
  by_cases e : N = n
  · have l840 := ln_840 hC.1.2.1
    obtain ⟨d, hd⟩ : ∃ d : Nat, (d : Int) = n := ⟨n.toNat, by omega⟩
    have sp := bz_samePart (i := 0) (j := 0) (d := d) hC.1.1 p1 a1 (by omega) (by omega) (by omega) (by omega) (by rw [show N.toNat = d by omega] at p5; exact p5)
    have is := bz_isSame (σ := τ) (A := A) (B := 840) (i := off) (j := 0) (d := d) (by omega) (by omega) (by omega) (by omega) (by omega) (by omega) (by omega)
    rw [hd] at is
    rw [if_pos e, if_pos e, sp, Option.bind_some, is]
    have iff : (∀ q : Nat, q < d → (0 : Int) + q < x.2 244 1 ∧ x.2 (r + 1) (0 + q) = x.2 (244 + 1) (0 + q)) ↔ ∀ p : Nat, p < d → τ.2 A (off + p) = τ.2 840 (0 + p) := by
      have inj : ∀ q : Nat, q < d → (x.2 (r + 1) (0 + q) = x.2 (244 + 1) (0 + q) ↔ τ.2 A (off + q) = τ.2 840 (0 + q)) := fun q hq => by
        rw [Int.zero_add]
        exact (p4 q (by omega) (by omega)).inj (a4 q (by omega) (by omega)) hC.1.tb.2.1 a7
      constructor
      · intro h q hq
        exact (inj q hq).mp (h q hq).2
      · intro h q hq
        exact ⟨by omega, (inj q hq).mpr (h q hq)⟩
    by_cases c : ∀ p : Nat, p < d → τ.2 A (off + p) = τ.2 840 (0 + p)
    · exact ⟨1, Or.inr rfl, by rw [if_pos (iff.mpr c), if_neg (by decide)], by rw [if_pos c]⟩
    · exact ⟨0, Or.inl rfl, by rw [if_neg (fun q => c (iff.mp q)), if_pos rfl], by rw [if_neg c]⟩
  · exact ⟨0, Or.inl rfl, by rw [if_neg e], by rw [if_neg e]⟩
theorem gv_cmp {x τ : az_Hp} {i : Int} (hI : gv_I x τ T s V Q n) (hp : yz_Pt x τ T s V i) (i0 : 0 ≤ i) (i1 : i ≤ 60) : ∃ c : Int, (c = 0 ∨ c = 1) ∧ fz_X7_same 2000000 x (253 + 2 * i) 244 = some c ∧ (if τ.2 843 i = n then fz_X11_isSame 2000000 τ 842 (60 * i) 840 0 n else some 0) = some c := by
  obtain ⟨p1, p2, p3, p4, p5⟩ := hp
  have l842 := ln_842 hI.1.1.1.2.1
  exact gv_cmpG hI p1 p2 p3 p4 p5 (by omega) (by omega) (by omega)
theorem gv_same {x τ : az_Hp} {o v2 : Int} {k7 : az_Hp → Int → Int → Int → Option (Int × az_Hp)} {k10 : az_Hp → Int → Int → Option (Int × az_Hp)} (hI : gv_I x τ T s V Q n) (hp : ∀ i, 0 ≤ i → i ≤ v2 → yz_Pt x τ T s V i) (h77 : τ.2 804 77 = v2 + 1) (v20 : 0 ≤ v2) (v21 : v2 < 60) : ∀ (d k k' : Nat) (v3 : Int), d < k → d < k' → 0 ≤ v3 → v3 + d = v2 + 1 →
    (∃ v3', 0 ≤ v3' ∧ v3' ≤ v2 ∧ fz_X5_reduceAll_67 2000000 k7 k x 243 o v2 v3 = some (7, az_wr x 243 7 (az_w32 (x.2 243 6 - v3'))) ∧ fz_X11_reduces_84 2000000 k10 k' τ 804 o v3 = some (7, az_wr τ 804 78 v3')) ∨
    (fz_X5_reduceAll_67 2000000 k7 k x 243 o v2 v3 = k7 x 243 o (v2 + 1) ∧ fz_X11_reduces_84 2000000 k10 k' τ 804 o v3 = (fz_X11_keepsPast 2000000 τ 804 (v2 + 1)).bind fun r1 => k10 r1 804 o) := by
  have hX := hI.1.1.1.1
  have hM := hI.1.1.1.2.1
  have l843 := ln_843 hM
  intro d
  induction d with
  | zero =>
    intro k k' v3 hk hk' v30 hv
    obtain ⟨k, rfl⟩ : ∃ k', k = k' + 1 := ⟨k - 1, by omega⟩
    obtain ⟨k', rfl⟩ : ∃ k'', k' = k'' + 1 := ⟨k' - 1, by omega⟩
    refine Or.inr ⟨?_, ?_⟩
    · unfold fz_X5_reduceAll_67
      rw [if_pos (by omega), az_w32_id (by omega) (by omega)]
    · unfold fz_X11_reduces_84
      rw [h77, if_neg (by omega)]
  | succ d ih =>
    intro k k' v3 hk hk' v30 hv
    obtain ⟨k, rfl⟩ : ∃ k', k = k' + 1 := ⟨k - 1, by omega⟩
    obtain ⟨k', rfl⟩ : ∃ k'', k' = k'' + 1 := ⟨k' - 1, by omega⟩
    obtain ⟨c, hc, c1, c2⟩ := gv_cmp hI (hp v3 v30 (by omega)) v30 (by omega)
    have w1 : az_w32 (v3 + 1) = v3 + 1 := az_w32_id (by omega) (by omega)
    have w2 : az_w32 (60 * v3) = 60 * v3 := az_w32_id (by omega) (by omega)
    have runX : fz_X5_reduceAll_67 2000000 k7 (k + 1) x 243 o v2 v3 = if c = 0 then fz_X5_reduceAll_67 2000000 k7 k x 243 o v2 (v3 + 1) else some (7, az_wr x 243 7 (az_w32 (x.2 243 6 - v3))) := by
      conv => lhs; unfold fz_X5_reduceAll_67
      rw [if_neg (by omega), fx_243_11 hX, Option.bind_some, yz_pref hX v30 (by omega), Option.bind_some, fx_243_3 hX, Option.bind_some, c1, Option.bind_some, w1]
    have runM : fz_X11_reduces_84 2000000 k10 (k' + 1) τ 804 o v3 = if c = 0 then fz_X11_reduces_84 2000000 k10 k' τ 804 o (v3 + 1) else some (7, az_wr τ 804 78 v3) := by
      conv => lhs; unfold fz_X11_reduces_84
      rw [h77, if_pos (by omega), fx_804_76 hM, Option.bind_some, bz_ard v30 (by omega), Option.bind_some, hI.1.2.2.2.2, w1, w2]
      by_cases e : τ.2 843 v3 = n
      · rw [if_pos e] at c2 ⊢
        rw [fx_804_75 hM, Option.bind_some, fx_804_68 hM, Option.bind_some, c2, Option.bind_some]
      · rw [if_neg e] at c2 ⊢
        have : c = 0 := by simp only [Option.some.injEq] at c2; omega
        rw [if_pos this]
    rw [runX, runM]
    by_cases e : c = 0
    · rw [if_pos e, if_pos e]
      exact ih k k' (v3 + 1) (by omega) (by omega) (by omega) (by omega)
    · rw [if_neg e, if_neg e]
      exact Or.inl ⟨v3, v30, by omega, rfl, rfl⟩
end GP
section GQ
variable {T s : Int} {V : Int → Int → Prop} {Q : Int → Prop}
theorem gv_tk {x τ : az_Hp} {n v2 : Int} (hI : gv_I x τ T s V Q n) (v20 : 0 ≤ v2) (v21 : v2 ≤ 60) (hp : ∀ i, 0 ≤ i → i < v2 → yz_Pt x τ T s V i) (h1 : τ.2 843 v2 = n) (h2 : ∀ j, 0 ≤ j → j < n → τ.2 842 (60 * v2 + j) = τ.2 840 j) : ∃ xt, fz_X7_take x (253 + 2 * v2) 244 = some xt ∧ bz_Upd x xt (yz_S (253 + 2 * v2)) ∧ gv_I xt τ T s V Q n ∧ ∀ i, 0 ≤ i → i ≤ v2 → yz_Pt xt τ T s V i := by
  have I0 := hI
  obtain ⟨⟨hC, hR, h4, h72, h70⟩, hQ, hQ0⟩ := hI
  have hT := hC.1.2.2.1.1
  have cp := yz_pcap v20 v21
  have c244 : bz_cap 244 = 60 := by decide
  obtain ⟨a1, a2, a3, a4, a5, a6, a7, a8⟩ := hR
  obtain ⟨xt, t1, t2, t3, t4⟩ := yz_take (σ := x) (r := 253 + 2 * v2) (q := 244) hC.1.1 (by omega) (by omega) (by omega) (by omega) (by omega) (by omega)
  rw [a2] at t3 t4
  refine ⟨xt, t1, t2, I0.upd t2 (bz_Upd.refl (S := fun _ _ => False)) (fun a k q => by unfold yz_S at q; unfold nz_t; omega) (fun a k q => q.elim), fun i i0 i1 => ?_⟩
  by_cases e : i = v2
  · subst e
    have cr : ∀ k, 0 ≤ k → k < n → bz_cr (bz_ct τ s) (bz_ft τ s) (τ.2 T 0) (τ.2 T 1) V (xt.2 (253 + 2 * i + 1) k) (τ.2 842 (60 * i + k)) := fun k k0 k1 => by
      rw [t4 k k0 k1, h2 k k0 k1]
      exact a4 k k0 k1
    refine ⟨⟨by omega, by omega, by omega, fun k k0 k1 => (cr k k0 (by omega)).I hC.1.tb.2.1 a7⟩, by rw [h1]; exact t3, by rw [h1]; exact a3, by rw [h1]; exact cr, ?_⟩
    rw [h1]
    refine a5.cong (fun j j0 j1 => ?_)
    unfold bz_ra
    rw [t4 j j0 (by omega)]
  · exact (hp i i0 (by omega)).cong hT (fun k => t2.2.2 _ _ (fun z => by unfold yz_S at z; omega)) (fun k => t2.2.2 _ _ (fun z => by unfold yz_S at z; omega)) bz_tS.refl rfl (fun _ _ _ => rfl)
theorem gv_redL {o : Int} (ho : o = 0 ∨ o = 1) : ∀ (d k k' : Nat) (x τ : az_Hp) (n v2 : Int), d < k → d < k' → 0 ≤ v2 → v2 + d = 60 → gv_I x τ T s V Q n → (∀ i, 0 ≤ i → i < v2 → yz_Pt x τ T s V i) → τ.2 804 77 = v2 → x.2 243 6 = v2 → τ.2 843 v2 = n → (∀ j, 0 ≤ j → j < n → τ.2 842 (60 * v2 + j) = τ.2 840 j) →
    ∃ w x' τ' n', fz_X5_reduceAll_7 2000000 k x 243 o v2 = some (w, x') ∧ fz_X11_reduces_10 2000000 k' τ 804 o = some (w, τ') ∧ bz_Upd x x' yz_RX ∧ bz_Upd τ τ' yz_RM ∧ gv_I x' τ' T s V Q n' ∧ (w = 0 ∨ w = 6 ∨ w = 7 ∨ w = 8) ∧ (w = 0 → x'.2 243 6 = τ'.2 804 77) ∧ (w = 7 → x'.2 243 7 = az_w32 (τ'.2 804 77 - τ'.2 804 78)) := by
  intro d
  induction d with
  | zero =>
    intro k k' x τ n v2 hk hk' v20 hv hI hp h77 h6 h843 h842
    obtain ⟨k, rfl⟩ : ∃ k', k = k' + 1 := ⟨k - 1, by omega⟩
    obtain ⟨k', rfl⟩ : ∃ k'', k' = k'' + 1 := ⟨k' - 1, by omega⟩
    have hX := hI.1.1.1.1
    have e60 : v2 = 60 := by omega
    obtain ⟨xt, t1, t2, It, pt⟩ := gv_tk hI v20 (by omega) hp h843 h842
    obtain ⟨q, x1, m1, y1, y2, y3, y4, y5, y6, I1, -⟩ := gv_first ho It
    have f6 : x1.2 243 6 = v2 := by
      rw [y3.2.2 243 6 (fun q => by unfold sz_TY sz_TX rz_TX cz_SJ sz_S at q; omega), t2.2.2 243 6 (fun q => by unfold yz_S at q; omega)]; exact h6
    have f77 : m1.2 804 77 = v2 := by rw [y4.2.2 804 77 (fun q => by unfold sz_TM rz_TM cz_SM at q; omega)]; exact h77
    have ux : bz_Upd x x1 yz_RX := (t2.weak fun a k z => Or.inr (Or.inr (by unfold yz_S at z; omega))).trans (y3.weak fun _ _ z => Or.inl (Or.inl z))
    have um : bz_Upd τ m1 yz_RM := y4.weak fun _ _ z => Or.inl (Or.inl z)
    refine ⟨if q = -1 then 0 else 8, x1, m1, n, ?_, ?_, ux, um, I1, ?_, fun _ => by omega, fun w7 => ?_⟩
    · unfold fz_X5_reduceAll_7
      rw [if_neg (by omega), fx_243_11 hX, Option.bind_some, yz_pref hX v20 (by omega), Option.bind_some, fx_243_3 hX, Option.bind_some, t1, Option.bind_some, y1, Option.bind_some]
      by_cases e : q = -1
      · rw [if_pos e, if_pos rfl, if_pos e]
      · rw [if_neg e, if_neg (show ¬ (1 : Int) = 0 by decide), if_pos e60, if_neg e]
    · have run : fz_X11_reduces_10 2000000 (k' + 1) τ 804 o = (if o = 0 then fz_X11_firstWithin 2000000 200 τ 804 0 else fz_X11_firstWithout 2000000 τ 804).bind fun r => fz_X11_reduces_43 2000000 (fz_X11_reduces_10 2000000 k') r.2 804 o r.1 := by
        conv => lhs; unfold fz_X11_reduces_10
        rw [if_neg (by omega)]
        split <;> rfl
      rw [run, y2, Option.bind_some]
      unfold fz_X11_reduces_43
      by_cases e : q = -1
      · rw [if_pos e, if_pos e]
      · rw [if_neg e, if_neg (by omega), f77, if_pos e60, if_neg e]
    · by_cases e : q = -1
      · rw [if_pos e]; exact Or.inl rfl
      · rw [if_neg e]; exact Or.inr (Or.inr (Or.inr rfl))
    · by_cases e : q = -1
      · rw [if_pos e] at w7; omega
      · rw [if_neg e] at w7; omega
  | succ d ih =>
    intro k k' x τ n v2 hk hk' v20 hv hI hp h77 h6 h843 h842
    obtain ⟨k, rfl⟩ : ∃ k', k = k' + 1 := ⟨k - 1, by omega⟩
    obtain ⟨k', rfl⟩ : ∃ k'', k' = k'' + 1 := ⟨k' - 1, by omega⟩
    have hX := hI.1.1.1.1
    have hT := hI.1.1.1.2.2.1.1
    obtain ⟨xt, t1, t2, It, pt⟩ := gv_tk hI v20 (by omega) hp h843 h842
    obtain ⟨w, x1, m1, n1, y1, y2, y3, y4, y5, I1, y6⟩ := gv_step ho It
    have f6 : x1.2 243 6 = v2 := by
      rw [y2.2.2 243 6 (fun q => by unfold yz_TX sz_TY sz_TX rz_TX cz_SJ sz_S yz_S at q; omega), t2.2.2 243 6 (fun q => by unfold yz_S at q; omega)]; exact h6
    have f77 : m1.2 804 77 = v2 := by rw [y3.2.2 804 77 (fun q => by unfold yz_TM sz_TM rz_TM cz_SM yz_WM yz_F yz_next at q; omega)]; exact h77
    have ux : bz_Upd x x1 yz_RX := (t2.weak fun a k z => Or.inr (Or.inr (by unfold yz_S at z; omega))).trans (y2.weak fun _ _ z => Or.inl z)
    have um : bz_Upd τ m1 yz_RM := y3.weak fun _ _ z => Or.inl z
    have runX : fz_X5_reduceAll_7 2000000 (k + 1) x 243 o v2 = ((fz_X5_findPlace 2000000 xt 243 o).bind fun r5 => (if r5.1 = 0 then (some (0, r5.2)) else ((fz_X5_rewrite 2000000 r5.2 243).bind fun r6 => (if r6.1 = 0 then (some (6, r6.2)) else fz_X5_reduceAll_67 2000000 (fz_X5_reduceAll_7 2000000 k) 2000000 (az_wr r6.2 243 6 (az_w32 ((r6.2.2 243 6) + 1))) 243 o v2 0)))) := by
      conv => lhs; unfold fz_X5_reduceAll_7
      rw [if_neg (by omega), fx_243_11 hX, Option.bind_some, yz_pref hX v20 (by omega), Option.bind_some, fx_243_3 hX, Option.bind_some, t1, Option.bind_some]
      simp only [if_neg (show ¬ v2 = 60 by omega)]
    have runM : fz_X11_reduces_10 2000000 (k' + 1) τ 804 o = fz_X11_reduces_43 2000000 (fz_X11_reduces_10 2000000 k') m1 804 o w := by
      conv => lhs; unfold fz_X11_reduces_10
      rw [if_pos (by omega), y1, Option.bind_some]
    rw [runX, runM]
    unfold fz_X11_reduces_43
    rcases y6 with ⟨hw, z1⟩ | ⟨x0, z1, ⟨hw, z2⟩ | ⟨hw, z2, z3⟩⟩
    · exact ⟨0, x1, m1, n1, by rw [z1, Option.bind_some, if_pos rfl], by rw [if_pos hw], ux, um, I1, Or.inl rfl, fun _ => by omega, fun w7 => by omega⟩
    · exact ⟨6, x1, m1, n1, by rw [z1, Option.bind_some, if_neg (show ¬ (1 : Int) = 0 by decide), z2, Option.bind_some, if_pos rfl], by rw [if_neg (by omega), if_pos hw], ux, um, I1, Or.inr (Or.inl rfl), fun w7 => by omega, fun w7 => by omega⟩
    · rw [z1, Option.bind_some, if_neg (show ¬ (1 : Int) = 0 by decide), z2, Option.bind_some, if_neg (show ¬ (1 : Int) = 0 by decide), if_neg (by omega), if_neg (by omega), f77, if_neg (by omega), f6, az_w32_id (z := v2 + 1) (by omega) (by omega)]
      have vx : bz_Upd x1 (az_wr x1 243 6 (v2 + 1)) (fun a k => a = 243 ∧ k = 6) := bz_Upd.wr bz_Upd.refl ⟨rfl, rfl⟩ (by decide)
      have vm : bz_Upd m1 (az_wr m1 804 77 (v2 + 1)) (fun a k => a = 804 ∧ k = 77) := bz_Upd.wr bz_Upd.refl ⟨rfl, rfl⟩ (by decide)
      have I3 : gv_I (az_wr x1 243 6 (v2 + 1)) (az_wr m1 804 77 (v2 + 1)) T s V Q n1 := I1.upd vx vm (fun a k q => by unfold nz_t; omega) (fun a k q => by unfold nz_t; omega)
      have p3 : ∀ i, 0 ≤ i → i ≤ v2 → yz_Pt (az_wr x1 243 6 (v2 + 1)) (az_wr m1 804 77 (v2 + 1)) T s V i := fun i i0 i1 => by
        have um' : bz_Upd τ (az_wr m1 804 77 (v2 + 1)) (fun a k => yz_TM a k ∨ (a = 804 ∧ k = 77)) := (y3.weak fun _ _ z => Or.inl z).trans (vm.weak fun _ _ z => Or.inr z)
        have ux' : bz_Upd xt (az_wr x1 243 6 (v2 + 1)) (fun a k => yz_TX a k ∨ (a = 243 ∧ k = 6)) := (y2.weak fun _ _ z => Or.inl z).trans (vx.weak fun _ _ z => Or.inr z)
        exact (pt i i0 i1).cong hT (fun k => ux'.2.2 _ _ (fun q => by unfold yz_TX sz_TY sz_TX rz_TX cz_SJ sz_S yz_S at q; omega)) (fun k => ux'.2.2 _ _ (fun q => by unfold yz_TX sz_TY sz_TX rz_TX cz_SJ sz_S yz_S at q; omega)) (fun a k q' => um'.2.2 a k (fun q => by unfold yz_TM sz_TM rz_TM cz_SM yz_WM yz_F yz_next at q; omega)) (um'.2.2 _ _ (fun q => by unfold yz_TM sz_TM rz_TM cz_SM yz_WM yz_F yz_next at q; omega)) (fun k k0 k1 => um'.2.2 _ _ (fun q => by unfold yz_TM sz_TM rz_TM cz_SM yz_WM yz_F yz_next at q; omega))
      have ux3 : bz_Upd x (az_wr x1 243 6 (v2 + 1)) yz_RX := ux.trans (vx.weak fun a k z => Or.inr (Or.inl (by omega)))
      have um3 : bz_Upd τ (az_wr m1 804 77 (v2 + 1)) yz_RM := um.trans (vm.weak fun a k z => Or.inr (Or.inl (by omega)))
      rcases gv_same (o := o) (k7 := fz_X5_reduceAll_7 2000000 k) (k10 := fz_X11_reduces_10 2000000 k') I3 p3 az_wr_same v20 (by omega) (v2 + 1).toNat 2000000 2000000 0 (by omega) (by omega) (by omega) (by omega) with ⟨v3, c0, c1, c2, c3⟩ | ⟨c2, c3⟩
      · have wx : bz_Upd (az_wr x1 243 6 (v2 + 1)) (az_wr (az_wr x1 243 6 (v2 + 1)) 243 7 (az_w32 ((az_wr x1 243 6 (v2 + 1)).2 243 6 - v3))) (fun a k => a = 243 ∧ k = 7) := bz_Upd.wr bz_Upd.refl ⟨rfl, rfl⟩ (by decide)
        have wm : bz_Upd (az_wr m1 804 77 (v2 + 1)) (az_wr (az_wr m1 804 77 (v2 + 1)) 804 78 v3) (fun a k => a = 804 ∧ k = 78) := bz_Upd.wr bz_Upd.refl ⟨rfl, rfl⟩ (by decide)
        refine ⟨7, _, _, n1, c2, c3, ux3.trans (wx.weak fun a k z => Or.inr (Or.inl (by omega))), um3.trans (wm.weak fun a k z => Or.inr (Or.inl (by omega))), I3.upd wx wm (fun a k q => by unfold nz_t; omega) (fun a k q => by unfold nz_t; omega), Or.inr (Or.inr (Or.inl rfl)), fun w => by omega, fun _ => ?_⟩
        rw [az_wr_same, az_wr_same, az_wr_same, az_wr_ne (by omega), az_wr_same]
      · have hM3 := I3.1.1.1.2.1
        have n1' := I3.1.2.1.2.2.1
        obtain ⟨m5, k1, k2, k3, k4, k5, k6⟩ := yz_keepsPast (p := v2 + 1) hM3 I3.1.2.2.2.2 (by omega) (by omega) (by omega) (by omega)
        have I5 : gv_I (az_wr x1 243 6 (v2 + 1)) m5 T s V Q n1 := I3.upd (bz_Upd.refl (S := fun _ _ => False)) k2 (fun a k q => q.elim) (fun a k q => by unfold yz_past at q; unfold nz_t; omega)
        obtain ⟨w', x', τ', n', r1, r2, r3, r4, r5⟩ := ih k k' (az_wr x1 243 6 (v2 + 1)) m5 n1 (v2 + 1) (by omega) (by omega) (by omega) (by omega) I5 (fun i i0 i1 => (p3 i i0 (by omega)).cong hT (fun _ => rfl) (fun _ => rfl) (fun a k q' => k2.2.2 a k (fun q => by unfold yz_past at q; omega)) (k4 i (by omega)) (fun k k0 k1 => k5 _ (by omega))) (by rw [k2.2.2 804 77 (fun q => by unfold yz_past at q; omega)]; exact az_wr_same) az_wr_same k3 (fun j j0 j1 => by rw [k6 j j0 j1, k2.2.2 840 j (fun q => by unfold yz_past at q; omega)])
        refine ⟨w', x', τ', n', c2.trans r1, ?_, ux3.trans r3, (um3.trans (k2.weak fun a k z => Or.inr (Or.inr z))).trans r4, r5⟩
        rw [c3, k1, Option.bind_some]
        exact r2
theorem gv_reduce {x τ : az_Hp} {o n : Int} (ho : o = 0 ∨ o = 1) (hI : gv_I x τ T s V Q n) :
    ∃ w x' τ' n', fz_X5_reduceAll 2000000 x 243 o = some (w, x') ∧ fz_X11_reduces 2000000 τ 804 o = some (w, τ') ∧ bz_Upd x x' yz_RX ∧ bz_Upd τ τ' yz_RM ∧ gv_I x' τ' T s V Q n' ∧ (w = 0 ∨ w = 6 ∨ w = 7 ∨ w = 8) ∧ (w = 0 → x'.2 243 6 = τ'.2 804 77) ∧ (w = 7 → x'.2 243 7 = az_w32 (τ'.2 804 77 - τ'.2 804 78)) := by
  have vx : bz_Upd x (az_wr x 243 6 0) (fun a k => a = 243 ∧ k = 6) := bz_Upd.wr bz_Upd.refl ⟨rfl, rfl⟩ (by decide)
  have vm : bz_Upd τ (az_wr τ 804 77 0) (fun a k => a = 804 ∧ k = 77) := bz_Upd.wr bz_Upd.refl ⟨rfl, rfl⟩ (by decide)
  have I1 : gv_I (az_wr x 243 6 0) (az_wr τ 804 77 0) T s V Q n := hI.upd vx vm (fun a k q => by unfold nz_t; omega) (fun a k q => by unfold nz_t; omega)
  have n1' := I1.1.2.1.2.2.1
  obtain ⟨m5, k1, k2, k3, k4, k5, k6⟩ := yz_keepsPast (p := 0) I1.1.1.1.2.1 I1.1.2.2.2.2 (by omega) (by omega) (by omega) (by omega)
  have I5 : gv_I (az_wr x 243 6 0) m5 T s V Q n := I1.upd (bz_Upd.refl (S := fun _ _ => False)) k2 (fun a k q => q.elim) (fun a k q => by unfold yz_past at q; unfold nz_t; omega)
  obtain ⟨w', x', τ', n', r1, r2, r3, r4, r5⟩ := gv_redL ho 60 2000000 2000000 (az_wr x 243 6 0) m5 n 0 (by omega) (by omega) (by omega) (by omega) I5 (fun i i0 i1 => by omega) (by rw [k2.2.2 804 77 (fun q => by unfold yz_past at q; omega)]; exact az_wr_same) az_wr_same k3 (fun j j0 j1 => by rw [k6 j j0 j1, k2.2.2 840 j (fun q => by unfold yz_past at q; omega)])
  refine ⟨w', x', τ', n', ?_, ?_, (vx.weak fun a k z => Or.inr (Or.inl (by omega))).trans r3, ((vm.weak fun a k z => Or.inr (Or.inl (by omega))).trans (k2.weak fun a k z => Or.inr (Or.inr z))).trans r4, r5⟩
  · unfold fz_X5_reduceAll
    exact r1
  · unfold fz_X11_reduces
    rw [k1, Option.bind_some]
    exact r2
end GQ
