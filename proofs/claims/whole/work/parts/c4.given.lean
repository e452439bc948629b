/-! reducing with what is given: the search at one place -/
def gv_Row (x m : az_Hp) (T s : Int) (V : Int → Int → Prop) (Q : Int → Prop) (r A off sz : Int) : Prop := bz_rw x r ∧ x.2 r 1 = sz ∧ (1 ≤ sz ∧ sz ≤ 30) ∧ (∀ i, 0 ≤ i → i < sz → yz_rl m T s V Q (x.2 (r + 1) i) (m.2 A (off + i))) ∧ bz_Sc (bz_ra x r) sz.toNat 1 0
def gv_R (x m : az_Hp) (T s : Int) (V : Int → Int → Prop) (Q : Int → Prop) : Prop := x.2 243 4 = 1 ∧ m.2 804 72 = 1 ∧ ∃ ng, (x.2 161 0 = ng ∧ m.2 804 85 = ng ∧ 0 ≤ ng ∧ ng ≤ 6) ∧ ∀ g, 0 ≤ g → g < ng → gv_Row x m T s V Q (167 + 4 * g) 848 (30 * g) (m.2 850 g) ∧ gv_Row x m T s V Q (169 + 4 * g) 849 (30 * g) (m.2 851 g)
theorem gv_Row.cong {x m x' m' : az_Hp} {T s : Int} {V : Int → Int → Prop} {Q : Int → Prop} {r A off sz : Int} (h : gv_Row x m T s V Q r A off sz) (hr : ∀ k, x'.2 r k = x.2 r k) (hr' : ∀ k, x'.2 (r + 1) k = x.2 (r + 1) k) (hA : ∀ k, m'.2 A k = m.2 A k) (e : yz_rl m' T s V Q = yz_rl m T s V Q) : gv_Row x' m' T s V Q r A off sz := by
  obtain ⟨h1, h2, h3, h4, h5⟩ := h
  have k3 : bz_ra x' r = bz_ra x r := funext fun k => by unfold bz_ra; rw [hr']
  refine ⟨by unfold bz_rw at h1 ⊢; simp only [hr, hr']; exact h1, by rw [hr]; exact h2, h3, fun i i0 i1 => ?_, by rw [k3]; exact h5⟩
  rw [e, hr', hA]
  exact h4 i i0 i1
theorem gv_rl {m m' : az_Hp} {T s : Int} {V : Int → Int → Prop} {Q : Int → Prop} (hT : T = 3 ∨ T = 82) (tS : bz_tS m m') : yz_rl m' T s V Q = yz_rl m T s V Q := by
  unfold yz_rl
  rw [bz_ct_tS tS, bz_ft_tS tS, tS T 0 (by omega), tS T 1 (by omega)]
theorem gv_R.upd {x m x' m' : az_Hp} {T s : Int} {V : Int → Int → Prop} {Q : Int → Prop} {S S' : Int → Int → Prop} (h : gv_R x m T s V Q) (hT : T = 3 ∨ T = 82) (hx : bz_Upd x x' S) (hm : bz_Upd m m' S') (hs : ∀ a k, S a k → ¬ (a = 243 ∧ k = 4) ∧ ¬ (161 ≤ a ∧ a ≤ 190)) (hs' : ∀ a k, S' a k → ¬ nz_t a ∧ ¬ (806 ≤ a ∧ a ≤ 819) ∧ ¬ (a = 804 ∧ (k = 72 ∨ k = 85)) ∧ ¬ (848 ≤ a ∧ a ≤ 851)) : gv_R x' m' T s V Q := by
  obtain ⟨h1, h2, ng, ⟨h3, h4, h5, h6⟩, h7⟩ := h
  have ex : ∀ a k, (161 ≤ a ∧ a ≤ 190) → x'.2 a k = x.2 a k := fun a k q => hx.2.2 a k (fun c => (hs a k c).2 q)
  have em : ∀ a k, (848 ≤ a ∧ a ≤ 851) → m'.2 a k = m.2 a k := fun a k q => hm.2.2 a k (fun c => (hs' a k c).2.2.2 q)
  have tS : bz_tS m m' := fun a k q => hm.2.2 a k (fun z => by obtain ⟨w1, w2, w3, w4⟩ := hs' _ _ z; unfold nz_t at w1; omega)
  refine ⟨by rw [hx.2.2 243 4 (fun c => (hs _ _ c).1 ⟨rfl, rfl⟩)]; exact h1, by rw [hm.2.2 804 72 (fun c => (hs' _ _ c).2.2.1 ⟨rfl, Or.inl rfl⟩)]; exact h2, ng, ⟨by rw [ex 161 0 (by omega)]; exact h3, by rw [hm.2.2 804 85 (fun c => (hs' _ _ c).2.2.1 ⟨rfl, Or.inr rfl⟩)]; exact h4, h5, h6⟩, fun g g0 g1 => ?_⟩
  obtain ⟨w1, w2⟩ := h7 g g0 g1
  rw [em 850 g (by omega), em 851 g (by omega)]
  exact ⟨w1.cong (fun k => ex _ _ (by omega)) (fun k => ex _ _ (by omega)) (fun k => em _ _ (by omega)) (gv_rl hT tS), w2.cong (fun k => ex _ _ (by omega)) (fun k => ex _ _ (by omega)) (fun k => em _ _ (by omega)) (gv_rl hT tS)⟩
section GA
variable {T s n : Int} {V : Int → Int → Prop} {Q : Int → Prop}
theorem gv_one {x m : az_Hp} {p g : Int} {d0 : Nat} (hC : rz_C x m T s) (hR : rz_R x m T s V 244 840 n) (hG : gv_Row x m T s V Q (167 + 4 * g) 848 (30 * g) (m.2 850 g)) (g0 : 0 ≤ g) (g6 : g < 6) (p0 : 0 ≤ p) (pd : p + d0 ≤ n) (hS : bz_Sc (bz_ra x 244) d0 1 p) : ∃ c : Int, (c = 0 ∨ c = 1) ∧ fz_X7_samePart 2000000 x 244 p (167 + 4 * g) 0 = some c ∧ (if m.2 850 g = (d0 : Int) then fz_X11_isSame 2000000 m 840 p 848 (30 * g) (m.2 850 g) else some 0) = some c := by
  obtain ⟨a1, a2, a3, a4, a5, a6, a7, a8⟩ := hR
  obtain ⟨b1, b2, b3, b4, b5⟩ := hG
  have l840 := ln_840 hC.1.2.1
  have l848 := ln_848 hC.1.2.1
  have sp := bz_samePart (i := p) (j := 0) (d := d0) hC.1.1 a1 b1 p0 (by omega) (by omega) (by omega) hS
  rw [sp]
  have inj : ∀ q : Nat, q < d0 → (q : Int) < m.2 850 g → (x.2 (244 + 1) (p + q) = x.2 (167 + 4 * g + 1) (0 + q) ↔ m.2 840 (p + q) = m.2 848 (30 * g + q)) := fun q hq hq' => by
    rw [Int.zero_add]
    exact (a4 (p + q) (by omega) (by omega)).inj (b4 q (by omega) hq').1 hC.1.tb.2.1 a7
  by_cases e : m.2 850 g = (d0 : Int)
  · have is := bz_isSame (σ := m) (A := 840) (B := 848) (i := p) (j := 30 * g) (d := d0) (by omega) (by omega) (by omega) (by omega) (by omega) (by omega) (by omega)
    rw [if_pos e, e, is]
    have iff : (∀ q : Nat, q < d0 → (0 : Int) + q < x.2 (167 + 4 * g) 1 ∧ x.2 (244 + 1) (p + q) = x.2 (167 + 4 * g + 1) (0 + q)) ↔ ∀ q : Nat, q < d0 → m.2 840 (p + q) = m.2 848 (30 * g + q) := by
      constructor
      · intro h q hq
        exact (inj q hq (by omega)).mp (h q hq).2
      · intro h q hq
        exact ⟨by omega, (inj q hq (by omega)).mpr (h q hq)⟩
    by_cases c : ∀ q : Nat, q < d0 → m.2 840 (p + q) = m.2 848 (30 * g + q)
    · exact ⟨1, Or.inr rfl, by rw [if_pos (iff.mpr c)], by rw [if_pos c]⟩
    · exact ⟨0, Or.inl rfl, by rw [if_neg (fun q => c (iff.mp q))], by rw [if_neg c]⟩
  · refine ⟨0, Or.inl rfl, ?_, by rw [if_neg e]⟩
    rw [if_neg (fun h => e ?_)]
    have sc : bz_Sc (bz_ra x (167 + 4 * g)) d0 1 0 := bz_Sc.shift (fun j j0 j1 => by
      have := (h j.toNat (by omega)).2
      rw [show ((j.toNat : Nat) : Int) = j by omega] at this
      unfold bz_ra
      rw [this]) hS
    have := sc.det b5
    omega
theorem gv_atL {x m : az_Hp} {p ng : Int} {d0 : Nat} (hC : rz_C x m T s) (hR : rz_R x m T s V 244 840 n) (h4 : x.2 243 4 = 1) (h72 : m.2 804 72 = 1) (hng : x.2 161 0 = ng ∧ m.2 804 85 = ng ∧ 0 ≤ ng ∧ ng ≤ 6) (hG : ∀ g, 0 ≤ g → g < ng → gv_Row x m T s V Q (167 + 4 * g) 848 (30 * g) (m.2 850 g)) (p0 : 0 ≤ p) (pd : p + d0 ≤ n) (hS : bz_Sc (bz_ra x 244) d0 1 p) : ∀ (d k k' : Nat) (v : Int), d < k → d < k' → 0 ≤ v → v + d = ng → ∃ g, (g = -1 ∨ (0 ≤ g ∧ g < ng)) ∧ fz_X5_givenAt_2 2000000 k x 243 p v = some g ∧ fz_X11_doneAt_16 2000000 k' m 804 p v = if g = -1 then fz_X11_firing 2000000 m 804 840 p else some (100 + g, m) := by
  have hX := hC.1.1
  have hM := hC.1.2.1
  have l850 := ln_850 hM
  have id' : ∀ o : Option (Int × az_Hp), (o.bind fun r => some (r.1, r.2)) = o := fun o => by cases o <;> rfl
  have n60 := hR.2.2.1.2
  intro d
  induction d with
  | zero =>
    intro k k' v hk hk' v0 hv
    obtain ⟨k, rfl⟩ : ∃ k', k = k' + 1 := ⟨k - 1, by omega⟩
    obtain ⟨k', rfl⟩ : ∃ k'', k' = k'' + 1 := ⟨k' - 1, by omega⟩
    refine ⟨-1, Or.inl rfl, ?_, ?_⟩
    · unfold fz_X5_givenAt_2
      rw [if_neg (by omega), fx_243_1 hX, Option.bind_some, if_neg (by omega)]
    · unfold fz_X11_doneAt_16
      rw [if_neg (by omega), fx_804_68 hM, Option.bind_some, id', if_pos rfl]
  | succ d ih =>
    intro k k' v hk hk' v0 hv
    obtain ⟨k, rfl⟩ : ∃ k', k = k' + 1 := ⟨k - 1, by omega⟩
    obtain ⟨k', rfl⟩ : ∃ k'', k' = k'' + 1 := ⟨k' - 1, by omega⟩
    obtain ⟨c, hc, c1, c2⟩ := gv_one hC hR (hG v v0 (by omega)) v0 (by omega) p0 pd hS
    obtain ⟨g, g1, g2, g3⟩ := ih k k' (v + 1) (by omega) (by omega) (by omega) (by omega)
    have sz := yz_size hR hC.1 p0 pd hS
    have w1 : az_w32 (v + 1) = v + 1 := az_w32_id (by omega) (by omega)
    have w2 : az_w32 (30 * v) = 30 * v := az_w32_id (by omega) (by omega)
    have w3 : az_w32 (100 + v) = 100 + v := az_w32_id (by omega) (by omega)
    have runX : fz_X5_givenAt_2 2000000 (k + 1) x 243 p v = if c = 0 then fz_X5_givenAt_2 2000000 k x 243 p (v + 1) else some v := by
      conv => lhs; unfold fz_X5_givenAt_2
      rw [if_neg (by omega), fx_243_1 hX, Option.bind_some, if_pos (by omega), fx_243_3 hX, Option.bind_some, Option.bind_some, fx_161_3 hX, Option.bind_some, ((wq_arr hX v0).1 (by omega)).1, Option.bind_some, c1, Option.bind_some, w1]
    have runM : fz_X11_doneAt_16 2000000 (k' + 1) m 804 p v = if c = 0 then fz_X11_doneAt_16 2000000 k' m 804 p (v + 1) else some (100 + v, m) := by
      have rd : az_ard m 850 v = some (m.2 850 v) := bz_ard v0 (by omega)
      conv => lhs; unfold fz_X11_doneAt_16
      simp only [fx_804_90 hM, fx_804_68 hM, fx_804_88 hM, Option.bind_some, rd, sz, w1, w2, w3]
      rw [if_pos (by omega), if_neg (by omega)]
      by_cases e : m.2 850 v = (d0 : Int)
      · rw [if_pos e] at c2 ⊢
        rw [c2, Option.bind_some]
      · rw [if_neg e] at c2 ⊢
        have : c = 0 := by simp only [Option.some.injEq] at c2; omega
        rw [if_pos this]
    by_cases e : c = 0
    · rw [if_pos e] at runX runM
      exact ⟨g, g1, runX.trans g2, runM.trans g3⟩
    · rw [if_neg e] at runX runM
      exact ⟨v, Or.inr ⟨v0, by omega⟩, runX, by rw [runM, if_neg (by omega)]⟩
theorem gv_at {x m : az_Hp} {p : Int} (hC : rz_C x m T s) (hR : rz_R x m T s V 244 840 n) (hG : gv_R x m T s V Q) (p0 : 0 ≤ p) (p1 : p < n) : ∃ g, (g = -1 ∨ (0 ≤ g ∧ g < 6 ∧ g < x.2 161 0)) ∧ fz_X5_givenAt 2000000 x 243 p = some g ∧ fz_X11_doneAt_16 2000000 2000000 m 804 p 0 = if g = -1 then fz_X11_firing 2000000 m 804 840 p else some (100 + g, m) := by
  obtain ⟨d0, d1, d2, d3⟩ := hR.sub p0 p1
  obtain ⟨h4, h72, ng, hng, hg⟩ := hG
  obtain ⟨g, g1, g2, g3⟩ := gv_atL hC hR h4 h72 hng (fun g g0 g1 => (hg g g0 g1).1) p0 d2 d3 ng.toNat 2000000 2000000 0 (by omega) (by omega) (by omega) (by omega)
  exact ⟨g, by omega, g2, g3⟩
/-- the reference at one place -/
theorem gv_doneRun {σx σm : az_Hp} {p : Int} (hC : rz_C σx σm T s) (hR : rz_R σx σm T s V 244 840 n) (hG : gv_R σx σm T s V Q) (p0 : 0 ≤ p) (p1 : p < n) : (¬ (200 ≤ σm.2 840 p ∧ σm.2 840 p < 1000) → sz_done σm p = some (-1, az_wr σm 804 73 p)) ∧ ((200 ≤ σm.2 840 p ∧ σm.2 840 p < 1000) → ∃ g, (g = -1 ∨ (0 ≤ g ∧ g < 6 ∧ g < σx.2 161 0)) ∧ fz_X5_givenAt 2000000 (az_wr (az_wr σx 243 8 p) 243 5 (-1)) 243 p = some g ∧ sz_done σm p = if g = -1 then fz_X11_firing 2000000 (az_wr σm 804 73 p) 804 840 p else some (100 + g, az_wr σm 804 73 p)) := by
  have hT := hC.1.2.2.1.1
  have n60 := hR.2.2.1.2
  have ux : bz_Upd σx (az_wr (az_wr σx 243 8 p) 243 5 (-1)) sz_TX := bz_Upd.wr (bz_Upd.wr bz_Upd.refl (Or.inr ⟨rfl, by omega⟩) (by decide)) (Or.inr ⟨rfl, by omega⟩) (by decide)
  have um : bz_Upd σm (az_wr σm 804 73 p) sz_TM := bz_Upd.wr bz_Upd.refl (Or.inr ⟨rfl, rfl⟩) (by decide)
  have hF' := hC.1.2.1.upd um
  have l := ln_840 hF'
  have rd : az_ard (az_wr σm 804 73 p) 840 p = some (σm.2 840 p) := by rw [bz_ard p0 (by omega), az_wr_ne (by omega)]
  have run : sz_done σm p = if 200 ≤ σm.2 840 p ∧ σm.2 840 p < 1000 then fz_X11_doneAt_16 2000000 2000000 (az_wr σm 804 73 p) 804 p 0 else some (-1, az_wr σm 804 73 p) := by
    unfold sz_done fz_X11_doneAt
    rw [fx_804_68 hF', Option.bind_some, rd, Option.bind_some, mz_isFam, Option.bind_some]
    by_cases c : 200 ≤ σm.2 840 p ∧ σm.2 840 p < 1000
    · rw [if_pos c, if_pos c, if_neg (show ¬ (1 : Int) = 0 by decide)]
    · rw [if_neg c, if_neg c, if_pos rfl]
  refine ⟨fun c => by rw [run, if_neg c], fun c => ?_⟩
  rw [run, if_pos c]
  have G1 : gv_R (az_wr (az_wr σx 243 8 p) 243 5 (-1)) (az_wr σm 804 73 p) T s V Q := hG.upd hT ux um (fun a k q => by unfold sz_TX rz_TX cz_SJ at q; omega) (fun a k q => by unfold sz_TM rz_TM cz_SM at q; unfold nz_t; omega)
  obtain ⟨g, g1, g2, g3⟩ := gv_at (sz_updC hC ux um) (sz_updR hR hT ux um) G1 p0 p1
  have e0 : (az_wr (az_wr σx 243 8 p) 243 5 (-1)).2 161 0 = σx.2 161 0 := ux.2.2 _ _ (fun q => by unfold sz_TX rz_TX cz_SJ at q; omega)
  rw [e0] at g1
  exact ⟨g, g1, g2, g3⟩
end GA
