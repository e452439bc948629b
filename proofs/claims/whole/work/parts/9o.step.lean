/-! one step -/
section ST
variable {T s n : Int} {V : Int → Int → Prop} {Q : Int → Prop}
def yz_I (σx σm : az_Hp) (T s : Int) (V : Int → Int → Prop) (Q : Int → Prop) (n : Int) : Prop := (rz_C σx σm T s ∧ rz_R σx σm T s V 244 840 n ∧ σx.2 243 4 = 0 ∧ σm.2 804 72 = 0 ∧ σm.2 804 70 = n) ∧ (∀ m, m < 2000 → Q m) ∧ ∀ i, 0 ≤ i → i < n → Q (σm.2 840 i)
def yz_TX (a k : Int) : Prop := sz_TY a k ∨ yz_S 246 a k ∨ yz_S 244 a k
def yz_TM (a k : Int) : Prop := sz_TM a k ∨ yz_WM a k ∨ yz_next a k
theorem yz_I.upd {σx σm σx' σm' : az_Hp} {S S' : Int → Int → Prop} (h : yz_I σx σm T s V Q n) (hx : bz_Upd σx σx' S) (hm : bz_Upd σm σm' S') (hs : ∀ a k, S a k → ¬ nz_t a ∧ a ≠ 14 ∧ a ≠ 93 ∧ ¬ (a = 243 ∧ (k = 2 ∨ k = 4)) ∧ a ≠ 244 ∧ a ≠ 245) (hs' : ∀ a k, S' a k → ¬ nz_t a ∧ ¬ (806 ≤ a ∧ a ≤ 819) ∧ ¬ (a = 804 ∧ (k = 15 ∨ k = 70 ∨ k = 72)) ∧ a ≠ 835 ∧ a ≠ 840) : yz_I σx' σm' T s V Q n := by
  obtain ⟨⟨h1, h2, h3, h4, h5⟩, h6, h7⟩ := h
  have hT := h1.1.2.2.1.1
  exact ⟨⟨yz_gC h1 hx hm (fun a k q => by have := hs a k q; refine ⟨this.1, by omega, by omega, by omega⟩) (fun a k q => by have := hs' a k q; exact ⟨this.1, this.2.1, by omega, by omega⟩), yz_gR h2 hT hx hm (fun a k q => by have := hs a k q; omega) (fun a k q => by have := hs' a k q; exact ⟨this.1, this.2.1, by omega⟩), by rw [hx.2.2 243 4 (fun q => by have := hs _ _ q; omega)]; exact h3, by rw [hm.2.2 804 72 (fun q => by have := hs' _ _ q; omega)]; exact h4, by rw [hm.2.2 804 70 (fun q => by have := hs' _ _ q; omega)]; exact h5⟩, h6, fun i i0 i1 => by rw [hm.2.2 840 i (fun q => by have := hs' _ _ q; omega)]; exact h7 i i0 i1⟩
theorem yz_first {σx σm : az_Hp} {o : Int} (ho : o = 0 ∨ o = 1) (hI : yz_I σx σm T s V Q n) :
    ∃ q σx' σm', fz_X5_findPlace 2000000 σx 243 o = some (if q = -1 then 0 else 1, σx') ∧ (if o = 0 then fz_X11_firstWithin 2000000 200 σm 804 0 else fz_X11_firstWithout 2000000 σm 804) = some (q, σm') ∧ bz_Upd σx σx' sz_TY ∧ bz_Upd σm σm' sz_TM ∧ -1 ≤ q ∧ q < 16 ∧ yz_I σx' σm' T s V Q n ∧ (q ≠ -1 → σx'.2 243 5 = q ∧ ∃ v x' τ', fz_X5_rewrite 2000000 σx' 243 = some (v, x') ∧ fz_X11_makes 2000000 σm' 804 q = some (v, τ') ∧ bz_Upd σm' τ' yz_WM ∧ ((v = 0 ∧ bz_Upd σx' x' (yz_S 246)) ∨ (v = 1 ∧ bz_Upd σx' x' (fun a k => yz_S 246 a k ∨ yz_S 244 a k) ∧ ∃ m', yz_new (yz_rl σm' T s V Q) x' τ' m'))) := by
  have hI0 := hI
  obtain ⟨⟨hC, hR, h4, h72, h70⟩, hQ, hQ0⟩ := hI
  have hT := hC.1.2.2.1.1
  have nb := mz_nb hC.1
  obtain ⟨q, σ1, x1, m1, y1, y2, y3, y4, y5, y6, y7, y8⟩ := sz_place ho hC hR h4 h72 h70
  have I1 : yz_I x1 m1 T s V Q n := yz_I.upd hI0 y4 y5 (fun a k q => by unfold sz_TY sz_TX rz_TX cz_SJ sz_S at q; unfold nz_t; omega) (fun a k q => by unfold sz_TM rz_TM cz_SM at q; unfold nz_t; omega)
  refine ⟨q, x1, m1, y2, y3, y4, y5, y6, by omega, I1, fun hq => ?_⟩
  obtain ⟨f1, f2, f3, f4, f5, f6, x0, x2, g1, g2, g3⟩ := y8 hq
  have u0 : bz_Upd σx x0 sz_TY := (y1.weak fun _ _ z => Or.inr z).trans (g1.weak fun _ _ z => Or.inl z)
  have I0 : yz_I x0 m1 T s V Q n := yz_I.upd hI0 u0 y5 (fun a k q => by unfold sz_TY sz_TX rz_TX cz_SJ sz_S at q; unfold nz_t; omega) (fun a k q => by unfold sz_TM rz_TM cz_SM at q; unfold nz_t; omega)
  have e : ∀ a k, a = 245 ∨ a = T + 8 ∨ a = T → x0.2 a k = x1.2 a k := fun a k q => by
    rw [u0.2.2 a k (fun q => by unfold sz_TY sz_TX rz_TX cz_SJ sz_S at q; omega), y4.2.2 a k (fun q => by unfold sz_TY sz_TX rz_TX cz_SJ sz_S at q; omega)]
  have e2 : x1.2 T 2 = σx.2 T 2 := y4.2.2 T 2 (fun q => by unfold sz_TY sz_TX rz_TX cz_SJ sz_S at q; omega)
  exact ⟨f1, yz_rewrite I1.2.1 I1.2.2 I1.1.1 I1.1.2.1 I0.1.1 I0.1.2.1 I1.1.2.2.2.2 f1 f2 rfl f5 f3 f4 (by omega) (by omega) g2 g3 (fun k => e _ _ (by omega)) (e _ _ (by omega)) (e _ _ (by omega))⟩
theorem yz_stepsEq {σm : az_Hp} {o : Int} : fz_X11_steps 2000000 σm 804 o = (if o = 0 then fz_X11_firstWithin 2000000 200 σm 804 0 else fz_X11_firstWithout 2000000 σm 804).bind fun r => fz_X11_steps_16 2000000 r.2 804 r.1 := by
  unfold fz_X11_steps
  split <;> rfl
theorem yz_step {σx σm : az_Hp} {o : Int} (ho : o = 0 ∨ o = 1) (hI : yz_I σx σm T s V Q n) :
    ∃ w σx' σm' n', fz_X11_steps 2000000 σm 804 o = some (w, σm') ∧ bz_Upd σx σx' yz_TX ∧ bz_Upd σm σm' yz_TM ∧ -2 ≤ w ∧ w < 16 ∧ yz_I σx' σm' T s V Q n' ∧ ((w = -1 ∧ fz_X5_findPlace 2000000 σx 243 o = some (0, σx')) ∨ ∃ x1, fz_X5_findPlace 2000000 σx 243 o = some (1, x1) ∧ ((w = -2 ∧ fz_X5_rewrite 2000000 x1 243 = some (0, σx')) ∨ (0 ≤ w ∧ fz_X5_rewrite 2000000 x1 243 = some (1, σx') ∧ σx'.2 243 5 = w))) := by
  obtain ⟨q, x1, m1, y1, y2, y3, y4, y5, y6, I1, y7⟩ := yz_first ho hI
  rw [yz_stepsEq, y2, Option.bind_some]
  unfold fz_X11_steps_16
  by_cases hq : q = -1
  · refine ⟨-1, x1, m1, n, by rw [if_pos hq], y3.weak fun _ _ z => Or.inl z, y4.weak fun _ _ z => Or.inl z, by omega, by omega, I1, Or.inl ⟨rfl, by rw [y1, if_pos hq]⟩⟩
  · obtain ⟨f1, v, x2, m2, r1, r2, r3, r4⟩ := y7 hq
    rw [if_neg hq, r2, Option.bind_some]
    rcases r4 with ⟨rfl, ux⟩ | ⟨rfl, ux, m', ⟨w1, w60⟩, w2, w3, w4, w5⟩
    · refine ⟨-2, x2, m2, n, by rw [if_pos rfl], (y3.weak fun _ _ z => Or.inl z).trans (ux.weak fun _ _ z => Or.inr (Or.inl z)), (y4.weak fun _ _ z => Or.inl z).trans (r3.weak fun _ _ z => Or.inr (Or.inl z)), by omega, by omega, I1.upd ux r3 (fun a k q => by unfold yz_S at q; unfold nz_t; omega) (fun a k q => by unfold yz_WM yz_F at q; unfold nz_t; omega), Or.inr ⟨x1, by rw [y1, if_neg hq], Or.inl ⟨rfl, r1⟩⟩⟩
    · obtain ⟨⟨C1, R1, h4, h72, h70⟩, hQ, hQ0⟩ := I1
      have hT := C1.1.2.2.1.1
      have hM2 := C1.1.2.1.upd r3
      obtain ⟨m3, b1, b2, b3, b4⟩ := yz_becomesNext hM2 w3 (by omega) w60
      have u3 : bz_Upd m1 m3 (fun a k => yz_WM a k ∨ yz_next a k) := (r3.weak fun _ _ z => Or.inl z).trans (b2.weak fun _ _ z => Or.inr z)
      have tS : bz_tS m1 m3 := fun a k q => u3.2.2 a k (fun z => by unfold yz_WM yz_F yz_next at z; omega)
      have C3 : rz_C x2 m3 T s := yz_gC C1 ux u3 (fun a k q => by unfold yz_S at q; unfold nz_t; omega) (fun a k q => by unfold yz_WM yz_F yz_next at q; unfold nz_t; omega)
      have t := C1.1.tb.2.1
      have cr : ∀ i, 0 ≤ i → i < m' → bz_cr (bz_ct m3 s) (bz_ft m3 s) (m3.2 T 0) (m3.2 T 1) V (x2.2 (244 + 1) i) (m3.2 840 i) := fun i i0 i1 => by
        rw [bz_ct_tS tS, bz_ft_tS tS, tS T 0 (by omega), tS T 1 (by omega), b4 i i0 i1]
        exact (w4 i i0 i1).1
      have l840 := ln_840 C3.1.2.1
      have c244 : bz_cap 244 = 60 := by decide
      have R3 : rz_R x2 m3 T s V 244 840 m' := ⟨⟨by omega, by omega, by omega, fun i i0 i1 => (cr i i0 (by omega)).I C3.1.tb.2.1 R1.2.2.2.2.2.2.1⟩, w2, ⟨w1, w60⟩, cr, w5, ⟨by omega, by omega, by omega⟩, R1.2.2.2.2.2.2.1, R1.2.2.2.2.2.2.2⟩
      refine ⟨q, x2, m3, m', by rw [if_neg (show ¬ (1 : Int) = 0 by decide), b1, Option.bind_some], (y3.weak fun _ _ z => Or.inl z).trans (ux.weak fun _ _ z => Or.inr z), (y4.weak fun _ _ z => Or.inl z).trans (u3.weak fun _ _ z => Or.inr z), by omega, y6, ⟨⟨C3, R3, ?_, ?_, b3⟩, hQ, fun i i0 i1 => by rw [b4 i i0 i1]; exact (w4 i i0 i1).2⟩, Or.inr ⟨x1, by rw [y1, if_neg hq], Or.inr ⟨by omega, r1, ?_⟩⟩⟩
      · rw [ux.2.2 243 4 (fun z => by unfold yz_S at z; omega)]; exact h4
      · rw [u3.2.2 804 72 (fun z => by unfold yz_WM yz_F yz_next at z; omega)]; exact h72
      · rw [ux.2.2 243 5 (fun z => by unfold yz_S at z; omega)]; exact f1
end ST
