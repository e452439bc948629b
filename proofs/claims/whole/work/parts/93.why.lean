/-! why an equation does not fire; which fires -/
theorem rz_SXT {a k : Int} (h : rz_SX a k) : rz_TX a k := Or.inr h
theorem rz_SMT {a k : Int} (h : rz_SM a k) : rz_TM a k := Or.inr h
section WY
variable {T s r A n : Int} {V : Int → Int → Prop}
/-- whether a NODE is of an equation's family -/
theorem rz_its {σx σm : az_Hp} {e at' : Int} (hC : rz_C σx σm T s) (hR : rz_R σx σm T s V r A n) (e0 : 0 ≤ e) (e1 : e < σx.2 T 2) (a0 : 0 ≤ at') (a1 : at' < n) :
    az_gref σx 243 2 = some T ∧ az_gref σx r 0 = some (r + 1) ∧ az_ard σx (r + 1) at' = some (σx.2 (r + 1) at') ∧ az_gref σx T 6 = some (T + 4) ∧ az_gref σx T 9 = some (T + 7) ∧ az_ard σx (T + 7) e = some (σx.2 (T + 7) e) ∧ az_ard σx (T + 4) (σx.2 (T + 7) e) = some (σx.2 (T + 4) (σx.2 (T + 7) e)) ∧ az_ard σm A at' = some (σm.2 A at') ∧ fz_X11_familyOf σm 804 e = some (σx.2 (T + 7) e) ∧ (σx.2 (r + 1) at' = σx.2 (T + 4) (σx.2 (T + 7) e) ↔ σm.2 A at' = 200 + σx.2 (T + 7) e) ∧ 0 ≤ σx.2 (T + 7) e ∧ σx.2 (T + 7) e < 5 := by
  obtain ⟨h, hT2, hAg⟩ := hC
  have hT := h.2.2.1.1
  have nb := mz_nb h
  obtain ⟨fme, fo1, fo2⟩ := mz_fam h e0 e1
  have hN := h.2.2.1.2.2.1
  have hE := h.2.2.1.2.2.2.2 e e0 (by rw [← h.n.2.2]; exact e1)
  obtain ⟨b1, b2, b3, b4, b5, b6, rl, rr, ra1, ra2, e16⟩ := h.r e0 e1
  have tb := h.tb.2.1
  have fr : 0 ≤ σx.2 (T + 7) e ∧ σx.2 (T + 7) e < σm.2 T 1 := by
    have c0 := hE.2.2.2.1 0 (by omega) (by have := hE.1.2.1; omega)
    rw [Int.add_zero] at c0
    have q8 := hE.2.2.2.2.2.2.2.1
    have nc8 := hN.2.2.1.2.1
    rw [b5]
    rcases c0 with w | w | w | w <;> omega
  have nf5 := hN.2.2.1.2.2.2.1
  obtain ⟨R1, R2, R3, R4, R5, R6, R7, R8⟩ := hR
  have xr := bz_fxR h.1 R1.1
  have cp := bz_cap_lt R1.1
  have h60 := R1.2.2.1
  have l4 := (bz_tl h.1 hT).2.2.2.1
  have fc : σx.2 (T + 4) (σx.2 (T + 7) e) = σx.2 (T + 7) e * 16 + bz_ft σm s (σx.2 (T + 7) e) * 4 + 2 := by
    rw [h.2.2.2.1 (T + 4) _ (by omega)]
    exact (hN.2.2.2.2.1 (σx.2 (T + 7) e) fr.1 fr.2).2.1
  have ft := tb.2.2.2.2.2 (σx.2 (T + 7) e) fr.1 fr.2
  have cr : bz_cr (bz_ct σm s) (bz_ft σm s) (σm.2 T 0) (σm.2 T 1) V (σx.2 (T + 4) (σx.2 (T + 7) e)) (200 + σx.2 (T + 7) e) := Or.inr (Or.inr (Or.inl ⟨by omega, by omega, by rw [fc, show 200 + σx.2 (T + 7) e - 200 = σx.2 (T + 7) e by omega]⟩))
  have ij := cr.inj2 (R4 at' a0 a1) tb (by omega)
  refine ⟨bz_gr hT2 (by omega), bz_gr xr.1 (by omega), bz_ard a0 (by omega), (bz_tg h.1 hT).2.2.2.1, fo1, fo2, bz_ard fr.1 (by omega), bz_ard a0 (by omega), fme, ⟨fun q => (ij.mp q.symm).symm, fun q => (ij.mpr q.symm).symm⟩, fr.1, by omega⟩
theorem rz_reason {σx σm : az_Hp} {e at' : Int} (hC : rz_C σx σm T s) (hR : rz_R σx σm T s V r A n) (hA : rz_A A) (e0 : 0 ≤ e) (e1 : e < σx.2 T 2) (a0 : 0 ≤ at') (a1 : at' < n) :
    ∃ q σx' σm', fz_X5_reason 2000000 σx 243 e r at' = some (q, σx') ∧ fz_X11_whyNot 2000000 σm 804 e A at' = some (q, σm') ∧ bz_Upd σx σx' rz_TX ∧ bz_Upd σm σm' rz_TM ∧ (q ≠ 1 → 200 ≤ σm.2 A at' ∧ σm.2 A at' < 1000) := by
  obtain ⟨g1, g2, g3, g4, g5, g6, g7, g8, g9, g10, f0, f5⟩ := rz_its hC hR e0 e1 a0 a1
  have hT := hC.1.2.2.1.1
  by_cases c : σx.2 (r + 1) at' = σx.2 (T + 4) (σx.2 (T + 7) e)
  · have cm := g10.mp c
    have hf : 200 ≤ σm.2 A at' ∧ σm.2 A at' < 1000 := by omega
    obtain ⟨q, x1, m1, y1, y2, y3, y4, y5, -⟩ := rz_fits hC hR hA e0 e1 a0 a1
    have tx := y4.weak (S' := rz_TX) fun _ _ q => rz_SXT q
    have tm := y5.weak (S' := rz_TM) fun _ _ q => rz_SMT q
    have hC1 := hC.upd tx tm
    have hR1 := hR.updT hT hA tx tm
    have n1 : x1.2 T 2 = σx.2 T 2 := y4.2.2 _ _ (fun c => by unfold rz_SX at c; omega)
    have mA : m1.2 A at' = σm.2 A at' := y5.2.2 _ _ (fun c => by unfold rz_A at hA; unfold rz_SM at c; omega)
    obtain ⟨p, x2, m2, z1, z2, z3, z4, z5⟩ := rz_still hC1 hR1 hA e0 (by rw [n1]; exact e1) a0 a1 (by rw [mA]; exact hf)
    have runX : fz_X5_reason 2000000 σx 243 e r at' = (if q = 0 then some (2, x1) else (if p = -1 then some (0, x2) else some (3, x2))) := by
      unfold fz_X5_reason
      simp only [g1, g2, g3, g4, g5, g6, g7, Option.bind_some]
      rw [if_pos c, y1, Option.bind_some]
      simp only [z1, Option.bind_some]
    have runM : fz_X11_whyNot 2000000 σm 804 e A at' = (if q = 0 then some (2, m1) else (if p = -1 then some (0, m2) else some (3, m2))) := by
      unfold fz_X11_whyNot
      rw [g8, Option.bind_some, g9, Option.bind_some, az_w32_id (by omega) (by omega), if_pos cm, y2, Option.bind_some]
      simp only [z2, Option.bind_some]
    rw [runX, runM]
    by_cases c1 : q = 0
    · rw [if_pos c1, if_pos c1]
      exact ⟨2, x1, m1, rfl, rfl, tx, tm, fun _ => hf⟩
    · rw [if_neg c1, if_neg c1]
      have tx2 := tx.trans (z3.weak (S' := rz_TX) fun _ _ q => Or.inl q)
      have tm2 := tm.trans (z4.weak (S' := rz_TM) fun _ _ q => Or.inl q)
      by_cases c2 : p = -1
      · rw [if_pos c2, if_pos c2]
        exact ⟨0, x2, m2, rfl, rfl, tx2, tm2, fun _ => hf⟩
      · rw [if_neg c2, if_neg c2]
        exact ⟨3, x2, m2, rfl, rfl, tx2, tm2, fun _ => hf⟩
  · refine ⟨1, σx, σm, ?_, ?_, bz_Upd.refl, bz_Upd.refl, fun q => absurd rfl q⟩
    · unfold fz_X5_reason
      simp only [g1, g2, g3, g4, g5, g6, g7, Option.bind_some]
      rw [if_neg c]
    · unfold fz_X11_whyNot
      rw [g8, Option.bind_some, g9, Option.bind_some, az_w32_id (by omega) (by omega), if_neg (fun q => c (g10.mpr q))]
/-- the equation that fires at a NODE; of the class: with the places of its variables -/
theorem rz_firingL {at' : Int} (hA : rz_A A) (a0 : 0 ≤ at') (a1 : at' < n) : ∀ (d k : Nat) (σx σm : az_Hp) (e : Int), rz_C σx σm T s → rz_R σx σm T s V r A n → d < k → 0 ≤ e → e + d = σx.2 T 2 →
    ∃ q σx' σm', fz_X5_firingAt_2 2000000 k σx 243 r at' e = some (q, σx') ∧ fz_X11_firing_2 2000000 k σm 804 A at' e = some (q, σm') ∧ bz_Upd σx σx' rz_TX ∧ bz_Upd σm σm' rz_TM ∧ -1 ≤ q ∧ q < σx.2 T 2 ∧ (0 ≤ q → (200 ≤ σm.2 A at' ∧ σm.2 A at' < 1000) ∧ ∃ x0 x1, bz_Upd σx x0 rz_TX ∧ fz_X5_fits 2000000 x0 243 q r at' = some (1, x1) ∧ ∀ v, σx'.2 252 v = x1.2 252 v) := by
  intro d
  induction d with
  | zero =>
    intro k σx σm e hC hR hk e0 he
    obtain ⟨k, rfl⟩ : ∃ k', k = k' + 1 := ⟨k - 1, by omega⟩
    have hT := hC.1.2.2.1.1
    have hm := mz_many hC.1
    have nb := mz_nb hC.1
    have g1 : az_gref σx 243 2 = some T := bz_gr hC.2.1 (by omega)
    refine ⟨-1, σx, σm, ?_, ?_, bz_Upd.refl, bz_Upd.refl, by omega, by omega, fun q => by omega⟩
    · unfold fz_X5_firingAt_2
      rw [g1, Option.bind_some, if_neg (by omega)]
    · unfold fz_X11_firing_2
      rw [hm.1, Option.bind_some, hm.2, Option.bind_some, if_neg (by omega)]
  | succ d ih =>
    intro k σx σm e hC hR hk e0 he
    obtain ⟨k, rfl⟩ : ∃ k', k = k' + 1 := ⟨k - 1, by omega⟩
    have hT := hC.1.2.2.1.1
    have hm := mz_many hC.1
    have nb := mz_nb hC.1
    obtain ⟨g1, g2, g3, g4, g5, g6, g7, g8, g9, g10, f0, f5⟩ := rz_its hC hR e0 (by omega) a0 a1
    have w1 : az_w32 (e + 1) = e + 1 := az_w32_id (by omega) (by omega)
    by_cases hf : 200 ≤ σm.2 A at' ∧ σm.2 A at' < 1000
    · have isf : fz_X11_isFam σm (σm.2 A at') = some 1 := by rw [mz_isFam, if_pos hf]
      by_cases c : σx.2 (r + 1) at' = σx.2 (T + 4) (σx.2 (T + 7) e)
      · have cm := g10.mp c
        obtain ⟨q, x1, m1, y1, y2, y3, y4, y5, -⟩ := rz_fits hC hR hA e0 (by omega) a0 a1
        have tx := y4.weak (S' := rz_TX) fun _ _ q => rz_SXT q
        have tm := y5.weak (S' := rz_TM) fun _ _ q => rz_SMT q
        have hC1 := hC.upd tx tm
        have hR1 := hR.updT hT hA tx tm
        have n1 : x1.2 T 2 = σx.2 T 2 := y4.2.2 _ _ (fun c => by unfold rz_SX at c; omega)
        have mA : m1.2 A at' = σm.2 A at' := y5.2.2 _ _ (fun c => by unfold rz_A at hA; unfold rz_SM at c; omega)
        obtain ⟨p, x2, m2, z1, z2, z3, z4, z5⟩ := rz_still hC1 hR1 hA e0 (by rw [n1]; omega) a0 a1 (by rw [mA]; exact hf)
        have tx2 := tx.trans (z3.weak (S' := rz_TX) fun _ _ q => Or.inl q)
        have tm2 := tm.trans (z4.weak (S' := rz_TM) fun _ _ q => Or.inl q)
        have runX : fz_X5_firingAt_2 2000000 (k + 1) σx 243 r at' e = (if q = 0 then fz_X5_firingAt_2 2000000 k x1 243 r at' (e + 1) else (if p = -1 then some (e, x2) else fz_X5_firingAt_2 2000000 k x2 243 r at' (e + 1))) := by
          conv => lhs; unfold fz_X5_firingAt_2
          rw [g1, Option.bind_some, if_pos (by omega)]
          simp only [g1, g2, g3, g4, g5, g6, g7, Option.bind_some]
          rw [if_pos c]
          unfold fz_X5_firingAt_44
          rw [if_neg (by decide), y1, Option.bind_some]
          simp only [z1, Option.bind_some, w1]
        have wm : fz_X11_whyNot 2000000 σm 804 e A at' = (if q = 0 then some (2, m1) else (if p = -1 then some (0, m2) else some (3, m2))) := by
          unfold fz_X11_whyNot
          rw [g8, Option.bind_some, g9, Option.bind_some, az_w32_id (by omega) (by omega), if_pos cm, y2, Option.bind_some]
          simp only [z2, Option.bind_some]
        have runM : fz_X11_firing_2 2000000 (k + 1) σm 804 A at' e = (if q = 0 then fz_X11_firing_2 2000000 k m1 804 A at' (e + 1) else (if p = -1 then some (e, m2) else fz_X11_firing_2 2000000 k m2 804 A at' (e + 1))) := by
          conv => lhs; unfold fz_X11_firing_2
          rw [hm.1, Option.bind_some, hm.2, Option.bind_some, if_pos (by omega), g8, Option.bind_some, isf, Option.bind_some, if_neg (show ¬ (1 : Int) = 0 by decide), wm, w1]
          by_cases c1 : q = 0
          · rw [if_pos c1, if_pos c1, Option.bind_some, if_neg (show ¬ (2 : Int) = 0 by decide)]
          · rw [if_neg c1, if_neg c1]
            by_cases c2 : p = -1
            · rw [if_pos c2, if_pos c2, Option.bind_some, if_pos rfl]
            · rw [if_neg c2, if_neg c2, Option.bind_some, if_neg (show ¬ (3 : Int) = 0 by decide)]
        rw [runX, runM]
        have cont : ∀ xx mm, bz_Upd σx xx rz_TX → bz_Upd σm mm rz_TM → ∃ q σx' σm', fz_X5_firingAt_2 2000000 k xx 243 r at' (e + 1) = some (q, σx') ∧ fz_X11_firing_2 2000000 k mm 804 A at' (e + 1) = some (q, σm') ∧ bz_Upd σx σx' rz_TX ∧ bz_Upd σm σm' rz_TM ∧ -1 ≤ q ∧ q < σx.2 T 2 ∧ (0 ≤ q → (200 ≤ σm.2 A at' ∧ σm.2 A at' < 1000) ∧ ∃ x0 x1, bz_Upd σx x0 rz_TX ∧ fz_X5_fits 2000000 x0 243 q r at' = some (1, x1) ∧ ∀ v, σx'.2 252 v = x1.2 252 v) := by
          intro xx mm ux um
          have nn : xx.2 T 2 = σx.2 T 2 := ux.2.2 _ _ (fun c => by unfold rz_TX cz_SJ at c; omega)
          obtain ⟨q', xa, ma, w1', w2', w3', w4', w5', w6', w7'⟩ := ih k xx mm (e + 1) (hC.upd ux um) (hR.updT hT hA ux um) (by omega) (by omega) (by rw [nn]; omega)
          refine ⟨q', xa, ma, w1', w2', ux.trans w3', um.trans w4', w5', by rw [← nn]; exact w6', fun hq => ⟨hf, ?_⟩⟩
          obtain ⟨-, x0, x1', v1, v2, v3⟩ := w7' hq
          exact ⟨x0, x1', ux.trans v1, v2, v3⟩
        by_cases c1 : q = 0
        · rw [if_pos c1, if_pos c1]
          exact cont x1 m1 tx tm
        · rw [if_neg c1, if_neg c1]
          by_cases c2 : p = -1
          · rw [if_pos c2, if_pos c2]
            refine ⟨e, x2, m2, rfl, rfl, tx2, tm2, by omega, by omega, fun _ => ⟨hf, σx, x1, bz_Upd.refl, ?_, fun v => z3.2.2 _ _ (fun c => by unfold cz_SJ at c; omega)⟩⟩
            rw [y1, show q = 1 by omega]
          · rw [if_neg c2, if_neg c2]
            exact cont x2 m2 tx2 tm2
      · have runX : fz_X5_firingAt_2 2000000 (k + 1) σx 243 r at' e = fz_X5_firingAt_2 2000000 k σx 243 r at' (e + 1) := by
          conv => lhs; unfold fz_X5_firingAt_2
          rw [g1, Option.bind_some, if_pos (by omega)]
          simp only [g1, g2, g3, g4, g5, g6, g7, Option.bind_some]
          rw [if_neg c]
          unfold fz_X5_firingAt_44
          rw [if_pos rfl, w1]
        have wm : fz_X11_whyNot 2000000 σm 804 e A at' = some (1, σm) := by
          unfold fz_X11_whyNot
          rw [g8, Option.bind_some, g9, Option.bind_some, az_w32_id (by omega) (by omega), if_neg (fun q => c (g10.mpr q))]
        have runM : fz_X11_firing_2 2000000 (k + 1) σm 804 A at' e = fz_X11_firing_2 2000000 k σm 804 A at' (e + 1) := by
          conv => lhs; unfold fz_X11_firing_2
          rw [hm.1, Option.bind_some, hm.2, Option.bind_some, if_pos (by omega), g8, Option.bind_some, isf, Option.bind_some, if_neg (show ¬ (1 : Int) = 0 by decide), wm, Option.bind_some, if_neg (show ¬ (1 : Int) = 0 by decide), w1]
        rw [runX, runM]
        exact ih k σx σm (e + 1) hC hR (by omega) (by omega) (by omega)
    · have c : ¬ σx.2 (r + 1) at' = σx.2 (T + 4) (σx.2 (T + 7) e) := fun q => hf (by have := g10.mp q; omega)
      have isf : fz_X11_isFam σm (σm.2 A at') = some 0 := by rw [mz_isFam, if_neg hf]
      have runM : fz_X11_firing_2 2000000 (k + 1) σm 804 A at' e = some (-1, σm) := by
        unfold fz_X11_firing_2
        rw [hm.1, Option.bind_some, hm.2, Option.bind_some, if_pos (by omega), g8, Option.bind_some, isf, Option.bind_some, if_pos rfl]
      have runX : fz_X5_firingAt_2 2000000 (k + 1) σx 243 r at' e = fz_X5_firingAt_2 2000000 k σx 243 r at' (e + 1) := by
        conv => lhs; unfold fz_X5_firingAt_2
        rw [g1, Option.bind_some, if_pos (by omega)]
        simp only [g1, g2, g3, g4, g5, g6, g7, Option.bind_some]
        rw [if_neg c]
        unfold fz_X5_firingAt_44
        rw [if_pos rfl, w1]
      have runM2 : fz_X11_firing_2 2000000 k σm 804 A at' (e + 1) = some (-1, σm) := by
        obtain ⟨k, rfl⟩ : ∃ k', k = k' + 1 := ⟨k - 1, by omega⟩
        unfold fz_X11_firing_2
        rw [hm.1, Option.bind_some, hm.2, Option.bind_some]
        by_cases c2 : e + 1 < σx.2 T 2
        · rw [if_pos c2, g8, Option.bind_some, isf, Option.bind_some, if_pos rfl]
        · rw [if_neg c2]
      rw [runX, runM]
      obtain ⟨q', xa, ma, w1', w2', w3', w4', w5', w6', w7'⟩ := ih k σx σm (e + 1) hC hR (by omega) (by omega) (by omega)
      rw [runM2] at w2'
      simp only [Option.some.injEq, Prod.mk.injEq] at w2'
      obtain ⟨rfl, rfl⟩ := w2'
      exact ⟨-1, xa, σm, w1', rfl, w3', bz_Upd.refl, by omega, by omega, fun q => by omega⟩
theorem rz_firing {σx σm : az_Hp} {at' : Int} (hC : rz_C σx σm T s) (hR : rz_R σx σm T s V r A n) (hA : rz_A A) (a0 : 0 ≤ at') (a1 : at' < n) :
    ∃ q σx' σm', fz_X5_firingAt 2000000 σx 243 r at' = some (q, σx') ∧ fz_X11_firing 2000000 σm 804 A at' = some (q, σm') ∧ bz_Upd σx σx' rz_TX ∧ bz_Upd σm σm' rz_TM ∧ -1 ≤ q ∧ q < σx.2 T 2 ∧ (0 ≤ q → (200 ≤ σm.2 A at' ∧ σm.2 A at' < 1000) ∧ ∃ x0 x1, bz_Upd σx x0 rz_TX ∧ fz_X5_fits 2000000 x0 243 q r at' = some (1, x1) ∧ ∀ v, σx'.2 252 v = x1.2 252 v) := by
  have nb := mz_nb hC.1
  unfold fz_X5_firingAt fz_X11_firing
  exact rz_firingL hA a0 a1 (σx.2 T 2).toNat 2000000 σx σm 0 hC hR (by omega) (by omega) (by omega)
end WY
/-! THE TERM -/
theorem cz_VT.vv {σ : az_Hp} : bz_VV (cz_VT σ) ∧ ∀ a b, cz_VT σ a b → a < 999999999 := by
  refine ⟨⟨fun a b h => ?_, fun a b a' b' h h' => ?_⟩, fun a b h => ?_⟩
  · have := h.2.2.2.1.rng
    have := h.1
    have := h.2.1
    omega
  · obtain ⟨h1, h2, h3, h4, h5⟩ := h
    obtain ⟨k1, k2, k3, k4, k5⟩ := h'
    constructor
    · intro e
      subst e
      by_cases q1 : b < b'
      · exact absurd h3 (k5 b h1 q1)
      · by_cases q2 : b' < b
        · exact absurd k3 (h5 b' k1 q2)
        · omega
    · intro e
      subst e
      rw [← h3, ← k3]
  · have := h.2.2.2.1.rng
    omega
theorem cz_TX_nk {a k : Int} (h : rz_TX a k) : cz_nk a k := by
  rcases h with h | h
  · exact cz_SJ_nk h
  · unfold cz_nk
    exact Or.inr (Or.inr (Or.inr (Or.inl (by omega))))
theorem cz_TM_nk {a k : Int} (h : rz_TM a k) : cz_nk a k := by
  rcases h with h | h
  · exact cz_SB_nk (Or.inl h)
  · unfold cz_nk
    exact Or.inr (Or.inr (Or.inr (Or.inr (Or.inr (Or.inr (Or.inr (Or.inr (Or.inr (Or.inr (Or.inr (Or.inl (by omega))))))))))))
/-- the class's heap σ, the reference's any that differs from it in scratch alone -/
theorem cz_rzC {σ σm : az_Hp} {T s : Int} (h : cz_K σ T s) (hU : bz_Upd σ σm cz_ns) : rz_C σ σm T s ∧ (0 < σ.2 375 1 → rz_R σ σm T s (cz_VT σ) 375 844 (σ.2 375 1)) := by
  have h' := cz_keep hU h
  obtain ⟨c1, c2, c3, c4, c5, c6, c7, c8⟩ := h.1
  have hT := c8.1
  have n1 : ∀ a k, (2 ≤ a ∧ a ≤ 160) ∨ (805 ≤ a ∧ a ≤ 819) → σm.2 a k = σ.2 a k := fun a k q => hU.2.2 a k (fun c => by
    rcases c with c | c | c
    · exact cz_nk1 q c
    · omega
    · omega)
  have n2 : ∀ a k, (834 ≤ a ∧ a ≤ 836) ∨ (375 ≤ a ∧ a ≤ 376) ∨ a = 379 ∨ (844 ≤ a ∧ a ≤ 845) → σm.2 a k = σ.2 a k := fun a k q => hU.2.2 a k (fun c => by
    rcases c with c | c | c
    · exact cz_nk2 q c
    · omega
    · omega)
  have tS : bz_tS σ σm := fun a k q => n1 a k (by omega)
  have H : mz_H σ σm T s := ⟨c1, h'.1.1, h'.1.2.2.2.2.2.2.2, fun a k q => (tS a k (by omega)).symm, h'.1.2.2.2.2.1⟩
  refine ⟨⟨H, c6, fun i e i0 ie e1 ho => ?_⟩, fun hn => ?_⟩
  · obtain ⟨-, t2⟩ := h.2.2.2.1.1 i e i0 (by omega) (by omega) e1
    rw [n2 835 _ (by omega)]
    exact t2 ho
  · obtain ⟨⟨s1, s2, s3⟩, s4⟩ := h.2.2.2.2.1
    obtain ⟨r1, r2, r3⟩ := s4 hn
    have tb := c8.2.2.1.2.2.1
    have vv := cz_VT.vv (σ := σ)
    have cap : bz_cap 375 = 60 := by decide
    refine ⟨⟨by omega, s1, by omega, fun i i0 i1 => (r1 i i0 i1).I tb vv.1⟩, rfl, ⟨by omega, s2⟩, fun i i0 i1 => ?_, r2, ⟨?_, ?_, by omega⟩, vv.1, vv.2⟩
    · have := r1 i i0 i1
      rw [Int.zero_add] at this
      rw [bz_ct_tS tS, bz_ft_tS tS, n1 T 0 (by omega), n1 T 1 (by omega), n2 844 i (by omega)]
      exact this
    · rw [hU.ln, ln_844 c1]; omega
    · rw [hU.ln, ln_844 c1]; omega
theorem cz_isNode {σ : az_Hp} {T s k : Int} (h : cz_K σ T s) : fz_X11_isNode σ 804 k = some (if 0 ≤ k ∧ k < σ.2 375 1 then 1 else 0) := by
  obtain ⟨⟨s1, s2, s3⟩, -⟩ := h.2.2.2.2.1
  unfold fz_X11_isNode fz_X11_isFrom
  rw [s3, az_w32_id (by omega) (by omega)]
  by_cases h0 : k < 0
  · rw [if_pos h0, if_neg (by omega)]; rfl
  · rw [if_neg h0]
    by_cases h1 : k < σ.2 375 1
    · rw [if_neg (by omega), if_pos (by omega)]; rfl
    · rw [if_pos (by omega), if_neg (by omega)]; rfl
theorem cz_op_why : bz_op_why cz_J := by
  rintro a b ha hb σ ⟨T, s, h, eq⟩
  have hF := h.1.1
  have hT := h.1.2.2.2.2.2.2.2.1
  obtain ⟨⟨s1, s2, s3⟩, -⟩ := h.2.2.2.2.1
  have g12 := fx_1_12 hF
  have g11 := fx_1_11 hF
  have eX := cz_isEqX (e := b) h
  by_cases z : σ.2 375 1 = 0
  · refine cz_rd (f := fun σ => fz_X10_why 2000000 σ 1 a b) (g := fun σ => fz_X11_why 2000000 σ 804 a b) h (r := -1) (v := 3) ?_ ?_
    · simp only [fz_X10_why, fz_X10_refuse, g12, Option.bind_some, if_pos z]
    · simp only [fz_X11_why, fz_X11_refuse]
      rw [az_wr_ne (by omega), s3, if_pos z, Option.bind_some]
  by_cases qa : 0 ≤ a ∧ a < σ.2 375 1
  · by_cases qb : 0 ≤ b ∧ b < σ.2 T 2
    · rw [if_pos qb] at eX
      obtain ⟨C0, R0⟩ := cz_rzC h (bz_Upd.refl (σ := σ))
      obtain ⟨q, x1, -, y1, -, y3, -, -⟩ := rz_reason C0 (R0 (by omega)) ⟨by decide, by decide, by decide⟩ qb.1 qb.2 qa.1 qa.2
      have uk : bz_Upd σ x1 cz_nk := y3.weak fun _ _ q => cz_TX_nk q
      have u1 : bz_Upd σ (az_wr x1 1 2 0) cz_ns := bz_Upd.wr (uk.weak fun _ _ q => Or.inl q) (Or.inr (Or.inl ⟨rfl, rfl⟩)) (by decide)
      obtain ⟨C1, R1⟩ := cz_rzC h u1
      obtain ⟨q', x1', m1, y1', y2', -, y4', -⟩ := rz_reason C1 (R1 (by omega)) ⟨by decide, by decide, by decide⟩ qb.1 qb.2 qa.1 qa.2
      rw [y1] at y1'
      simp only [Option.some.injEq, Prod.mk.injEq] at y1'
      obtain ⟨rfl, rfl⟩ := y1'
      have k1 := cz_keep u1 h
      have et : (az_wr x1 1 2 0).2 T 2 = σ.2 T 2 := u1.2.2 _ _ (fun c => by
        rcases c with c | c | c
        · exact cz_nk1 (by omega) c
        · omega
        · omega)
      have et2 : (az_wr x1 1 2 0).2 375 1 = σ.2 375 1 := u1.2.2 _ _ (fun c => by
        rcases c with c | c | c
        · exact cz_nk2 (by omega) c
        · omega
        · omega)
      have eM := cz_isEqM (e := b) k1
      have nM := cz_isNode (k := a) k1
      rw [et, if_pos qb] at eM
      rw [et2, if_pos qa] at nM
      have sM : (az_wr x1 1 2 0).2 804 81 = σ.2 375 1 := by rw [← et2]; exact k1.2.2.2.2.1.1.2.2
      refine cz_rw (f := fun σ => fz_X10_why 2000000 σ 1 a b) (g := fun σ => fz_X11_why 2000000 σ 804 a b) h (r := q) (v := 0) (σ' := x1) (σ'' := m1) uk ?_ (y4'.weak fun _ _ q => cz_TM_nk q) ?_
      · simp only [fz_X10_why, fz_X10_give, g12, g11, Option.bind_some, if_neg z, eX, y1]
        rw [if_neg (by omega), if_pos qa.2, if_neg (by decide)]
      · simp only [fz_X11_why, fz_X11_gives]
        rw [sM, if_neg z, nM, Option.bind_some, if_neg (by decide), eM, Option.bind_some, if_neg (by decide), fx_804_79 k1.1.1, Option.bind_some, y2', Option.bind_some, Option.bind_some]
    · rw [if_neg qb] at eX
      have k1 := cz_K1 h 2
      have eM := cz_isEqM (e := b) k1
      have nM := cz_isNode (k := a) k1
      rw [az_wr_ne (by omega), if_neg qb] at eM
      rw [az_wr_ne (by omega), if_pos qa] at nM
      refine cz_rd (f := fun σ => fz_X10_why 2000000 σ 1 a b) (g := fun σ => fz_X11_why 2000000 σ 804 a b) h (r := -1) (v := 2) ?_ ?_
      · simp only [fz_X10_why, fz_X10_refuse, g12, Option.bind_some, if_neg z, eX]
        rw [if_neg (by omega), if_pos qa.2, if_pos trivial]
      · simp only [fz_X11_why, fz_X11_refuse]
        rw [az_wr_ne (by omega), s3, if_neg z, nM, Option.bind_some, if_neg (by decide), eM, Option.bind_some, if_pos rfl, Option.bind_some]
  · have k1 := cz_K1 h 2
    have nM := cz_isNode (k := a) k1
    rw [az_wr_ne (by omega), if_neg qa] at nM
    refine cz_rd (f := fun σ => fz_X10_why 2000000 σ 1 a b) (g := fun σ => fz_X11_why 2000000 σ 804 a b) h (r := -1) (v := 2) ?_ ?_
    · simp only [fz_X10_why, fz_X10_refuse, g12, Option.bind_some, if_neg z]
      by_cases q : a < 0
      · rw [if_pos q]
      · rw [if_neg q, if_neg (by omega)]
    · simp only [fz_X11_why, fz_X11_refuse]
      rw [az_wr_ne (by omega), s3, if_neg z, nM, Option.bind_some, if_pos rfl, Option.bind_some]
