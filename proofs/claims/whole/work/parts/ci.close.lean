/-! a ROUND -/
def sv_R0 (x m : az_Hp) (T s U : Int) (V : Int → Int → Prop) (n : Int) : Prop := (x.2 380 1 = n ∧ m.2 804 108 = n ∧ 0 ≤ n ∧ n ≤ 100) ∧ (∀ p, 0 ≤ p → p < n → sv_En x m T s U V (x.2 383 p) p) ∧ sv_Sl x
theorem qz_Row.move {x m m' : az_Hp} {T s U : Int} {V : Int → Int → Prop} {r A off off' n : Int} (h : qz_Row x m T s U V r A off n) (hT : T = 3 ∨ T = 82) (tS : bz_tS m m') (hA : ∀ i, 0 ≤ i → i < n → m'.2 A (off' + i) = m.2 A (off + i)) (hl : az_ln m' A = az_ln m A) (o0 : 0 ≤ off') (o1 : off' + n ≤ az_ln m A) : qz_Row x m' T s U V r A off' n := by
  obtain ⟨h1, h2, h3, h4, h5, h6, h7, h8, h9, h10⟩ := h
  refine ⟨h1, h2, h3, fun i i0 i1 => ?_, h5, o0, by rw [hl]; exact o1, by rw [hl]; exact h8, h9, h10⟩
  rw [sv_cd hT tS, hA i i0 i1]
  exact h4 i i0 i1
section SR
variable {T s U : Int} {V : Int → Int → Prop} {ρ : Int → Nat}
theorem sv_close {x m : az_Hp} {n M i : Int} (hB : sv_B x m T s U V ρ) (hL : sv_L x m T s U V n M i (-1)) : ∃ m', fz_X11_closesUp 2000000 m 804 = some m' ∧ bz_Upd m m' sv_KA ∧ sv_R0 x m' T s U V n ∧ sv_B x m' T s U V ρ := by
  have hM := hB.1.1.2.1
  have hT := hB.1.1.2.2.1.1
  obtain ⟨⟨l1, l2⟩, ⟨l3, l4, l5, l6, l7⟩, l8, l9, l10, l11⟩ := hL
  obtain ⟨m', c1, c2, c3, c4⟩ := sv_cu hM l2 (by omega) (by omega) (fun p p0 p1 pg sd s0 s1 => by
    obtain ⟨e1, e2, -⟩ := l10 p p0 p1 pg (by omega)
    have b1 := e1.2.2.1
    have b2 := e2.2.2.1
    have : sd = 0 ∨ sd = 1 := by omega
    rcases this with rfl | rfl
    · omega
    · omega)
  have nb := (sv_cnt.bd (g := m.2 865) M.toNat).1
  have tS : bz_tS m m' := fun a k q => c2.2.2 a k (fun w => by unfold sv_KA at w; omega)
  have l860 := ln_860 hM
  refine ⟨m', c1, c2, ⟨⟨l1, by rw [c3, l8], by omega, l6⟩, fun q q0 q1 => ?_, l11⟩, hB.upd (bz_Upd.refl (S := fun _ _ => False)) c2 (fun a k z => z.elim) (fun a k z => by unfold sv_KA at z; unfold sv_SM; omega)⟩
  obtain ⟨p, p1, p2, p3⟩ := sv_cnt.sur (g := m.2 865) M.toNat q q0 (by omega)
  have pM : (p : Int) < M := by omega
  have en := l10 p (by omega) pM p2 (by omega)
  rw [show ((p : Int)).toNat = p by omega, p3] at en
  have eq := c4 p pM p2
  rw [p3] at eq
  obtain ⟨e1, e2, e3⟩ := en
  have b1 := e1.2.2.1
  have b2 := e2.2.2.1
  obtain ⟨w1, w2⟩ := eq
  refine ⟨?_, ?_, by rw [e3, w2]⟩
  · rw [(w1 0 (by omega) (by omega)).1]
    exact e1.move hT tS (fun j j0 j1 => (w1 0 (by omega) (by omega)).2 j j0 j1) (c2.ln _) (by omega) (by omega)
  · rw [(w1 1 (by omega) (by omega)).1]
    exact e2.move hT tS (fun j j0 j1 => (w1 1 (by omega) (by omega)).2 j j0 j1) (c2.ln _) (by omega) (by omega)
/-- one stays -/
theorem sv_P.stay {x m : az_Hp} {n M i sl n1 n2 : Int} (h : sv_P x m T s U V ρ n M i i sl n1 n2) (i99 : i < 100) : ∃ m1 m2, fz_X11_putsSide 2000000 m 804 i 0 866 0 n1 = some m1 ∧ m1.2 804 115 = n2 ∧ bz_Fx m1 ∧ fz_X11_putsSide 2000000 m1 804 i 1 867 0 n2 = some m2 ∧ bz_Upd m m2 (fun a _ => a = 860 ∨ a = 861) ∧ sv_B x m2 T s U V ρ ∧ sv_L x m2 T s U V n M (i + 1) (-1) ∧ sv_cnt (m2.2 865) (i + 1).toNat = sv_cnt (m.2 865) i.toNat + 1 := by
  obtain ⟨hB, hL, ⟨e0, eM, ge, hs, sl0, sl1⟩, o3, ⟨R1, Q1⟩, ⟨R2, Q2⟩, h1, h2⟩ := h
  have hM := hB.1.1.2.1
  have hT := hB.1.1.2.2.1.1
  have n1b := R1.2.2.1
  have n2b := R2.2.2.1
  obtain ⟨⟨l1, l2⟩, ⟨l3, l4, l5, l6, l7⟩, l8, l9, l10, l11⟩ := hL
  obtain ⟨m1, c1, c2, c3, c4⟩ := sv_puts (m := m) (p := i) (sd := 0) (A := 866) (v := 0) (z := n1) hM e0 (by omega) (by omega) (by omega) (Or.inl rfl) (by omega) (by omega) (by omega) (by omega)
  have hM1 := hM.upd c2
  obtain ⟨m2, d1, d2, d3, d4⟩ := sv_puts (m := m1) (p := i) (sd := 1) (A := 867) (v := 0) (z := n2) hM1 e0 (by omega) (by omega) (by omega) (Or.inr rfl) (by omega) (by omega) (by omega) (by omega)
  have um : bz_Upd m m2 (fun a _ => a = 860 ∨ a = 861) := (c2.weak fun a k w => by unfold sv_PS at w; omega).trans (d2.weak fun a k w => by unfold sv_PS at w; omega)
  have ump : bz_Upd m m2 (fun a k => sv_PS i 0 n1 a k ∨ sv_PS i 1 n2 a k) := (c2.weak fun a k w => Or.inl w).trans (d2.weak fun a k w => Or.inr w)
  have tS : bz_tS m m2 := fun a k q => um.2.2 a k (fun w => by omega)
  have B2 : sv_B x m2 T s U V ρ := hB.upd (bz_Upd.refl (S := fun _ _ => False)) um (fun a k z => z.elim) (fun a k z => by unfold sv_SM; omega)
  have l860 := ln_860 B2.1.1.2.1
  have g : m2.2 865 = m.2 865 := funext fun k => um.2.2 865 k (fun w => by omega)
  have e67 : ∀ k, m1.2 867 k = m.2 867 k := fun k => c2.2.2 867 k (fun w => by unfold sv_PS at w; omega)
  have i0' : m2.2 861 (2 * i + 0) = n1 := by rw [d2.2.2 861 _ (fun w => by unfold sv_PS at w; omega)]; exact c3
  have cnt : sv_cnt (m.2 865) (i.toNat + 1) = sv_cnt (m.2 865) i.toNat + if m.2 865 ((i.toNat : Nat) : Int) = 0 then 1 else 0 := rfl
  rw [if_pos (by rw [show ((i.toNat : Nat) : Int) = i by omega]; exact ge)] at cnt
  refine ⟨m1, m2, c1, by rw [c2.2.2 804 115 (fun w => by unfold sv_PS at w; omega)]; exact h2, hM1, d1, um, B2, ⟨⟨l1, by rw [um.2.2 804 108 (fun w => by omega)]; exact l2⟩, ⟨by omega, by omega, by omega, l6, by omega⟩, by rw [g]; exact l8, by rw [g]; exact fun p p0 p1 => l9 p (by omega) p1, fun p p0 p1 pg _ => ?_, l11⟩, by rw [g, show (i + 1).toNat = i.toNat + 1 by omega, cnt]⟩
  rw [g] at pg ⊢
  by_cases e : p = i
  · subst e
    rw [hs]
    refine ⟨?_, ?_, by rw [o3, um.2.2 862 p (fun w => by omega)]⟩
    · rw [i0']
      obtain ⟨a1, a2, a3, a4, a5, a6, a7, a8⟩ := R1
      refine ⟨a1, a2, a3, fun j j0 j1 => ?_, a5, ⟨by omega, by omega, by omega, by decide, by decide⟩⟩
      rw [sv_cd hT tS, d2.2.2 860 _ (fun w => by unfold sv_PS at w; omega), c4 j j0 j1, Int.zero_add]
      exact ⟨a4 j j0 j1, fun z => (Q1 j j0 j1 z).1⟩
    · rw [d3]
      obtain ⟨a1, a2, a3, a4, a5, a6, a7, a8⟩ := R2
      refine ⟨a1, a2, a3, fun j j0 j1 => ?_, a5, ⟨by omega, by omega, by omega, by decide, by decide⟩⟩
      rw [sv_cd hT tS, d4 j j0 j1, Int.zero_add, e67]
      exact ⟨a4 j j0 j1, fun z => (Q2 j j0 j1 z).1⟩
  · exact (l10 p p0 p1 pg e).cong hT tS (fun _ _ _ => rfl) (fun a k z => ump.2.2 a k (fun w => by unfold sv_PS at w; omega)) (um.ln _)
def sv_XR (a k : Int) : Prop := sv_XC a k ∨ a = 383 ∨ (a = 380 ∧ (k = 1 ∨ k = 2 ∨ k = 3 ∨ k = 9))
def sv_MR (a k : Int) : Prop := sv_M1 a k ∨ cz_SB a k ∨ (860 ≤ a ∧ a ≤ 867) ∨ (a = 804 ∧ (k = 108 ∨ k = 109 ∨ k = 110 ∨ k = 114 ∨ k = 115))
theorem sv_MCR {M a k : Int} (h : sv_MC M a k) : sv_MR a k := by
  rcases h with h | h | h
  · exact Or.inl h
  · rcases h with h | h | h | h
    · exact Or.inr (Or.inr (by unfold sv_MA at h; omega))
    · exact Or.inr (Or.inr (by omega))
    · exact Or.inr (Or.inr (by omega))
    · exact Or.inr (Or.inl h)
  · exact Or.inr (Or.inr (by omega))
theorem sv_XC380 {a k : Int} (h : sv_XC a k) : ¬ (a = 380 ∧ k ≠ 1 ∧ k ≠ 6) ∧ a ≠ 383 ∧ a ≠ 243 ∨ (a = 243 ∧ k ≠ 2 ∧ k ≠ 4) := by
  rcases h with h | h
  · unfold sv_X1 qz_SX yz_RX yz_TX sz_TY sz_TX rz_TX cz_SJ sz_S yz_S at h
    omega
  · unfold sv_XB at h
    omega
theorem sv_MC804 {M a k : Int} (h : sv_MC M a k) : ¬ (a = 804 ∧ 109 ≤ k ∧ k ≤ 111) ∧ ¬ (a = 865 ∧ k < M) ∧ ¬ (a = 862 ∧ k < M) ∧ ¬ (a = 861 ∧ k < 2 * M) := by
  rcases h with h | h | h
  · have := sv_M1s h; omega
  · rcases h with h | h | h | h
    · unfold sv_MA at h; omega
    · omega
    · omega
    · unfold cz_SB cz_SM at h; omega
  · omega
end SR
