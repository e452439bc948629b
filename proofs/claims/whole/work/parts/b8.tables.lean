/-! the call load -/
/-- two heaps of the class that tell the same: right sides agree alike -/
theorem ld_same {x y m : az_Hp} {T s e o f f' : Int} {x' y' : az_Hp} (hx : mz_H x m T s) (hy : mz_H y m T s) (e0 : 0 ≤ e) (e1 : e < m.2 T 2) (o0 : 0 ≤ o) (o1 : o < m.2 T 2) (rx : fz_X1_rightsAgree 2000000 x 242 T e o = some (f, x')) (ry : fz_X1_rightsAgree 2000000 y 242 T e o = some (f', y')) : f = f' := by
  have nx := hx.n
  have ny := hy.n
  obtain ⟨v, g, x1, m6, a1, a2, a3, a4, -, a6, a7, a8, a9⟩ := mz_fit hx e0 (by omega) o0 (by omega)
  obtain ⟨v', g', y1, m6', b1, b2, b3, b4, -, b6, b7, b8, b9⟩ := mz_fit hy e0 (by omega) o0 (by omega)
  have d1 := sy_det rx a1
  have d2 := sy_det ry b1
  have d3 := sy_det a2 b2
  simp only [Prod.mk.injEq] at d1 d2 d3
  obtain ⟨rfl, rfl⟩ := d3
  rw [d1.1, d2.1]
  rcases a3 with z | z | z
  · rw [a7 z, b7 z]
  · exact sy_det (a9 z m6 bz_Upd.refl) (b9 z m6 bz_Upd.refl)
  · rw [a8 z, b8 z]
/-- the class's tables and the reference's, made by both -/
theorem ld_tab {x3 x4 σv z0 z1 f : az_Hp} {T s : Int} (hv : mz_H x3 σv T s) (hz : mz_H z0 z0 T s) (xz : mz_cS T z0 x3)
    (j11 : ∀ j i, 0 ≤ j → j < x3.2 T 2 → 0 ≤ i → i ≤ j → (x4.2 (T + 11) (16 * j + i) = 0 ∨ x4.2 (T + 11) (16 * j + i) = 1) ∧ x4.2 (T + 11) (16 * i + j) = x4.2 (T + 11) (16 * j + i) ∧ (x3.2 (T + 7) j = x3.2 (T + 7) i → nz_Ag x3 T i j (x4.2 (T + 11) (16 * j + i))))
    (j12 : ∀ j, 0 ≤ j → j < x3.2 T 1 → ∃ x x', bz_Fx x ∧ mz_cS T x3 x ∧ fz_X1_judgeBackwards 2000000 x 242 T j = some x' ∧ x4.2 (T + 12) j = x'.2 (T + 12) j ∧ x4.2 (T + 13) j = x'.2 (T + 13) j ∧ x4.2 (T + 14) j = x'.2 (T + 14) j)
    (tb : ∀ j i, 0 ≤ j → j < z0.2 T 2 → 0 ≤ i → i < z0.2 T 2 → nz_Tb z0 T s j i (z1.2 834 (16 * j + i)) (z1.2 835 (16 * j + i)))
    (fz : mz_cS T z0 f) (fm : mz_mS s z0 f) (f11 : ∀ a k, T + 11 ≤ a → a ≤ T + 14 → f.2 a k = x4.2 a k) (f34 : ∀ a k, a = 834 ∨ a = 835 → f.2 a k = z1.2 a k) : cz_Tab f T s := by
  have hT := hz.2.2.1.1
  have fx3 : mz_cS T x3 f := xz.symm.trans fz
  have n2 : z0.2 T 2 = x3.2 T 2 := (xz T 2 (by omega)).symm
  have g2 : f.2 T 2 = x3.2 T 2 := fx3 T 2 (by omega)
  have g1 : f.2 T 1 = x3.2 T 1 := fx3 T 1 (by omega)
  have e16 := hz.2.2.1.2.2.2.1.2.2
  have g7 : ∀ k, f.2 (T + 7) k = x3.2 (T + 7) k := fun k => fx3 _ _ (by omega)
  refine ⟨fun e o e0 e1 o0 o1 => ?_, fun j j0 j1 => ?_⟩
  · rw [g2] at e1 o1
    obtain ⟨m, m6, x', t1, t2, t3, t4, t5, t6⟩ := tb e o e0 (by omega) o0 (by omega)
    have cm : mz_cS T z0 m := t2.cS hT
    have mT2 : m.2 T 2 = z0.2 T 2 := cm T 2 (by omega)
    refine ⟨⟨by rw [f34 834 _ (Or.inl rfl)]; exact t4, fun σx fx t => ?_⟩, fun own => ?_⟩
    · have Hx : mz_H σx m T s := ⟨fx, t1.2.1, t1.2.2.1, (cm.symm.trans fz).trans t, t1.2.2.2.2⟩
      have nx := Hx.n
      obtain ⟨v, x4', m6', r1, r2, r3, r4, -⟩ := mz_meet Hx e0 (by omega) o0 (by omega)
      have d := sy_det t3 r2
      simp only [Prod.mk.injEq] at d
      exact ⟨x4', by rw [f34 834 _ (Or.inl rfl), d.1]; exact r1, r4⟩
    · rw [g7, g7] at own
      rw [f34 835 _ (Or.inr rfl), f11 (T + 11) _ (by omega) (by omega)]
      refine ⟨?_, t6⟩
      have Hm : ∀ x, bz_Fx x → mz_cS T x3 x → mz_H x m T s := fun x fx c => ⟨fx, t1.2.1, t1.2.2.1, (cm.symm.trans xz).trans c, t1.2.2.2.2⟩
      by_cases le : e ≤ o
      · obtain ⟨a1, a2, a3⟩ := j11 o e o0 o1 e0 le
        obtain ⟨x, y', b1, b2, b3⟩ := a3 own.symm
        rw [a2]
        exact ld_same (Hm x b1 b2) t1 e0 (by omega) o0 (by omega) b3 t5
      · obtain ⟨a1, a2, a3⟩ := j11 e o e0 e1 o0 (by omega)
        obtain ⟨x, y', b1, b2, b3⟩ := a3 own
        exact (sy_sym t1 (Hm x b1 b2) e0 (by omega) o0 (by omega) t5 b3).symm
  · rw [g1] at j1
    have nb := mz_nb hz
    have n1 : z0.2 T 1 = x3.2 T 1 := (xz T 1 (by omega)).symm
    intro σm fm' t t' e15
    obtain ⟨x, x', b1, b2, b3, b4, b5, b6⟩ := j12 j j0 j1
    have TRm : bz_TR σm T s := hz.2.2.1.loc (fz.trans t) (fm.trans t')
    have Hx : mz_H x σm T s := ⟨b1, fm', TRm, ((t.symm.trans fx3.symm)).trans b2, e15⟩
    obtain ⟨xx, mm, r1, r2, r3, r4, r5⟩ := nz_bwd (f := j) Hx j0 (by omega)
    have d := sy_det b3 r1
    subst d
    rw [f11 (T + 12) j (by omega) (by omega), f11 (T + 13) j (by omega) (by omega), f11 (T + 14) j (by omega) (by omega), b4, b5, b6]
    exact ⟨mm, r3, r4, r5⟩
