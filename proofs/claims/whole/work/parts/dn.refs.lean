-- ends: the reference's nodes behind both right sides
def en_I (c : Int) (x y : Int) : Prop := x = y ∧ dz_In c x
theorem en_self {n2 : az_Hp} {c1 a : Int} (hg : dz_ok (lz_g n2 c1)) (hS : tr_St n2 c1) (hU : tr_Un n2) : sy_S n2 n2 (en_I c1) a a c1 c1 := by
  obtain ⟨s1, s2, s3, s4, s5⟩ := hS
  refine ⟨⟨s1, s1, s2, s2⟩, ⟨s3, s4, s3, s4⟩, ⟨fun x y h => ?_, fun x y x' y' h h' => ?_⟩, fun q q' q0 q1 p0 p1 ha hb hc => ?_, fun q q0 q1 ha => ⟨q, q0, q1, ha, rfl⟩, fun q q0 q1 ha => ⟨q, q0, q1, ha, rfl⟩⟩
  · obtain ⟨rfl, i⟩ := h
    refine ⟨i, i, rfl, fun lt k k0 k1 => ?_⟩
    have nv : ¬ dz_iv (lz_g n2 c1) x := fun z => by
      have z' : 1000 ≤ n2.2 823 x := z
      omega
    have ar := hg.2.2.1 x i nv
    have ea : dz_ar (lz_g n2 c1) x = bz_tk n2 (n2.2 823 x) := rfl
    exact ⟨by omega, rfl, ar.2.2 k k0 (by rw [ea]; exact k1)⟩
  · obtain ⟨rfl, -⟩ := h
    obtain ⟨rfl, -⟩ := h'
    exact Iff.rfl
  · have e : q = q' := hU q q' q0 q1 p0 p1 (by rw [ha, hb]) hc
    subst e
    exact ⟨rfl, (s5 q q0 q1).1⟩
/-- both right sides laid by the reference -/
theorem en_refs {x4 n2 m3 m4 m6 : az_Hp} {T s e o c1 c2 p q : Int} (H : mz_H x4 n2 T s) (e0 : 0 ≤ e) (e1 : e < x4.2 T 2) (o0 : 0 ≤ o) (o1 : o < x4.2 T 2) (hg : dz_ok (lz_g n2 c1)) (hS : tr_St n2 c1) (hU : tr_Un n2) (hc : c1 ≤ 32)
    (lm3 : fz_X11_rightNode 2000000 n2 804 e 0 0 = some (p, m3)) (lm4 : fz_X11_rightNode 2000000 (az_wr m3 833 2 p) 804 o 1 0 = some (q, m4)) (u64 : bz_Upd (az_wr m4 833 3 q) m6 ez_RS) (c49 : m4.2 804 49 = c2) :
    ∃ ce, (c1 ≤ ce ∧ ce ≤ c2) ∧ m3.2 804 49 = ce ∧ ((∀ x, dz_In c1 x → m6.2 823 x = n2.2 823 x) ∧ ∀ x, 0 ≤ x → x < 3 * c1 → m6.2 824 x = n2.2 824 x) ∧ (∀ x, dz_In ce x → m6.2 823 x = m3.2 823 x) ∧ (∀ x, 0 ≤ x → x < 3 * ce → m6.2 824 x = m3.2 824 x) ∧
      (∀ a k, a = 804 ∧ k = 15 ∨ a = 811 ∨ a = 812 → m6.2 a k = n2.2 a k ∧ m3.2 a k = n2.2 a k) ∧
      ∃ (n3 : az_Hp) (F : Int → Int → Prop) (c3 r : Int), fz_X11_rightNode 2000000 n2 804 o 1 0 = some (r, n3) ∧ n3.2 804 49 = c3 ∧ sy_F n3 m4 F c3 c2 ∧ (∀ x y, F x y → en_I c1 x y ∨ (c1 ≤ x ∧ ce ≤ y)) ∧ (∀ x, dz_In c1 x → F x x) ∧ F r q ∧ (∀ x, m6.2 823 x = m4.2 823 x) ∧ ∀ x, m6.2 824 x = m4.2 824 x := by
  have S0 := en_self (a := 0) hg hS hU
  have S1 := en_self (a := 1) hg hS hU
  -- right e, twice in one heap
  obtain ⟨m3', m3'', F1, ce, ce', p', p'', r1, r2, ⟨v1, v1', ⟨d1, d2, d3⟩, T1, -, -, -, K1, K1'⟩, -⟩ := sy_right (a := 0) (b := 0) H bz_Upd.refl bz_Upd.refl e0 e1 S0 (by omega) (by omega)
  have w1 := sy_det lm3 r1
  obtain ⟨rfl, rfl⟩ : p = p' ∧ m3 = m3' := by
    rw [Prod.mk.injEq] at w1
    exact w1
  obtain ⟨n4, hn4⟩ : ∃ n4, n4 = az_wr m3 833 2 p := ⟨_, rfl⟩
  rw [← hn4] at lm4
  have nk : ∀ a k, a ≠ 833 → n4.2 a k = m3.2 a k := fun a k z => by rw [hn4]; exact az_wr_ne (by omega)
  have u4 : bz_Upd n2 n4 cz_SM := by rw [hn4]; exact mz_wr833 (v1.weak fun _ _ z => mz_SM z)
  have K4 : sy_K n2 n4 c1 0 (fun _ => False) := by
    obtain ⟨k1, k2, k3, k4, k5⟩ := K1
    refine ⟨fun x hx => by rw [nk _ _ (by omega)]; exact k1 x hx, fun x x0 x1 z => by rw [nk _ _ (by omega)]; exact k2 x x0 x1 z, by rw [nk _ _ (by omega)]; exact k3, fun q q0 q1 => by rw [nk 827 _ (by omega), nk 828 _ (by omega), nk 829 _ (by omega)]; exact k4 q q0 q1, fun q q0 q1 => ?_⟩
    rw [nk _ _ (by omega)] at q1
    rw [nk _ _ (by omega)]
    exact k5 q q0 q1
  have S4 : sy_S n2 n4 (en_I c1) 1 1 c1 ce := S1.move (d := c1) (d' := ce) (a2 := 2) (b2 := 0) rfl sy_K.refl K4 (by omega) (by omega) S1.1.1 (by rw [nk _ _ (by omega)]; exact T1.1.1) (Int.le_refl _) d1 S1.2.1.2.1 (by rw [nk _ _ (by omega)]; exact T1.2.1.2.1)
  obtain ⟨n3, m4', F2, c3, c2', r, q', r3, r4, ⟨v2, v2', ⟨f1, f2, f3⟩, T2, g1, g2, -, K2, K2'⟩, Fr⟩ := sy_right (a := 1) (b := 1) H bz_Upd.refl u4 o0 o1 S4 (by omega) (by omega)
  have w2 := sy_det lm4 r4
  obtain ⟨rfl, rfl⟩ : q = q' ∧ m4 = m4' := by
    rw [Prod.mk.injEq] at w2
    exact w2
  have ec2 : c2' = c2 := by rw [← c49]; exact T2.1.2.1.symm
  subst ec2
  have m6k : ∀ a k, a ≠ 825 → a ≠ 826 → a ≠ 833 → m6.2 a k = m4.2 a k := fun a k z1 z2 z3 => by rw [u64.2.2 a k (by unfold ez_RS; omega), az_wr_ne (by omega)]
  have e823 : ∀ x, dz_In ce x → m6.2 823 x = m3.2 823 x := fun x hx => by rw [m6k _ _ (by omega) (by omega) (by omega), K2'.1 x hx, nk _ _ (by omega)]
  have e824 : ∀ x, 0 ≤ x → x < 3 * ce → m6.2 824 x = m3.2 824 x := fun x x0 x1 => by rw [m6k _ _ (by omega) (by omega) (by omega), K2'.2.1 x x0 x1 (fun z => z), nk _ _ (by omega)]
  refine ⟨ce, ⟨d1, by omega⟩, T1.1.1, ⟨fun x hx => by rw [e823 x ⟨hx.1, by have := hx.2; omega⟩]; exact K1.1 x hx, fun x x0 x1 => by rw [e824 x x0 (by omega)]; exact K1.2.1 x x0 x1 (fun z => z)⟩, e823, e824, fun a k z => ⟨?_, v1.2.2 a k (by unfold lz_T; omega)⟩, n3, F2, c3, r, r3, T2.1.1, T2.2.2.1, g2, fun x hx => g1 x x ⟨rfl, hx⟩, Fr, fun x => m6k _ _ (by omega) (by omega) (by omega), fun x => m6k _ _ (by omega) (by omega) (by omega)⟩
  rw [m6k a k (by omega) (by omega) (by omega), v2'.2.2 a k (by unfold lz_T; omega), nk a k (by omega), v1.2.2 a k (by unfold lz_T; omega)]
