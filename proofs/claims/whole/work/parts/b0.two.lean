/-! the reference lays one row in two heaps: the nodes are the same but for their numbers -/
def sy_Env (m n : az_Hp) (A : Int) (ar : Int → Int) (st en : Int) : Prop :=
  (bz_Fx m ∧ bz_Fx n ∧ bz_sd m ∧ n.2 804 15 = m.2 804 15) ∧ ((∀ k, n.2 811 k = m.2 811 k) ∧ (∀ k, n.2 812 k = m.2 812 k) ∧ ∀ k, n.2 A k = m.2 A k) ∧ (0 ≤ st ∧ en ≤ az_ln m A ∧ en ≤ az_ln n A ∧ az_ln m A ≤ 100000 ∧ (A < 804 ∨ (804 < A ∧ A < 823) ∨ 832 < A)) ∧ (∀ j, 0 ≤ ar j ∧ ar j ≤ 3) ∧ ∀ j, st ≤ j → j < en → bz_mc (m.2 A j) ∧ bz_tk m (m.2 A j) = ar j
theorem sy_tk {m m' : az_Hp} (hU : bz_Upd m m' lz_T) : bz_tk m' = bz_tk m := by
  funext q
  unfold bz_tk
  rw [hU.2.2 804 15 (by unfold lz_T; omega), hU.2.2 812 _ (by unfold lz_T; omega), hU.2.2 811 _ (by unfold lz_T; omega)]
theorem sy_Env.upd {m n m' n' : az_Hp} {A : Int} {ar : Int → Int} {st en : Int} (h : sy_Env m n A ar st en) (um : bz_Upd m m' lz_T) (un : bz_Upd n n' lz_T) : sy_Env m' n' A ar st en := by
  obtain ⟨⟨h1, h2, h3, h4⟩, ⟨h5, h6, h7⟩, ⟨h8, h9, h10, h11, h12⟩, h13, h14⟩ := h
  have eA : ∀ k, m'.2 A k = m.2 A k := fun k => um.2.2 _ _ (by unfold lz_T; omega)
  refine ⟨⟨h1.upd um, h2.upd un, ?_, ?_⟩, ⟨fun k => ?_, fun k => ?_, fun k => ?_⟩, ⟨h8, ?_, ?_, ?_, h12⟩, h13, fun j j0 j1 => ?_⟩
  · unfold bz_sd at h3 ⊢; rw [um.2.2 804 15 (by unfold lz_T; omega)]; exact h3
  · rw [un.2.2 804 15 (by unfold lz_T; omega), um.2.2 804 15 (by unfold lz_T; omega)]; exact h4
  · rw [un.2.2 811 k (by unfold lz_T; omega), um.2.2 811 k (by unfold lz_T; omega)]; exact h5 k
  · rw [un.2.2 812 k (by unfold lz_T; omega), um.2.2 812 k (by unfold lz_T; omega)]; exact h6 k
  · rw [un.2.2 A k (by unfold lz_T; omega), eA]; exact h7 k
  · rw [um.ln]; exact h9
  · rw [un.ln]; exact h10
  · rw [um.ln]; exact h11
  · rw [eA, sy_tk um]; exact h14 j j0 j1
theorem sy_Env.tkn {m n : az_Hp} {A : Int} {ar : Int → Int} {st en : Int} (h : sy_Env m n A ar st en) : bz_tk n = bz_tk m ∧ bz_sd n := by
  obtain ⟨⟨h1, h2, h3, h4⟩, ⟨h5, h6, h7⟩, -⟩ := h
  refine ⟨funext fun q => ?_, ?_⟩
  · unfold bz_tk; rw [h4, h5, h6]
  · unfold bz_sd at h3 ⊢; rw [h4]; exact h3
/-- F: which nodes are the same -/
def sy_F (m n : az_Hp) (F : Int → Int → Prop) (c c' : Int) : Prop := (∀ x y, F x y → dz_In c x ∧ dz_In c' y ∧ m.2 823 x = n.2 823 y ∧ (m.2 823 x < 1000 → ∀ k, 0 ≤ k → k < bz_tk m (m.2 823 x) → k < 3 ∧ F (m.2 824 (3 * x + k)) (n.2 824 (3 * y + k)))) ∧ ∀ x y x' y', F x y → F x' y' → (x = x' ↔ y = y')
def sy_V (m n : az_Hp) (F : Int → Int → Prop) (a b : Int) : Prop :=
  (∀ q q', 0 ≤ q → q < m.2 804 50 → 0 ≤ q' → q' < n.2 804 50 → m.2 827 q = a → n.2 827 q' = b → m.2 828 q = n.2 828 q' → F (m.2 829 q) (n.2 829 q')) ∧
  (∀ q, 0 ≤ q → q < m.2 804 50 → m.2 827 q = a → ∃ q', 0 ≤ q' ∧ q' < n.2 804 50 ∧ n.2 827 q' = b ∧ m.2 828 q = n.2 828 q') ∧
  (∀ q', 0 ≤ q' → q' < n.2 804 50 → n.2 827 q' = b → ∃ q, 0 ≤ q ∧ q < m.2 804 50 ∧ m.2 827 q = a ∧ m.2 828 q = n.2 828 q')
def sy_S (m n : az_Hp) (F : Int → Int → Prop) (a b c c' : Int) : Prop := (m.2 804 49 = c ∧ n.2 804 49 = c' ∧ 0 ≤ c ∧ 0 ≤ c') ∧ (0 ≤ m.2 804 50 ∧ m.2 804 50 ≤ c ∧ 0 ≤ n.2 804 50 ∧ n.2 804 50 ≤ c') ∧ sy_F m n F c c' ∧ sy_V m n F a b
/-- what stays in one heap -/
def sy_K (m m' : az_Hp) (c a : Int) (P : Int → Prop) : Prop := (∀ x, dz_In c x → m'.2 823 x = m.2 823 x) ∧ (∀ x, 0 ≤ x → x < 3 * c → ¬ P x → m'.2 824 x = m.2 824 x) ∧ m.2 804 50 ≤ m'.2 804 50 ∧ (∀ q, 0 ≤ q → q < m.2 804 50 → m'.2 827 q = m.2 827 q ∧ m'.2 828 q = m.2 828 q ∧ m'.2 829 q = m.2 829 q) ∧ ∀ q, m.2 804 50 ≤ q → q < m'.2 804 50 → m'.2 827 q = a
theorem sy_K.refl {m : az_Hp} {c a : Int} {P : Int → Prop} : sy_K m m c a P := ⟨fun _ _ => rfl, fun _ _ _ _ => rfl, Int.le_refl _, fun _ _ _ => ⟨rfl, rfl, rfl⟩, fun q q0 q1 => by omega⟩
theorem sy_K.trans {m m1 m2 : az_Hp} {c c1 a : Int} {P : Int → Prop} (h : sy_K m m1 c a P) (h' : sy_K m1 m2 c1 a P) (hc : c ≤ c1) (t0 : 0 ≤ m.2 804 50) : sy_K m m2 c a P := by
  obtain ⟨a1, a2, a3, a4, a5⟩ := h
  obtain ⟨b1, b2, b3, b4, b5⟩ := h'
  refine ⟨fun x hx => ?_, fun x x0 x1 np => ?_, by omega, fun q q0 q1 => ?_, fun q q0 q1 => ?_⟩
  · rw [b1 x ⟨hx.1, by have := hx.2; omega⟩, a1 x hx]
  · rw [b2 x x0 (by omega) np, a2 x x0 x1 np]
  · obtain ⟨r1, r2, r3⟩ := b4 q q0 (by omega)
    obtain ⟨s1, s2, s3⟩ := a4 q q0 q1
    exact ⟨r1.trans s1, r2.trans s2, r3.trans s3⟩
  · by_cases z : q < m1.2 804 50
    · rw [(b4 q (by omega) z).1]; exact a5 q q0 z
    · exact b5 q (by omega) q1
theorem sy_K.weak {m m' : az_Hp} {c a : Int} {P Q : Int → Prop} (h : sy_K m m' c a P) (hP : ∀ x, P x → Q x) : sy_K m m' c a Q := ⟨h.1, fun x x0 x1 nq => h.2.1 x x0 x1 (fun z => nq (hP x z)), h.2.2.1, h.2.2.2.1, h.2.2.2.2⟩
def sy_Ps (m n m' n' : az_Hp) (F F' : Int → Int → Prop) (a b c c' c1 c1' : Int) (P P' : Int → Prop) (d : Nat) : Prop :=
  bz_Upd m m' lz_T ∧ bz_Upd n n' lz_T ∧ (c ≤ c1 ∧ c1 ≤ c + d ∧ c1 - c = c1' - c') ∧ sy_S m' n' F' a b c1 c1' ∧ (∀ x y, F x y → F' x y) ∧ (∀ x y, F' x y → F x y ∨ (c ≤ x ∧ c' ≤ y)) ∧ ((∀ x, c ≤ x → x < c1 → ∃ y, F' x y) ∧ ∀ y, c' ≤ y → y < c1' → ∃ x, F' x y) ∧ sy_K m m' c a P ∧ sy_K n n' c' b P'
theorem sy_F.cong {m n m' n' : az_Hp} {F : Int → Int → Prop} {c c' d d' : Int} (h : sy_F m n F c c') (ht : bz_tk m' = bz_tk m) (hc : c ≤ d) (hc' : c' ≤ d') (e1 : ∀ x y, F x y → m'.2 823 x = m.2 823 x ∧ n'.2 823 y = n.2 823 y ∧ ∀ k, 0 ≤ k → k < 3 → m'.2 824 (3 * x + k) = m.2 824 (3 * x + k) ∧ n'.2 824 (3 * y + k) = n.2 824 (3 * y + k)) : sy_F m' n' F d d' := by
  refine ⟨fun x y hF => ?_, h.2⟩
  obtain ⟨h1, h2, h3, h4⟩ := h.1 x y hF
  obtain ⟨q1, q2, q3⟩ := e1 x y hF
  refine ⟨⟨h1.1, by have := h1.2; omega⟩, ⟨h2.1, by have := h2.2; omega⟩, by rw [q1, q2]; exact h3, fun lt k k0 k1 => ?_⟩
  rw [q1] at lt k1
  rw [ht] at k1
  obtain ⟨r1, r2⟩ := h4 lt k k0 k1
  rw [(q3 k k0 r1).1, (q3 k k0 r1).2]
  exact ⟨r1, r2⟩
theorem sy_V.cong {m n m' n' : az_Hp} {F F' : Int → Int → Prop} {a b : Int} (h : sy_V m n F a b) (hF : ∀ x y, F x y → F' x y) (e1 : m'.2 804 50 = m.2 804 50) (e2 : n'.2 804 50 = n.2 804 50) (e3 : ∀ q, 0 ≤ q → q < m.2 804 50 → m'.2 827 q = m.2 827 q ∧ m'.2 828 q = m.2 828 q ∧ m'.2 829 q = m.2 829 q) (e4 : ∀ q, 0 ≤ q → q < n.2 804 50 → n'.2 827 q = n.2 827 q ∧ n'.2 828 q = n.2 828 q ∧ n'.2 829 q = n.2 829 q) : sy_V m' n' F' a b := by
  obtain ⟨h1, h2, h3⟩ := h
  refine ⟨fun q q' q0 q1 p0 p1 ha hb hc => ?_, fun q q0 q1 ha => ?_, fun q q0 q1 hb => ?_⟩
  · rw [e1] at q1
    rw [e2] at p1
    obtain ⟨r1, r2, r3⟩ := e3 q q0 q1
    obtain ⟨s1, s2, s3⟩ := e4 q' p0 p1
    rw [r3, s3]
    exact hF _ _ (h1 q q' q0 q1 p0 p1 (by rw [← r1]; exact ha) (by rw [← s1]; exact hb) (by rw [← r2, ← s2]; exact hc))
  · rw [e1] at q1
    obtain ⟨r1, r2, r3⟩ := e3 q q0 q1
    obtain ⟨p, p0, p1, p2, p3⟩ := h2 q q0 q1 (by rw [← r1]; exact ha)
    obtain ⟨s1, s2, s3⟩ := e4 p p0 p1
    exact ⟨p, p0, by rw [e2]; exact p1, by rw [s1]; exact p2, by rw [r2, s2]; exact p3⟩
  · rw [e2] at q1
    obtain ⟨r1, r2, r3⟩ := e4 q q0 q1
    obtain ⟨p, p0, p1, p2, p3⟩ := h3 q q0 q1 (by rw [← r1]; exact hb)
    obtain ⟨s1, s2, s3⟩ := e3 p p0 p1
    exact ⟨p, p0, by rw [e1]; exact p1, by rw [s1]; exact p2, by rw [r2, s2]; exact p3⟩
/-- a term of d codes -/
def sy_Term (A : Int) (ar : Int → Int) (st en a b : Int) (d : Nat) : Prop :=
  ∀ (m n : az_Hp) (F : Int → Int → Prop) (c c' i : Int), sy_Env m n A ar st en → sy_S m n F a b c c' → c + d ≤ 120 → c' + d ≤ 120 → st ≤ i → i + d ≤ en → bz_Sc ar d 1 i → m.2 804 52 = i → n.2 804 52 = i →
    ∃ (m' n' : az_Hp) (F' : Int → Int → Prop) (c1 c1' ρ ρ' : Int), (∀ Dm : Nat, d ≤ Dm → fz_X11_builds 2000000 Dm m 804 A a 0 = some (ρ, m') ∧ fz_X11_builds 2000000 Dm n 804 A b 0 = some (ρ', n')) ∧ sy_Ps m n m' n' F F' a b c c' c1 c1' (fun _ => False) (fun _ => False) d ∧ F' ρ ρ' ∧ m'.2 804 52 = i + d ∧ n'.2 804 52 = i + d
section SY
variable {A : Int} {ar : Int → Int} {st en a b : Int}
theorem sy_var {d : Nat} {m n : az_Hp} {F : Int → Int → Prop} {c c' i : Int} (hE : sy_Env m n A ar st en) (hS : sy_S m n F a b c c') (hc : c + d ≤ 120) (hc' : c' + d ≤ 120) (hi : st ≤ i) (hie : i + d ≤ en) (hSc : bz_Sc ar d 1 i) (hra : m.2 804 52 = i) (hrb : n.2 804 52 = i) (hv : 1000 ≤ m.2 A i) :
    ∃ (m' n' : az_Hp) (F' : Int → Int → Prop) (c1 c1' ρ ρ' : Int), (∀ Dm : Nat, d ≤ Dm → fz_X11_builds 2000000 Dm m 804 A a 0 = some (ρ, m') ∧ fz_X11_builds 2000000 Dm n 804 A b 0 = some (ρ', n')) ∧ sy_Ps m n m' n' F F' a b c c' c1 c1' (fun _ => False) (fun _ => False) d ∧ F' ρ ρ' ∧ m'.2 804 52 = i + d ∧ n'.2 804 52 = i + d := by
  have dp := hSc.pos (by omega)
  obtain ⟨⟨h1, h2, h3, h4⟩, ⟨h5, h6, h7⟩, ⟨h8, h9, h10, h11, h12⟩, h13, h14⟩ := hE
  obtain ⟨⟨s1, s2, s3, s4⟩, ⟨s5, s6, s7, s8⟩, ⟨sF, sI⟩, ⟨v1, v2, v3⟩⟩ := hS
  have a0 : ar i = 0 := by
    rw [← (h14 i hi (by omega)).2]
    unfold bz_tk
    rw [if_pos hv]
  have d1 : d = 1 := by
    obtain ⟨d, rfl⟩ : ∃ q, d = q + 1 := ⟨d - 1, by omega⟩
    have q := hSc.2
    rw [a0] at q
    cases d with
    | zero => rfl
    | succ d => have := q.1; omega
  subst d1
  -- both go on by one place
  obtain ⟨p, hp⟩ : ∃ p, p = az_wr m 804 52 (i + 1) := ⟨_, rfl⟩
  obtain ⟨q, hq⟩ : ∃ q, q = az_wr n 804 52 (i + 1) := ⟨_, rfl⟩
  have up : bz_Upd m p lz_T := by rw [hp]; exact lz_Tw bz_Upd.refl (by unfold lz_T; omega)
  have uq : bz_Upd n q lz_T := by rw [hq]; exact lz_Tw bz_Upd.refl (by unfold lz_T; omega)
  have pk : ∀ x k, ¬ (x = 804 ∧ k = 52) → p.2 x k = m.2 x k := fun x k z => by rw [hp]; exact az_wr_ne z
  have qk : ∀ x k, ¬ (x = 804 ∧ k = 52) → q.2 x k = n.2 x k := fun x k z => by rw [hq]; exact az_wr_ne z
  have bm : ∀ Dm : Nat, 1 ≤ Dm → fz_X11_builds 2000000 Dm m 804 A a 0 = ((fz_X11_variableNode 2000000 p 804 (m.2 A i) a).bind fun r3 => (some (r3.1, r3.2))) := fun Dm hD => by
    obtain ⟨D, rfl⟩ : ∃ q, Dm = q + 1 := ⟨Dm - 1, by omega⟩
    rw [lz_bld (x := m.2 A i) (by rw [hra]; exact bz_ard (by omega) (by omega)) (Or.inl rfl)]
    unfold fz_X11_builds_52
    rw [hra, az_w32_id (by omega) (by omega), ← hp, ez_isVarM.1 hv, Option.bind_some, if_neg (by decide)]
  have bn : ∀ Dm : Nat, 1 ≤ Dm → fz_X11_builds 2000000 Dm n 804 A b 0 = ((fz_X11_variableNode 2000000 q 804 (m.2 A i) b).bind fun r3 => (some (r3.1, r3.2))) := fun Dm hD => by
    obtain ⟨D, rfl⟩ : ∃ q, Dm = q + 1 := ⟨Dm - 1, by omega⟩
    rw [lz_bld (x := n.2 A i) (by rw [hrb]; exact bz_ard (by omega) (by omega)) (Or.inl rfl), h7]
    unfold fz_X11_builds_52
    rw [hrb, az_w32_id (by omega) (by omega), ← hq, ez_isVarM.1 hv, Option.bind_some, if_neg (by decide)]
  have p49 : p.2 804 49 = c := by rw [pk 804 49 (by omega)]; exact s1
  have q49 : q.2 804 49 = c' := by rw [qk 804 49 (by omega)]; exact s2
  have p50 := pk 804 50 (by omega)
  have q50 := qk 804 50 (by omega)
  have rm := lz_varL (who := a) (m := m.2 A i) (h1.upd up) (by omega) (by omega) (by omega) (by omega) (m.2 804 50).toNat 2000000 0 (by omega) (by omega) (by omega) (fun q q0 q1 => by omega)
  have rn := lz_varL (who := b) (m := m.2 A i) (h2.upd uq) (by omega) (by omega) (by omega) (by omega) (n.2 804 50).toNat 2000000 0 (by omega) (by omega) (by omega) (fun q q0 q1 => by omega)
  have eT : ∀ x, p.2 827 x = m.2 827 x ∧ p.2 828 x = m.2 828 x ∧ p.2 829 x = m.2 829 x := fun x => ⟨pk _ _ (by omega), pk _ _ (by omega), pk _ _ (by omega)⟩
  have eT' : ∀ x, q.2 827 x = n.2 827 x ∧ q.2 828 x = n.2 828 x ∧ q.2 829 x = n.2 829 x := fun x => ⟨qk _ _ (by omega), qk _ _ (by omega), qk _ _ (by omega)⟩
  rcases rm with ⟨x, x0, x1, ⟨xa, xb⟩, -, xr⟩ | ⟨xno, xr⟩
  · rcases rn with ⟨y, y0, y1, ⟨ya, yb⟩, -, yr⟩ | ⟨yno, yr⟩
    · -- it is there in both
      rw [(eT x).1] at xa
      rw [(eT x).2.1] at xb
      rw [(eT' y).1] at ya
      rw [(eT' y).2.1] at yb
      rw [p50] at x1
      rw [q50] at y1
      refine ⟨p, q, F, c, c', p.2 829 x, q.2 829 y, fun Dm hD => ⟨by rw [bm Dm (by omega)]; unfold fz_X11_variableNode; rw [xr, Option.bind_some], by rw [bn Dm (by omega)]; unfold fz_X11_variableNode; rw [yr, Option.bind_some]⟩, ⟨up, uq, ⟨by omega, by omega, by omega⟩, ⟨⟨p49, q49, s3, s4⟩, ⟨by omega, by omega, by omega, by omega⟩, ?_, ?_⟩, fun _ _ z => z, fun _ _ z => Or.inl z, ⟨fun x x0 x1 => by omega, fun x x0 x1 => by omega⟩, ?_, ?_⟩, ?_, by rw [hp, az_wr_same]; rfl, by rw [hq, az_wr_same]; rfl⟩
      · exact sy_F.cong ⟨sF, sI⟩ (sy_tk up) (Int.le_refl _) (Int.le_refl _) (fun x y _ => ⟨pk _ _ (by omega), qk _ _ (by omega), fun k _ _ => ⟨pk _ _ (by omega), qk _ _ (by omega)⟩⟩)
      · exact sy_V.cong ⟨v1, v2, v3⟩ (fun _ _ z => z) p50 q50 (fun q _ _ => eT q) (fun q _ _ => eT' q)
      · exact ⟨fun x _ => pk _ _ (by omega), fun x _ _ _ => pk _ _ (by omega), by omega, fun q _ _ => eT q, fun q z0 z1 => by omega⟩
      · exact ⟨fun x _ => qk _ _ (by omega), fun x _ _ _ => qk _ _ (by omega), by omega, fun q _ _ => eT' q, fun q z0 z1 => by omega⟩
      · rw [(eT x).2.2, (eT' y).2.2]
        exact v1 x y x0 x1 y0 y1 xa ya (by omega)
    · exfalso
      rw [(eT x).1] at xa
      rw [(eT x).2.1] at xb
      rw [p50] at x1
      obtain ⟨y, y0, y1, y2, y3⟩ := v2 x x0 x1 xa
      exact yno y y0 (by omega) ⟨by rw [(eT' y).1]; exact y2, by rw [(eT' y).2.1]; omega⟩
  · rcases rn with ⟨y, y0, y1, ⟨ya, yb⟩, -, yr⟩ | ⟨yno, yr⟩
    · exfalso
      rw [(eT' y).1] at ya
      rw [(eT' y).2.1] at yb
      rw [q50] at y1
      obtain ⟨x, x0, x1, x2, x3⟩ := v3 y y0 y1 ya
      exact xno x x0 (by omega) ⟨by rw [(eT x).1]; exact x2, by rw [(eT x).2.1]; omega⟩
    · -- it is new in both
      rw [p49] at xr
      rw [q49] at yr
      have um2 : bz_Upd m (lz_vnew p a (m.2 A i)) lz_T := up.trans lz_vnew_upd
      have un2 : bz_Upd n (lz_vnew q b (m.2 A i)) lz_T := uq.trans lz_vnew_upd
      obtain ⟨m', hm'⟩ : ∃ m', m' = lz_vnew p a (m.2 A i) := ⟨_, rfl⟩
      obtain ⟨n', hn'⟩ : ∃ n', n' = lz_vnew q b (m.2 A i) := ⟨_, rfl⟩
      rw [← hm'] at xr um2
      rw [← hn'] at yr un2
      unfold lz_vnew at hm' hn'
      rw [p49, p50] at hm'
      rw [q49, q50] at hn'
      have m49 : m'.2 804 49 = c + 1 := by rw [hm', az_wr_ne (by omega), az_wr_ne (by omega), az_wr_same]
      have n49 : n'.2 804 49 = c' + 1 := by rw [hn', az_wr_ne (by omega), az_wr_ne (by omega), az_wr_same]
      have m50 : m'.2 804 50 = m.2 804 50 + 1 := by rw [hm', az_wr_same]
      have n50 : n'.2 804 50 = n.2 804 50 + 1 := by rw [hn', az_wr_same]
      have m823 : ∀ x, x ≠ c → m'.2 823 x = m.2 823 x := fun x z => by rw [hm', az_wr_ne (by omega), az_wr_ne (by omega), az_wr_ne (by omega), az_wr_ne (by omega), az_wr_ne (by omega), az_wr_ne (by omega), az_wr_ne (by omega), pk _ _ (by omega)]
      have n823 : ∀ x, x ≠ c' → n'.2 823 x = n.2 823 x := fun x z => by rw [hn', az_wr_ne (by omega), az_wr_ne (by omega), az_wr_ne (by omega), az_wr_ne (by omega), az_wr_ne (by omega), az_wr_ne (by omega), az_wr_ne (by omega), qk _ _ (by omega)]
      have m823c : m'.2 823 c = 1000 := by rw [hm', az_wr_ne (by omega), az_wr_ne (by omega), az_wr_ne (by omega), az_wr_ne (by omega), az_wr_same]
      have n823c : n'.2 823 c' = 1000 := by rw [hn', az_wr_ne (by omega), az_wr_ne (by omega), az_wr_ne (by omega), az_wr_ne (by omega), az_wr_same]
      have m824 : ∀ x, m'.2 824 x = m.2 824 x := fun x => by rw [hm', az_wr_ne (by omega), az_wr_ne (by omega), az_wr_ne (by omega), az_wr_ne (by omega), az_wr_ne (by omega), az_wr_ne (by omega), az_wr_ne (by omega), pk _ _ (by omega)]
      have n824 : ∀ x, n'.2 824 x = n.2 824 x := fun x => by rw [hn', az_wr_ne (by omega), az_wr_ne (by omega), az_wr_ne (by omega), az_wr_ne (by omega), az_wr_ne (by omega), az_wr_ne (by omega), az_wr_ne (by omega), qk _ _ (by omega)]
      have mT : ∀ q, q < m.2 804 50 → m'.2 827 q = m.2 827 q ∧ m'.2 828 q = m.2 828 q ∧ m'.2 829 q = m.2 829 q := fun q z => by
        rw [hm']
        refine ⟨?_, ?_, ?_⟩
        all_goals rw [az_wr_ne (by omega), az_wr_ne (by omega), az_wr_ne (by omega), az_wr_ne (by omega), az_wr_ne (by omega), az_wr_ne (by omega), az_wr_ne (by omega), pk _ _ (by omega)]
      have nT : ∀ x, x < n.2 804 50 → n'.2 827 x = n.2 827 x ∧ n'.2 828 x = n.2 828 x ∧ n'.2 829 x = n.2 829 x := fun x z => by
        rw [hn']
        refine ⟨?_, ?_, ?_⟩
        all_goals rw [az_wr_ne (by omega), az_wr_ne (by omega), az_wr_ne (by omega), az_wr_ne (by omega), az_wr_ne (by omega), az_wr_ne (by omega), az_wr_ne (by omega), qk _ _ (by omega)]
      have mN : m'.2 827 (m.2 804 50) = a ∧ m'.2 828 (m.2 804 50) = m.2 A i ∧ m'.2 829 (m.2 804 50) = c := by
        rw [hm']
        refine ⟨?_, ?_, ?_⟩
        · rw [az_wr_ne (by omega), az_wr_ne (by omega), az_wr_ne (by omega), az_wr_ne (by omega), az_wr_ne (by omega), az_wr_ne (by omega), az_wr_same]
        · rw [az_wr_ne (by omega), az_wr_ne (by omega), az_wr_ne (by omega), az_wr_ne (by omega), az_wr_ne (by omega), az_wr_same]
        · rw [az_wr_ne (by omega), az_wr_same]
      have nN : n'.2 827 (n.2 804 50) = b ∧ n'.2 828 (n.2 804 50) = m.2 A i ∧ n'.2 829 (n.2 804 50) = c' := by
        rw [hn']
        refine ⟨?_, ?_, ?_⟩
        · rw [az_wr_ne (by omega), az_wr_ne (by omega), az_wr_ne (by omega), az_wr_ne (by omega), az_wr_ne (by omega), az_wr_ne (by omega), az_wr_same]
        · rw [az_wr_ne (by omega), az_wr_ne (by omega), az_wr_ne (by omega), az_wr_ne (by omega), az_wr_ne (by omega), az_wr_same]
        · rw [az_wr_ne (by omega), az_wr_same]
      have m52 : m'.2 804 52 = i + 1 := by rw [hm', az_wr_ne (by omega), az_wr_ne (by omega), az_wr_ne (by omega), az_wr_ne (by omega), az_wr_ne (by omega), az_wr_ne (by omega), az_wr_ne (by omega), hp, az_wr_same]
      have n52 : n'.2 804 52 = i + 1 := by rw [hn', az_wr_ne (by omega), az_wr_ne (by omega), az_wr_ne (by omega), az_wr_ne (by omega), az_wr_ne (by omega), az_wr_ne (by omega), az_wr_ne (by omega), hq, az_wr_same]
      have xno' : ∀ x, 0 ≤ x → x < m.2 804 50 → m.2 827 x = a → m.2 828 x ≠ m.2 A i := fun x x0 x1 xa xb => xno x x0 (by omega) ⟨by rw [(eT x).1]; exact xa, by rw [(eT x).2.1]; exact xb⟩
      have yno' : ∀ x, 0 ≤ x → x < n.2 804 50 → n.2 827 x = b → n.2 828 x ≠ m.2 A i := fun x x0 x1 xa xb => yno x x0 (by omega) ⟨by rw [(eT' x).1]; exact xa, by rw [(eT' x).2.1]; exact xb⟩
      refine ⟨m', n', fun x y => F x y ∨ (x = c ∧ y = c'), c + 1, c' + 1, c, c', fun Dm hD => ⟨by rw [bm Dm (by omega)]; unfold fz_X11_variableNode; rw [xr, Option.bind_some], by rw [bn Dm (by omega)]; unfold fz_X11_variableNode; rw [yr, Option.bind_some]⟩, ⟨um2, un2, ⟨by omega, by omega, by omega⟩, ⟨⟨m49, n49, by omega, by omega⟩, ⟨by omega, by omega, by omega, by omega⟩, ⟨fun x y hxy => ?_, fun x y x' y' h h' => ?_⟩, ⟨fun x y x0 x1 y0 y1 xa ya e => ?_, fun x x0 x1 xa => ?_, fun y y0 y1 ya => ?_⟩⟩, fun _ _ z => Or.inl z, fun x y z => ?_, ⟨fun x x0 x1 => ⟨c', Or.inr ⟨by omega, rfl⟩⟩, fun y y0 y1 => ⟨c, Or.inr ⟨rfl, by omega⟩⟩⟩, ⟨fun x hx => m823 x (by have := hx.2; omega), fun x _ _ _ => m824 x, by omega, fun q _ z => mT q z, fun q z0 z1 => ?_⟩, ⟨fun x hx => n823 x (by have := hx.2; omega), fun x _ _ _ => n824 x, by omega, fun q _ z => nT q z, fun q z0 z1 => ?_⟩⟩, Or.inr ⟨rfl, rfl⟩, m52, n52⟩
      · rcases hxy with hxy | ⟨rfl, rfl⟩
        · obtain ⟨r1, r2, r3, r4⟩ := sF x y hxy
          have lx := r1.2
          have ly := r2.2
          refine ⟨⟨r1.1, by omega⟩, ⟨r2.1, by omega⟩, by rw [m823 x (by omega), n823 y (by omega)]; exact r3, fun lt k k0 k1 => ?_⟩
          rw [m823 x (by omega)] at lt k1
          rw [sy_tk um2] at k1
          rw [m824, n824]
          exact ⟨(r4 lt k k0 k1).1, Or.inl (r4 lt k k0 k1).2⟩
        · exact ⟨⟨s3, by omega⟩, ⟨s4, by omega⟩, by rw [m823c, n823c], fun lt => by omega⟩
      · rcases h with h | ⟨rfl, rfl⟩
        · rcases h' with h' | ⟨rfl, rfl⟩
          · exact sI x y x' y' h h'
          · have z1 := (sF x y h).1.2
            have z2 := (sF x y h).2.1.2
            omega
        · rcases h' with h' | ⟨rfl, rfl⟩
          · have z1 := (sF x' y' h').1.2
            have z2 := (sF x' y' h').2.1.2
            omega
          · omega
      · by_cases zx : x = m.2 804 50
        · rw [zx] at xa e ⊢
          rw [mN.2.1] at e
          by_cases zy : y = n.2 804 50
          · rw [zy, mN.2.2, nN.2.2]; exact Or.inr ⟨rfl, rfl⟩
          · exfalso
            obtain ⟨r1, r2, r3⟩ := nT y (by omega)
            exact yno' y y0 (by omega) (by rw [← r1]; exact ya) (by rw [← r2]; exact e.symm)
        · obtain ⟨r1, r2, r3⟩ := mT x (by omega)
          by_cases zy : y = n.2 804 50
          · exfalso
            rw [zy, nN.2.1] at e
            exact xno' x x0 (by omega) (by rw [← r1]; exact xa) (by rw [← r2]; exact e)
          · obtain ⟨t1, t2, t3⟩ := nT y (by omega)
            rw [r3, t3]
            exact Or.inl (v1 x y x0 (by omega) y0 (by omega) (by rw [← r1]; exact xa) (by rw [← t1]; exact ya) (by rw [← r2, ← t2]; exact e))
      · by_cases zx : x = m.2 804 50
        · exact ⟨n.2 804 50, by omega, by omega, nN.1, by rw [zx, mN.2.1, nN.2.1]⟩
        · obtain ⟨r1, r2, r3⟩ := mT x (by omega)
          obtain ⟨y, y0, y1, y2, y3⟩ := v2 x x0 (by omega) (by rw [← r1]; exact xa)
          obtain ⟨t1, t2, t3⟩ := nT y (by omega)
          exact ⟨y, y0, by omega, by rw [t1]; exact y2, by rw [r2, t2]; exact y3⟩
      · by_cases zy : y = n.2 804 50
        · exact ⟨m.2 804 50, by omega, by omega, mN.1, by rw [zy, mN.2.1, nN.2.1]⟩
        · obtain ⟨r1, r2, r3⟩ := nT y (by omega)
          obtain ⟨x, x0, x1, x2, x3⟩ := v3 y y0 (by omega) (by rw [← r1]; exact ya)
          obtain ⟨t1, t2, t3⟩ := mT x (by omega)
          exact ⟨x, x0, by omega, by rw [t1]; exact x2, by rw [r2, t2]; exact x3⟩
      · rcases z with z | ⟨rfl, rfl⟩
        · exact Or.inl z
        · exact Or.inr ⟨Int.le_refl _, Int.le_refl _⟩
      · rw [show q = m.2 804 50 by omega]; exact mN.1
      · rw [show q = n.2 804 50 by omega]; exact nN.1
end SY
