/-! solving: one side of an EQUALITY, with what UNKNOWNS are, reduced -/
def sv_Q (m : az_Hp) (U : Int) (q : Int) : Prop := 2000 ≤ q → q - 2000 < U ∧ m.2 864 (q - 2000) ≤ 0
def sv_Gv (x m : az_Hp) (T s : Int) (V : Int → Int → Prop) : Prop := x.2 243 4 = 1 ∧ ∃ ng, (x.2 161 0 = ng ∧ m.2 804 85 = ng ∧ 0 ≤ ng ∧ ng ≤ 6) ∧ ∀ g, 0 ≤ g → g < ng → gv_Row x m T s V (fun q => q < 2000) (167 + 4 * g) 848 (30 * g) (m.2 850 g) ∧ gv_Row x m T s V (fun q => q < 2000) (169 + 4 * g) 849 (30 * g) (m.2 851 g)
def sv_Bd (x m : az_Hp) (T s : Int) : Prop := ∀ f, 0 ≤ f → f < x.2 T 1 → ∀ m', bz_Fx m' → bz_tS m m' → m'.2 804 15 = s → ∃ m'', fz_X11_isBad 2000000 m' 804 f = some (if x.2 (T + 12) f = 0 then 0 else 1, m'') ∧ bz_Upd m' m'' cz_SB
/-- how many of the first n are something -/
def sv_nb (g : Int → Int) : Nat → Nat
  | 0 => 0
  | n + 1 => sv_nb g n + if 0 < g n then 1 else 0
theorem sv_nb.le {g : Int → Int} : ∀ n, sv_nb g n ≤ n := by
  intro n
  induction n with
  | zero => exact Nat.le_refl 0
  | succ n ih =>
    unfold sv_nb
    split <;> omega
theorem sv_nb.same {g g' : Int → Int} : ∀ n : Nat, (∀ k : Int, 0 ≤ k → k < n → g' k = g k) → sv_nb g' n = sv_nb g n := by
  intro n
  induction n with
  | zero => intro _; rfl
  | succ n ih =>
    intro h
    unfold sv_nb
    rw [ih (fun k k0 k1 => h k k0 (by omega)), h n (by omega) (by omega)]
theorem sv_nb.one {g g' : Int → Int} {u : Int} (u0 : 0 ≤ u) (hg : g u ≤ 0) (hg' : 0 < g' u) (he : ∀ k, k ≠ u → g' k = g k) : ∀ n : Nat, u < n → sv_nb g' n = sv_nb g n + 1 := by
  intro n
  induction n with
  | zero => intro h; omega
  | succ n ih =>
    intro h
    by_cases e : u = n
    · subst e
      unfold sv_nb
      rw [sv_nb.same n (fun k k0 k1 => he k (by omega)), if_pos hg', if_neg (by omega)]
    · have := ih (by omega)
      unfold sv_nb
      rw [this, he n (fun z => e z.symm)]
      omega
def sv_Rk (g : Int → Int) (U : Int) (ρ : Int → Nat) : Prop := ∀ k, ((0 ≤ k ∧ k < U ∧ 0 < g k) ∧ ρ k < sv_nb g U.toNat) ∨ (¬ (0 ≤ k ∧ k < U ∧ 0 < g k) ∧ ρ k = 0)
def sv_bn (g : Int → Int) (U k w : Int) : Int := if k < U ∧ 0 < g k then w else 0
def sv_bs (g : Int → Int) (U : Int) : Int := sv_bn g U 0 1 + sv_bn g U 1 2 + sv_bn g U 2 4 + sv_bn g U 3 8 + sv_bn g U 4 16 + sv_bn g U 5 32
theorem sv_Rk.six {g : Int → Int} {U : Int} {ρ : Int → Nat} (h : sv_Rk g U ρ) (U6 : U ≤ 6) (k : Int) : ρ k < 6 := by
  have := sv_nb.le (g := g) U.toNat
  rcases h k with h | h <;> omega
def sv_B (x m : az_Hp) (T s U : Int) (V : Int → Int → Prop) (ρ : Int → Nat) : Prop := rz_C x m T s ∧ (bz_VV V ∧ ∀ a b, V a b → a < 999999999) ∧ (qz_Env x m T s U V ρ ∧ ∀ k, ρ k < 6) ∧ sv_Gv x m T s V ∧ sv_Bd x m T s ∧ (∀ k, 0 ≤ k → k < U → 0 ≤ m.2 864 k) ∧ sv_Rk (m.2 864) U ρ ∧ x.2 380 6 = sv_bs (m.2 864) U
def sv_SX (a k : Int) : Prop := (191 ≤ a ∧ a ≤ 242) ∨ (a = 243 ∧ k ≠ 2 ∧ k ≠ 4) ∨ (244 ≤ a ∧ a ≤ 374) ∨ (a = 380 ∧ k ≠ 6) ∨ (383 ≤ a ∧ a ≤ 788)
def sv_SM (a k : Int) : Prop := (a = 804 ∧ k ≠ 15 ∧ k ≠ 85) ∨ (820 ≤ a ∧ a ≤ 834) ∨ (836 ≤ a ∧ a ≤ 847) ∨ (860 ≤ a ∧ a ≤ 862) ∨ (865 ≤ a ∧ a ≤ 867)
theorem gv_Row.weak {x m : az_Hp} {T s : Int} {V : Int → Int → Prop} {Q Q' : Int → Prop} {r A off sz : Int} (h : gv_Row x m T s V Q r A off sz) (hQ : ∀ q, Q q → Q' q) : gv_Row x m T s V Q' r A off sz := by
  obtain ⟨h1, h2, h3, h4, h5⟩ := h
  exact ⟨h1, h2, h3, fun i i0 i1 => ⟨(h4 i i0 i1).1, hQ _ (h4 i i0 i1).2⟩, h5⟩
theorem sv_cd {m m' : az_Hp} {T s U : Int} {V : Int → Int → Prop} (hT : T = 3 ∨ T = 82) (tS : bz_tS m m') : qz_Cd m' T s U V = qz_Cd m T s U V := by
  funext c q
  unfold qz_Cd
  rw [bz_ct_tS tS, bz_ft_tS tS, tS T 0 (by omega), tS T 1 (by omega)]
theorem qz_Row.cong {x m x' m' : az_Hp} {T s U : Int} {V : Int → Int → Prop} {r A off n : Int} (h : qz_Row x m T s U V r A off n) (hT : T = 3 ∨ T = 82) (tS : bz_tS m m') (hr : ∀ k, x'.2 r k = x.2 r k) (hr' : ∀ k, x'.2 (r + 1) k = x.2 (r + 1) k) (hA : ∀ i, 0 ≤ i → i < n → m'.2 A (off + i) = m.2 A (off + i)) (hl : az_ln m' A = az_ln m A) : qz_Row x' m' T s U V r A off n := by
  obtain ⟨h1, h2, h3, h4, h5, h6⟩ := h
  have k3 : bz_ra x' r = bz_ra x r := funext fun k => by unfold bz_ra; rw [hr']
  refine ⟨by unfold bz_rw at h1 ⊢; simp only [hr, hr']; exact h1, by rw [hr]; exact h2, h3, fun i i0 i1 => ?_, by rw [k3]; exact h5, by rw [hl]; exact h6⟩
  rw [sv_cd hT tS, hr', hA i i0 i1]
  exact h4 i i0 i1
section SV
variable {T s U : Int} {V : Int → Int → Prop} {ρ : Int → Nat}
theorem sv_tS {m m' : az_Hp} {S' : Int → Int → Prop} (hm : bz_Upd m m' S') (hs' : ∀ a k, S' a k → sv_SM a k) : bz_tS m m' := fun a k q => hm.2.2 a k (fun z => by have := hs' a k z; unfold sv_SM at this; omega)
theorem sv_B.upd {x m x' m' : az_Hp} {S S' : Int → Int → Prop} (h : sv_B x m T s U V ρ) (hx : bz_Upd x x' S) (hm : bz_Upd m m' S') (hs : ∀ a k, S a k → sv_SX a k) (hs' : ∀ a k, S' a k → sv_SM a k) : sv_B x' m' T s U V ρ := by
  obtain ⟨h1, h2, ⟨⟨e1, e2, e3, e4⟩, h4⟩, ⟨g1, ng, ⟨g2, g3, g4, g5⟩, g6⟩, h6, h7, h8, h9⟩ := h
  have hT := h1.1.2.2.1.1
  have tS := sv_tS hm hs'
  have X : ∀ a k, ¬ sv_SX a k → x'.2 a k = x.2 a k := fun a k q => hx.2.2 a k (fun z => q (hs a k z))
  have M : ∀ a k, ¬ sv_SM a k → m'.2 a k = m.2 a k := fun a k q => hm.2.2 a k (fun z => q (hs' a k z))
  have m864 : ∀ k, m'.2 864 k = m.2 864 k := fun k => M 864 k (by unfold sv_SM; omega)
  have f864 : m'.2 864 = m.2 864 := funext m864
  have m863 : ∀ k, m'.2 863 k = m.2 863 k := fun k => M 863 k (by unfold sv_SM; omega)
  refine ⟨yz_gC h1 hx hm (fun a k q => by have := hs a k q; unfold sv_SX at this; unfold nz_t; omega) (fun a k q => by have := hs' a k q; unfold sv_SM at this; unfold nz_t; omega), h2, ⟨⟨e1, fun y e k k0 k1 => ?_, fun k k0 k1 kp => ?_, fun k i u k0 k1 i0 i1 u0 q q' => ?_⟩, h4⟩, ⟨by rw [X 243 4 (by unfold sv_SX; omega)]; exact g1, ng, ⟨by rw [X 161 0 (by unfold sv_SX; omega)]; exact g2, by rw [M 804 85 (by unfold sv_SM; omega)]; exact g3, g4, g5⟩, fun g q0 q1 => ?_⟩, fun f f0 f1 mm hF tS' h15 => ?_, fun k k0 k1 => by rw [m864]; exact h7 k k0 k1, by rw [f864]; exact h8, by rw [f864, X 380 6 (by unfold sv_SX; omega)]; exact h9⟩
  · rw [m864]
    exact e2 y (by rw [e]; exact X 380 6 (by unfold sv_SX; omega)) k k0 k1
  · rw [m864] at kp ⊢
    exact (e3 k k0 k1 kp).cong hT tS (fun j => X _ _ (by unfold sv_SX; omega)) (fun j => X _ _ (by unfold sv_SX; omega)) (fun i _ _ => m863 _) (hm.ln _)
  · rw [m864] at i1
    rw [m863] at q
    rw [m864] at q'
    exact e4 k i u k0 k1 i0 i1 u0 q q'
  · obtain ⟨w1, w2⟩ := g6 g q0 q1
    rw [M 850 g (by unfold sv_SM; omega), M 851 g (by unfold sv_SM; omega)]
    exact ⟨w1.cong (fun k => X _ _ (by unfold sv_SX; omega)) (fun k => X _ _ (by unfold sv_SX; omega)) (fun k => M _ _ (by unfold sv_SM; omega)) (gv_rl hT tS), w2.cong (fun k => X _ _ (by unfold sv_SX; omega)) (fun k => X _ _ (by unfold sv_SX; omega)) (fun k => M _ _ (by unfold sv_SM; omega)) (gv_rl hT tS)⟩
  · rw [X T 1 (by unfold sv_SX; omega)] at f1
    rw [X (T + 12) f (by unfold sv_SX; omega)]
    exact h6 f f0 f1 mm hF (fun a k q => (tS' a k q).trans (tS a k q)) h15
def sv_X1 (a k : Int) : Prop := qz_SX 244 a k ∨ yz_RX a k
def sv_M1 (a k : Int) : Prop := (a = 804 ∧ k = 72) ∨ yz_next a k ∨ yz_RM a k
theorem sv_X1s {a k : Int} (h : sv_X1 a k) : sv_SX a k := by
  unfold sv_X1 qz_SX yz_RX yz_TX sz_TY sz_TX rz_TX cz_SJ sz_S yz_S at h
  unfold sv_SX
  omega
theorem sv_M1s {a k : Int} (h : sv_M1 a k) : (a = 804 ∧ ((42 ≤ k ∧ k ≤ 53) ∨ (70 ≤ k ∧ k ≤ 78))) ∨ (820 ≤ a ∧ a ≤ 834) ∨ (836 ≤ a ∧ a ≤ 847) := by
  unfold sv_M1 yz_RM yz_TM sz_TM rz_TM cz_SM yz_WM yz_F yz_next yz_past at h
  omega
def sv_fail (x x' : az_Hp) (r : Int) : Prop := fz_X8_expand 2000000 x 380 r 244 = some (0, x') ∨ ∃ x1 w, fz_X8_expand 2000000 x 380 r 244 = some (1, x1) ∧ fz_X5_reduceAll 2000000 x1 243 0 = some (w, x') ∧ w ≠ 0
theorem sv_side {x m : az_Hp} {r p sd n : Int} (h : sv_B x m T s U V ρ) (hr : qz_Row x m T s U V r 860 (60 * (2 * p + sd)) n) (rb : 389 ≤ r ∧ r ≤ 788) (p0 : 0 ≤ p) (p1 : p < 204) (sd0 : 0 ≤ sd) (sd1 : sd < 2) (hsz : m.2 861 (2 * p + sd) = n) :
    (∃ x' m', sv_fail x x' r ∧ fz_X11_reducesSide 2000000 m 804 p sd = some (0, m') ∧ bz_Upd x x' sv_X1 ∧ bz_Upd m m' sv_M1) ∨
    (∃ x1 x' m' n', fz_X8_expand 2000000 x 380 r 244 = some (1, x1) ∧ fz_X5_reduceAll 2000000 x1 243 0 = some (0, x') ∧ fz_X11_reducesSide 2000000 m 804 p sd = some (1, m') ∧ rz_R x' m' T s V 244 840 n' ∧ (∀ i, 0 ≤ i → i < n' → sv_Q m U (m'.2 840 i)) ∧ m'.2 804 70 = n' ∧ bz_Upd x x' sv_X1 ∧ bz_Upd m m' sv_M1) := by
  obtain ⟨m1, hm1⟩ : ∃ m1, m1 = az_wr m 804 72 1 := ⟨_, rfl⟩
  have u1 : bz_Upd m m1 (fun a k => a = 804 ∧ k = 72) := by rw [hm1]; exact bz_Upd.wr bz_Upd.refl ⟨rfl, rfl⟩ (by decide)
  have B1 : sv_B x m1 T s U V ρ := h.upd (bz_Upd.refl (S := fun _ _ => False)) u1 (fun a k z => z.elim) (fun a k z => by unfold sv_SM; omega)
  have hT := h.1.1.2.2.1.1
  have hM1 := B1.1.1.2.1
  have e1 : ∀ a k, a ≠ 804 → m1.2 a k = m.2 a k := fun a k q => u1.2.2 a k (fun z => q z.1)
  have tS1 : bz_tS m m1 := fun a k q => u1.2.2 a k (fun z => by omega)
  have hr1 : qz_Row x m1 T s U V r 860 (60 * (2 * p + sd)) n := hr.cong hT tS1 (fun _ => rfl) (fun _ => rfl) (fun i _ _ => e1 _ _ (by omega)) (u1.ln _)
  have l861 := ln_861 hM1
  have w1 : az_w32 (2 * p) = 2 * p := az_w32_id (by omega) (by omega)
  have w2 : az_w32 (2 * p + sd) = 2 * p + sd := az_w32_id (by omega) (by omega)
  have w3 : az_w32 (60 * (2 * p + sd)) = 60 * (2 * p + sd) := az_w32_id (by omega) (by omega)
  have run : fz_X11_reducesSide 2000000 m 804 p sd = ((fz_X11_expands 2000000 m1 804 860 (60 * (2 * p + sd)) n).bind fun r4 => (if r4.1 = 0 then (some (0, r4.2)) else ((fz_X11_reduces 2000000 r4.2 804 0).bind fun r5 => (if r5.1 = 0 then (some (1, r5.2)) else (some (0, r5.2)))))) := by
    unfold fz_X11_reducesSide
    rw [← hm1, fx_804_102 hM1, Option.bind_some, fx_804_103 hM1, Option.bind_some, w1, w2, bz_ard (by omega) (by omega), Option.bind_some, e1 861 _ (by omega), hsz, w3]
  rw [run]
  rcases qz_expand (t := 244) B1.1.1.1 hM1 B1.1.1.tb.2.1 B1.2.1.1 B1.2.2.1.1 B1.2.2.1.2 (by decide) (by decide) hr1 (by omega) with ⟨x', m', i1, i2, i3, i4⟩ | ⟨x1, m2, sz, i1, i2, i3, i4, i5, i6, i7⟩
  · refine Or.inl ⟨x', m', Or.inl i1, by rw [i2, Option.bind_some, if_pos rfl], i3.weak fun _ _ z => Or.inl z, (u1.weak fun _ _ z => Or.inl z).trans (i4.weak fun _ _ z => Or.inr (Or.inl z))⟩
  · have B2 : sv_B x1 m2 T s U V ρ := B1.upd (i3.weak (S' := sv_X1) fun _ _ z => Or.inl z) i4 (fun a k z => sv_X1s z) (fun a k z => by unfold yz_next at z; unfold sv_SM; omega)
    have tS2 : bz_tS m1 m2 := fun a k q => i4.2.2 a k (fun z => by unfold yz_next at z; omega)
    obtain ⟨t1, t2, t3, t4⟩ := i5
    have cd : ∀ i, 0 ≤ i → i < sz → qz_Cd m2 T s U V (x1.2 (244 + 1) i) (m2.2 840 i) ∧ (2000 ≤ m2.2 840 i → m.2 864 (m2.2 840 i - 2000) ≤ 0) := fun i i0 i1 => by
      rw [sv_cd hT tS2]
      have := t4 i i0 i1
      rw [e1 864 _ (by omega)] at this
      exact this
    have l840 := ln_840 B2.1.1.2.1
    have c244 : bz_cap 244 = 60 := by decide
    have R2 : rz_R x1 m2 T s V 244 840 sz := ⟨⟨by omega, by omega, by omega, fun i i0 i1 => (cd i i0 (by omega)).1.1.I B2.1.1.tb.2.1 B2.2.1.1⟩, t1, ⟨i6, t3.2⟩, fun i i0 i1 => (cd i i0 i1).1.1, i7, ⟨by omega, by omega, by omega⟩, B2.2.1.1, B2.2.1.2⟩
    have e72 : m2.2 804 72 = 1 := by rw [i4.2.2 804 72 (fun z => by unfold yz_next at z; omega), hm1, az_wr_same]
    have G2 : gv_R x1 m2 T s V (sv_Q m U) := by
      obtain ⟨g1, ng, g2, g3⟩ := B2.2.2.2.1
      exact ⟨g1, e72, ng, g2, fun g q0 q1 => ⟨(g3 g q0 q1).1.weak fun q hq z => by omega, (g3 g q0 q1).2.weak fun q hq z => by omega⟩⟩
    have I2 : gv_I x1 m2 T s V (sv_Q m U) sz := ⟨⟨B2.1, R2, G2, trivial, t2⟩, fun q hq z => by omega, fun i i0 i1 z => ⟨(cd i i0 i1).1.2 z, (cd i i0 i1).2 z⟩⟩
    obtain ⟨w, x', m', n', r1, r2, r3, r4, r5, r6, -, -⟩ := gv_reduce (o := 0) (Or.inl rfl) I2
    have ux : bz_Upd x x' sv_X1 := (i3.weak fun _ _ z => Or.inl z).trans (r3.weak fun _ _ z => Or.inr z)
    have um : bz_Upd m m' sv_M1 := ((u1.weak fun _ _ z => Or.inl z).trans (i4.weak fun _ _ z => Or.inr (Or.inl z))).trans (r4.weak fun _ _ z => Or.inr (Or.inr z))
    by_cases e : w = 0
    · subst e
      exact Or.inr ⟨x1, x', m', n', i1, r1, by rw [i2, Option.bind_some, if_neg (show ¬ (1 : Int) = 0 by decide), r2, Option.bind_some, if_pos rfl], r5.1.2.1, r5.2.2, r5.1.2.2.2.2, ux, um⟩
    · exact Or.inl ⟨x', m', Or.inr ⟨x1, w, i1, r1, e⟩, by rw [i2, Option.bind_some, if_neg (show ¬ (1 : Int) = 0 by decide), r2, Option.bind_some, if_neg e], ux, um⟩
end SV
