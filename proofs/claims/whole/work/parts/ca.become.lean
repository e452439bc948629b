/-! an UNKNOWN becomes something: become = unknownBy -/
theorem sv_cap {r : Int} (h : 389 ≤ r ∧ r ≤ 799) (o : r % 2 = 1) : bz_cap r = 60 := by
  unfold bz_cap
  rw [if_neg (by omega), if_neg (by omega), if_neg (by omega), if_neg (by omega), if_neg (by omega), if_pos (by omega)]
theorem sv_Gv.gen {x m x' m' : az_Hp} {T s : Int} {V : Int → Int → Prop} (h : sv_Gv x m T s V) (hT : T = 3 ∨ T = 82) (tS : bz_tS m m') (X : ∀ a k, (a = 243 ∧ k = 4) ∨ (161 ≤ a ∧ a ≤ 190) → x'.2 a k = x.2 a k) (M : ∀ a k, (a = 804 ∧ k = 85) ∨ (848 ≤ a ∧ a ≤ 851) → m'.2 a k = m.2 a k) : sv_Gv x' m' T s V := by
  obtain ⟨g1, ng, ⟨g2, g3, g4, g5⟩, g6⟩ := h
  refine ⟨by rw [X 243 4 (by omega)]; exact g1, ng, ⟨by rw [X 161 0 (by omega)]; exact g2, by rw [M 804 85 (by omega)]; exact g3, g4, g5⟩, fun g q0 q1 => ?_⟩
  obtain ⟨w1, w2⟩ := g6 g q0 q1
  rw [M 850 g (by omega), M 851 g (by omega)]
  exact ⟨w1.cong (fun k => X _ _ (by omega)) (fun k => X _ _ (by omega)) (fun k => M _ _ (by omega)) (gv_rl hT tS), w2.cong (fun k => X _ _ (by omega)) (fun k => X _ _ (by omega)) (fun k => M _ _ (by omega)) (gv_rl hT tS)⟩
theorem sv_Bd.gen {x m x' m' : az_Hp} {T s : Int} (h : sv_Bd x m T s) (tS : bz_tS m m') (X1 : x'.2 T 1 = x.2 T 1) (X2 : ∀ k, x'.2 (T + 12) k = x.2 (T + 12) k) : sv_Bd x' m' T s := by
  intro f f0 f1 mm hF tS' h15
  rw [X1] at f1
  rw [X2]
  exact h f f0 f1 mm hF (fun a k q => (tS' a k q).trans (tS a k q)) h15
section SB
variable {T s U : Int} {V : Int → Int → Prop} {ρ : Int → Nat}
theorem sv_ukL {m : az_Hp} {A n u : Int} (hM : bz_Fx m) (u0 : 0 ≤ u) (u6 : u < 6) (hl : n ≤ az_ln m A) (n60 : n ≤ 60) (hA : A ≠ 863) : ∀ (d k : Nat) (τ : az_Hp) (j : Int), d < k → 0 ≤ j → j + d = n → bz_Upd m τ (fun a k => a = 863 ∧ 60 * u ≤ k ∧ k < 60 * u + n) → (∀ i, 0 ≤ i → i < j → τ.2 863 (60 * u + i) = m.2 A i) → ∃ τ', fz_X11_unknownBy_23 2000000 k τ 804 (2000 + u) A n j = some (0, τ') ∧ bz_Upd m τ' (fun a k => a = 863 ∧ 60 * u ≤ k ∧ k < 60 * u + n) ∧ ∀ i, 0 ≤ i → i < n → τ'.2 863 (60 * u + i) = m.2 A i := by
  intro d
  induction d with
  | zero =>
    intro k τ j hk j0 hj ut h
    obtain ⟨k, rfl⟩ : ∃ k', k = k' + 1 := ⟨k - 1, by omega⟩
    refine ⟨τ, ?_, ut, fun i i0 i1 => h i i0 (by omega)⟩
    unfold fz_X11_unknownBy_23
    rw [if_neg (by omega)]
  | succ d ih =>
    intro k τ j hk j0 hj ut h
    obtain ⟨k, rfl⟩ : ∃ k', k = k' + 1 := ⟨k - 1, by omega⟩
    have hF := hM.upd ut
    have l863 := ln_863 hF
    have eA : τ.2 A j = m.2 A j := ut.2.2 _ _ (fun z => hA z.1)
    have rd : az_ard τ A j = some (m.2 A j) := by rw [bz_ard j0 (by rw [ut.ln]; omega), eA]
    have u1 : bz_Upd m (az_wr τ 863 (60 * u + j) (m.2 A j)) (fun a k => a = 863 ∧ 60 * u ≤ k ∧ k < 60 * u + n) := bz_Upd.wr ut ⟨rfl, by omega, by omega⟩ (by unfold bz_isFix; simp [bz_cap, bz_fixL, bz_rowsL])
    obtain ⟨τ', t1, t2, t3⟩ := ih k (az_wr τ 863 (60 * u + j) (m.2 A j)) (j + 1) (by omega) (by omega) (by omega) u1 (fun i i0 i1 => by
      by_cases e : i = j
      · rw [e, az_wr_same]
      · rw [az_wr_ne (by omega)]; exact h i i0 (by omega))
    refine ⟨τ', ?_, t2, t3⟩
    rw [← t1]
    conv => lhs; unfold fz_X11_unknownBy_23
    rw [if_pos (by omega), fx_804_105 hF, Option.bind_some, rd, Option.bind_some, az_w32_id (z := 2000 + u - 2000) (by omega) (by omega), show 2000 + u - 2000 = u by omega, az_w32_id (z := 60 * u) (by omega) (by omega), az_w32_id (z := 60 * u + j) (by omega) (by omega), bz_awr (by omega) (by omega), Option.bind_some, az_w32_id (z := j + 1) (by omega) (by omega)]
def sv_XU (u a k : Int) : Prop := yz_S (789 + 2 * u) a k ∨ (a = 380 ∧ k = 6)
def sv_MU (u n a k : Int) : Prop := (a = 864 ∧ k = u) ∨ (a = 863 ∧ 60 * u ≤ k ∧ k < 60 * u + n)
/-- the values when one more is something -/
theorem sv_grow {x m x' m' : az_Hp} {r A n u : Int} (h : sv_B x m T s U V ρ) (hR : rz_R x m T s V r A n) (hQ : ∀ i, 0 ≤ i → i < n → sv_Q m U (m.2 A i)) (u0 : 0 ≤ u) (uU : u < U) (ub : m.2 864 u ≤ 0) (hno : ∀ i, 0 ≤ i → i < n → m.2 A i ≠ 2000 + u) (ux : bz_Upd x x' (sv_XU u)) (um : bz_Upd m m' (sv_MU u n)) (v1 : x'.2 (789 + 2 * u) 1 = n) (v2 : ∀ i, 0 ≤ i → i < n → x'.2 (789 + 2 * u + 1) i = x.2 (r + 1) i) (v3 : ∀ i, 0 ≤ i → i < n → m'.2 863 (60 * u + i) = m.2 A i) (v4 : m'.2 864 u = n) (v5 : x'.2 380 6 = az_iorV (x.2 380 6) (az_ishlV 1 u)) : ∃ ρ', sv_B x' m' T s U V ρ' := by
  obtain ⟨h1, h2, ⟨⟨e1, e2, e3, e4⟩, h4⟩, hg, hb, h7, h8, h9⟩ := h
  obtain ⟨a1, a2, a3, a4, a5, a6, a7, a8⟩ := hR
  have hT := h1.1.2.2.1.1
  have X : ∀ a k, ¬ sv_XU u a k → x'.2 a k = x.2 a k := fun a k q => ux.2.2 a k q
  have M : ∀ a k, ¬ sv_MU u n a k → m'.2 a k = m.2 a k := fun a k q => um.2.2 a k q
  have tS : bz_tS m m' := fun a k q => M a k (by unfold sv_MU; omega)
  have C' : rz_C x' m' T s := yz_gC h1 ux um (fun a k q => by unfold sv_XU yz_S at q; unfold nz_t; omega) (fun a k q => by unfold sv_MU at q; unfold nz_t; omega)
  have g0 : ∀ k, k ≠ u → m'.2 864 k = m.2 864 k := fun k q => M 864 k (by unfold sv_MU; omega)
  have bits : x'.2 380 6 = sv_bs (m'.2 864) U := by
    rw [v5, h9]
    exact sv_bsone u0 (by omega) uU ub (by omega) g0
  have nb := sv_nb.one u0 ub (show 0 < m'.2 864 u by omega) g0 U.toNat (by omega)
  have nbl := sv_nb.le (g := m'.2 864) U.toNat
  have Rk : sv_Rk (m'.2 864) U (fun k => if k = u then 0 else if 0 ≤ k ∧ k < U ∧ 0 < m.2 864 k then ρ k + 1 else 0) := by
    intro k
    by_cases e : k = u
    · left
      subst e
      refine ⟨⟨u0, uU, by omega⟩, ?_⟩
      simp only [if_true]
      omega
    · simp only [if_neg e]
      rw [g0 k e]
      rcases h8 k with ⟨q1, q2⟩ | ⟨q1, q2⟩
      · rw [if_pos q1]
        exact Or.inl ⟨q1, by omega⟩
      · rw [if_neg q1]
        exact Or.inr ⟨q1, rfl⟩
  refine ⟨fun k => if k = u then 0 else if 0 ≤ k ∧ k < U ∧ 0 < m.2 864 k then ρ k + 1 else 0, C', h2, ⟨⟨e1, fun y e k k0 k1 => sv_isB (e.trans bits) k0 (by omega) k1, fun k k0 k1 kp => ?_, fun k i w k0 k1 i0 i1 w0 q q' => ?_⟩, Rk.six e1.2⟩, hg.gen hT tS (fun a k q => X a k (by unfold sv_XU yz_S; omega)) (fun a k q => M a k (by unfold sv_MU; omega)), hb.gen tS (X _ _ (by unfold sv_XU yz_S; omega)) (fun k => X _ _ (by unfold sv_XU yz_S; omega)), fun k k0 k1 => ?_, Rk, bits⟩
  · by_cases e : k = u
    · subst e
      rw [v4]
      have cap := sv_cap (r := 789 + 2 * k) (by omega) (by omega)
      have l863 := ln_863 C'.1.2.1
      have cd : ∀ i, 0 ≤ i → i < n → qz_Cd m' T s U V (x'.2 (789 + 2 * k + 1) i) (m'.2 863 (60 * k + i)) := fun i i0 i1 => by
        rw [sv_cd hT tS, v2 i i0 i1, v3 i i0 i1]
        exact ⟨a4 i i0 i1, fun z => (hQ i i0 i1 z).1⟩
      refine ⟨⟨by omega, by omega, by omega, fun i i0 i1 => (cd i i0 (by omega)).1.I C'.1.tb.2.1 a7⟩, v1, a3, cd, ?_, ⟨by omega, by omega, by omega, by decide, by decide⟩⟩
      refine a5.cong (fun j j0 j1 => ?_)
      unfold bz_ra
      rw [v2 j j0 (by omega)]
    · rw [g0 k e] at kp ⊢
      have row := e3 k k0 k1 kp
      have n60 := row.2.2.1
      exact row.cong hT tS (fun j => X _ _ (by unfold sv_XU yz_S; omega)) (fun j => X _ _ (by unfold sv_XU yz_S; omega)) (fun i i0 i1 => M _ _ (by unfold sv_MU; omega)) (um.ln _)
  · by_cases e : k = u
    · exfalso
      subst e
      rw [v4] at i1
      rw [v3 i i0 i1] at q
      have := hQ i i0 i1 (by omega)
      have nu := hno i i0 i1
      have wk : w ≠ k := fun z => nu (by omega)
      rw [g0 w wk] at q'
      rw [show m.2 A i - 2000 = w by omega] at this
      omega
    · rw [g0 k e] at i1
      have row := e3 k k0 k1 (by omega)
      have n60 := row.2.2.1
      have cU := (row.2.2.2.1 i i0 i1).2
      rw [M 863 (60 * k + i) (by unfold sv_MU; omega)] at q
      simp only [if_neg e, if_pos (show 0 ≤ k ∧ k < U ∧ 0 < m.2 864 k by omega)]
      by_cases ew : w = u
      · rw [if_pos ew]; omega
      · rw [if_neg ew]
        rw [g0 w ew] at q'
        have := e4 k i w k0 k1 i0 i1 w0 q q'
        split <;> omega
  · by_cases e : k = u
    · rw [e, v4]; omega
    · rw [g0 k e]; exact h7 k k0 k1
theorem sv_become {x m : az_Hp} {r A n u : Int} (h : sv_B x m T s U V ρ) (hR : rz_R x m T s V r A n) (hQ : ∀ i, 0 ≤ i → i < n → sv_Q m U (m.2 A i)) (rb : 389 ≤ r ∧ r ≤ 788) (hA : A = 866 ∨ A = 867) (u0 : 0 ≤ u) (uU : u < U) (ub : m.2 864 u ≤ 0) :
    (∃ v, (v = 0 ∨ v = 2) ∧ fz_X8_become 2000000 x 380 (u * 16 + 3) r = some (v, x) ∧ fz_X11_unknownBy 2000000 m 804 (2000 + u) A n = some (if v = 0 then -1 else 2, m)) ∨
    (∃ x' m' ρ', fz_X8_become 2000000 x 380 (u * 16 + 3) r = some (4, x') ∧ fz_X11_unknownBy 2000000 m 804 (2000 + u) A n = some (0, m') ∧ sv_B x' m' T s U V ρ' ∧ bz_Upd x x' (sv_XU u) ∧ bz_Upd m m' (sv_MU u n)) := by
  have hH := h.1.1
  have U6 := h.2.2.1.1.1.2
  have hcq : bz_cr (bz_ct m s) (bz_ft m s) (m.2 T 0) (m.2 T 1) V (u * 16 + 3) (2000 + u) := Or.inr (Or.inr (Or.inr ⟨by omega, by omega, by omega⟩))
  obtain ⟨w, hh, w0, h0, w1, h1, wh, hno⟩ := sv_has hH hR hcq
  have hI := hcq.I hH.tb.2.1 hR.2.2.2.2.2.2.1
  have n60 := hR.2.2.1
  by_cases e : hh = 1
  · left
    obtain ⟨q, q0, q1, q2⟩ := sv_out hH hR hcq
    refine ⟨if q = 0 then 0 else 2, ?_, ?_, ?_⟩
    · split
      · exact Or.inl rfl
      · exact Or.inr rfl
    · unfold fz_X8_become
      rw [hR.2.1, w1, Option.bind_some, if_pos (wh.mpr e), q1, Option.bind_some]
      by_cases c : q = 0
      · rw [if_pos c, if_pos c]
      · rw [if_neg c, if_neg c]
    · unfold fz_X11_unknownBy
      rw [h1, Option.bind_some, if_neg (by omega), q2, Option.bind_some]
      by_cases c : q = 0
      · rw [if_pos c, if_pos c, if_pos rfl]
      · rw [if_neg c, if_neg c, if_neg (by decide)]
  · right
    have hh0 : hh = 0 := by omega
    have hX := hH.1
    have hM := hH.2.1
    have nr : bz_nr (u * 16 + 3) = u := by unfold bz_nr; rw [if_neg (by omega)]; omega
    have cap := sv_cap (r := 789 + 2 * u) (by omega) (by omega)
    have hR0 := hR
    obtain ⟨a1, a2, a3, a4, a5, a6, a7, a8⟩ := hR
    have cr := a1.2.2.1
    obtain ⟨x1, t1, t2, t3, t4⟩ := yz_take (σ := x) (r := 789 + 2 * u) (q := r) hX (by omega) a1.1 (by omega) (by omega) (by omega) (by omega)
    rw [a2] at t3 t4
    have e6 : x1.2 380 6 = x.2 380 6 := t2.2.2 _ _ (fun z => by unfold yz_S at z; omega)
    have ux : bz_Upd x (az_wr x1 380 6 (az_iorV (x.2 380 6) (az_ishlV 1 u))) (sv_XU u) := bz_Upd.wr (t2.weak fun _ _ z => Or.inl z) (Or.inr ⟨rfl, rfl⟩) (by decide)
    have um1 : bz_Upd m (az_wr m 864 u n) (fun a k => a = 864 ∧ k = u) := bz_Upd.wr bz_Upd.refl ⟨rfl, rfl⟩ (by unfold bz_isFix; simp [bz_cap, bz_fixL, bz_rowsL])
    have hM1 := hM.upd um1
    obtain ⟨m', k1, k2, k3⟩ := sv_ukL (A := A) (n := n) hM1 u0 (by omega) (by rw [um1.ln]; exact a6.1) a3.2 (by omega) n.toNat 2000000 (az_wr m 864 u n) 0 (by omega) (by omega) (by omega) bz_Upd.refl (fun i i0 i1 => by omega)
    have um : bz_Upd m m' (sv_MU u n) := (um1.weak fun _ _ z => Or.inl z).trans (k2.weak fun _ _ z => Or.inr z)
    have k4 : m'.2 864 u = n := by rw [k2.2.2 864 u (fun z => by omega), az_wr_same]
    have k5 : ∀ i, 0 ≤ i → i < n → m'.2 863 (60 * u + i) = m.2 A i := fun i i0 i1 => by rw [k3 i i0 i1, az_wr_ne (by omega)]
    obtain ⟨ρ', B'⟩ := sv_grow h hR0 hQ u0 uU ub (hno hh0) ux um (by rw [az_wr_ne (by omega)]; exact t3) (fun i i0 i1 => by rw [az_wr_ne (by omega)]; exact t4 i i0 i1) k5 k4 az_wr_same
    obtain ⟨lA, vA⟩ := bz_fxA hX (show ((382 : Int), (6 : Int), (789 : Int), (2 : Int)) ∈ bz_rowsL by decide)
    have a382 : az_arr x 382 u = some (789 + 2 * u) := by
      unfold az_arr
      rw [vA u (by omega) (by omega), if_pos ⟨⟨by omega, by omega⟩, by omega⟩]
    refine ⟨_, m', ρ', ?_, ?_, B', ux, um⟩
    · unfold fz_X8_become
      rw [a2, w1, Option.bind_some, if_neg (fun z => e (wh.mp z)), bz_number hI, Option.bind_some, nr, if_pos (by omega), fx_380_8 hX, Option.bind_some, a382, Option.bind_some, t1, Option.bind_some, e6]
    · unfold fz_X11_unknownBy
      rw [h1, Option.bind_some, if_pos hh0, fx_804_106 hM, Option.bind_some, az_w32_id (z := 2000 + u - 2000) (by omega) (by omega), show 2000 + u - 2000 = u by omega, bz_awr u0 (by rw [ln_864 hM]; omega), Option.bind_some]
      exact k1
end SB
