/-! the list of EQUALITIES -/
def sv_cnt (g : Int → Int) : Nat → Int
  | 0 => 0
  | n + 1 => sv_cnt g n + if g n = 0 then 1 else 0
theorem sv_cnt.bd {g : Int → Int} : ∀ n : Nat, 0 ≤ sv_cnt g n ∧ sv_cnt g n ≤ n := by
  intro n
  induction n with
  | zero => unfold sv_cnt; omega
  | succ n ih => unfold sv_cnt; split <;> omega
theorem sv_cnt.same {g g' : Int → Int} : ∀ n : Nat, (∀ k : Int, 0 ≤ k → k < n → g' k = g k) → sv_cnt g' n = sv_cnt g n := by
  intro n
  induction n with
  | zero => intro _; rfl
  | succ n ih =>
    intro h
    unfold sv_cnt
    rw [ih (fun k k0 k1 => h k k0 (by omega)), h n (by omega) (by omega)]
/-- a run of such as have not gone -/
theorem sv_cnt.run {g : Int → Int} {a : Nat} : ∀ d : Nat, (∀ k : Int, a ≤ k → k < a + d → g k = 0) → sv_cnt g (a + d) = sv_cnt g a + d := by
  intro d
  induction d with
  | zero => intro _; simp
  | succ d ih =>
    intro h
    have := ih (fun k k0 k1 => h k k0 (by push_cast; omega))
    rw [show a + (d + 1) = (a + d) + 1 by omega]
    have st : sv_cnt g (a + d + 1) = sv_cnt g (a + d) + if g ((a + d : Nat) : Int) = 0 then 1 else 0 := rfl
    rw [st, this, if_pos (h _ (by omega) (by push_cast; omega))]
    push_cast
    omega
theorem sv_cnt.mono {g : Int → Int} {a b : Nat} (h : a ≤ b) : sv_cnt g a ≤ sv_cnt g b := by
  obtain ⟨d, rfl⟩ : ∃ d, b = a + d := ⟨b - a, by omega⟩
  clear h
  induction d with
  | zero => exact Int.le_refl _
  | succ d ih =>
    rw [show a + (d + 1) = (a + d) + 1 by omega]
    have : sv_cnt g (a + d + 1) = sv_cnt g (a + d) + if g ((a + d : Nat) : Int) = 0 then 1 else 0 := rfl
    rw [this]
    split <;> omega
theorem sv_cnt.lt {g : Int → Int} {a b : Nat} (h : a < b) (ha : g a = 0) : sv_cnt g a < sv_cnt g b := by
  have h1 : sv_cnt g (a + 1) = sv_cnt g a + if g (a : Int) = 0 then 1 else 0 := rfl
  rw [if_pos ha] at h1
  have h2 := sv_cnt.mono (g := g) (a := a + 1) (b := b) (by omega)
  omega
theorem sv_lenL {m : az_Hp} {M : Int} (hM : bz_Fx m) (h108 : m.2 804 108 = M) (M2 : M ≤ 204) : ∀ (d k : Nat) (j : Nat), d < k → (j : Int) + d = M → fz_X11_length_4 2000000 k m 804 (sv_cnt (m.2 865) j) j = some (sv_cnt (m.2 865) M.toNat) := by
  intro d
  induction d with
  | zero =>
    intro k j hk hj
    obtain ⟨k, rfl⟩ : ∃ k', k = k' + 1 := ⟨k - 1, by omega⟩
    unfold fz_X11_length_4
    rw [if_neg (by omega), show M.toNat = j by omega]
  | succ d ih =>
    intro k j hk hj
    obtain ⟨k, rfl⟩ : ∃ k', k = k' + 1 := ⟨k - 1, by omega⟩
    have l865 := ln_865 hM
    have b := sv_cnt.bd (g := m.2 865) j
    have c1 : sv_cnt (m.2 865) (j + 1) = sv_cnt (m.2 865) j + if m.2 865 (j : Int) = 0 then 1 else 0 := rfl
    have := ih k (j + 1) (by omega) (by push_cast; omega)
    rw [← this]
    conv => lhs; unfold fz_X11_length_4
    rw [if_pos (by omega), fx_804_107 hM, Option.bind_some, bz_ard (by omega) (by omega), Option.bind_some]
    have wj : az_w32 ((j : Int) + 1) = ((j + 1 : Nat) : Int) := by rw [az_w32_id (by omega) (by omega)]; push_cast; rfl
    by_cases e : m.2 865 (j : Int) = 0
    · rw [if_pos e] at c1 ⊢
      rw [wj, az_w32_id (by omega) (by omega), c1]
    · rw [if_neg e] at c1 ⊢
      rw [wj, az_w32_id (by omega) (by omega), c1]
theorem sv_len {m : az_Hp} {M : Int} (hM : bz_Fx m) (h108 : m.2 804 108 = M) (M0 : 0 ≤ M) (M2 : M ≤ 204) : fz_X11_length 2000000 m 804 = some (sv_cnt (m.2 865) M.toNat) := by
  have := sv_lenL hM h108 M2 M.toNat 2000000 0 (by omega) (by omega)
  exact this
/-- a part of a row is taken -/
theorem sv_takePart {x : az_Hp} {t q a : Int} {z : Nat} (hF : bz_Fx x) (ht : 0 < bz_cap t) (hq : bz_rw x q) (hne : t ≠ q) (a0 : 0 ≤ a) (a1 : a + z ≤ x.2 q 1) (ct : x.2 q 1 ≤ bz_cap t) (hS : bz_Sc (bz_ra x q) z 1 a) : ∃ x', fz_X7_takePart 2000000 x t q a = some x' ∧ bz_Upd x x' (yz_S t) ∧ x'.2 t 1 = z ∧ ∀ i, 0 ≤ i → i < (z : Int) → x'.2 (t + 1) i = x.2 (q + 1) (a + i) := by
  have u0 : bz_Upd x (az_wr x t 1 0) (yz_S t) := bz_Upd.wr bz_Upd.refl (Or.inl ⟨rfl, rfl⟩) (yz_free ht).1
  have hF0 := hF.upd u0
  have od := yz_odd ht hq.1
  have od' := yz_odd hq.1 ht
  have eq : ∀ k, (az_wr x t 1 0).2 q k = x.2 q k := fun k => az_wr_ne (by omega)
  have eq1 : ∀ k, (az_wr x t 1 0).2 (q + 1) k = x.2 (q + 1) k := fun k => az_wr_ne (by omega)
  have k3 : bz_ra (az_wr x t 1 0) q = bz_ra x q := funext fun k => by unfold bz_ra; rw [eq1]
  have hq0 : bz_rw (az_wr x t 1 0) q := by unfold bz_rw at hq ⊢; simp only [eq, eq1]; exact hq
  have en := bz_end (r := q) (i := a) (d := z) hF0 hq0 a0 (by rw [eq]; exact a1) (by rw [k3]; exact hS)
  have cq := hq.2.2.1
  have e0 : (az_wr x t 1 0).2 t 1 = 0 := az_wr_same
  obtain ⟨x', x1, x2, x3, -, x5⟩ := (yz_addPart (r := t) (q := q) (a := a) (b := a + z) hF0 ht hq.1 hne (by omega) (by omega) (by rw [eq]; exact cq) a0 (by omega) (by rw [eq]; exact a1)).1 (by omega)
  refine ⟨x', ?_, u0.trans x2, by rw [x3, e0]; omega, fun i i0 i1 => ?_⟩
  · unfold fz_X7_takePart
    rw [en, Option.bind_some, x1, Option.bind_some]
  · have := x5 i i0 (by omega)
    rw [e0, Int.zero_add, eq1] at this
    exact this
/-- a side is put into the list -/
def sv_PS (p sd z a k : Int) : Prop := (a = 861 ∧ k = 2 * p + sd) ∨ (a = 860 ∧ 60 * (2 * p + sd) ≤ k ∧ k < 60 * (2 * p + sd) + z)
theorem sv_putL {m : az_Hp} {p sd A v z : Int} (hM : bz_Fx m) (p0 : 0 ≤ p) (p1 : p < 204) (s0 : 0 ≤ sd) (s1 : sd < 2) (hA : A = 866 ∨ A = 867) (v0 : 0 ≤ v) (v1 : v + z ≤ 64) (z60 : z ≤ 60) : ∀ (d k : Nat) (τ : az_Hp) (j : Int), d < k → 0 ≤ j → j + d = z → bz_Upd m τ (sv_PS p sd z) → (∀ i, 0 ≤ i → i < j → τ.2 860 (60 * (2 * p + sd) + i) = m.2 A (v + i)) → ∃ τ', fz_X11_putsSide_15 2000000 k τ 804 p sd A v z j = some τ' ∧ bz_Upd m τ' (sv_PS p sd z) ∧ τ'.2 861 (2 * p + sd) = τ.2 861 (2 * p + sd) ∧ ∀ i, 0 ≤ i → i < z → τ'.2 860 (60 * (2 * p + sd) + i) = m.2 A (v + i) := by
  intro d
  induction d with
  | zero =>
    intro k τ j hk j0 hj ut h
    obtain ⟨k, rfl⟩ : ∃ k', k = k' + 1 := ⟨k - 1, by omega⟩
    refine ⟨τ, ?_, ut, rfl, fun i i0 i1 => h i i0 (by omega)⟩
    unfold fz_X11_putsSide_15
    rw [if_neg (by omega)]
  | succ d ih =>
    intro k τ j hk j0 hj ut h
    obtain ⟨k, rfl⟩ : ∃ k', k = k' + 1 := ⟨k - 1, by omega⟩
    have hF := hM.upd ut
    have l860 := ln_860 hF
    have lA : az_ln τ A = 64 := by rcases hA with rfl | rfl; exact ln_866 hF; exact ln_867 hF
    have eA : τ.2 A (v + j) = m.2 A (v + j) := ut.2.2 _ _ (fun q => by unfold sv_PS at q; omega)
    have u1 : bz_Upd m (az_wr τ 860 (60 * (2 * p + sd) + j) (m.2 A (v + j))) (sv_PS p sd z) := bz_Upd.wr ut (Or.inr ⟨rfl, by omega, by omega⟩) (by unfold bz_isFix; simp [bz_cap, bz_fixL, bz_rowsL])
    obtain ⟨τ', t1, t2, t3, t4⟩ := ih k (az_wr τ 860 (60 * (2 * p + sd) + j) (m.2 A (v + j))) (j + 1) (by omega) (by omega) (by omega) u1 (fun i i0 i1 => by
      by_cases e : i = j
      · rw [e, az_wr_same]
      · rw [az_wr_ne (by omega)]; exact h i i0 (by omega))
    refine ⟨τ', ?_, t2, by rw [t3, az_wr_ne (by omega)], t4⟩
    rw [← t1]
    conv => lhs; unfold fz_X11_putsSide_15
    rw [if_pos (by omega), fx_804_102 hF, Option.bind_some, az_w32_id (z := v + j) (by omega) (by omega), bz_ard (by omega) (by omega), Option.bind_some, eA, az_w32_id (z := 2 * p) (by omega) (by omega), az_w32_id (z := 2 * p + sd) (by omega) (by omega), az_w32_id (z := 60 * (2 * p + sd)) (by omega) (by omega), az_w32_id (z := 60 * (2 * p + sd) + j) (by omega) (by omega), bz_awr (by omega) (by omega), Option.bind_some, az_w32_id (z := j + 1) (by omega) (by omega)]
theorem sv_puts {m : az_Hp} {p sd A v z : Int} (hM : bz_Fx m) (p0 : 0 ≤ p) (p1 : p < 204) (s0 : 0 ≤ sd) (s1 : sd < 2) (hA : A = 866 ∨ A = 867) (v0 : 0 ≤ v) (v1 : v + z ≤ 64) (z0 : 0 ≤ z) (z60 : z ≤ 60) : ∃ m', fz_X11_putsSide 2000000 m 804 p sd A v z = some m' ∧ bz_Upd m m' (sv_PS p sd z) ∧ m'.2 861 (2 * p + sd) = z ∧ ∀ i, 0 ≤ i → i < z → m'.2 860 (60 * (2 * p + sd) + i) = m.2 A (v + i) := by
  have u1 : bz_Upd m (az_wr m 861 (2 * p + sd) z) (sv_PS p sd z) := bz_Upd.wr bz_Upd.refl (Or.inl ⟨rfl, rfl⟩) (by unfold bz_isFix; simp [bz_cap, bz_fixL, bz_rowsL])
  obtain ⟨m', t1, t2, t3, t4⟩ := sv_putL (m := m) hM p0 p1 s0 s1 hA v0 v1 z60 z.toNat 2000000 (az_wr m 861 (2 * p + sd) z) 0 (by omega) (by omega) (by omega) u1 (fun i i0 i1 => by omega)
  refine ⟨m', ?_, t2, by rw [t3, az_wr_same], t4⟩
  unfold fz_X11_putsSide
  rw [fx_804_103 hM, Option.bind_some, az_w32_id (z := 2 * p) (by omega) (by omega), az_w32_id (z := 2 * p + sd) (by omega) (by omega), bz_awr (by omega) (by rw [ln_861 hM]; omega), Option.bind_some]
  exact t1
