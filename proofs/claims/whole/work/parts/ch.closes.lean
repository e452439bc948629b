/-! the reference's list closes up -/
section CU
variable {k4 : az_Hp → Int → Int → Int → Option az_Hp}
theorem sv_cu54 {m : az_Hp} {v1 v2 sd z : Int} {k26 : az_Hp → Int → Int → Int → Int → Option az_Hp} (hM : bz_Fx m) (a0 : 0 ≤ v1) (a1 : v1 ≤ v2) (a2 : v2 < 204) (s0 : 0 ≤ sd) (s1 : sd < 2) (hz : m.2 861 (2 * v2 + sd) = z) (z60 : z ≤ 60) : ∀ (d k : Nat) (τ : az_Hp) (j : Int), d < k → 0 ≤ j → j + d = z → bz_Upd m τ (fun a k => a = 860 ∧ 60 * (2 * v1 + sd) ≤ k ∧ k < 60 * (2 * v1 + sd) + 60) → (∀ i, 0 ≤ i → i < j → τ.2 860 (60 * (2 * v1 + sd) + i) = m.2 860 (60 * (2 * v2 + sd) + i)) → (∀ i, 0 ≤ i → i < 60 → τ.2 860 (60 * (2 * v2 + sd) + i) = m.2 860 (60 * (2 * v2 + sd) + i)) → ∃ τ', fz_X11_closesUp_54 2000000 k4 k26 k τ 804 v1 v2 sd j = k26 τ' 804 v1 v2 (sd + 1) ∧ bz_Upd m τ' (fun a k => a = 860 ∧ 60 * (2 * v1 + sd) ≤ k ∧ k < 60 * (2 * v1 + sd) + 60) ∧ (∀ i, 0 ≤ i → i < z → τ'.2 860 (60 * (2 * v1 + sd) + i) = m.2 860 (60 * (2 * v2 + sd) + i)) := by
  intro d
  induction d with
  | zero =>
    intro k τ j hk j0 hj ut h h'
    obtain ⟨k, rfl⟩ : ∃ k', k = k' + 1 := ⟨k - 1, by omega⟩
    have hF := hM.upd ut
    have ez : τ.2 861 (2 * v2 + sd) = z := by rw [ut.2.2 861 _ (fun w => by omega)]; exact hz
    refine ⟨τ, ?_, ut, fun i i0 i1 => h i i0 (by omega)⟩
    unfold fz_X11_closesUp_54
    rw [fx_804_103 hF, Option.bind_some, az_w32_id (z := 2 * v2) (by omega) (by omega), az_w32_id (z := 2 * v2 + sd) (by omega) (by omega), bz_ard (by omega) (by rw [ln_861 hF]; omega), Option.bind_some, ez, if_neg (by omega), az_w32_id (z := sd + 1) (by omega) (by omega)]
  | succ d ih =>
    intro k τ j hk j0 hj ut h h'
    obtain ⟨k, rfl⟩ : ∃ k', k = k' + 1 := ⟨k - 1, by omega⟩
    have hF := hM.upd ut
    have l860 := ln_860 hF
    have ez : τ.2 861 (2 * v2 + sd) = z := by rw [ut.2.2 861 _ (fun w => by omega)]; exact hz
    have ej := h' j j0 (by omega)
    have u1 : bz_Upd m (az_wr τ 860 (60 * (2 * v1 + sd) + j) (m.2 860 (60 * (2 * v2 + sd) + j))) (fun a k => a = 860 ∧ 60 * (2 * v1 + sd) ≤ k ∧ k < 60 * (2 * v1 + sd) + 60) := bz_Upd.wr ut ⟨rfl, by omega, by omega⟩ (by unfold bz_isFix; simp [bz_cap, bz_fixL, bz_rowsL])
    obtain ⟨τ', t1, t2⟩ := ih k (az_wr τ 860 (60 * (2 * v1 + sd) + j) (m.2 860 (60 * (2 * v2 + sd) + j))) (j + 1) (by omega) (by omega) (by push_cast at hj; omega) u1 (fun i i0 i1 => by
      by_cases c : i = j
      · rw [c, az_wr_same]
      · rw [az_wr_ne (by omega)]; exact h i i0 (by omega)) (fun i i0 i1 => by
      by_cases c : v1 = v2 ∧ i = j
      · rw [c.2, c.1, az_wr_same]
      · rw [az_wr_ne (by omega)]; exact h' i i0 i1)
    refine ⟨τ', ?_, t2⟩
    rw [← t1]
    conv => lhs; unfold fz_X11_closesUp_54
    rw [fx_804_103 hF, Option.bind_some, az_w32_id (z := 2 * v2) (by omega) (by omega), az_w32_id (z := 2 * v2 + sd) (by omega) (by omega), bz_ard (by omega) (by rw [ln_861 hF]; omega), Option.bind_some, ez, if_pos (by omega), fx_804_102 hF, Option.bind_some, Option.bind_some, az_w32_id (z := 60 * (2 * v2 + sd)) (by omega) (by omega), az_w32_id (z := 60 * (2 * v2 + sd) + j) (by omega) (by omega), bz_ard (by omega) (by omega), Option.bind_some, ej, az_w32_id (z := 2 * v1) (by omega) (by omega), az_w32_id (z := 2 * v1 + sd) (by omega) (by omega), az_w32_id (z := 60 * (2 * v1 + sd)) (by omega) (by omega), az_w32_id (z := 60 * (2 * v1 + sd) + j) (by omega) (by omega), bz_awr (by omega) (by omega), Option.bind_some, az_w32_id (z := j + 1) (by omega) (by omega)]
def sv_K1 (v sd a k : Int) : Prop := (a = 861 ∧ k = 2 * v + sd) ∨ (a = 860 ∧ 60 * (2 * v + sd) ≤ k ∧ k < 60 * (2 * v + sd) + 60)
theorem sv_cu1 {m : az_Hp} {v1 v2 sd z : Int} {k : Nat} (hM : bz_Fx m) (a0 : 0 ≤ v1) (a1 : v1 ≤ v2) (a2 : v2 < 204) (s0 : 0 ≤ sd) (s1 : sd < 2) (hz : m.2 861 (2 * v2 + sd) = z) (z0 : 0 ≤ z) (z60 : z ≤ 60) : ∃ τ', fz_X11_closesUp_26 2000000 k4 (k + 1) m 804 v1 v2 sd = fz_X11_closesUp_26 2000000 k4 k τ' 804 v1 v2 (sd + 1) ∧ bz_Upd m τ' (sv_K1 v1 sd) ∧ τ'.2 861 (2 * v1 + sd) = z ∧ (∀ i, 0 ≤ i → i < z → τ'.2 860 (60 * (2 * v1 + sd) + i) = m.2 860 (60 * (2 * v2 + sd) + i)) := by
  have l861 := ln_861 hM
  have u1 : bz_Upd m (az_wr m 861 (2 * v1 + sd) z) (sv_K1 v1 sd) := bz_Upd.wr bz_Upd.refl (Or.inl ⟨rfl, rfl⟩) (by unfold bz_isFix; simp [bz_cap, bz_fixL, bz_rowsL])
  have hM1 := hM.upd u1
  have ez : (az_wr m 861 (2 * v1 + sd) z).2 861 (2 * v2 + sd) = z := by
    by_cases c : v1 = v2
    · rw [c, az_wr_same]
    · rw [az_wr_ne (by omega)]; exact hz
  obtain ⟨τ', t1, t2, t3⟩ := sv_cu54 (k4 := k4) (k26 := fz_X11_closesUp_26 2000000 k4 k) (m := az_wr m 861 (2 * v1 + sd) z) hM1 a0 a1 a2 s0 s1 ez z60 z.toNat 2000000 (az_wr m 861 (2 * v1 + sd) z) 0 (by omega) (by omega) (by omega) bz_Upd.refl (fun i i0 i1 => by omega) (fun i _ _ => rfl)
  refine ⟨τ', ?_, u1.trans (t2.weak fun _ _ w => Or.inr w), by rw [t2.2.2 861 _ (fun w => by omega), az_wr_same], fun i i0 i1 => by rw [t3 i i0 i1, az_wr_ne (by omega)]⟩
  rw [← t1]
  conv => lhs; unfold fz_X11_closesUp_26
  rw [if_pos s1, fx_804_103 hM, Option.bind_some, Option.bind_some, az_w32_id (z := 2 * v2) (by omega) (by omega), az_w32_id (z := 2 * v2 + sd) (by omega) (by omega), bz_ard (by omega) (by omega), Option.bind_some, hz, az_w32_id (z := 2 * v1) (by omega) (by omega), az_w32_id (z := 2 * v1 + sd) (by omega) (by omega), bz_awr (by omega) (by omega), Option.bind_some]
def sv_K2 (v a k : Int) : Prop := (a = 861 ∧ (k = 2 * v ∨ k = 2 * v + 1)) ∨ (a = 860 ∧ 120 * v ≤ k ∧ k < 120 * v + 120) ∨ (a = 862 ∧ k = v)
/-- an EQUALITY of one heap is one of another -/
def sv_Eq (m m' : az_Hp) (v2 v1 : Int) : Prop := (∀ sd, 0 ≤ sd → sd < 2 → m'.2 861 (2 * v1 + sd) = m.2 861 (2 * v2 + sd) ∧ ∀ i, 0 ≤ i → i < m.2 861 (2 * v2 + sd) → m'.2 860 (60 * (2 * v1 + sd) + i) = m.2 860 (60 * (2 * v2 + sd) + i)) ∧ m'.2 862 v1 = m.2 862 v2
theorem sv_cu2 {m : az_Hp} {v1 v2 : Int} {k : Nat} (hM : bz_Fx m) (a0 : 0 ≤ v1) (a1 : v1 ≤ v2) (a2 : v2 < 204) (hz : ∀ sd, 0 ≤ sd → sd < 2 → 0 ≤ m.2 861 (2 * v2 + sd) ∧ m.2 861 (2 * v2 + sd) ≤ 60) : ∃ τ', fz_X11_closesUp_26 2000000 k4 (k + 3) m 804 v1 v2 0 = k4 τ' 804 (v1 + 1) (v2 + 1) ∧ bz_Upd m τ' (sv_K2 v1) ∧ sv_Eq m τ' v2 v1 := by
  have z0 := hz 0 (by omega) (by omega)
  have z1 := hz 1 (by omega) (by omega)
  obtain ⟨m1, b1, b2, b3, b4⟩ := sv_cu1 (k4 := k4) (k := k + 2) (v1 := v1) (v2 := v2) (sd := 0) hM a0 a1 a2 (by omega) (by omega) rfl z0.1 z0.2
  have hM1 := hM.upd b2
  have e1 : m1.2 861 (2 * v2 + 1) = m.2 861 (2 * v2 + 1) := b2.2.2 _ _ (fun w => by unfold sv_K1 at w; omega)
  obtain ⟨m2, c1, c2, c3, c4⟩ := sv_cu1 (k4 := k4) (k := k + 1) (v1 := v1) (v2 := v2) (sd := 1) hM1 a0 a1 a2 (by omega) (by omega) e1 z1.1 z1.2
  have hM2 := hM1.upd c2
  have l862 := ln_862 hM2
  have e2 : m2.2 862 v2 = m.2 862 v2 := by rw [c2.2.2 _ _ (fun w => by unfold sv_K1 at w; omega), b2.2.2 _ _ (fun w => by unfold sv_K1 at w; omega)]
  have u3 : bz_Upd m2 (az_wr m2 862 v1 (m.2 862 v2)) (sv_K2 v1) := bz_Upd.wr bz_Upd.refl (Or.inr (Or.inr ⟨rfl, rfl⟩)) (by unfold bz_isFix; simp [bz_cap, bz_fixL, bz_rowsL])
  refine ⟨az_wr m2 862 v1 (m.2 862 v2), ?_, ((b2.weak fun a k w => by unfold sv_K1 at w; unfold sv_K2; omega).trans (c2.weak fun a k w => by unfold sv_K1 at w; unfold sv_K2; omega)).trans u3, fun sd s0 s1 => ?_, az_wr_same⟩
  · rw [b1, show (0 : Int) + 1 = 1 from rfl, c1, show (1 : Int) + 1 = 2 from rfl]
    conv => lhs; unfold fz_X11_closesUp_26
    rw [if_neg (by decide), fx_804_104 hM2, Option.bind_some, Option.bind_some, bz_ard (by omega) (by omega), Option.bind_some, e2, bz_awr (by omega) (by omega), Option.bind_some, az_w32_id (z := v1 + 1) (by omega) (by omega), az_w32_id (z := v2 + 1) (by omega) (by omega)]
  · have sd' : sd = 0 ∨ sd = 1 := by omega
    rcases sd' with rfl | rfl
    · refine ⟨by rw [az_wr_ne (by omega), c2.2.2 _ _ (fun w => by unfold sv_K1 at w; omega)]; exact b3, fun i i0 i1 => ?_⟩
      rw [az_wr_ne (by omega), c2.2.2 _ _ (fun w => by unfold sv_K1 at w; omega)]
      exact b4 i i0 i1
    · refine ⟨by rw [az_wr_ne (by omega)]; exact c3, fun i i0 i1 => ?_⟩
      rw [az_wr_ne (by omega), c4 i i0 i1, b2.2.2 _ _ (fun w => by unfold sv_K1 at w; omega)]
end CU
def sv_KA (a k : Int) : Prop := (860 ≤ a ∧ a ≤ 862) ∨ (a = 804 ∧ k = 108)
theorem sv_cuL {m : az_Hp} {M : Int} (hM : bz_Fx m) (h108 : m.2 804 108 = M) (M2 : M ≤ 204) (hz : ∀ p, 0 ≤ p → p < M → m.2 865 p = 0 → ∀ sd, 0 ≤ sd → sd < 2 → 0 ≤ m.2 861 (2 * p + sd) ∧ m.2 861 (2 * p + sd) ≤ 60) : ∀ (d k : Nat) (τ : az_Hp) (v : Nat), d < k → (v : Int) + d = M → bz_Upd m τ (fun a _ => 860 ≤ a ∧ a ≤ 862) → (∀ a k, (a = 861 ∧ 2 * (v : Int) ≤ k) ∨ (a = 860 ∧ 120 * (v : Int) ≤ k) ∨ (a = 862 ∧ (v : Int) ≤ k) → τ.2 a k = m.2 a k) → (∀ p : Nat, p < v → m.2 865 p = 0 → sv_Eq m τ p (sv_cnt (m.2 865) p)) → ∃ τ', fz_X11_closesUp_4 2000000 k τ 804 (sv_cnt (m.2 865) v) v = some τ' ∧ bz_Upd m τ' sv_KA ∧ τ'.2 804 108 = sv_cnt (m.2 865) M.toNat ∧ ∀ p : Nat, (p : Int) < M → m.2 865 p = 0 → sv_Eq m τ' p (sv_cnt (m.2 865) p) := by
  intro d
  induction d with
  | zero =>
    intro k τ v hk hv ut hs he
    obtain ⟨k, rfl⟩ : ∃ k', k = k' + 1 := ⟨k - 1, by omega⟩
    have e1 : τ.2 804 108 = M := by rw [ut.2.2 804 108 (fun w => by omega)]; exact h108
    refine ⟨az_wr τ 804 108 (sv_cnt (m.2 865) v), ?_, bz_Upd.wr (ut.weak fun _ _ w => Or.inl w) (Or.inr ⟨rfl, rfl⟩) (by decide), by rw [az_wr_same, show M.toNat = v by omega], fun p hp pg => ?_⟩
    · unfold fz_X11_closesUp_4
      rw [e1, if_neg (by omega)]
    · obtain ⟨w1, w2⟩ := he p (by omega) pg
      refine ⟨fun sd s0 s1 => ⟨by rw [az_wr_ne (by omega)]; exact (w1 sd s0 s1).1, fun i i0 i1 => by rw [az_wr_ne (by omega)]; exact (w1 sd s0 s1).2 i i0 i1⟩, by rw [az_wr_ne (by omega)]; exact w2⟩
  | succ d ih =>
    intro k τ v hk hv ut hs he
    obtain ⟨k, rfl⟩ : ∃ k', k = k' + 1 := ⟨k - 1, by omega⟩
    have hF := hM.upd ut
    have e1 : τ.2 804 108 = M := by rw [ut.2.2 804 108 (fun w => by omega)]; exact h108
    have g : ∀ k, τ.2 865 k = m.2 865 k := fun k => ut.2.2 865 k (fun w => by omega)
    have cb := sv_cnt.bd (g := m.2 865) v
    have c : sv_cnt (m.2 865) (v + 1) = sv_cnt (m.2 865) v + if m.2 865 (v : Int) = 0 then 1 else 0 := rfl
    by_cases z : m.2 865 (v : Int) = 0
    · rw [if_pos z] at c
      have zs : ∀ sd, 0 ≤ sd → sd < 2 → τ.2 861 (2 * (v : Int) + sd) = m.2 861 (2 * (v : Int) + sd) := fun sd s0 s1 => hs _ _ (by omega)
      obtain ⟨τ1, t1, t2, t3, t4⟩ := sv_cu2 (k4 := fz_X11_closesUp_4 2000000 k) (k := 1999997) (m := τ) (v1 := sv_cnt (m.2 865) v) (v2 := v) hF cb.1 (by omega) (by omega) (fun sd s0 s1 => by rw [zs sd s0 s1]; exact hz v (by omega) (by omega) z sd s0 s1)
      obtain ⟨τ', r1, r2⟩ := ih k τ1 (v + 1) (by omega) (by push_cast; omega) (ut.trans (t2.weak fun a k w => by unfold sv_K2 at w; omega)) (fun a k w => by
        rw [t2.2.2 a k (fun y => by unfold sv_K2 at y; push_cast at w; omega)]
        exact hs a k (by push_cast at w; omega)) (fun p hp pg => by
        by_cases e : p = v
        · subst e
          refine ⟨fun sd s0 s1 => ?_, ?_⟩
          · obtain ⟨w1, w2⟩ := t3 sd s0 s1
            rw [zs sd s0 s1] at w1 w2
            exact ⟨w1, fun i i0 i1 => by rw [w2 i i0 i1]; exact hs _ _ (by omega)⟩
          · rw [t4]; exact hs _ _ (by omega)
        · have lt := sv_cnt.lt (g := m.2 865) (a := p) (b := v) (by omega) pg
          obtain ⟨w1, w2⟩ := he p (by omega) pg
          refine ⟨fun sd s0 s1 => ⟨?_, fun i i0 i1 => ?_⟩, ?_⟩
          · rw [t2.2.2 _ _ (fun y => by unfold sv_K2 at y; omega)]; exact (w1 sd s0 s1).1
          · have := hz p (by omega) (by omega) pg sd s0 s1
            rw [t2.2.2 _ _ (fun y => by unfold sv_K2 at y; omega)]; exact (w1 sd s0 s1).2 i i0 i1
          · rw [t2.2.2 _ _ (fun y => by unfold sv_K2 at y; omega)]; exact w2)
      refine ⟨τ', ?_, r2⟩
      rw [← r1]
      conv => lhs; unfold fz_X11_closesUp_4
      rw [e1, if_pos (by omega), fx_804_107 hF, Option.bind_some, bz_ard (by omega) (by rw [ln_865 hF]; omega), Option.bind_some, g, if_pos z, c]
      exact t1
    · rw [if_neg z] at c
      obtain ⟨τ', r1, r2⟩ := ih k τ (v + 1) (by omega) (by push_cast; omega) ut (fun a k w => hs a k (by push_cast at w; omega)) (fun p hp pg => by
        by_cases e : p = v
        · subst e; exact absurd pg z
        · exact he p (by omega) pg)
      refine ⟨τ', ?_, r2⟩
      rw [← r1]
      conv => lhs; unfold fz_X11_closesUp_4
      rw [e1, if_pos (by omega), fx_804_107 hF, Option.bind_some, bz_ard (by omega) (by rw [ln_865 hF]; omega), Option.bind_some, g, if_neg z, c, Int.add_zero, az_w32_id (z := (v : Int) + 1) (by omega) (by omega)]
      rfl
theorem sv_cu {m : az_Hp} {M : Int} (hM : bz_Fx m) (h108 : m.2 804 108 = M) (M0 : 0 ≤ M) (M2 : M ≤ 204) (hz : ∀ p, 0 ≤ p → p < M → m.2 865 p = 0 → ∀ sd, 0 ≤ sd → sd < 2 → 0 ≤ m.2 861 (2 * p + sd) ∧ m.2 861 (2 * p + sd) ≤ 60) : ∃ τ', fz_X11_closesUp 2000000 m 804 = some τ' ∧ bz_Upd m τ' sv_KA ∧ τ'.2 804 108 = sv_cnt (m.2 865) M.toNat ∧ ∀ p : Nat, (p : Int) < M → m.2 865 p = 0 → sv_Eq m τ' p (sv_cnt (m.2 865) p) :=
  sv_cuL hM h108 M2 hz M.toNat 2000000 m 0 (by omega) (by omega) bz_Upd.refl (fun _ _ _ => rfl) (fun p hp => absurd hp (by omega))
