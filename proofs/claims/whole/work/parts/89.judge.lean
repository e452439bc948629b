/-! all equations and families judged, by both -/
/-- what judging all may change -/
def nz_C (T : Int) (a k : Int) : Prop := cz_SJ a k ∨ a = T + 11 ∨ a = T + 12 ∨ a = T + 13 ∨ a = T + 14
theorem nz_C.t {T a k : Int} (hT : T = 3 ∨ T = 82) (h : nz_C T a k) : ¬ nz_t a := by
  unfold nz_C cz_SJ at h
  unfold nz_t
  omega
theorem nz_C.cS {T : Int} (hT : T = 3 ∨ T = 82) {σ σ' : az_Hp} (h : bz_Upd σ σ' (nz_C T)) : mz_cS T σ σ' := fun a k q => h.2.2 a k (fun c => nz_C.t hT c (by unfold nz_t; omega))
theorem mz_H.x {σx σm x : az_Hp} {T s : Int} (h : mz_H σx σm T s) (hF : bz_Fx x) (hc : mz_cS T σx x) : mz_H x σm T s := ⟨hF, h.2.1, h.2.2.1, h.2.2.2.1.trans hc, h.2.2.2.2⟩
/-- the class's word on two equations: on a heap that tells the same it answers so -/
def nz_Ag (σ : az_Hp) (T o e v : Int) : Prop := ∃ x x', bz_Fx x ∧ mz_cS T σ x ∧ fz_X1_rightsAgree 2000000 x 242 T o e = some (v, x')
theorem nz_Ag.cong {σ σ' : az_Hp} {T o e v : Int} (h : nz_Ag σ T o e v) (hc : mz_cS T σ' σ) : nz_Ag σ' T o e v := by
  obtain ⟨x, x', h1, h2, h3⟩ := h
  exact ⟨x, x', h1, hc.trans h2, h3⟩
section JA
variable {T s : Int} {σm : az_Hp}
/-- the row of one equation -/
theorem nz_ja1 {k2 : az_Hp → Int → Int → Int → Option az_Hp} {e : Int} : ∀ (d k : Nat) (σx : az_Hp) (o : Int), mz_H σx σm T s → d < k → 0 ≤ o → o + d = e + 1 → e < σx.2 T 2 → 0 ≤ e →
    ∃ σx', fz_X1_judgeAll_12 2000000 k2 k σx 242 T e o = k2 σx' 242 T (e + 1) ∧ bz_Upd σx σx' (nz_C T) ∧ (∀ j i, 0 ≤ i → i < 16 → 0 ≤ j → j < 16 → ¬ (j = e ∧ o ≤ i ∧ i ≤ e) → ¬ (i = e ∧ o ≤ j ∧ j ≤ e) → σx'.2 (T + 11) (16 * j + i) = σx.2 (T + 11) (16 * j + i)) ∧
      ∀ i, o ≤ i → i ≤ e → (σx'.2 (T + 11) (16 * e + i) = 0 ∨ σx'.2 (T + 11) (16 * e + i) = 1) ∧ σx'.2 (T + 11) (16 * i + e) = σx'.2 (T + 11) (16 * e + i) ∧ (σx.2 (T + 7) e = σx.2 (T + 7) i → nz_Ag σx T i e (σx'.2 (T + 11) (16 * e + i))) := by
  intro d
  induction d with
  | zero =>
    intro k σx o h hk o0 ho he e0
    obtain ⟨k, rfl⟩ : ∃ k', k = k' + 1 := ⟨k - 1, by omega⟩
    have nb := mz_nb h
    refine ⟨σx, ?_, bz_Upd.refl, fun j i _ _ _ _ _ _ => rfl, fun i q1 q2 => by omega⟩
    conv => lhs; unfold fz_X1_judgeAll_12
    rw [if_pos (by omega), az_w32_id (by omega) (by omega)]
  | succ d ih =>
    intro k σx o h hk o0 ho he e0
    obtain ⟨k, rfl⟩ : ∃ k', k = k' + 1 := ⟨k - 1, by omega⟩
    have nb := mz_nb h
    have hT := h.2.2.1.1
    obtain ⟨-, fo1, fo2⟩ := mz_fam h e0 he
    obtain ⟨-, -, fo3⟩ := mz_fam h (e := o) o0 (by omega)
    -- what is told of e and o
    have val : ∃ v x1, (v = 0 ∨ v = 1) ∧ bz_Upd σx x1 cz_SJ ∧ (σx.2 (T + 7) e = σx.2 (T + 7) o → nz_Ag σx T o e v) ∧ fz_X1_judgeAll_12 2000000 k2 (k + 1) σx 242 T e o = fz_X1_judgeAll_47 2000000 k2 (fz_X1_judgeAll_12 2000000 k2 k) x1 242 T e o v := by
      by_cases c : σx.2 (T + 7) e = σx.2 (T + 7) o
      · obtain ⟨v, f, x', m6, r1, r2, r3, r4, r5, -⟩ := mz_fit h (e := o) (o := e) o0 (by omega) e0 he
        refine ⟨f, x', r4, r5, fun _ => ⟨σx, x', h.1, mz_cS.refl, r1⟩, ?_⟩
        conv => lhs; unfold fz_X1_judgeAll_12
        rw [if_neg (by omega), fo1, Option.bind_some, fo2, Option.bind_some, Option.bind_some, fo3, Option.bind_some, if_pos c, r1, Option.bind_some]
        rcases r4 with rfl | rfl
        · rw [if_pos rfl]
        · rw [if_neg (show ¬ (1 : Int) = 0 by decide)]
      · refine ⟨0, σx, Or.inl rfl, bz_Upd.refl, fun q => absurd q c, ?_⟩
        conv => lhs; unfold fz_X1_judgeAll_12
        rw [if_neg (by omega), fo1, Option.bind_some, fo2, Option.bind_some, Option.bind_some, fo3, Option.bind_some, if_neg c]
    obtain ⟨v, x1, hv, ux, hag, run⟩ := val
    have ux' : bz_Upd σx x1 (nz_C T) := ux.weak fun _ _ q => Or.inl q
    have hF1 := h.1.upd ux
    have g13 := (bz_tg hF1 hT).2.2.2.2.2.2.2.2.2.2.1
    have l11 := (bz_tl hF1 hT).2.2.2.2.2.2.2.2.1
    have u2 : bz_Upd σx (az_wr (az_wr x1 (T + 11) (16 * e + o) v) (T + 11) (16 * o + e) v) (nz_C T) := (ux'.wr (Or.inr (Or.inl rfl)) (nz_fixT hT (by omega))).wr (Or.inr (Or.inl rfl)) (nz_fixT hT (by omega))
    have run2 : fz_X1_judgeAll_12 2000000 k2 (k + 1) σx 242 T e o = fz_X1_judgeAll_12 2000000 k2 k (az_wr (az_wr x1 (T + 11) (16 * e + o) v) (T + 11) (16 * o + e) v) 242 T e (o + 1) := by
      rw [run]
      unfold fz_X1_judgeAll_47
      rw [g13, Option.bind_some, az_w32_id (z := e * 16) (by omega) (by omega), az_w32_id (z := e * 16 + o) (by omega) (by omega), show e * 16 + o = 16 * e + o by omega, bz_awz (by omega) (by omega) hv, Option.bind_some, bz_gref_wr (by omega), g13, Option.bind_some, az_w32_id (z := o * 16) (by omega) (by omega), az_w32_id (z := o * 16 + e) (by omega) (by omega), show o * 16 + e = 16 * o + e by omega, bz_awz (by omega) (by rw [bz_ln_wr]; omega) hv, Option.bind_some, az_w32_id (by omega) (by omega)]
    have h2 := h.gen u2 (bz_Upd.refl (S := fun _ _ => False)) (fun a k q => nz_C.t hT q) (fun a k q => q.elim)
    have n2 : (az_wr (az_wr x1 (T + 11) (16 * e + o) v) (T + 11) (16 * o + e) v).2 T 2 = σx.2 T 2 := u2.2.2 _ _ (fun c => by unfold nz_C cz_SJ at c; omega)
    have o7 : ∀ j, (az_wr (az_wr x1 (T + 11) (16 * e + o) v) (T + 11) (16 * o + e) v).2 (T + 7) j = σx.2 (T + 7) j := fun j => u2.2.2 _ _ (fun c => by unfold nz_C cz_SJ at c; omega)
    have x11 : ∀ j, x1.2 (T + 11) j = σx.2 (T + 11) j := fun j => ux.2.2 _ _ (fun c => by unfold cz_SJ at c; omega)
    obtain ⟨σx', z1, z2, z3, z4⟩ := ih k _ (o + 1) h2 (by omega) (by omega) (by omega) (by rw [n2]; exact he) e0
    refine ⟨σx', by rw [run2, z1], u2.trans z2, fun j i i0 i1 j0 j1 p1 p2 => ?_, fun i q1 q2 => ?_⟩
    · rw [z3 j i i0 i1 j0 j1 (by omega) (by omega), az_wr_ne (by omega), az_wr_ne (by omega), x11]
    · by_cases ei : i = o
      · rw [ei]
        have v1 : σx'.2 (T + 11) (16 * e + o) = v := by
          rw [z3 e o (by omega) (by omega) (by omega) (by omega) (by omega) (by omega)]
          by_cases eo : 16 * e + o = 16 * o + e
          · rw [eo]; exact az_wr_same
          · rw [az_wr_ne (by omega), az_wr_same]
        have v2 : σx'.2 (T + 11) (16 * o + e) = v := by
          by_cases eoe : o = e
          · rw [show 16 * o + e = 16 * e + o by omega]; exact v1
          · rw [z3 o e (by omega) (by omega) (by omega) (by omega) (by omega) (by omega), az_wr_same]
        rw [v1, v2]
        exact ⟨hv, rfl, hag⟩
      · obtain ⟨y1, y2, y3⟩ := z4 i (by omega) q2
        refine ⟨y1, y2, fun c => (y3 (by rw [o7, o7]; exact c)).cong (nz_C.cS hT u2)⟩
theorem nz_ja3 : ∀ (d k : Nat) (σx : az_Hp) (f : Int), mz_H σx σm T s → d < k → 0 ≤ f → f + d = σx.2 T 1 →
    ∃ σx', fz_X1_judgeAll_89 2000000 k σx 242 T f = some σx' ∧ bz_Upd σx σx' (nz_C T) ∧ (∀ j, σx'.2 (T + 11) j = σx.2 (T + 11) j) ∧ (∀ j, j < f → σx'.2 (T + 12) j = σx.2 (T + 12) j ∧ σx'.2 (T + 13) j = σx.2 (T + 13) j ∧ σx'.2 (T + 14) j = σx.2 (T + 14) j) ∧
      ∀ j, f ≤ j → j < σx.2 T 1 → ∃ x x', bz_Fx x ∧ mz_cS T σx x ∧ fz_X1_judgeBackwards 2000000 x 242 T j = some x' ∧ σx'.2 (T + 12) j = x'.2 (T + 12) j ∧ σx'.2 (T + 13) j = x'.2 (T + 13) j ∧ σx'.2 (T + 14) j = x'.2 (T + 14) j := by
  intro d
  induction d with
  | zero =>
    intro k σx f h hk f0 hf
    obtain ⟨k, rfl⟩ : ∃ k', k = k' + 1 := ⟨k - 1, by omega⟩
    refine ⟨σx, ?_, bz_Upd.refl, fun j => rfl, fun j _ => ⟨rfl, rfl, rfl⟩, fun j q1 q2 => by omega⟩
    unfold fz_X1_judgeAll_89
    rw [if_neg (by omega)]
  | succ d ih =>
    intro k σx f h hk f0 hf
    obtain ⟨k, rfl⟩ : ∃ k', k = k' + 1 := ⟨k - 1, by omega⟩
    have nb := mz_nb h
    have hT := h.2.2.1.1
    obtain ⟨x1, m1, r1, r2, -⟩ := nz_bwd (f := f) h f0 (by omega)
    have u1 : bz_Upd σx x1 (nz_C T) := r2.weak fun a k q => by
      rcases q with q | q
      · exact Or.inl q
      · exact Or.inr (by omega)
    have h1 := h.gen u1 (bz_Upd.refl (S := fun _ _ => False)) (fun a k q => nz_C.t hT q) (fun a k q => q.elim)
    have n1 : x1.2 T 1 = σx.2 T 1 := u1.2.2 _ _ (fun c => by unfold nz_C cz_SJ at c; omega)
    obtain ⟨σx', z1, z2, z3, z4, z5⟩ := ih k x1 (f + 1) h1 (by omega) (by omega) (by rw [n1]; omega)
    have old : ∀ A j, (A = T + 12 ∨ A = T + 13 ∨ A = T + 14) → j < f → x1.2 A j = σx.2 A j := fun A j hA hj => r2.2.2 _ _ (fun c => by unfold nz_B cz_SJ at c; omega)
    refine ⟨σx', ?_, u1.trans z2, fun j => ?_, fun j hj => ?_, fun j q1 q2 => ?_⟩
    · rw [← z1]
      conv => lhs; unfold fz_X1_judgeAll_89
      rw [if_pos (by omega), r1, Option.bind_some, az_w32_id (by omega) (by omega)]
    · rw [z3, r2.2.2 _ _ (fun c => by unfold nz_B cz_SJ at c; omega)]
    · obtain ⟨y1, y2, y3⟩ := z4 j (by omega)
      rw [y1, y2, y3]
      exact ⟨old _ j (by omega) hj, old _ j (by omega) hj, old _ j (by omega) hj⟩
    · by_cases e : j = f
      · rw [e]
        obtain ⟨y1, y2, y3⟩ := z4 f (by omega)
        exact ⟨σx, x1, h.1, mz_cS.refl, r1, y1, y2, y3⟩
      · obtain ⟨x, x', w1, w2, w3, w4⟩ := z5 j (by omega) (by rw [n1]; exact q2)
        exact ⟨x, x', w1, (nz_C.cS hT u1).trans w2, w3, w4⟩
theorem nz_ja2 : ∀ (d k : Nat) (σx : az_Hp) (e : Int), mz_H σx σm T s → d < k → 0 ≤ e → e + d = σx.2 T 2 →
    ∃ σx', fz_X1_judgeAll_2 2000000 k σx 242 T e = some σx' ∧ bz_Upd σx σx' (nz_C T) ∧ (∀ j i, 0 ≤ i → i < e → 0 ≤ j → j < e → σx'.2 (T + 11) (16 * j + i) = σx.2 (T + 11) (16 * j + i)) ∧
      (∀ j i, e ≤ j → j < σx.2 T 2 → 0 ≤ i → i ≤ j → (σx'.2 (T + 11) (16 * j + i) = 0 ∨ σx'.2 (T + 11) (16 * j + i) = 1) ∧ σx'.2 (T + 11) (16 * i + j) = σx'.2 (T + 11) (16 * j + i) ∧ (σx.2 (T + 7) j = σx.2 (T + 7) i → nz_Ag σx T i j (σx'.2 (T + 11) (16 * j + i)))) ∧
      ∀ j, 0 ≤ j → j < σx.2 T 1 → ∃ x x', bz_Fx x ∧ mz_cS T σx x ∧ fz_X1_judgeBackwards 2000000 x 242 T j = some x' ∧ σx'.2 (T + 12) j = x'.2 (T + 12) j ∧ σx'.2 (T + 13) j = x'.2 (T + 13) j ∧ σx'.2 (T + 14) j = x'.2 (T + 14) j := by
  intro d
  induction d with
  | zero =>
    intro k σx e h hk e0 he
    obtain ⟨k, rfl⟩ : ∃ k', k = k' + 1 := ⟨k - 1, by omega⟩
    have nb := mz_nb h
    obtain ⟨σx', z1, z2, z3, z4, z5⟩ := nz_ja3 (σx.2 T 1).toNat 2000000 σx 0 h (by omega) (by omega) (by omega)
    refine ⟨σx', ?_, z2, fun j i _ _ _ _ => z3 _, fun j i q1 q2 => by omega, z5⟩
    unfold fz_X1_judgeAll_2
    rw [if_neg (by omega)]
    exact z1
  | succ d ih =>
    intro k σx e h hk e0 he
    obtain ⟨k, rfl⟩ : ∃ k', k = k' + 1 := ⟨k - 1, by omega⟩
    have nb := mz_nb h
    have hT := h.2.2.1.1
    obtain ⟨x1, y1, y2, y3, y4⟩ := nz_ja1 (k2 := fz_X1_judgeAll_2 2000000 k) (e := e) (e + 1).toNat 2000000 σx 0 h (by omega) (by omega) (by omega) (by omega) e0
    have h1 := h.gen y2 (bz_Upd.refl (S := fun _ _ => False)) (fun a k q => nz_C.t hT q) (fun a k q => q.elim)
    have n1 : x1.2 T 2 = σx.2 T 2 := y2.2.2 _ _ (fun c => by unfold nz_C cz_SJ at c; omega)
    have n1' : x1.2 T 1 = σx.2 T 1 := y2.2.2 _ _ (fun c => by unfold nz_C cz_SJ at c; omega)
    have o7 : ∀ j, x1.2 (T + 7) j = σx.2 (T + 7) j := fun j => y2.2.2 _ _ (fun c => by unfold nz_C cz_SJ at c; omega)
    obtain ⟨σx', z1, z2, z3, z4, z5⟩ := ih k x1 (e + 1) h1 (by omega) (by omega) (by rw [n1]; omega)
    refine ⟨σx', ?_, y2.trans z2, fun j i i0 i1 j0 j1 => ?_, fun j i q1 q2 q3 q4 => ?_, fun j q1 q2 => ?_⟩
    · rw [← z1, ← y1]
      conv => lhs; unfold fz_X1_judgeAll_2
      rw [if_pos (by omega)]
    · rw [z3 j i i0 (by omega) j0 (by omega), y3 j i i0 (by omega) j0 (by omega) (by omega) (by omega)]
    · by_cases ej : j = e
      · rw [ej]
        have a1 := z3 e i q3 (by omega) e0 (by omega)
        have a2 := z3 i e e0 (by omega) q3 (by omega)
        rw [a1, a2]
        exact y4 i q3 (by omega)
      · obtain ⟨w1, w2, w3⟩ := z4 j i (by omega) (by rw [n1]; exact q2) q3 q4
        exact ⟨w1, w2, fun c => (w3 (by rw [o7, o7]; exact c)).cong (nz_C.cS hT y2)⟩
    · obtain ⟨x, x', w1, w2, w3, w4⟩ := z5 j q1 (by rw [n1']; exact q2)
      exact ⟨x, x', w1, (nz_C.cS hT y2).trans w2, w3, w4⟩
end JA
/-- the reference's tables -/
def nz_D (a k : Int) : Prop := cz_SM a k ∨ a = 834 ∨ a = 835
theorem nz_D.t {a k : Int} (h : nz_D a k) : ¬ nz_t a ∧ ¬ (806 ≤ a ∧ a ≤ 819) ∧ ¬ (a = 804 ∧ k = 15) := by
  unfold nz_D cz_SM at h
  unfold nz_t
  omega
/-- one place of the tables: on a heap that tells the same both answer so -/
def nz_Tb (σ : az_Hp) (T s e o v f : Int) : Prop := ∃ m m6 x', mz_H m m T s ∧ bz_tS σ m ∧ fz_X11_meeting 2000000 m 804 e o = some (v, m6) ∧ (v = 0 ∨ v = 1 ∨ v = 2) ∧ fz_X1_rightsAgree 2000000 m 242 T e o = some (f, x') ∧ (f = 0 ∨ f = 1)
theorem nz_Tb.cong {σ σ' : az_Hp} {T s e o v f : Int} (h : nz_Tb σ T s e o v f) (hc : bz_tS σ' σ) : nz_Tb σ' T s e o v f := by
  obtain ⟨m, m6, x', h1, h2, h3⟩ := h
  exact ⟨m, m6, x', h1, hc.trans h2, h3⟩
theorem nz_lc1 {T s e : Int} {k2 : az_Hp → Int → Int → Option az_Hp} : ∀ (d k : Nat) (σ : az_Hp) (o : Int), mz_H σ σ T s → d < k → 0 ≤ o → o + d = σ.2 T 2 → 0 ≤ e → e < σ.2 T 2 →
    ∃ σ', fz_X11_laysCompatible_17 2000000 k2 k σ 804 e o = k2 σ' 804 (e + 1) ∧ bz_Upd σ σ' nz_D ∧ (∀ j i, 0 ≤ i → i < 16 → ¬ (j = e ∧ o ≤ i) → σ'.2 834 (16 * j + i) = σ.2 834 (16 * j + i) ∧ σ'.2 835 (16 * j + i) = σ.2 835 (16 * j + i)) ∧ ∀ i, o ≤ i → i < σ.2 T 2 → nz_Tb σ T s e i (σ'.2 834 (16 * e + i)) (σ'.2 835 (16 * e + i)) := by
  intro d
  induction d with
  | zero =>
    intro k σ o h hk o0 ho e0 e1
    obtain ⟨k, rfl⟩ : ∃ k', k = k' + 1 := ⟨k - 1, by omega⟩
    have hm := mz_many h
    have nb := mz_nb h
    refine ⟨σ, ?_, bz_Upd.refl, fun j i _ _ _ => ⟨rfl, rfl⟩, fun i q1 q2 => by omega⟩
    conv => lhs; unfold fz_X11_laysCompatible_17
    rw [hm.1, Option.bind_some, hm.2, Option.bind_some, if_neg (by omega), az_w32_id (by omega) (by omega)]
  | succ d ih =>
    intro k σ o h hk o0 ho e0 e1
    obtain ⟨k, rfl⟩ : ∃ k', k = k' + 1 := ⟨k - 1, by omega⟩
    have hm := mz_many h
    have nb := mz_nb h
    obtain ⟨v, f, x', m6, r1, r2, r3, r4, r5, r6, r7, r8, r9⟩ := mz_fit h e0 e1 o0 (by omega)
    have hF6 := h.2.1.upd r6
    have l834 := ln_834 hF6
    have l835 := ln_835 hF6
    have u5 : bz_Upd m6 (az_wr m6 834 (16 * e + o) v) (fun a _ => a = 834 ∨ a = 835) := bz_Upd.wr bz_Upd.refl (Or.inl rfl) (by unfold bz_isFix; simp [bz_cap, bz_fixL, bz_rowsL])
    have f834 : bz_isFix 834 (16 * e + o) = false := by unfold bz_isFix; simp [bz_cap, bz_fixL, bz_rowsL]
    have f835 : bz_isFix 835 (16 * e + o) = false := by unfold bz_isFix; simp [bz_cap, bz_fixL, bz_rowsL]
    have u6 : bz_Upd σ (az_wr (az_wr m6 834 (16 * e + o) v) 835 (16 * e + o) f) nz_D := ((r6.weak (S' := nz_D) (fun _ _ q => Or.inl q)).wr (Or.inr (Or.inl rfl)) f834).wr (Or.inr (Or.inr rfl)) f835
    have g53 : az_gref (az_wr m6 834 (16 * e + o) v) 804 53 = some 833 := by rw [bz_gref_wr (by omega), fx_804_53 hF6]
    have l833 := ln_833 hF6
    have run : fz_X11_laysCompatible_17 2000000 k2 (k + 1) σ 804 e o = fz_X11_laysCompatible_17 2000000 k2 k (az_wr (az_wr m6 834 (16 * e + o) v) 835 (16 * e + o) f) 804 e (o + 1) := by
      conv => lhs; unfold fz_X11_laysCompatible_17
      rw [hm.1, Option.bind_some, hm.2, Option.bind_some, if_pos (by omega), r2, Option.bind_some]
      simp only [fx_804_54 hF6, Option.bind_some]
      rw [az_w32_id (z := 16 * e) (by omega) (by omega), az_w32_id (z := 16 * e + o) (by omega) (by omega), bz_awr (by omega) (by omega), Option.bind_some, bz_gref_wr (by omega), fx_804_55 hF6, Option.bind_some, az_w32_id (z := o + 1) (by omega) (by omega)]
      rcases r3 with rfl | rfl | rfl
      · rw [if_pos rfl, bz_awz (by omega) (by rw [bz_ln_wr]; omega) (Or.inr rfl), Option.bind_some, r7 rfl]
      · rw [if_neg (by decide), if_pos rfl, g53, Option.bind_some, bz_ard (by omega) (by rw [bz_ln_wr]; omega), Option.bind_some, Option.bind_some, bz_ard (by omega) (by rw [bz_ln_wr]; omega), Option.bind_some, az_wr_ne (by omega), az_wr_ne (by omega), r9 rfl _ u5, Option.bind_some]
        rcases r4 with rfl | rfl
        · rw [if_pos rfl, bz_awz (by omega) (by rw [bz_ln_wr]; omega) (Or.inl rfl), Option.bind_some]
        · rw [if_neg (by decide), bz_awz (by omega) (by rw [bz_ln_wr]; omega) (Or.inr rfl), Option.bind_some]
      · rw [if_neg (by decide), if_neg (by decide), bz_awz (by omega) (by rw [bz_ln_wr]; omega) (Or.inl rfl), Option.bind_some, r8 rfl]
    have tS1 : bz_tS σ (az_wr (az_wr m6 834 (16 * e + o) v) 835 (16 * e + o) f) := fun a k q => u6.2.2 a k (fun c => by have := nz_D.t c; unfold nz_t at this; omega)
    have h1 : mz_H (az_wr (az_wr m6 834 (16 * e + o) v) 835 (16 * e + o) f) (az_wr (az_wr m6 834 (16 * e + o) v) 835 (16 * e + o) f) T s := h.gen u6 u6 (fun a k q => (nz_D.t q).1) (fun a k q => nz_D.t q)
    have hT := h.2.2.1.1
    have n1 : (az_wr (az_wr m6 834 (16 * e + o) v) 835 (16 * e + o) f).2 T 2 = σ.2 T 2 := tS1 _ _ (by omega)
    have e834 : ∀ j, m6.2 834 j = σ.2 834 j := fun j => r6.2.2 _ _ (fun c => by unfold cz_SM at c; omega)
    have e835 : ∀ j, m6.2 835 j = σ.2 835 j := fun j => r6.2.2 _ _ (fun c => by unfold cz_SM at c; omega)
    obtain ⟨σ', z1, z2, z3, z4⟩ := ih k _ (o + 1) h1 (by omega) (by omega) (by rw [n1]; omega) e0 (by rw [n1]; exact e1)
    refine ⟨σ', by rw [run, z1], u6.trans z2, fun j i i0 i1 hn => ?_, fun i q1 q2 => ?_⟩
    · obtain ⟨y1, y2⟩ := z3 j i i0 i1 (by omega)
      rw [y1, y2]
      constructor
      · rw [az_wr_ne (by omega), az_wr_ne (by omega), e834]
      · rw [az_wr_ne (by omega), az_wr_ne (by omega), e835]
    · by_cases ei : i = o
      · rw [ei]
        obtain ⟨y1, y2⟩ := z3 e o o0 (by omega) (by omega)
        rw [y1, y2, az_wr_same, az_wr_ne (by omega), az_wr_same]
        exact ⟨σ, m6, x', h, bz_tS.refl, r2, r3, r1, r4⟩
      · exact (z4 i (by omega) (by rw [n1]; exact q2)).cong tS1
theorem nz_lc2 {T s : Int} : ∀ (d k : Nat) (σ : az_Hp) (e : Int), mz_H σ σ T s → d < k → 0 ≤ e → e + d = σ.2 T 2 →
    ∃ σ', fz_X11_laysCompatible_2 2000000 k σ 804 e = some σ' ∧ bz_Upd σ σ' nz_D ∧ (∀ j i, 0 ≤ i → i < 16 → j < e → σ'.2 834 (16 * j + i) = σ.2 834 (16 * j + i) ∧ σ'.2 835 (16 * j + i) = σ.2 835 (16 * j + i)) ∧ ∀ j i, e ≤ j → j < σ.2 T 2 → 0 ≤ i → i < σ.2 T 2 → nz_Tb σ T s j i (σ'.2 834 (16 * j + i)) (σ'.2 835 (16 * j + i)) := by
  intro d
  induction d with
  | zero =>
    intro k σ e h hk e0 he
    obtain ⟨k, rfl⟩ : ∃ k', k = k' + 1 := ⟨k - 1, by omega⟩
    have hm := mz_many h
    refine ⟨σ, ?_, bz_Upd.refl, fun j i _ _ _ => ⟨rfl, rfl⟩, fun j i q1 q2 => by omega⟩
    unfold fz_X11_laysCompatible_2
    rw [hm.1, Option.bind_some, hm.2, Option.bind_some, if_neg (by omega)]
  | succ d ih =>
    intro k σ e h hk e0 he
    obtain ⟨k, rfl⟩ : ∃ k', k = k' + 1 := ⟨k - 1, by omega⟩
    have hm := mz_many h
    have nb := mz_nb h
    have hT := h.2.2.1.1
    obtain ⟨x1, y1, y2, y3, y4⟩ := nz_lc1 (k2 := fz_X11_laysCompatible_2 2000000 k) (e := e) (σ.2 T 2).toNat 2000000 σ 0 h (by omega) (by omega) (by omega) e0 (by omega)
    have tS1 : bz_tS σ x1 := fun a k q => y2.2.2 a k (fun c => by have := nz_D.t c; unfold nz_t at this; omega)
    have h1 : mz_H x1 x1 T s := h.gen y2 y2 (fun a k q => (nz_D.t q).1) (fun a k q => nz_D.t q)
    have n1 : x1.2 T 2 = σ.2 T 2 := tS1 _ _ (by omega)
    obtain ⟨σ', z1, z2, z3, z4⟩ := ih k x1 (e + 1) h1 (by omega) (by omega) (by rw [n1]; omega)
    refine ⟨σ', ?_, y2.trans z2, fun j i i0 i1 hj => ?_, fun j i q1 q2 q3 q4 => ?_⟩
    · rw [← z1, ← y1]
      conv => lhs; unfold fz_X11_laysCompatible_2
      rw [hm.1, Option.bind_some, hm.2, Option.bind_some, if_pos (by omega)]
    · obtain ⟨w1, w2⟩ := z3 j i i0 i1 (by omega)
      obtain ⟨w3, w4⟩ := y3 j i i0 i1 (by omega)
      exact ⟨w1.trans w3, w2.trans w4⟩
    · by_cases ej : j = e
      · rw [ej]
        obtain ⟨w1, w2⟩ := z3 e i q3 (by omega) (by omega)
        rw [w1, w2]
        exact y4 i q3 q4
      · exact (z4 j i (by omega) (by rw [n1]; exact q2) q3 (by rw [n1]; exact q4)).cong tS1
