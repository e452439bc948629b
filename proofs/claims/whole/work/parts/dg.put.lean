-- ends: the class puts the bytes of a class
def pj_N (x0 : az_Hp) (T : Int) (D : Int → Prop) (rk : Int → Nat) (W : Int → List Int) (x : Int) : Prop :=
  0 ≤ x ∧ ((∃ i, (0 ≤ i ∧ i ≤ 30) ∧ (∀ σ, pz_U x0 σ pz_SX → fz_X0_joinedCode 2000000 σ 231 x = some (-i - 1)) ∧ W x = [97 + i]) ∨
    ∃ (cd : Int) (w : List Int) (a : Nat) (kd : Int → Int), 0 ≤ cd ∧ a ≤ 3 ∧ 1 ≤ w.length ∧ (∀ σ, pz_U x0 σ pz_SX → fz_X0_joinedCode 2000000 σ 231 x = some cd) ∧ (∀ σ, fz_X7_arity σ cd = some (a : Int)) ∧
      (∀ σ L, pz_U x0 σ pz_SX → pz_O σ L → L.length + 8 < 100000 → ∃ q σ', fz_X9_nameOf σ T cd = some q ∧ fz_X3_putLetters 2000000 σ 801 q 65 = some σ' ∧ pz_U σ σ' pz_SP ∧ pz_O σ' (L ++ w)) ∧
      (∀ k : Int, 0 ≤ k → k < (a : Int) → (∀ σ, pz_U x0 σ pz_SX → fz_X0_joinedKid 2000000 σ 231 x k = some (kd k)) ∧ D (kd k) ∧ rk (kd k) < rk x) ∧ W x = w ++ ew_A W kd a 0)
def pj_A (W : Int → List Int) (kd : Int → Int) : Nat → Int → List Int
  | 0, _ => []
  | e + 1, k => W (kd k) ++ (if e = 0 then 41 else 44) :: pj_A W kd e (k + 1)
theorem pj_A_eq {W : Int → List Int} {kd : Int → Int} : ∀ (r : Nat) (k : Int), 0 ≤ k → W (kd k) ++ ew_A W kd r (k + 1) = pj_A W kd (r + 1) k := by
  intro r
  induction r with
  | zero =>
    intro k k0
    show W (kd k) ++ (if k + 1 = 0 then [] else [41]) = W (kd k) ++ (if 0 = 0 then 41 else 44) :: []
    rw [if_neg (by omega), if_pos rfl]
  | succ r ih =>
    intro k k0
    show W (kd k) ++ ((if k + 1 = 0 then 40 else 44) :: (W (kd (k + 1)) ++ ew_A W kd r (k + 1 + 1))) = W (kd k) ++ (if r + 1 = 0 then 41 else 44) :: pj_A W kd (r + 1) (k + 1)
    rw [if_neg (by omega), if_neg (by omega), ih (k + 1) (by omega)]
theorem pj_A_0 {W : Int → List Int} {kd : Int → Int} {a : Nat} (ha : 0 < a) : ew_A W kd a 0 = 40 :: pj_A W kd a 0 := by
  obtain ⟨r, rfl⟩ : ∃ r, a = r + 1 := ⟨a - 1, by omega⟩
  show (if (0 : Int) = 0 then 40 else 44) :: (W (kd 0) ++ ew_A W kd r (0 + 1)) = 40 :: pj_A W kd (r + 1) 0
  rw [if_pos rfl, pj_A_eq r 0 (by omega)]
theorem pj_wr {x0 σ : az_Hp} {i v : Int} (h : pz_U x0 σ pz_SX) : pz_U x0 (az_wr σ 803 i v) pz_SX := h.trans (pz_U.of (bz_Upd.wr bz_Upd.refl (Or.inr rfl) (by unfold bz_isFix; simp [bz_cap, bz_fixL, bz_rowsL])))
section PJ
variable {x0 : az_Hp} {T : Int}
/-- the arguments come onto the stack, the last one first -/
theorem pj_push (hF : bz_Fx x0) {x v5 : Int} {a : Nat} {kd : Int → Int} (hk : ∀ k : Int, 0 ≤ k → k < (a : Int) → ∀ σ, pz_U x0 σ pz_SX → fz_X0_joinedKid 2000000 σ 231 x k = some (kd k)) (a3 : a ≤ 3) (h5 : 0 ≤ v5) (h5' : v5 < 1000000) :
    ∀ (j kf : Nat) (σ : az_Hp) (L : List Int) (B : Int), j < kf → j ≤ a → pz_U x0 σ pz_SX → pz_O σ L → 0 ≤ B → B + 2 * j ≤ 1000 →
    ∃ σ', (∀ k20 : az_Hp → Int → Int → Int → Int → Int → Option az_Hp, fz_X3_putJoined_150 2000000 k20 kf σ 801 231 T B v5 x a ((j : Int) - 1) = k20 σ' 801 231 T (B + 2 * j) (v5 + 1)) ∧ pz_U x0 σ' pz_SX ∧ pz_O σ' L ∧ (∀ i, i < B → σ'.2 803 i = σ.2 803 i) ∧ ∀ e : Nat, e < j → σ'.2 803 (B + 2 * ((j : Int) - 1 - e)) = (if (e : Int) = (a : Int) - 1 then -2 else -1) ∧ σ'.2 803 (B + 2 * ((j : Int) - 1 - e) + 1) = kd e := by
  intro j
  induction j with
  | zero =>
    intro kf σ L B hkf hj hU hO hB hB2
    obtain ⟨kf, rfl⟩ : ∃ q, kf = q + 1 := ⟨kf - 1, by omega⟩
    refine ⟨σ, fun k20 => ?_, hU, hO, fun _ _ => rfl, fun e he => by omega⟩
    unfold fz_X3_putJoined_150
    rw [if_pos (by simp), az_w32_id (by omega) (by omega)]
    simp
  | succ j ih =>
    intro kf σ L B hkf hj hU hO hB hB2
    obtain ⟨kf, rfl⟩ : ∃ q, kf = q + 1 := ⟨kf - 1, by omega⟩
    push_cast at hB2
    have fin : ∀ sp : Int, (sp = if (j : Int) = (a : Int) - 1 then -2 else -1) → ∃ σ', (∀ k20 : az_Hp → Int → Int → Int → Int → Int → Option az_Hp, fz_X3_putJoined_176 2000000 k20 (fz_X3_putJoined_150 2000000 k20 kf) σ 801 231 T B v5 x a j 803 B sp = k20 σ' 801 231 T (B + 2 * ((j + 1 : Nat) : Int)) (v5 + 1)) ∧ pz_U x0 σ' pz_SX ∧ pz_O σ' L ∧ (∀ i, i < B → σ'.2 803 i = σ.2 803 i) ∧ ∀ e : Nat, e < j + 1 → σ'.2 803 (B + 2 * (((j + 1 : Nat) : Int) - 1 - e)) = (if (e : Int) = (a : Int) - 1 then -2 else -1) ∧ σ'.2 803 (B + 2 * (((j + 1 : Nat) : Int) - 1 - e) + 1) = kd e := by
      intro sp hsp
      have U1 := pj_wr (i := B) (v := sp) hU
      have F1 := U1.fx hF
      have ln0 : az_ln σ 803 = 1024 := ln_803 (hU.fx hF)
      have ln1 : az_ln (az_wr σ 803 B sp) 803 = 1024 := ln_803 F1
      have jk := hk j (by omega) (by omega) _ U1
      have U2 := pj_wr (i := B + 1) (v := kd j) U1
      obtain ⟨σ', r1, r2, r3, r4, r5⟩ := ih kf (az_wr (az_wr σ 803 B sp) 803 (B + 1) (kd j)) L (B + 2) (by omega) (by omega) U2 ((hO.wr).wr) (by omega) (by omega)
      refine ⟨σ', fun k20 => ?_, r2, r3, fun i hi => ?_, fun e he => ?_⟩
      · unfold fz_X3_putJoined_176
        rw [bz_awr hB (by rw [ln0]; omega), Option.bind_some, fx_801_2 F1, Option.bind_some, jk, Option.bind_some, az_w32_id (z := B + 1) (by omega) (by omega), bz_awr (by omega) (by rw [ln1]; omega), Option.bind_some, az_w32_id (z := B + 2) (by omega) (by omega), az_w32_id (by omega) (by omega)]
        have e1 : (j : Int) + -1 = (j : Int) - 1 := by omega
        rw [e1, r1 k20]
        have e2 : B + 2 + 2 * (j : Int) = B + 2 * ((j + 1 : Nat) : Int) := by push_cast; omega
        rw [e2]
      · rw [r4 i (by omega), az_wr_ne (by omega), az_wr_ne (by omega)]
      · push_cast
        by_cases q : e = j
        · subst q
          have e3 : B + 2 * ((e : Int) + 1 - 1 - e) = B := by omega
          rw [e3, r4 B (by omega), r4 (B + 1) (by omega), az_wr_same, az_wr_ne (by omega), az_wr_same]
          exact ⟨hsp, rfl⟩
        · have w := r5 e (by omega)
          have e3 : B + 2 * ((j : Int) + 1 - 1 - e) = B + 2 + 2 * ((j : Int) - 1 - e) := by omega
          rw [e3]
          exact w
    have e0 : ((j + 1 : Nat) : Int) - 1 = j := by push_cast; omega
    rw [e0]
    have red : ∀ k20 : az_Hp → Int → Int → Int → Int → Int → Option az_Hp, fz_X3_putJoined_150 2000000 k20 (kf + 1) σ 801 231 T B v5 x a j = fz_X3_putJoined_176 2000000 k20 (fz_X3_putJoined_150 2000000 k20 kf) σ 801 231 T B v5 x a j 803 B (if (j : Int) = (a : Int) - 1 then -2 else -1) := fun k20 => by
      conv => lhs; unfold fz_X3_putJoined_150
      rw [if_neg (by omega), fx_801_2 (hU.fx hF), Option.bind_some, az_w32_id (by omega) (by omega)]
      by_cases q : (j : Int) = (a : Int) - 1
      · rw [if_pos q, if_pos q]
      · rw [if_neg q, if_neg q]
    obtain ⟨σ', r1, r2⟩ := fin _ rfl
    rw [e0] at r2
    exact ⟨σ', fun k20 => by rw [red k20]; exact r1 k20, r2⟩
/-- a sign -/
theorem pj_sign (hF : bz_Fx x0) {σ : az_Hp} {L : List Int} {v4 v5 : Int} {last : Prop} [Decidable last] (hU : pz_U x0 σ pz_SX) (hO : pz_O σ L) (h4 : 0 < v4) (h4' : v4 ≤ 1000) (h5 : 0 ≤ v5) (h5' : v5 < 999999) (hL : L.length < 100000) (hs : σ.2 803 (v4 - 1) = if last then -2 else -1) :
    ∃ σ', (∀ k, fz_X3_putJoined_20 2000000 (k + 1) σ 801 231 T v4 v5 = fz_X3_putJoined_20 2000000 k σ' 801 231 T (v4 - 1) (v5 + 1)) ∧ pz_U σ σ' pz_SP ∧ pz_O σ' (L ++ [if last then 41 else 44]) := by
  have F := hU.fx hF
  have r : az_ard σ 803 (v4 - 1) = some (if last then -2 else -1) := by rw [bz_ard (by omega) (by rw [ln_803 F]; omega), hs]
  have w4 : az_w32 (v4 + -1) = v4 - 1 := by rw [az_w32_id (by omega) (by omega)]; omega
  have w5 : az_w32 (v5 + 1) = v5 + 1 := az_w32_id (by omega) (by omega)
  by_cases l : last
  · obtain ⟨σ', t1, t2, t3⟩ := pz_put (c := 41) F hO hL
    refine ⟨σ', fun k => ?_, t2, by rw [if_pos l]; exact t3⟩
    conv => lhs; unfold fz_X3_putJoined_20
    rw [if_pos (by omega), if_pos h4, fx_801_2 F, Option.bind_some, w4, r, Option.bind_some, if_pos l, if_pos (by omega), if_neg (by omega), t1, Option.bind_some, w5]
  · obtain ⟨σ', t1, t2, t3⟩ := pz_put (c := 44) F hO hL
    refine ⟨σ', fun k => ?_, t2, by rw [if_neg l]; exact t3⟩
    conv => lhs; unfold fz_X3_putJoined_20
    rw [if_pos (by omega), if_pos h4, fx_801_2 F, Option.bind_some, w4, r, Option.bind_some, if_neg l, if_pos (by omega), if_pos (by omega), t1, Option.bind_some, w5]
def pj_Run (x0 : az_Hp) (T : Int) (W : Int → List Int) (rk : Int → Nat) (x : Int) : Prop :=
  ∀ (σ : az_Hp) (L : List Int) (v4 v5 : Int), pz_U x0 σ pz_SX → pz_O σ L → 0 < v4 → v4 + 6 * rk x ≤ 1000 → 0 ≤ v5 → v5 + (W x).length < 999999 → L.length + (W x).length + 10 < 100000 → σ.2 803 (v4 - 1) = x →
    ∃ (σ' : az_Hp) (it : Nat), it ≤ (W x).length ∧ (∀ k, fz_X3_putJoined_20 2000000 (k + it) σ 801 231 T v4 v5 = fz_X3_putJoined_20 2000000 k σ' 801 231 T (v4 - 1) (v5 + it)) ∧ pz_U x0 σ' pz_SX ∧ pz_O σ' (L ++ W x) ∧ ∀ i, i < v4 - 1 → σ'.2 803 i = σ.2 803 i
theorem pj_SP803 {σ σ' : az_Hp} (h : pz_U σ σ' pz_SP) (i : Int) : σ'.2 803 i = σ.2 803 i := h.2.2 803 i (by omega) (fun q => by unfold pz_SP at q; omega)
theorem pj_args (hF : bz_Fx x0) {W : Int → List Int} {rk : Int → Nat} {a : Nat} {kd : Int → Int} {R : Nat} (a3 : a ≤ 3) (hr : ∀ k : Int, 0 ≤ k → k < (a : Int) → pj_Run x0 T W rk (kd k) ∧ rk (kd k) < R) :
    ∀ (e : Nat) (σ : az_Hp) (L : List Int) (B v5 : Int) (k : Int), 0 ≤ k → k + e = a → pz_U x0 σ pz_SX → pz_O σ L → 0 ≤ B → B + 6 * R ≤ 1000 → 0 ≤ v5 → v5 + (pj_A W kd e k).length < 999999 → L.length + (pj_A W kd e k).length + 10 < 100000 → (∀ f : Nat, f < e → σ.2 803 (B + 2 * ((e : Int) - 1 - f)) = (if k + (f : Int) = (a : Int) - 1 then -2 else -1) ∧ σ.2 803 (B + 2 * ((e : Int) - 1 - f) + 1) = kd (k + f)) →
    ∃ (σ' : az_Hp) (it : Nat), it ≤ (pj_A W kd e k).length ∧ (∀ q, fz_X3_putJoined_20 2000000 (q + it) σ 801 231 T (B + 2 * e) v5 = fz_X3_putJoined_20 2000000 q σ' 801 231 T B (v5 + it)) ∧ pz_U x0 σ' pz_SX ∧ pz_O σ' (L ++ pj_A W kd e k) ∧ ∀ i, i < B → σ'.2 803 i = σ.2 803 i := by
  intro e
  induction e with
  | zero =>
    intro σ L B v5 k k0 hk hU hO hB hB2 h5 h5' hL hs
    refine ⟨σ, 0, Nat.zero_le _, fun q => by simp, hU, ?_, fun _ _ => rfl⟩
    show pz_O σ (L ++ [])
    rw [List.append_nil]
    exact hO
  | succ e ih =>
    intro σ L B v5 k k0 hk hU hO hB hB2 h5 h5' hL hs
    have ka : k < (a : Int) := by push_cast at hk; omega
    obtain ⟨rn, rk1⟩ := hr k k0 ka
    have eA : pj_A W kd (e + 1) k = W (kd k) ++ (if e = 0 then 41 else 44) :: pj_A W kd e (k + 1) := rfl
    rw [eA, List.length_append, List.length_cons] at h5' hL
    have s0 := hs 0 (by omega)
    have i1 : B + 2 * (((e + 1 : Nat) : Int) - 1 - ((0 : Nat) : Int)) + 1 = B + 2 * ((e + 1 : Nat) : Int) - 1 := by push_cast; omega
    have i0 : B + 2 * (((e + 1 : Nat) : Int) - 1 - ((0 : Nat) : Int)) = B + 2 * ((e + 1 : Nat) : Int) - 1 - 1 := by push_cast; omega
    rw [i1, i0] at s0
    have kz : k + ((0 : Nat) : Int) = k := by simp
    rw [kz] at s0
    obtain ⟨σ1, t1, b1, r1, U1, O1, f1⟩ := rn σ L (B + 2 * ((e + 1 : Nat) : Int)) v5 hU hO (by push_cast; omega) (by push_cast; omega) h5 (by omega) (by omega) s0.2
    have hs1 : σ1.2 803 (B + 2 * ((e + 1 : Nat) : Int) - 1 - 1) = if k = (a : Int) - 1 then -2 else -1 := by rw [f1 _ (by omega)]; exact s0.1
    obtain ⟨σ2, r2, U2, O2⟩ := pj_sign (T := T) hF (v4 := B + 2 * ((e + 1 : Nat) : Int) - 1) (v5 := v5 + t1) U1 O1 (by push_cast; omega) (by push_cast; omega) (by omega) (by omega) (by rw [List.length_append]; omega) hs1
    have U2' : pz_U x0 σ2 pz_SX := U1.trans (U2.weak fun _ _ q => Or.inl q)
    have ee : (if k = (a : Int) - 1 then (41 : Int) else 44) = (if e = 0 then 41 else 44) := by
      by_cases z : e = 0
      · rw [if_pos z, if_pos (by rw [z] at hk; push_cast at hk; omega)]
      · rw [if_neg z, if_neg (by push_cast at hk; omega)]
    rw [ee] at O2
    obtain ⟨σ3, t3, b3, r3, U3, O3, f3⟩ := ih σ2 _ B (v5 + t1 + 1) (k + 1) (by omega) (by push_cast at hk; omega) U2' O2 hB hB2 (by omega) (by omega) (by rw [List.length_append, List.length_append, List.length_singleton]; omega) (fun f hf => by
      have w := hs (f + 1) (by omega)
      have j1 : B + 2 * (((e + 1 : Nat) : Int) - 1 - ((f + 1 : Nat) : Int)) = B + 2 * ((e : Int) - 1 - f) := by push_cast; omega
      have j2 : k + ((f + 1 : Nat) : Int) = k + 1 + f := by push_cast; omega
      rw [j1, j2] at w
      rw [pj_SP803 U2, pj_SP803 U2, f1 _ (by push_cast; omega), f1 _ (by push_cast; omega)]
      exact w)
    refine ⟨σ3, t1 + 1 + t3, by rw [eA, List.length_append, List.length_cons]; omega, fun q => ?_, U3, ?_, fun i hi => ?_⟩
    · have q1 := r1 (q + t3 + 1)
      have q2 := r2 (q + t3)
      have q3 := r3 q
      have z1 : q + t3 + 1 + t1 = q + (t1 + 1 + t3) := by omega
      rw [z1] at q1
      have z2 : B + 2 * ((e + 1 : Nat) : Int) - 1 - 1 = B + 2 * (e : Int) := by push_cast; omega
      rw [z2] at q2
      rw [q1, q2, q3]
      have z3 : v5 + (t1 : Int) + 1 + (t3 : Int) = v5 + ((t1 + 1 + t3 : Nat) : Int) := by push_cast; omega
      rw [z3]
    · have z : L ++ pj_A W kd (e + 1) k = L ++ W (kd k) ++ [if e = 0 then 41 else 44] ++ pj_A W kd e (k + 1) := by rw [eA]; simp
      rw [z]
      exact O3
    · rw [f3 i hi, pj_SP803 U2, f1 i (by push_cast; omega)]
theorem pj_run (hF : bz_Fx x0) {D : Int → Prop} {rk : Int → Nat} {W : Int → List Int} (H : ∀ x, D x → pj_N x0 T D rk W x) : ∀ (d : Nat) (x : Int), D x → rk x < d → pj_Run x0 T W rk x := by
  intro d
  induction d with
  | zero => intro x _ h; omega
  | succ d ih =>
    intro x hD hr σ L v4 v5 hU hO h4 h4' h5 h5' hL hs
    have F := hU.fx hF
    obtain ⟨x0', N⟩ := H x hD
    have r : az_ard σ 803 (v4 - 1) = some x := by rw [bz_ard (by omega) (by rw [ln_803 F]; omega), hs]
    have w4 : az_w32 (v4 + -1) = v4 - 1 := by rw [az_w32_id (by omega) (by omega)]; omega
    have w5 : az_w32 (v5 + 1) = v5 + 1 := az_w32_id (by omega) (by omega)
    rcases N with ⟨i, ⟨i0, i1⟩, jc, eW⟩ | ⟨cd, w, a, kd, cd0, a3, wl, jc, ja, nm, kids, eW⟩
    · rw [eW] at h5' hL ⊢
      simp only [List.length_singleton] at h5' hL
      have xr : az_ixorV (-i - 1) (-1) = i := by rw [bz_xor (by omega) (by omega)]; omega
      obtain ⟨σ', t1, t2, t3⟩ := pz_put (c := 97 + i) F hO (by omega)
      refine ⟨σ', 1, Nat.le_refl _, fun k => ?_, hU.trans (t2.weak fun _ _ q => Or.inl q), t3, fun j _ => pj_SP803 t2 j⟩
      conv => lhs; unfold fz_X3_putJoined_20
      rw [if_pos (by omega), if_pos h4, fx_801_2 F, Option.bind_some, w4, r, Option.bind_some, if_neg (by omega), jc σ hU, Option.bind_some, if_pos (by omega), xr, az_w32_id (by omega) (by omega), t1, Option.bind_some, w5]
      rfl
    · rw [eW, List.length_append] at h5' hL
      obtain ⟨q, σ1, n1, n2, n3, n4⟩ := nm σ L hU hO (by omega)
      have U1 : pz_U x0 σ1 pz_SX := hU.trans (n3.weak fun _ _ q => Or.inl q)
      have F1 := U1.fx hF
      by_cases a0 : a = 0
      · subst a0
        have e0 : ew_A W kd 0 0 = [] := rfl
        rw [e0, List.append_nil] at eW
        rw [eW]
        refine ⟨σ1, 1, wl, fun k => ?_, U1, n4, fun j _ => pj_SP803 n3 j⟩
        conv => lhs; unfold fz_X3_putJoined_20
        rw [if_pos (by omega), if_pos h4, fx_801_2 F, Option.bind_some, w4, r, Option.bind_some, if_neg (by omega), jc σ hU, Option.bind_some, if_neg (by omega), n1, Option.bind_some, n2, Option.bind_some, ja σ1, Option.bind_some, if_pos (by simp), w5]
        rfl
      · have eA := pj_A_0 (W := W) (kd := kd) (a := a) (by omega)
        rw [eA, List.length_cons] at h5' hL
        rw [eA] at eW
        obtain ⟨σ2, p1, p2, p3⟩ := pz_put (c := 40) F1 n4 (by rw [List.length_append]; omega)
        have U2 : pz_U x0 σ2 pz_SX := U1.trans (p2.weak fun _ _ q => Or.inl q)
        have W2 : az_w32 (2 * (a : Int)) = 2 * a := az_w32_id (by omega) (by omega)
        have W3 : az_w32 (v4 - 1 + 2 * (a : Int)) = v4 - 1 + 2 * a := az_w32_id (by omega) (by omega)
        have W4 : az_w32 ((a : Int) - 1) = (a : Int) - 1 := az_w32_id (by omega) (by omega)
        have hr1 : ∀ k : Int, 0 ≤ k → k < (a : Int) → pj_Run x0 T W rk (kd k) ∧ rk (kd k) < rk x := fun k k0 k1 => ⟨ih (kd k) (kids k k0 k1).2.1 (by have := (kids k k0 k1).2.2; omega), (kids k k0 k1).2.2⟩
        have rpos : 1 ≤ rk x := by have := (hr1 0 (by omega) (by omega)).2; omega
        -- the stack
        obtain ⟨σ3, b1, U3, O3, g1, g2⟩ := pj_push (T := T) hF (x := x) (v5 := v5) (a := a) (kd := kd) (fun k k0 k1 => (kids k k0 k1).1) a3 h5 (by omega) a 2000000 σ2 _ (v4 - 1) (by omega) (Nat.le_refl _) U2 p3 (by omega) (by omega)
        have run : ∀ k, fz_X3_putJoined_20 2000000 (k + 1) σ 801 231 T v4 v5 = fz_X3_putJoined_20 2000000 k σ3 801 231 T (v4 - 1 + 2 * a) (v5 + 1) := fun k => by
          conv => lhs; unfold fz_X3_putJoined_20
          rw [if_pos (by omega), if_pos h4, fx_801_2 F, Option.bind_some, w4, r, Option.bind_some, if_neg (by omega), jc σ hU, Option.bind_some, if_neg (by omega), n1, Option.bind_some, n2, Option.bind_some, ja σ1, Option.bind_some, if_neg (by omega), fx_801_2 F1, Option.bind_some, W2, W3, ln_803 F1, if_neg (by omega), p1, Option.bind_some, W4]
          exact b1 _
        obtain ⟨σ4, t4, b4, r4, U4, O4, f4⟩ := pj_args (T := T) hF (W := W) (rk := rk) (kd := kd) (R := rk x) a3 hr1 a σ3 _ (v4 - 1) (v5 + 1) 0 (by omega) (by omega) U3 O3 (by omega) (by omega) (by omega) (by omega) (by rw [List.length_append, List.length_append, List.length_singleton]; omega) (fun f hf => by
          have z := g2 f hf
          have e0 : (0 : Int) + (f : Int) = f := by omega
          rw [e0]
          exact z)
        refine ⟨σ4, 1 + t4, by rw [eW, List.length_append, List.length_cons]; omega, fun k => ?_, U4, ?_, fun j hj => ?_⟩
        · have z1 : k + (1 + t4) = k + t4 + 1 := by omega
          rw [z1, run, r4]
          have z2 : v5 + 1 + (t4 : Int) = v5 + ((1 + t4 : Nat) : Int) := by push_cast; omega
          rw [z2]
        · have z : L ++ W x = L ++ w ++ [40] ++ pj_A W kd a 0 := by rw [eW]; simp
          rw [z]
          exact O4
        · rw [f4 j hj, g1 j hj, pj_SP803 p2, pj_SP803 n3]
end PJ
