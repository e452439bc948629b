/-! words and names looked up -/
def rd_first (f : Int → Bool) : Nat → Int → Int
  | 0, _ => -1
  | d + 1, i => if f i then i else rd_first f d (i + 1)
theorem rd_first_congr {f g : Int → Bool} : ∀ (d : Nat) (i : Int), (∀ j, i ≤ j → j < i + d → f j = g j) → rd_first f d i = rd_first g d i := by
  intro d
  induction d with
  | zero => intro i _; rfl
  | succ d ih =>
    intro i h
    unfold rd_first
    rw [h i (by omega) (by push_cast; omega), ih (i + 1) (fun j a b => h j (by omega) (by push_cast; omega))]
theorem rd_first_spec {f : Int → Bool} : ∀ (d : Nat) (i : Int), 0 ≤ i → (rd_first f d i = -1 ∧ ∀ j, i ≤ j → j < i + d → f j = false) ∨ (i ≤ rd_first f d i ∧ rd_first f d i < i + d ∧ f (rd_first f d i) = true ∧ ∀ j, i ≤ j → j < rd_first f d i → f j = false) := by
  intro d
  induction d with
  | zero => intro i _; exact Or.inl ⟨rfl, fun j a b => by omega⟩
  | succ d ih =>
    intro i i0
    unfold rd_first
    by_cases c : f i = true
    · rw [if_pos c]
      exact Or.inr ⟨by omega, by push_cast; omega, c, fun j a b => by omega⟩
    · rw [if_neg c]
      have cf : f i = false := by simpa using c
      rcases ih (i + 1) (by omega) with ⟨a, b⟩ | ⟨a, b, e, g⟩
      · refine Or.inl ⟨a, fun j q1 q2 => ?_⟩
        by_cases e : j = i
        · rw [e]; exact cf
        · exact b j (by omega) (by push_cast at q2; omega)
      · refine Or.inr ⟨by omega, by push_cast; omega, e, fun j q1 q2 => ?_⟩
        by_cases e : j = i
        · rw [e]; exact cf
        · exact g j (by omega) q2
theorem rd_lcmp {a b : Int} : (az_lcmpV a b = 0) ↔ a = b := by
  unfold az_lcmpV
  by_cases c : a < b
  · rw [if_pos c]; omega
  · rw [if_neg c]
    by_cases e : a = b
    · rw [if_pos e]; exact ⟨fun _ => e, fun _ => rfl⟩
    · rw [if_neg e]; exact ⟨fun z => by omega, fun z => absurd z e⟩
/-- a word in a row of the reference -/
theorem rd_findIn {σ : az_Hp} {A many w : Int} (l0 : 0 ≤ many) (l1 : many ≤ az_ln σ A) (l2 : az_ln σ A ≤ 100000) : fz_X11_findIn 2000000 σ A many w = some (rd_first (fun i => decide (σ.2 A i = w)) many.toNat 0) := by
  have gen : ∀ (d k : Nat) (i : Int), d < k → 0 ≤ i → i + d = many → fz_X11_findIn_3 2000000 k σ A many w i = some (rd_first (fun i => decide (σ.2 A i = w)) d i) := by
    intro d
    induction d with
    | zero =>
      intro k i hk i0 hi
      obtain ⟨k, rfl⟩ : ∃ k', k = k' + 1 := ⟨k - 1, by omega⟩
      unfold fz_X11_findIn_3
      rw [if_neg (by omega)]
      rfl
    | succ d ih =>
      intro k i hk i0 hi
      obtain ⟨k, rfl⟩ : ∃ k', k = k' + 1 := ⟨k - 1, by omega⟩
      unfold fz_X11_findIn_3 rd_first
      rw [if_pos (by omega), bz_ard i0 (by omega), Option.bind_some]
      by_cases c : σ.2 A i = w
      · rw [if_pos (rd_lcmp.mpr c), if_pos (by simp [c])]
      · rw [if_neg (fun z => c (rd_lcmp.mp z)), if_neg (by simp [c]), az_w32_id (by omega) (by omega)]
        exact ih k (i + 1) (by omega) (by omega) (by push_cast at hi; omega)
  exact gen many.toNat 2000000 0 (by omega) (by omega) (by omega)
theorem rd_indexOfWord {σ : az_Hp} {n v : Int} (hF : bz_Fx σ) (hn : σ.2 223 3 = n) (n0 : 0 ≤ n) (n1 : n ≤ 12) : fz_X4_indexOfWord 2000000 σ 223 v = some (rd_first (fun i => decide (σ.2 224 i = v)) n.toNat 0) := by
  have l := ln_224 hF
  have gen : ∀ (d k : Nat) (i : Int), d < k → 0 ≤ i → i + d = n → fz_X4_indexOfWord_2 2000000 k σ 223 v i = some (rd_first (fun i => decide (σ.2 224 i = v)) d i) := by
    intro d
    induction d with
    | zero =>
      intro k i hk i0 hi
      obtain ⟨k, rfl⟩ : ∃ k', k = k' + 1 := ⟨k - 1, by omega⟩
      unfold fz_X4_indexOfWord_2
      rw [if_neg (by omega)]
      rfl
    | succ d ih =>
      intro k i hk i0 hi
      obtain ⟨k, rfl⟩ : ∃ k', k = k' + 1 := ⟨k - 1, by omega⟩
      unfold fz_X4_indexOfWord_2 rd_first
      rw [if_pos (by omega), fx_223_2 hF, Option.bind_some, bz_ard i0 (by omega), Option.bind_some]
      by_cases c : σ.2 224 i = v
      · rw [if_pos c, if_pos (by simp [c])]
      · rw [if_neg c, if_neg (by simp [c]), az_w32_id (by omega) (by omega)]
        exact ih k (i + 1) (by omega) (by omega) (by push_cast at hi; omega)
  exact gen n.toNat 2000000 0 (by omega) (by omega) (by omega)
theorem rd_unknownOf {σ : az_Hp} {n v : Int} (hF : bz_Fx σ) (hn : σ.2 161 2 = n) (n0 : 0 ≤ n) (n1 : n ≤ 6) : fz_X6_unknownOf 2000000 σ 161 v = some (rd_first (fun i => decide (σ.2 166 i = v)) n.toNat 0) := by
  have l := ln_166 hF
  have gen : ∀ (d k : Nat) (i : Int), d < k → 0 ≤ i → i + d = n → fz_X6_unknownOf_2 2000000 k σ 161 v i = some (rd_first (fun i => decide (σ.2 166 i = v)) d i) := by
    intro d
    induction d with
    | zero =>
      intro k i hk i0 hi
      obtain ⟨k, rfl⟩ : ∃ k', k = k' + 1 := ⟨k - 1, by omega⟩
      unfold fz_X6_unknownOf_2
      rw [if_neg (by omega)]
      rfl
    | succ d ih =>
      intro k i hk i0 hi
      obtain ⟨k, rfl⟩ : ∃ k', k = k' + 1 := ⟨k - 1, by omega⟩
      unfold fz_X6_unknownOf_2 rd_first
      rw [if_pos (by omega), fx_161_7 hF, Option.bind_some, bz_ard i0 (by omega), Option.bind_some]
      by_cases c : σ.2 166 i = v
      · rw [if_pos c, if_pos (by simp [c])]
      · rw [if_neg c, if_neg (by simp [c]), az_w32_id (by omega) (by omega)]
        exact ih k (i + 1) (by omega) (by omega) (by push_cast at hi; omega)
  exact gen n.toNat 2000000 0 (by omega) (by omega) (by omega)
/-- constructors and families as both know them -/
def rd_Nm (x m : az_Hp) (T s : Int) : Prop := (T = 3 ∨ T = 82) ∧ (s = 0 ∨ s = 1) ∧ m.2 804 15 = s ∧ (x.2 T 0 = m.2 806 s ∧ x.2 T 1 = m.2 807 s) ∧ bz_tb (bz_ct m s) (bz_ft m s) (x.2 T 0) (x.2 T 1) ∧ (∀ k, 0 ≤ k → k < x.2 T 0 → bz_WR 64 (x.2 (T + 1) k) (m.2 809 (8 * s + k)) ∧ x.2 (T + 2) k = k * 16 + bz_ct m s k * 4 + 1) ∧ (∀ k, 0 ≤ k → k < x.2 T 1 → bz_WR 64 (x.2 (T + 3) k) (m.2 810 (5 * s + k)) ∧ x.2 (T + 4) k = k * 16 + bz_ft m s k * 4 + 2) ∧ ∀ k j, 0 ≤ k → k < x.2 T 0 → 0 ≤ j → j < x.2 T 1 → x.2 (T + 1) k ≠ x.2 (T + 3) j
theorem rd_conOf {m : az_Hp} {s w n : Int} (hF : bz_Fx m) (hs : s = 0 ∨ s = 1) (h15 : m.2 804 15 = s) (hn : m.2 806 s = n) (n0 : 0 ≤ n) (n8 : n ≤ 8) : fz_X11_conOf 2000000 m 804 w = some (rd_first (fun i => decide (m.2 809 (8 * s + i) = w)) n.toNat 0) := by
  have l := ln_806 hF
  have l9 := ln_809 hF
  have gen : ∀ (d k : Nat) (i : Int), d < k → 0 ≤ i → i + d = n → fz_X11_conOf_2 2000000 k m 804 w i = some (rd_first (fun i => decide (m.2 809 (8 * s + i) = w)) d i) := by
    intro d
    induction d with
    | zero =>
      intro k i hk i0 hi
      obtain ⟨k, rfl⟩ : ∃ k', k = k' + 1 := ⟨k - 1, by omega⟩
      unfold fz_X11_conOf_2
      rw [fx_804_16 hF, Option.bind_some, h15, bz_ard (by omega) (by omega), Option.bind_some, hn, if_neg (by omega)]
      rfl
    | succ d ih =>
      intro k i hk i0 hi
      obtain ⟨k, rfl⟩ : ∃ k', k = k' + 1 := ⟨k - 1, by omega⟩
      unfold fz_X11_conOf_2 rd_first
      rw [fx_804_16 hF, Option.bind_some, h15, bz_ard (by omega) (by omega), Option.bind_some, hn, if_pos (by omega), fx_804_19 hF, Option.bind_some, az_w32_id (z := 8 * s) (by omega) (by omega), az_w32_id (z := 8 * s + i) (by omega) (by omega), bz_ard (by omega) (by omega), Option.bind_some]
      by_cases c : m.2 809 (8 * s + i) = w
      · rw [if_pos (rd_lcmp.mpr c), if_pos (by simp [c])]
      · rw [if_neg (fun z => c (rd_lcmp.mp z)), if_neg (by simp [c]), az_w32_id (by omega) (by omega)]
        exact ih k (i + 1) (by omega) (by omega) (by push_cast at hi; omega)
  exact gen n.toNat 2000000 0 (by omega) (by omega) (by omega)
theorem rd_famOf {m : az_Hp} {s w n : Int} (hF : bz_Fx m) (hs : s = 0 ∨ s = 1) (h15 : m.2 804 15 = s) (hn : m.2 807 s = n) (n0 : 0 ≤ n) (n5 : n ≤ 5) : fz_X11_famOf 2000000 m 804 w = some (rd_first (fun i => decide (m.2 810 (5 * s + i) = w)) n.toNat 0) := by
  have l := ln_807 hF
  have l9 := ln_810 hF
  have gen : ∀ (d k : Nat) (i : Int), d < k → 0 ≤ i → i + d = n → fz_X11_famOf_2 2000000 k m 804 w i = some (rd_first (fun i => decide (m.2 810 (5 * s + i) = w)) d i) := by
    intro d
    induction d with
    | zero =>
      intro k i hk i0 hi
      obtain ⟨k, rfl⟩ : ∃ k', k = k' + 1 := ⟨k - 1, by omega⟩
      unfold fz_X11_famOf_2
      rw [fx_804_17 hF, Option.bind_some, h15, bz_ard (by omega) (by omega), Option.bind_some, hn, if_neg (by omega)]
      rfl
    | succ d ih =>
      intro k i hk i0 hi
      obtain ⟨k, rfl⟩ : ∃ k', k = k' + 1 := ⟨k - 1, by omega⟩
      unfold fz_X11_famOf_2 rd_first
      rw [fx_804_17 hF, Option.bind_some, h15, bz_ard (by omega) (by omega), Option.bind_some, hn, if_pos (by omega), fx_804_20 hF, Option.bind_some, az_w32_id (z := 5 * s) (by omega) (by omega), az_w32_id (z := 5 * s + i) (by omega) (by omega), bz_ard (by omega) (by omega), Option.bind_some]
      by_cases c : m.2 810 (5 * s + i) = w
      · rw [if_pos (rd_lcmp.mpr c), if_pos (by simp [c])]
      · rw [if_neg (fun z => c (rd_lcmp.mp z)), if_neg (by simp [c]), az_w32_id (by omega) (by omega)]
        exact ih k (i + 1) (by omega) (by omega) (by push_cast at hi; omega)
  exact gen n.toNat 2000000 0 (by omega) (by omega) (by omega)
theorem rd_codeOf {x : az_Hp} {T v : Int} (hF : bz_Fx x) (hT : T = 3 ∨ T = 82) (n0 : 0 ≤ x.2 T 0) (n1 : x.2 T 0 ≤ 8) (f0 : 0 ≤ x.2 T 1) (f1 : x.2 T 1 ≤ 5) : fz_X9_codeOf 2000000 x T v = some (if rd_first (fun i => decide (x.2 (T + 1) i = v)) (x.2 T 0).toNat 0 = -1 then (if rd_first (fun i => decide (x.2 (T + 3) i = v)) (x.2 T 1).toNat 0 = -1 then -1 else x.2 (T + 4) (rd_first (fun i => decide (x.2 (T + 3) i = v)) (x.2 T 1).toNat 0)) else x.2 (T + 2) (rd_first (fun i => decide (x.2 (T + 1) i = v)) (x.2 T 0).toNat 0)) := by
  have g := bz_tg hF hT
  have l := bz_tl hF hT
  have fam : ∀ (d k : Nat) (i : Int), d < k → 0 ≤ i → i + d = x.2 T 1 → fz_X9_codeOf_35 2000000 k x T v i = some (if rd_first (fun i => decide (x.2 (T + 3) i = v)) d i = -1 then -1 else x.2 (T + 4) (rd_first (fun i => decide (x.2 (T + 3) i = v)) d i)) := by
    intro d
    induction d with
    | zero =>
      intro k i hk i0 hi
      obtain ⟨k, rfl⟩ : ∃ k', k = k' + 1 := ⟨k - 1, by omega⟩
      unfold fz_X9_codeOf_35
      rw [if_neg (by omega), show rd_first (fun i => decide (x.2 (T + 3) i = v)) 0 i = -1 from rfl, if_pos rfl]
    | succ d ih =>
      intro k i hk i0 hi
      obtain ⟨k, rfl⟩ : ∃ k', k = k' + 1 := ⟨k - 1, by omega⟩
      have e : rd_first (fun i => decide (x.2 (T + 3) i = v)) (d + 1) i = if x.2 (T + 3) i = v then i else rd_first (fun i => decide (x.2 (T + 3) i = v)) d (i + 1) := by
        conv => lhs; unfold rd_first
        by_cases c : x.2 (T + 3) i = v
        · rw [if_pos c, if_pos (by simp [c])]
        · rw [if_neg c, if_neg (by simp [c])]
      rw [e]
      unfold fz_X9_codeOf_35
      rw [if_pos (by omega), g.2.2.1, Option.bind_some, bz_ard i0 (by omega), Option.bind_some]
      by_cases c : x.2 (T + 3) i = v
      · rw [if_pos c, if_pos c, if_neg (by omega), g.2.2.2.1, Option.bind_some, bz_ard i0 (by omega), Option.bind_some]
      · rw [if_neg c, if_neg c, az_w32_id (by omega) (by omega)]
        exact ih k (i + 1) (by omega) (by omega) (by push_cast at hi; omega)
  have con : ∀ (d k : Nat) (i : Int), d < k → 0 ≤ i → i + d = x.2 T 0 → fz_X9_codeOf_2 2000000 k x T v i = some (if rd_first (fun i => decide (x.2 (T + 1) i = v)) d i = -1 then (if rd_first (fun i => decide (x.2 (T + 3) i = v)) (x.2 T 1).toNat 0 = -1 then -1 else x.2 (T + 4) (rd_first (fun i => decide (x.2 (T + 3) i = v)) (x.2 T 1).toNat 0)) else x.2 (T + 2) (rd_first (fun i => decide (x.2 (T + 1) i = v)) d i)) := by
    intro d
    induction d with
    | zero =>
      intro k i hk i0 hi
      obtain ⟨k, rfl⟩ : ∃ k', k = k' + 1 := ⟨k - 1, by omega⟩
      unfold fz_X9_codeOf_2
      rw [if_neg (by omega), show rd_first (fun i => decide (x.2 (T + 1) i = v)) 0 i = -1 from rfl, if_pos rfl]
      exact fam (x.2 T 1).toNat 2000000 0 (by omega) (by omega) (by omega)
    | succ d ih =>
      intro k i hk i0 hi
      obtain ⟨k, rfl⟩ : ∃ k', k = k' + 1 := ⟨k - 1, by omega⟩
      have e : rd_first (fun i => decide (x.2 (T + 1) i = v)) (d + 1) i = if x.2 (T + 1) i = v then i else rd_first (fun i => decide (x.2 (T + 1) i = v)) d (i + 1) := by
        conv => lhs; unfold rd_first
        by_cases c : x.2 (T + 1) i = v
        · rw [if_pos c, if_pos (by simp [c])]
        · rw [if_neg c, if_neg (by simp [c])]
      rw [e]
      unfold fz_X9_codeOf_2
      rw [if_pos (by omega), g.1, Option.bind_some, bz_ard i0 (by omega), Option.bind_some]
      by_cases c : x.2 (T + 1) i = v
      · rw [if_pos c, if_pos c, if_neg (by omega), g.2.1, Option.bind_some, bz_ard i0 (by omega), Option.bind_some]
      · rw [if_neg c, if_neg c, az_w32_id (by omega) (by omega)]
        exact ih k (i + 1) (by omega) (by omega) (by push_cast at hi; omega)
  exact con (x.2 T 0).toNat 2000000 0 (by omega) (by omega) (by omega)
