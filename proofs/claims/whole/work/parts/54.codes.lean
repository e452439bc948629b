/-! rows of the reference, and how its codes and the class's go together -/
def bz_sd (σ : az_Hp) : Prop := σ.2 804 15 = 0 ∨ σ.2 804 15 = 1
def bz_tk (σ : az_Hp) (m : Int) : Int := if 1000 ≤ m then 0 else if 200 ≤ m then σ.2 812 (5 * σ.2 804 15 + (m - 200)) else σ.2 811 (8 * σ.2 804 15 + (m - 100))
def bz_mc (m : Int) : Prop := (1000 ≤ m ∧ m < 3000) ∨ (200 ≤ m ∧ m < 205) ∨ (100 ≤ m ∧ m < 108)
theorem bz_takes {σ : az_Hp} (hF : bz_Fx σ) (hs : bz_sd σ) {m : Int} (h : bz_mc m) : fz_X11_takes σ 804 m = some (bz_tk σ m) := by
  have g1 := fx_804_21 hF
  have g2 := fx_804_22 hF
  have l1 := ln_811 hF
  have l2 := ln_812 hF
  unfold bz_sd at hs
  unfold bz_mc at h
  unfold fz_X11_takes bz_tk fz_X11_isVar fz_X11_isFam
  by_cases h1 : 1000 ≤ m
  · rw [if_pos h1, if_neg (by omega)]; rfl
  · rw [if_neg h1, if_pos (by omega)]
    by_cases h2 : 200 ≤ m
    · rw [if_pos h2, if_neg (by omega), if_pos (by omega)]
      simp only [Option.bind_some, g2]
      rw [if_pos trivial, if_neg (by decide)]
      rw [az_w32_id (z := 5 * _) (by omega) (by omega), az_w32_id (z := 5 * _ + m) (by omega) (by omega), az_w32_id (by omega) (by omega), bz_ard (by omega) (by omega), Option.bind_some, show 5 * σ.2 804 15 + m - 200 = 5 * σ.2 804 15 + (m - 200) by omega]
    · rw [if_neg h2, if_pos (by omega)]
      simp only [Option.bind_some, g1]
      rw [if_pos trivial, if_pos trivial]
      rw [az_w32_id (z := 8 * _) (by omega) (by omega), az_w32_id (z := 8 * _ + m) (by omega) (by omega), az_w32_id (by omega) (by omega), bz_ard (by omega) (by omega), Option.bind_some, show 8 * σ.2 804 15 + m - 100 = 8 * σ.2 804 15 + (m - 100) by omega]
def bz_ma (σ : az_Hp) (A : Int) : Int → Int := fun j => bz_tk σ (σ.2 A j)
/-- codes that may be read there -/
def bz_mr (σ : az_Hp) (A i j : Int) : Prop := ∀ q, i ≤ q → q < j → bz_mc (σ.2 A q) ∧ 0 ≤ bz_tk σ (σ.2 A q) ∧ bz_tk σ (σ.2 A q) ≤ 3
theorem bz_sizeAtL {σ : az_Hp} {A b : Int} (hF : bz_Fx σ) (hs : bz_sd σ) (hA : az_ln σ A ≤ 100000) (hb : 0 ≤ b) {n : Nat} : ∀ (d k : Nat) (c i : Int), d < k → b ≤ i → c + 2 * d ≤ 100000 → i + d ≤ az_ln σ A → bz_mr σ A i (i + d) → bz_Sc (bz_ma σ A) d c i → fz_X11_sizeAt_5 n k σ 804 A b c i = some (i + d - b) := by
  intro d
  induction d with
  | zero =>
    intro k c i hk h0 hc h1 hm h
    obtain ⟨k, rfl⟩ : ∃ k', k = k' + 1 := ⟨k - 1, by omega⟩
    have : c = 0 := h
    subst this
    unfold fz_X11_sizeAt_5
    rw [if_neg (by omega), az_w32_id (by omega) (by omega)]
    congr 1
    omega
  | succ d ih =>
    intro k c i hk h0 hc h1 hm h
    obtain ⟨k, rfl⟩ : ∃ k', k = k' + 1 := ⟨k - 1, by omega⟩
    have hi := hm i (by omega) (by omega)
    have hlast : bz_Sc (bz_ma σ A) d (c - 1 + bz_tk σ (σ.2 A i)) (i + 1) := h.2
    have hcp := h.1
    have hq := ih k _ (i + 1) (by omega) (by omega) (by omega) (by omega) (fun q q0 q1 => hm q (by omega) (by omega)) hlast
    unfold fz_X11_sizeAt_5
    rw [if_pos hcp, bz_ard (by omega) (by omega), Option.bind_some, bz_takes hF hs hi.1, Option.bind_some, az_w32_id (z := bz_tk σ (σ.2 A i) - 1) (by omega) (by omega), az_w32_id (by omega) (by omega), az_w32_id (by omega) (by omega)]
    have e : c + (bz_tk σ (σ.2 A i) - 1) = c - 1 + bz_tk σ (σ.2 A i) := by omega
    rw [e, hq]
    congr 1
    omega
theorem bz_sizeAt {σ : az_Hp} {A : Int} (hF : bz_Fx σ) (hs : bz_sd σ) (hA : az_ln σ A ≤ 100000) {d : Nat} {i : Int} (hi : 0 ≤ i) (h1 : i + d ≤ az_ln σ A) (hd : d ≤ 1000) (hm : bz_mr σ A i (i + d)) (h : bz_Sc (bz_ma σ A) d 1 i) : fz_X11_sizeAt 2000000 σ 804 A i = some (d : Int) := by
  unfold fz_X11_sizeAt
  rw [bz_sizeAtL hF hs hA hi d 2000000 1 i (by omega) (by omega) (by omega) h1 hm h]
  congr 1
  omega
theorem bz_isSameL {σ : az_Hp} {A B i j : Int} (hA : az_ln σ A ≤ 100000) (hB : az_ln σ B ≤ 100000) {n : Nat} {d : Nat} (h0 : 0 ≤ i) (h1 : i + d ≤ az_ln σ A) (j0 : 0 ≤ j) (j1 : j + d ≤ az_ln σ B) : ∀ (e k : Nat) (q : Nat), e < k → q + e = d → fz_X11_isSame_3 n k σ A i B j (d : Int) (q : Int) = some (if ∀ p : Nat, p < d → q ≤ p → σ.2 A (i + p) = σ.2 B (j + p) then 1 else 0) := by
  intro e
  induction e with
  | zero =>
    intro k q hk hq
    obtain ⟨k, rfl⟩ : ∃ k', k = k' + 1 := ⟨k - 1, by omega⟩
    unfold fz_X11_isSame_3
    rw [if_neg (by omega), if_pos (fun p h1 h2 => absurd h1 (by omega))]
  | succ e ih =>
    intro k q hk hq
    obtain ⟨k, rfl⟩ : ∃ k', k = k' + 1 := ⟨k - 1, by omega⟩
    unfold fz_X11_isSame_3
    rw [if_pos (by omega), az_w32_id (z := i + q) (by omega) (by omega), bz_ard (by omega) (by omega), Option.bind_some, az_w32_id (z := j + q) (by omega) (by omega), bz_ard (by omega) (by omega), Option.bind_some]
    by_cases he : σ.2 A (i + q) = σ.2 B (j + q)
    · rw [if_pos he, az_w32_id (by omega) (by omega)]
      have := ih k (q + 1) (by omega) (by omega)
      have e2 : ((q + 1 : Nat) : Int) = (q : Int) + 1 := by push_cast; rfl
      rw [e2] at this
      rw [this]
      congr 1
      have hprop : (∀ p : Nat, p < d → q + 1 ≤ p → σ.2 A (i + p) = σ.2 B (j + p)) ↔ (∀ p : Nat, p < d → q ≤ p → σ.2 A (i + p) = σ.2 B (j + p)) := by
        constructor
        · intro hh p hp hp2
          by_cases hqp : p = q
          · subst hqp; exact he
          · exact hh p hp (by omega)
        · intro hh p hp hp2
          exact hh p hp (by omega)
      simp only [hprop]
    · rw [if_neg he, if_neg]
      intro hh
      exact he (hh q (by omega) (by omega))
theorem bz_isSame {σ : az_Hp} {A B i j : Int} (hA : az_ln σ A ≤ 100000) (hB : az_ln σ B ≤ 100000) {d : Nat} (hd : d ≤ 1000) (h0 : 0 ≤ i) (h1 : i + d ≤ az_ln σ A) (j0 : 0 ≤ j) (j1 : j + d ≤ az_ln σ B) : fz_X11_isSame 2000000 σ A i B j (d : Int) = some (if ∀ p : Nat, p < d → σ.2 A (i + p) = σ.2 B (j + p) then 1 else 0) := by
  unfold fz_X11_isSame
  have := bz_isSameL (n := 2000000) hA hB h0 h1 j0 j1 d 2000000 0 (by omega) (by omega)
  rw [show ((0 : Nat) : Int) = 0 from rfl] at this
  rw [this]
  congr 1
  have hprop : (∀ p : Nat, p < d → 0 ≤ p → σ.2 A (i + p) = σ.2 B (j + p)) ↔ (∀ p : Nat, p < d → σ.2 A (i + p) = σ.2 B (j + p)) := ⟨fun hh p hp => hh p hp (by omega), fun hh p hp _ => hh p hp⟩
  simp only [hprop]
/-- a code of the class and the reference's code of the same: ct, ft how many arguments constructors and families have, nc, nf how many there are, V which variables are the same -/
def bz_cr (ct ft : Int → Int) (nc nf : Int) (V : Int → Int → Prop) (c m : Int) : Prop :=
  (c < 0 ∧ 1000 ≤ m ∧ m < 2000 ∧ V (-c - 1) (m - 1000)) ∨
  (100 ≤ m ∧ m < 100 + nc ∧ c = (m - 100) * 16 + ct (m - 100) * 4 + 1) ∨
  (200 ≤ m ∧ m < 200 + nf ∧ c = (m - 200) * 16 + ft (m - 200) * 4 + 2) ∨
  (2000 ≤ m ∧ m < 2006 ∧ c = (m - 2000) * 16 + 3)
/-- what is known of the tables -/
def bz_tb (ct ft : Int → Int) (nc nf : Int) : Prop := 0 ≤ nc ∧ nc ≤ 8 ∧ 0 ≤ nf ∧ nf ≤ 5 ∧ (∀ k, 0 ≤ k → k < nc → 0 ≤ ct k ∧ ct k ≤ 3) ∧ (∀ k, 0 ≤ k → k < nf → 1 ≤ ft k ∧ ft k ≤ 3)
def bz_VV (V : Int → Int → Prop) : Prop := (∀ a b, V a b → 0 ≤ a ∧ a < 2147483647 ∧ 0 ≤ b ∧ b < 1000) ∧ ∀ a b a' b', V a b → V a' b' → (a = a' ↔ b = b')
theorem bz_cr.ar {ct ft : Int → Int} {nc nf : Int} {V : Int → Int → Prop} {c m : Int} (h : bz_cr ct ft nc nf V c m) (ht : bz_tb ct ft nc nf) : bz_ar c = if 1000 ≤ m then 0 else if 200 ≤ m then ft (m - 200) else ct (m - 100) := by
  obtain ⟨t1, t2, t3, t4, t5, t6⟩ := ht
  unfold bz_ar
  rcases h with h | h | h | h
  · rw [if_pos h.1, if_pos h.2.1]
  · have := t5 (m - 100) (by omega) (by omega)
    rw [if_neg (by omega), if_neg (by omega), if_neg (by omega)]
    omega
  · have := t6 (m - 200) (by omega) (by omega)
    rw [if_neg (by omega), if_neg (by omega), if_pos (by omega)]
    omega
  · rw [if_neg (by omega), if_pos (by omega)]
    omega
theorem bz_cr.kd {ct ft : Int → Int} {nc nf : Int} {V : Int → Int → Prop} {c m : Int} (h : bz_cr ct ft nc nf V c m) (ht : bz_tb ct ft nc nf) : bz_kd c = if m < 200 then 1 else if m < 1000 then 2 else if m < 2000 then 0 else 3 := by
  obtain ⟨t1, t2, t3, t4, t5, t6⟩ := ht
  unfold bz_kd
  rcases h with h | h | h | h
  · rw [if_pos h.1, if_neg (by omega), if_neg (by omega), if_pos (by omega)]
  · have := t5 (m - 100) (by omega) (by omega)
    rw [if_neg (by omega), if_pos (by omega)]
    omega
  · have := t6 (m - 200) (by omega) (by omega)
    rw [if_neg (by omega), if_neg (by omega), if_pos (by omega)]
    omega
  · rw [if_neg (by omega), if_neg (by omega), if_neg (by omega), if_neg (by omega)]
    omega
theorem bz_cr.nr {ct ft : Int → Int} {nc nf : Int} {V : Int → Int → Prop} {c m : Int} (h : bz_cr ct ft nc nf V c m) (ht : bz_tb ct ft nc nf) (hc : 0 ≤ c) : bz_nr c = if m < 200 then m - 100 else if m < 1000 then m - 200 else m - 2000 := by
  obtain ⟨t1, t2, t3, t4, t5, t6⟩ := ht
  unfold bz_nr
  rcases h with h | h | h | h
  · omega
  · have := t5 (m - 100) (by omega) (by omega)
    rw [if_neg (by omega), if_pos (by omega)]
    omega
  · have := t6 (m - 200) (by omega) (by omega)
    rw [if_neg (by omega), if_neg (by omega), if_pos (by omega)]
    omega
  · rw [if_neg (by omega), if_neg (by omega), if_neg (by omega)]
    omega
theorem bz_cr.mc {ct ft : Int → Int} {nc nf : Int} {V : Int → Int → Prop} {c m : Int} (h : bz_cr ct ft nc nf V c m) (ht : bz_tb ct ft nc nf) : bz_mc m := by
  obtain ⟨t1, t2, t3, t4, t5, t6⟩ := ht
  unfold bz_mc
  rcases h with h | h | h | h <;> omega
theorem bz_cr.I {ct ft : Int → Int} {nc nf : Int} {V : Int → Int → Prop} {c m : Int} (h : bz_cr ct ft nc nf V c m) (ht : bz_tb ct ft nc nf) (hV : bz_VV V) : bz_I c := by
  obtain ⟨t1, t2, t3, t4, t5, t6⟩ := ht
  unfold bz_I
  rcases h with h | h | h | h
  · have := hV.1 _ _ h.2.2.2; omega
  · have := t5 (m - 100) (by omega) (by omega); omega
  · have := t6 (m - 200) (by omega) (by omega); omega
  · omega
theorem bz_cr.inj {ct ft : Int → Int} {nc nf : Int} {V : Int → Int → Prop} {c m c' m' : Int} (h : bz_cr ct ft nc nf V c m) (h' : bz_cr ct ft nc nf V c' m') (ht : bz_tb ct ft nc nf) (hV : bz_VV V) : c = c' ↔ m = m' := by
  obtain ⟨t1, t2, t3, t4, t5, t6⟩ := ht
  rcases h with h | h | h | h
  · rcases h' with h' | h' | h' | h'
    · have := hV.2 _ _ _ _ h.2.2.2 h'.2.2.2; omega
    · have := t5 (m' - 100) (by omega) (by omega); omega
    · have := t6 (m' - 200) (by omega) (by omega); omega
    · omega
  · have q := t5 (m - 100) (by omega) (by omega)
    rcases h' with h' | h' | h' | h'
    · omega
    · have := t5 (m' - 100) (by omega) (by omega)
      constructor
      · intro e; omega
      · intro e; subst e; omega
    · have := t6 (m' - 200) (by omega) (by omega); omega
    · omega
  · have q := t6 (m - 200) (by omega) (by omega)
    rcases h' with h' | h' | h' | h'
    · omega
    · have := t5 (m' - 100) (by omega) (by omega); omega
    · have := t6 (m' - 200) (by omega) (by omega)
      constructor
      · intro e; omega
      · intro e; subst e; omega
    · omega
  · rcases h' with h' | h' | h' | h'
    · omega
    · have := t5 (m' - 100) (by omega) (by omega); omega
    · have := t6 (m' - 200) (by omega) (by omega); omega
    · omega
