/-! TERMS as rows of codes: a scan with a count of those still missing. a: how many arguments the code at a place has. -/
def bz_Sc (a : Int → Int) : Nat → Int → Int → Prop
  | 0, c, _ => c = 0
  | d + 1, c, i => 0 < c ∧ bz_Sc a d (c - 1 + a i) (i + 1)
theorem bz_Sc.cong {a b : Int → Int} : ∀ {d : Nat} {c i : Int}, (∀ j, i ≤ j → j < i + d → a j = b j) → bz_Sc a d c i → bz_Sc b d c i := by
  intro d
  induction d with
  | zero => intro c i _ h; exact h
  | succ d ih =>
    intro c i he h
    refine ⟨h.1, ?_⟩
    rw [← he i (by omega) (by omega)]
    exact ih (fun j h1 h2 => he j (by omega) (by omega)) h.2
theorem bz_Sc.shift {a b : Int → Int} : ∀ {d : Nat} {c i p : Int}, (∀ j : Int, 0 ≤ j → j < d → a (i + j) = b (p + j)) → bz_Sc a d c i → bz_Sc b d c p := by
  intro d
  induction d with
  | zero => intro c i p _ h; exact h
  | succ d ih =>
    intro c i p he h
    refine ⟨h.1, ?_⟩
    have e := he 0 (by omega) (by omega)
    simp only [Int.add_zero] at e
    rw [← e]
    refine ih (fun j h1 h2 => ?_) h.2
    have := he (j + 1) (by omega) (by omega)
    rw [Int.add_assoc, Int.add_assoc, Int.add_comm 1 j]
    exact this
theorem bz_Sc.det {a : Int → Int} : ∀ {d d' : Nat} {c i : Int}, bz_Sc a d c i → bz_Sc a d' c i → d = d' := by
  intro d
  induction d with
  | zero =>
    intro d' c i h h'
    cases d' with
    | zero => rfl
    | succ d' => have := h'.1; have : c = 0 := h; omega
  | succ d ih =>
    intro d' c i h h'
    cases d' with
    | zero => have := h.1; have : c = 0 := h'; omega
    | succ d' => rw [ih h.2 h'.2]
theorem bz_Sc.join {a : Int → Int} : ∀ {d1 d2 : Nat} {c1 c2 i : Int}, 0 ≤ c2 → bz_Sc a d1 c1 i → bz_Sc a d2 c2 (i + d1) → bz_Sc a (d1 + d2) (c1 + c2) i := by
  intro d1
  induction d1 with
  | zero =>
    intro d2 c1 c2 i h0 h h'
    have : c1 = 0 := h
    subst this
    simpa using h'
  | succ d1 ih =>
    intro d2 c1 c2 i h0 h h'
    have e : d1 + 1 + d2 = (d1 + d2) + 1 := by omega
    rw [e]
    refine ⟨by have := h.1; omega, ?_⟩
    have e2 : c1 + c2 - 1 + a i = (c1 - 1 + a i) + c2 := by omega
    rw [e2]
    refine ih h0 h.2 ?_
    have e3 : i + 1 + (d1 : Int) = i + ((d1 + 1 : Nat) : Int) := by push_cast; omega
    rw [e3]
    exact h'
theorem bz_Sc.split {a : Int → Int} (ha : ∀ j, 0 ≤ a j) : ∀ {d : Nat} {c1 c2 i : Int}, 0 ≤ c1 → 0 ≤ c2 → bz_Sc a d (c1 + c2) i → ∃ d1 d2 : Nat, d = d1 + d2 ∧ bz_Sc a d1 c1 i ∧ bz_Sc a d2 c2 (i + d1) := by
  intro d
  induction d with
  | zero =>
    intro c1 c2 i h1 h2 h
    have h' : c1 + c2 = 0 := h
    have e1 : c1 = 0 := by omega
    have e2 : c2 = 0 := by omega
    exact ⟨0, 0, rfl, e1, e2⟩
  | succ d ih =>
    intro c1 c2 i h1 h2 h
    by_cases hc : c1 = 0
    · subst hc
      refine ⟨0, d + 1, by omega, rfl, ?_⟩
      simpa using h
    · have hh := h.2
      have e : c1 + c2 - 1 + a i = (c1 - 1 + a i) + c2 := by omega
      rw [e] at hh
      obtain ⟨d1, d2, e1, s1, s2⟩ := ih (by have := ha i; omega) h2 hh
      refine ⟨d1 + 1, d2, by omega, ⟨by omega, s1⟩, ?_⟩
      have e3 : i + ((d1 + 1 : Nat) : Int) = i + 1 + (d1 : Int) := by push_cast; omega
      rw [e3]
      exact s2
theorem bz_Sc.sub {a : Int → Int} (ha : ∀ j, 0 ≤ a j) : ∀ {d : Nat} {c i : Int} (k : Nat), k < d → bz_Sc a d c i → ∃ e : Nat, 0 < e ∧ k + e ≤ d ∧ bz_Sc a e 1 (i + k) := by
  intro d
  induction d with
  | zero => intro c i k hk; omega
  | succ d ih =>
    intro c i k hk h
    cases k with
    | zero =>
      have e : c = 1 + (c - 1) := by omega
      have h' := h
      rw [e] at h'
      obtain ⟨d1, d2, e1, s1, s2⟩ := bz_Sc.split ha (by omega) (by have := h.1; omega) h'
      refine ⟨d1, ?_, by omega, by simpa using s1⟩
      cases d1 with
      | zero => have : (1 : Int) = 0 := s1; omega
      | succ d1 => omega
    | succ k =>
      obtain ⟨e, h0, h1, h2⟩ := ih k (by omega) h.2
      refine ⟨e, h0, by omega, ?_⟩
      have e3 : i + ((k + 1 : Nat) : Int) = i + 1 + (k : Int) := by push_cast; omega
      rw [e3]
      exact h2
theorem bz_Sc.pos {a : Int → Int} {d : Nat} {c i : Int} (h : bz_Sc a d c i) (hc : 0 < c) : 0 < d := by
  cases d with
  | zero => have : c = 0 := h; omega
  | succ d => omega
/-- a Row that may be read: its size within its room, its codes ints -/
def bz_rw (σ : az_Hp) (r : Int) : Prop := 0 < bz_cap r ∧ 0 ≤ σ.2 r 1 ∧ σ.2 r 1 ≤ bz_cap r ∧ ∀ i, 0 ≤ i → i < σ.2 r 1 → bz_I (σ.2 (r + 1) i)
theorem bz_cap60 {r : Int} : bz_cap r ≤ 60 := by
  unfold bz_cap
  repeat' split
  all_goals omega
/-- arguments of a Row's codes -/
def bz_ra (σ : az_Hp) (r : Int) : Int → Int := fun i => bz_ar (σ.2 (r + 1) i)
theorem bz_ra0 {σ : az_Hp} {r : Int} : ∀ j, 0 ≤ bz_ra σ r j := fun _ => bz_ar_rng.1
theorem bz_arI {c : Int} (h : bz_I c) (hc : ¬ c < 0) : az_iandV (az_ishrV c 2) 3 = bz_ar c := by
  obtain ⟨h0, h1⟩ := h
  unfold bz_ar
  rw [if_neg hc, bz_shr2 h0 h1, bz_and3 (by omega) (by omega)]
theorem bz_endL {σ : az_Hp} {r : Int} (hF : bz_Fx σ) (hr : bz_rw σ r) {n : Nat} : ∀ (d k : Nat) (c i : Int), d < k → 0 ≤ i → c + 2 * d ≤ 1000 → i + d ≤ σ.2 r 1 → bz_Sc (bz_ra σ r) d c i → fz_X7_end_12 n k σ r c i = some (i + d) := by
  obtain ⟨hc0, hs0, hs1, hI⟩ := hr
  have hx := bz_fxR hF hc0
  have hg : az_gref σ r 0 = some (r + 1) := bz_gr hx.1 (by have := (bz_cap_lt hc0).1; omega)
  have h60 := @bz_cap60 r
  intro d
  induction d with
  | zero =>
    intro k c i hk h0 hc h1 h
    obtain ⟨k, rfl⟩ : ∃ k', k = k' + 1 := ⟨k - 1, by omega⟩
    have : c = 0 := h
    subst this
    unfold fz_X7_end_12
    by_cases hi : i < σ.2 r 1
    · rw [if_pos hi, if_neg (by omega)]; simp
    · rw [if_neg hi]; simp
  | succ d ih =>
    intro k c i hk h0 hc h1 h
    obtain ⟨k, rfl⟩ : ∃ k', k = k' + 1 := ⟨k - 1, by omega⟩
    have hii := hI i h0 (by omega)
    have har := @bz_ar_rng (σ.2 (r + 1) i)
    have hlast : bz_Sc (bz_ra σ r) d (c - 1 + bz_ar (σ.2 (r + 1) i)) (i + 1) := h.2
    have hcp := h.1
    have hq := ih k _ (i + 1) (by omega) (by omega) (by omega) (by omega) hlast
    have e3 : i + ((d + 1 : Nat) : Int) = i + 1 + (d : Int) := by push_cast; omega
    unfold fz_X7_end_12
    have ga : az_ard σ (r + 1) i = some (σ.2 (r + 1) i) := bz_ard h0 (by omega)
    rw [if_pos (by omega), if_pos hcp]
    simp only [hg, ga, Option.bind_some]
    rw [e3, ← hq]
    by_cases hn : σ.2 (r + 1) i < 0
    · have hz : bz_ar (σ.2 (r + 1) i) = 0 := if_pos hn
      rw [if_pos hn, az_w32_id (by omega) (by omega), az_w32_id (by omega) (by omega), hz]
      congr 1
      omega
    · rw [if_neg hn, bz_arI hii hn, az_w32_id (z := bz_ar (σ.2 (r + 1) i) - 1) (by omega) (by omega), az_w32_id (by omega) (by omega), az_w32_id (by omega) (by omega)]
      congr 1
      omega
theorem bz_end {σ : az_Hp} {r : Int} (hF : bz_Fx σ) (hr : bz_rw σ r) {d : Nat} {i : Int} (h0 : 0 ≤ i) (h1 : i + d ≤ σ.2 r 1) (h : bz_Sc (bz_ra σ r) d 1 i) : fz_X7_end 2000000 σ r i = some (i + d) := by
  have h60 := @bz_cap60 r
  have := hr.2.2.1
  unfold fz_X7_end
  rw [if_neg (by omega)]
  exact bz_endL hF hr d 2000000 1 i (by omega) h0 (by omega) h1 h
/-- two parts of rows, code by code -/
theorem bz_samePartL {σ : az_Hp} {r p : Int} (hF : bz_Fx σ) (hr : bz_rw σ r) (hp : bz_rw σ p) {n : Nat} : ∀ (d k : Nat) (c i j : Int), d < k → 0 ≤ i → 0 ≤ j → c + 2 * d ≤ 1000 → i + d ≤ σ.2 r 1 → j ≤ 1000 → bz_Sc (bz_ra σ r) d c i → fz_X7_samePart_19 n k σ r p c j i = some (if ∀ q : Nat, q < d → j + q < σ.2 p 1 ∧ σ.2 (r + 1) (i + q) = σ.2 (p + 1) (j + q) then 1 else 0) := by
  obtain ⟨hc0, hs0, hs1, hI⟩ := hr
  obtain ⟨pc0, ps0, ps1, pI⟩ := hp
  have hx := bz_fxR hF hc0
  have hg : az_gref σ r 0 = some (r + 1) := bz_gr hx.1 (by have := (bz_cap_lt hc0).1; omega)
  have px := bz_fxR hF pc0
  have pg : az_gref σ p 0 = some (p + 1) := bz_gr px.1 (by have := (bz_cap_lt pc0).1; omega)
  have h60 := @bz_cap60 r
  have p60 := @bz_cap60 p
  intro d
  induction d with
  | zero =>
    intro k c i j hk h0 hj hc h1 hj1 h
    obtain ⟨k, rfl⟩ : ∃ k', k = k' + 1 := ⟨k - 1, by omega⟩
    have : c = 0 := h
    subst this
    unfold fz_X7_samePart_19 fz_X7_samePart_102
    rw [if_pos rfl, if_neg (by omega : ¬ (0 : Int) < 0), if_pos (fun q hq => absurd hq (by omega))]
    split <;> rfl
  | succ d ih =>
    intro k c i j hk h0 hj hc h1 hj1 h
    obtain ⟨k, rfl⟩ : ∃ k', k = k' + 1 := ⟨k - 1, by omega⟩
    have hii := hI i h0 (by omega)
    have har := @bz_ar_rng (σ.2 (r + 1) i)
    have hlast : bz_Sc (bz_ra σ r) d (c - 1 + bz_ar (σ.2 (r + 1) i)) (i + 1) := h.2
    have hcp := h.1
    unfold fz_X7_samePart_19
    rw [if_pos (by omega), if_pos hcp]
    by_cases hjs : j < σ.2 p 1
    · have ga : az_ard σ (r + 1) i = some (σ.2 (r + 1) i) := bz_ard h0 (by omega)
      have gb : az_ard σ (p + 1) j = some (σ.2 (p + 1) j) := bz_ard hj (by omega)
      rw [if_pos hjs]
      simp only [hg, pg, ga, gb, Option.bind_some]
      by_cases he : σ.2 (r + 1) i = σ.2 (p + 1) j
      · have hq := ih k _ (i + 1) (j + 1) (by omega) (by omega) (by omega) (by omega) (by omega) (by omega) hlast
        have hprop : (∀ q : Nat, q < d → j + 1 + q < σ.2 p 1 ∧ σ.2 (r + 1) (i + 1 + q) = σ.2 (p + 1) (j + 1 + q)) ↔ (∀ q : Nat, q < d + 1 → j + q < σ.2 p 1 ∧ σ.2 (r + 1) (i + q) = σ.2 (p + 1) (j + q)) := by
          constructor
          · intro hh q hq
            cases q with
            | zero => simpa using ⟨hjs, he⟩
            | succ q =>
              have := hh q (by omega)
              have e1 : j + ((q + 1 : Nat) : Int) = j + 1 + q := by push_cast; omega
              have e2 : i + ((q + 1 : Nat) : Int) = i + 1 + q := by push_cast; omega
              rw [e1, e2]; exact this
          · intro hh q hq
            have := hh (q + 1) (by omega)
            have e1 : j + ((q + 1 : Nat) : Int) = j + 1 + q := by push_cast; omega
            have e2 : i + ((q + 1 : Nat) : Int) = i + 1 + q := by push_cast; omega
            rw [e1, e2] at this; exact this
        simp only [hprop] at hq
        rw [if_pos he, ← hq]
        by_cases hn : σ.2 (r + 1) i < 0
        · have hz : bz_ar (σ.2 (r + 1) i) = 0 := if_pos hn
          rw [if_pos hn, az_w32_id (by omega) (by omega), az_w32_id (by omega) (by omega), az_w32_id (by omega) (by omega), hz]
          congr 1
          omega
        · rw [if_neg hn, bz_arI hii hn, az_w32_id (z := bz_ar (σ.2 (r + 1) i) - 1) (by omega) (by omega), az_w32_id (by omega) (by omega), az_w32_id (by omega) (by omega), az_w32_id (by omega) (by omega)]
          congr 1
          omega
      · rw [if_neg he, if_neg]
        intro hh
        have := (hh 0 (by omega)).2
        simp at this
        exact he this
    · rw [if_neg hjs, if_neg]
      intro hh
      have := (hh 0 (by omega)).1
      simp at this
      omega
theorem bz_samePart {σ : az_Hp} {r p : Int} (hF : bz_Fx σ) (hr : bz_rw σ r) (hp : bz_rw σ p) {d : Nat} {i j : Int} (h0 : 0 ≤ i) (hj : 0 ≤ j) (hj1 : j ≤ 900) (h1 : i + d ≤ σ.2 r 1) (h : bz_Sc (bz_ra σ r) d 1 i) : fz_X7_samePart 2000000 σ r i p j = some (if ∀ q : Nat, q < d → j + q < σ.2 p 1 ∧ σ.2 (r + 1) (i + q) = σ.2 (p + 1) (j + q) then 1 else 0) := by
  have h60 := @bz_cap60 r
  have := hr.2.2.1
  unfold fz_X7_samePart
  rw [if_neg (by omega), if_neg (by omega)]
  exact bz_samePartL hF hr hp d 2000000 1 i j (by omega) h0 hj (by omega) h1 (by omega) h
