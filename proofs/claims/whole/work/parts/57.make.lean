/-! the constructors: how long the cells are, and what lies in them behind both -/
def bz_objL : List (Int × Int) := [(1, 18), (3, 17), (82, 17), (161, 8), (223, 15), (225, 4), (231, 11), (242, 2), (243, 16), (380, 16), (801, 3), (804, 116)]
def bz_look : List (Int × Int) → Int → Int
  | [], _ => 0
  | p :: t, a => if a = p.1 then p.2 else bz_look t a
def bz_len (a : Int) : Int := if 0 < bz_cap a then 2 else if 0 < bz_cap (a - 1) then bz_cap (a - 1) else bz_look (bz_objL ++ bz_lenL ++ bz_rowsL.map (fun p => (p.1, p.2.1))) a
/-- c cells are there, each as long as it shall be, nothing lies behind them -/
def bz_B (σ : az_Hp) (c : Nat) (s : Nat) : Prop := σ.1.1 = c ∧ σ.1.2.1 ≤ 1024 * c + s ∧ (∀ a k, (c : Int) < a → σ.2 a k = 0) ∧ ∀ a, 1 ≤ a → a ≤ (c : Int) → az_ln σ a = bz_len a
theorem bz_B.new {σ : az_Hp} {c s : Nat} (h : bz_B σ c s) {z : Int} (k : Nat) (hz : 0 ≤ z) (hz1 : z ≤ 1024) (hl : bz_len ((c : Int) + 1) = z) (hc : c ≤ 2000) (hs : s ≤ 200000) : az_new σ k z = some ((c : Int) + 1, az_more σ k z) ∧ bz_B (az_more σ k z) (c + 1) s := by
  obtain ⟨h1, h2, h3, h4⟩ := h
  constructor
  · unfold az_new
    rw [if_pos ⟨hz, by omega, by omega⟩, h1]
  · refine ⟨?_, ?_, ?_, ?_⟩
    · show σ.1.1 + 1 = c + 1
      omega
    · show σ.1.2.1 + z.toNat ≤ 1024 * (c + 1) + s
      omega
    · intro a i ha
      exact h3 a i (by push_cast at ha; omega)
    · intro a ha ha1
      show az_upI σ.1.2.2.2 ((σ.1.1 : Int) + 1) z a = bz_len a
      unfold az_upI
      rw [h1]
      by_cases e : a = (c : Int) + 1
      · rw [if_pos e, e, hl]
      · rw [if_neg e]
        exact h4 a ha (by push_cast at ha1; omega)
theorem bz_B.newL {σ : az_Hp} {c s : Nat} (h : bz_B σ c s) {z : Int} (k : Nat) (hz : 0 ≤ z) (hz1 : z ≤ 100000) (hl : bz_len ((c : Int) + 1) = z) (hc : c ≤ 2000) (hs : s ≤ 200000) : az_new σ k z = some ((c : Int) + 1, az_more σ k z) ∧ bz_B (az_more σ k z) (c + 1) (s + z.toNat) := by
  obtain ⟨h1, h2, h3, h4⟩ := h
  constructor
  · unfold az_new
    rw [if_pos ⟨hz, by omega, by omega⟩, h1]
  · refine ⟨?_, ?_, ?_, ?_⟩
    · show σ.1.1 + 1 = c + 1
      omega
    · show σ.1.2.1 + z.toNat ≤ 1024 * (c + 1) + (s + z.toNat)
      omega
    · intro a i ha
      exact h3 a i (by push_cast at ha; omega)
    · intro a ha ha1
      show az_upI σ.1.2.2.2 ((σ.1.1 : Int) + 1) z a = bz_len a
      unfold az_upI
      rw [h1]
      by_cases e : a = (c : Int) + 1
      · rw [if_pos e, e, hl]
      · rw [if_neg e]
        exact h4 a ha (by push_cast at ha1; omega)
theorem bz_B.wr {σ : az_Hp} {c s : Nat} (h : bz_B σ c s) {a i x : Int} (ha : a ≤ (c : Int)) : bz_B (az_wr σ a i x) c s := by
  obtain ⟨h1, h2, h3, h4⟩ := h
  refine ⟨h1, h2, fun b k hb => ?_, h4⟩
  rw [az_wr_ne (by omega)]
  exact h3 b k hb
theorem bz_more2 {σ : az_Hp} {k : Nat} {z : Int} : (az_more σ k z).2 = σ.2 := rfl
/-- a Row with its array -/
theorem bz_newRow {σ : az_Hp} {c s : Nat} (h : bz_B σ c s) {z : Int} (hz : 0 ≤ z) (hz1 : z ≤ 60) (hl : bz_len ((c : Int) + 1) = 2) (hl2 : bz_len ((c : Int) + 2) = z) (hc : c ≤ 1000) (hs : s ≤ 200000) :
    ∃ σ1 σ', az_new σ 7 2 = some ((c : Int) + 1, σ1) ∧ fz_X7_init σ1 ((c : Int) + 1) z = some σ' ∧ bz_B σ' (c + 2) s ∧ (∀ a k, a ≤ (c : Int) → σ'.2 a k = σ.2 a k) ∧ σ'.2 ((c : Int) + 1) 0 = (c : Int) + 2 := by
  obtain ⟨e1, b1⟩ := h.new 7 (by omega) (by omega) hl (by omega) hs
  have b2 := b1.wr (a := (c : Int) + 1) (i := 1) (x := 0) (by push_cast; omega)
  obtain ⟨e3, b3⟩ := b2.new (z := z) 13 hz (by omega) (by push_cast; rw [show (c : Int) + 1 + 1 = (c : Int) + 2 by omega]; exact hl2) (by omega) hs
  have b4 := b3.wr (a := (c : Int) + 1) (i := 0) (x := (c : Int) + 2) (by push_cast; omega)
  refine ⟨_, _, e1, ?_, b4, ?_, ?_⟩
  · unfold fz_X7_init
    rw [if_neg (by omega), e3, Option.bind_some]
    push_cast
    rw [show (c : Int) + 1 + 1 = (c : Int) + 2 by omega]
  · intro a k ha
    rw [az_wr_ne (by omega), bz_more2, az_wr_ne (by omega), bz_more2]
  · exact az_wr_same
theorem bz_rowAt {σ : az_Hp} {c s : Nat} (h : bz_B σ c s) {r z : Int} (hr : r = (c : Int) + 1) (hz : 0 ≤ z) (hz1 : z ≤ 60) (hl : bz_len r = 2 ∧ bz_len (r + 1) = z) (hc : c ≤ 1000) (hs : s ≤ 200000) :
    ∃ σ1 σ', az_new σ 7 2 = some (r, σ1) ∧ fz_X7_init σ1 r z = some σ' ∧ bz_B σ' (c + 2) s ∧ (∀ a k, a < r → σ'.2 a k = σ.2 a k) ∧ σ'.2 r 0 = r + 1 := by
  subst hr
  obtain ⟨σ1, σ2, e1, e2, hB2, f2, v2⟩ := bz_newRow h hz hz1 hl.1 (by rw [show (c : Int) + 2 = (c : Int) + 1 + 1 by omega]; exact hl.2) hc hs
  exact ⟨σ1, σ2, e1, e2, hB2, fun a k ha => f2 a k (by omega), by rw [v2]; omega⟩
theorem bz_B.newO {σ : az_Hp} {c s : Nat} (h : bz_B σ c s) {r z : Int} {c' : Nat} (k : Nat) (hr : r = (c : Int) + 1) (hc' : c' = c + 1) (hz : 0 ≤ z) (hz1 : z ≤ 1024) (hl : bz_len r = z) (hc : c ≤ 2000) (hs : s ≤ 200000) : ∃ σ1, az_new σ k z = some (r, σ1) ∧ bz_B σ1 c' s ∧ σ1.2 = σ.2 := by
  subst hr; subst hc'
  obtain ⟨e, b⟩ := h.new k hz hz1 hl hc hs
  exact ⟨_, e, b, rfl⟩
theorem bz_B.newP {σ : az_Hp} {c s : Nat} (h : bz_B σ c s) {r z : Int} {c' s' : Nat} (k : Nat) (hr : r = (c : Int) + 1) (hc' : c' = c + 1) (hz : 0 ≤ z) (hz1 : z ≤ 100000) (hl : bz_len r = z) (hc : c ≤ 2000) (hs : s ≤ 200000) (hs' : s' = s + z.toNat) : ∃ σ1, az_new σ k z = some (r, σ1) ∧ bz_B σ1 c' s' ∧ σ1.2 = σ.2 := by
  subst hr; subst hc'; subst hs'
  obtain ⟨e, b⟩ := h.newL k hz hz1 hl hc hs
  exact ⟨_, e, b, rfl⟩
theorem bz_c_row {σ : az_Hp} {c s : Nat} (h : bz_B σ c s) {r z : Int} {c' : Nat} (hr : r = (c : Int)) (hc' : c' = c + 1) (hz : 0 ≤ z) (hz1 : z ≤ 60) (hl : bz_len (r + 1) = z) (hc : c ≤ 1000) (hs : s ≤ 200000) :
    ∃ σ', fz_X7_init σ r z = some σ' ∧ bz_B σ' c' s ∧ (∀ a k, a < r → σ'.2 a k = σ.2 a k) ∧ σ'.2 r 0 = r + 1 ∧ σ'.2 r 1 = 0 := by
  subst hr; subst hc'
  have b2 := h.wr (a := (c : Int)) (i := 1) (x := 0) (by omega)
  obtain ⟨σ3, e3, b3, f3⟩ := b2.newO (z := z) (r := (c : Int) + 1) 13 rfl rfl hz (by omega) hl (by omega) hs
  have b4 := b3.wr (a := (c : Int)) (i := 0) (x := (c : Int) + 1) (by omega)
  refine ⟨_, ?_, b4, ?_, ?_, ?_⟩
  · unfold fz_X7_init
    rw [if_neg (by omega), e3, Option.bind_some]
  · intro a k ha
    rw [az_wr_ne (by omega), f3, az_wr_ne (by omega)]
  · exact az_wr_same
  · rw [az_wr_ne (by omega), f3, az_wr_same]
