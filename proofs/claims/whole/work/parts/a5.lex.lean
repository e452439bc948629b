/-! tokens: what stands on the tape from a place on. tp: the bytes, N: how many -/
def lx_let (c : Int) : Bool := (decide (65 ≤ c) && decide (c ≤ 90)) || (decide (97 ≤ c) && decide (c ≤ 122))
def lx_dig (c : Int) : Bool := decide (48 ≤ c) && decide (c ≤ 57)
def lx_spc (c : Int) : Bool := decide (c = 32) || decide (c = 10)
def lx_sgn (c : Int) : Bool := decide (c = 59) || decide (c = 40) || decide (c = 41) || decide (c = 44) || decide (c = 61) || decide (c = 63)
def lx_while (P : Int → Bool) (tp : Int → Int) : Nat → Int → Int
  | 0, p => p
  | d + 1, p => if P (tp p) then lx_while P tp d (p + 1) else p
/-- whether a letter that isn't small comes -/
def lx_gr (tp : Int → Int) : Nat → Int → Bool
  | 0, _ => false
  | d + 1, i => decide (tp i < 97) || lx_gr tp d (i + 1)
def lx_bl (tp : Int → Int) : Nat → Int → List Int
  | 0, _ => []
  | d + 1, f => tp (f + d) :: lx_bl tp d f
def lx_dl (tp : Int → Int) : Nat → Int → List Int
  | 0, _ => []
  | d + 1, f => tp (f + d) % 32 :: lx_dl tp d f
def lx_f (tp : Int → Int) (N p : Int) : Int := lx_while lx_spc tp (N - p).toNat p
def lx_e (tp : Int → Int) (N f : Int) : Int := lx_while lx_let tp (N - f).toNat f
def lx_k0 (tp : Int → Int) (N f : Int) : Int := if N ≤ f then 0 else if lx_let (tp f) then (if 6 < lx_e tp N f - f then 1 else if lx_gr tp (lx_e tp N f - (f + 1)).toNat (f + 1) then 1 else if tp f < 97 then 2 else 3) else if lx_dig (tp f) then (if f + 1 < N ∧ lx_dig (tp (f + 1)) = true then 1 else 4) else if lx_sgn (tp f) then tp f else 1
def lx_v0 (tp : Int → Int) (N f : Int) : Int := if lx_let (tp f) then bz_num 27 (lx_dl tp (lx_e tp N f - f).toNat f) else tp f - 48
def lx_t0 (tp : Int → Int) (N f : Int) : Int := if lx_let (tp f) then lx_e tp N f else f + 1
def lx_k (tp : Int → Int) (N p : Int) : Int := lx_k0 tp N (lx_f tp N p)
def lx_v (tp : Int → Int) (N p : Int) : Int := lx_v0 tp N (lx_f tp N p)
def lx_t (tp : Int → Int) (N p : Int) : Int := lx_t0 tp N (lx_f tp N p)
theorem lx_while_le {P : Int → Bool} {tp : Int → Int} : ∀ (d : Nat) (p : Int), p ≤ lx_while P tp d p ∧ lx_while P tp d p ≤ p + d := by
  intro d
  induction d with
  | zero => intro p; exact ⟨by show p ≤ p; omega, by show p ≤ p + 0; omega⟩
  | succ d ih =>
    intro p
    unfold lx_while
    split
    · have := ih (p + 1); push_cast; omega
    · push_cast; omega
theorem lx_while_in {P : Int → Bool} {tp : Int → Int} : ∀ (d : Nat) (p i : Int), p ≤ i → i < lx_while P tp d p → P (tp i) = true := by
  intro d
  induction d with
  | zero => intro p i h1 h2; exact absurd h2 (by show ¬ i < p; omega)
  | succ d ih =>
    intro p i h1 h2
    unfold lx_while at h2
    split at h2
    · rename_i hp
      by_cases e : i = p
      · rw [e]; exact hp
      · exact ih (p + 1) i (by omega) h2
    · omega
theorem lx_while_out {P : Int → Bool} {tp : Int → Int} : ∀ (d : Nat) (p : Int), lx_while P tp d p < p + d → P (tp (lx_while P tp d p)) = false := by
  intro d
  induction d with
  | zero => intro p h; exact absurd h (by show ¬ p < p + 0; omega)
  | succ d ih =>
    intro p h
    unfold lx_while at h ⊢
    by_cases hp : P (tp p) = true
    · rw [if_pos hp] at h ⊢; exact ih (p + 1) (by push_cast at h ⊢; omega)
    · rw [if_neg hp]; simpa using hp
theorem lx_gr_iff {tp : Int → Int} : ∀ (d : Nat) (i : Int), lx_gr tp d i = true ↔ ∃ j, i ≤ j ∧ j < i + d ∧ tp j < 97 := by
  intro d
  induction d with
  | zero => intro i; constructor
            · intro h; cases h
            · rintro ⟨j, h1, h2, -⟩; exfalso; omega
  | succ d ih =>
    intro i
    unfold lx_gr
    rw [Bool.or_eq_true, decide_eq_true_eq, ih (i + 1)]
    constructor
    · rintro (h | ⟨j, h1, h2, h3⟩)
      · exact ⟨i, by omega, by omega, h⟩
      · exact ⟨j, by omega, by push_cast; omega, h3⟩
    · rintro ⟨j, h1, h2, h3⟩
      by_cases e : j = i
      · left; rw [← e]; exact h3
      · right; exact ⟨j, by omega, by push_cast at h2; omega, h3⟩
theorem lx_letP {c : Int} : lx_let c = true ↔ (65 ≤ c ∧ c ≤ 90) ∨ (97 ≤ c ∧ c ≤ 122) := by unfold lx_let; simp
theorem lx_digP {c : Int} : lx_dig c = true ↔ 48 ≤ c ∧ c ≤ 57 := by unfold lx_dig; simp
theorem lx_spcP {c : Int} : lx_spc c = true ↔ c = 32 ∨ c = 10 := by unfold lx_spc; simp
theorem lx_sgnP {c : Int} : lx_sgn c = true ↔ c = 59 ∨ c = 40 ∨ c = 41 ∨ c = 44 ∨ c = 61 ∨ c = 63 := by unfold lx_sgn; simp [or_assoc]
theorem lx_dlLen {tp : Int → Int} : ∀ (d : Nat) (f : Int), (lx_dl tp d f).length = d := by
  intro d
  induction d with
  | zero => intro f; rfl
  | succ d ih => intro f; unfold lx_dl; rw [List.length_cons, ih]
theorem lx_dlMem {tp : Int → Int} : ∀ (d : Nat) (f : Int), (∀ i, f ≤ i → i < f + d → lx_let (tp i) = true) → ∀ e ∈ lx_dl tp d f, 1 ≤ e ∧ e ≤ 26 := by
  intro d
  induction d with
  | zero => intro f _ e he; simp [lx_dl] at he
  | succ d ih =>
    intro f h e he
    unfold lx_dl at he
    rcases List.mem_cons.mp he with rfl | he
    · have := lx_letP.mp (h (f + d) (by omega) (by push_cast; omega))
      omega
    · exact ih f (fun i h1 h2 => h i h1 (by push_cast; omega)) e he
theorem lx_bys {tp : Int → Int} {g : Int} : ∀ (d : Nat) (f : Int), 0 < d → (tp f = tp f % 32 + g) → (∀ i, f < i → i < f + d → 97 ≤ tp i ∧ tp i ≤ 122) → lx_bl tp d f = bz_bys g (lx_dl tp d f) := by
  intro d
  induction d with
  | zero => intro f h; omega
  | succ d ih =>
    intro f h0 hg h
    cases d with
    | zero =>
      show [tp (f + (0 : Nat))] = [tp (f + (0 : Nat)) % 32 + g]
      simp only [Int.natCast_zero, Int.add_zero]
      rw [← hg]
    | succ d =>
      have e := ih f (by omega) hg (fun i h1 h2 => h i h1 (by push_cast at h2 ⊢; omega))
      show tp (f + ((d + 1 : Nat) : Int)) :: lx_bl tp (d + 1) f = bz_bys g (tp (f + ((d + 1 : Nat) : Int)) % 32 :: lx_dl tp (d + 1) f)
      have q := h (f + ((d + 1 : Nat) : Int)) (by omega) (by push_cast; omega)
      rw [e]
      have e2 : lx_dl tp (d + 1) f = tp (f + d) % 32 :: lx_dl tp d f := rfl
      rw [e2]
      show _ = (tp (f + ((d + 1 : Nat) : Int)) % 32 + 96) :: bz_bys g (tp (f + d) % 32 :: lx_dl tp d f)
      congr 1
      omega
/-- a NAME or a WORD in both writings -/
theorem lx_wr {tp : Int → Int} {g : Int} {d : Nat} {f : Int} (h0 : 0 < d) (h6 : d ≤ 6) (hg : tp f = tp f % 32 + g) (hf : lx_let (tp f) = true) (h : ∀ i, f < i → i < f + d → 97 ≤ tp i ∧ tp i ≤ 122) : bz_WR g (bz_num 27 (lx_dl tp d f)) (bz_num 256 (lx_bl tp d f)) := by
  refine ⟨lx_dl tp d f, ⟨by rw [lx_dlLen]; exact h0, by rw [lx_dlLen]; exact h6, lx_dlMem d f (fun i h1 h2 => ?_)⟩, rfl, by rw [lx_bys d f h0 hg h]⟩
  by_cases e : i = f
  · rw [e]; exact hf
  · exact lx_letP.mpr (Or.inr (h i (by omega) h2))
theorem lx_shl {w : Int} (w0 : 0 ≤ w) (w1 : w < 1099511627776) : az_lshlV w 8 = w * 256 := by
  unfold az_lshlV
  have e : (Int64.ofInt w <<< ((Int32.ofInt 8).toInt64 &&& 63)).toInt = ((Int64.ofInt w).toBitVec <<< 8).toInt := rfl
  rw [e, BitVec.toInt_shiftLeft]
  have e2 : (Int64.ofInt w).toBitVec.toNat = w.toNat := by
    have : (Int64.ofInt w).toBitVec = BitVec.ofInt 64 w := rfl
    rw [this, BitVec.toNat_ofInt]
    omega
  rw [e2, Nat.shiftLeft_eq]
  have : ((w.toNat * 2 ^ 8 : Nat) : Int) = w * 256 := by
    rw [show (2 : Nat) ^ 8 = 256 from rfl]
    omega
  rw [this]
  exact Int.bmod_eq_of_le (by omega) (by omega)
theorem lx_or {w b : Int} (w0 : 0 ≤ w) (w1 : w < 1099511627776) (b0 : 0 ≤ b) (b1 : b < 256) : az_lorV (az_lshlV w 8) b = w * 256 + b := by
  rw [lx_shl w0 w1]
  unfold az_lorV
  have t1 : ∀ z : Int, 0 ≤ z → z < 9223372036854775808 → (Int64.ofInt z).toBitVec.toNat = z.toNat := fun z z0 z1 => by
    have : (Int64.ofInt z).toBitVec = BitVec.ofInt 64 z := rfl
    rw [this, BitVec.toNat_ofInt]
    omega
  have e : (Int64.ofInt (w * 256) ||| Int64.ofInt b).toBitVec.toNat = (w * 256 + b).toNat := by
    rw [Int64.toBitVec_or, BitVec.toNat_or, t1 _ (by omega) (by omega), t1 _ b0 (by omega)]
    have e1 : (w * 256).toNat = w.toNat <<< 8 := by rw [Nat.shiftLeft_eq]; omega
    rw [e1, ← Nat.shiftLeft_add_eq_or_of_lt (by omega : b.toNat < 2 ^ 8), Nat.shiftLeft_eq]
    omega
  have e2 : (Int64.ofInt (w * 256) ||| Int64.ofInt b).toInt = (Int64.ofInt (w * 256) ||| Int64.ofInt b).toBitVec.toInt := rfl
  rw [e2, BitVec.toInt_eq_toNat_of_lt (by rw [e]; omega), e]
  omega
