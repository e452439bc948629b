/-! whole numbers as the functions use them -/
theorem bz_ofI {x : Int} (h0 : 0 ≤ x) (h1 : x < 2147483648) : (Int32.ofInt x).toBitVec.toNat = x.toNat := by
  have : (Int32.ofInt x).toBitVec = BitVec.ofInt 32 x := rfl
  rw [this, BitVec.toNat_ofInt]
  omega
theorem bz_toI {y : Int32} (h : y.toBitVec.toNat < 2147483648) : y.toInt = (y.toBitVec.toNat : Int) := by
  have e : y.toInt = y.toBitVec.toInt := rfl
  rw [e, BitVec.toInt_eq_toNat_of_lt (by omega)]
theorem bz_and {x z : Int} (h0 : 0 ≤ x) (h1 : x < 2147483648) (k : Nat) (hk : k < 31) (hz : z = 2 ^ k - 1) : az_iandV x z = x % 2 ^ k := by
  have hp : (2 : Nat) ^ k ≤ 2 ^ 30 := Nat.pow_le_pow_right (by decide) (by omega)
  have hp0 : 0 < (2 : Nat) ^ k := Nat.pow_pos (by decide)
  have hc : ((2 : Int) ^ k) = ((2 ^ k : Nat) : Int) := by push_cast; rfl
  have hz0 : 0 ≤ z := by omega
  have hz1 : z < 2147483648 := by omega
  have hzn : z.toNat = 2 ^ k - 1 := by omega
  unfold az_iandV
  have e : (Int32.ofInt x &&& Int32.ofInt z).toBitVec.toNat = x.toNat % 2 ^ k := by
    rw [Int32.toBitVec_and, BitVec.toNat_and, bz_ofI h0 h1, bz_ofI hz0 hz1, hzn, Nat.and_two_pow_sub_one_eq_mod]
  have l : x.toNat % 2 ^ k < 2 ^ k := Nat.mod_lt _ hp0
  rw [bz_toI (by omega), e, hc]
  have q : ((x.toNat : Nat) : Int) = x := Int.toNat_of_nonneg h0
  conv => rhs; rw [← q]
  exact Int.natCast_emod _ _
theorem bz_and1 {x : Int} (h0 : 0 ≤ x) (h1 : x < 2147483648) : az_iandV x 1 = x % 2 := bz_and h0 h1 1 (by decide) (by decide)
theorem bz_and3 {x : Int} (h0 : 0 ≤ x) (h1 : x < 2147483648) : az_iandV x 3 = x % 4 := bz_and h0 h1 2 (by decide) (by decide)
theorem bz_and31 {x : Int} (h0 : 0 ≤ x) (h1 : x < 2147483648) : az_iandV x 31 = x % 32 := bz_and h0 h1 5 (by decide) (by decide)
theorem bz_ofT {x : Int} (h0 : -2147483648 ≤ x) (h1 : x < 2147483648) : (Int32.ofInt x).toInt = x := by
  rw [Int32.toInt_ofInt]
  have q : (Int32.size : Nat) = 4294967296 := rfl
  rw [q]
  exact Int.bmod_eq_of_le (by omega) (by omega)
theorem bz_shr2 {x : Int} (h0 : -2147483648 ≤ x) (h1 : x < 2147483648) : az_ishrV x 2 = x / 4 := by
  unfold az_ishrV
  have e : (Int32.ofInt x >>> (Int32.ofInt 2 &&& 31)).toInt = ((Int32.ofInt x).toBitVec.sshiftRight 2).toInt := rfl
  have e2 : (Int32.ofInt x).toBitVec.toInt = x := bz_ofT h0 h1
  rw [e, BitVec.toInt_sshiftRight, e2, Int.shiftRight_eq_div_pow]
  rfl
theorem bz_shr4 {x : Int} (h0 : -2147483648 ≤ x) (h1 : x < 2147483648) : az_ishrV x 4 = x / 16 := by
  unfold az_ishrV
  have e : (Int32.ofInt x >>> (Int32.ofInt 4 &&& 31)).toInt = ((Int32.ofInt x).toBitVec.sshiftRight 4).toInt := rfl
  have e2 : (Int32.ofInt x).toBitVec.toInt = x := bz_ofT h0 h1
  rw [e, BitVec.toInt_sshiftRight, e2, Int.shiftRight_eq_div_pow]
  rfl
theorem bz_xor {x : Int} (h0 : -2147483648 ≤ x) (h1 : x < 2147483648) : az_ixorV x (-1) = -x - 1 := by
  unfold az_ixorV
  have e : (Int32.ofInt x ^^^ Int32.ofInt (-1)).toInt = ((Int32.ofInt x).toBitVec ^^^ BitVec.allOnes 32).toInt := rfl
  have e2 : (Int32.ofInt x).toBitVec.toInt = x := bz_ofT h0 h1
  have e3 : (Int32.ofInt x).toBitVec = BitVec.ofInt 32 x := rfl
  rw [e, BitVec.xor_allOnes, BitVec.toInt_not, e3, BitVec.toNat_ofInt]
  rw [Int.bmod_def]
  split <;> omega
theorem bz_make0 : ∀ n : Fin 16, ∀ a : Fin 4, ∀ k : Fin 4, az_iorV (az_iorV (az_ishlV (n.val : Int) 4) (az_ishlV (a.val : Int) 2)) (k.val : Int) = (n.val : Int) * 16 + (a.val : Int) * 4 + (k.val : Int) := by decide +kernel
theorem bz_make {n a k : Int} (hn : 0 ≤ n) (hn1 : n < 16) (ha : 0 ≤ a) (ha1 : a < 4) (hk : 0 ≤ k) (hk1 : k < 4) : az_iorV (az_iorV (az_ishlV n 4) (az_ishlV a 2)) k = n * 16 + a * 4 + k := by
  have h := bz_make0 ⟨n.toNat, by omega⟩ ⟨a.toNat, by omega⟩ ⟨k.toNat, by omega⟩
  simp only [Int.toNat_of_nonneg hn, Int.toNat_of_nonneg ha, Int.toNat_of_nonneg hk] at h
  exact h
/-- codes of the class -/
def bz_kd (c : Int) : Int := if c < 0 then 0 else c % 4
def bz_ar (c : Int) : Int := if c < 0 then 0 else c / 4 % 4
def bz_nr (c : Int) : Int := if c < 0 then -c - 1 else c / 16
def bz_I (c : Int) : Prop := -2147483648 ≤ c ∧ c < 2147483648
theorem bz_kind {σ : az_Hp} {c : Int} (h : bz_I c) : fz_X7_kind σ c = some (bz_kd c) := by
  unfold fz_X7_kind bz_kd
  obtain ⟨h0, h1⟩ := h
  by_cases hc : c < 0
  · rw [if_pos hc, if_pos hc]
  · rw [if_neg hc, if_neg hc, bz_and3 (by omega) h1]
theorem bz_arity {σ : az_Hp} {c : Int} (h : bz_I c) : fz_X7_arity σ c = some (bz_ar c) := by
  unfold fz_X7_arity bz_ar
  obtain ⟨h0, h1⟩ := h
  by_cases hc : c < 0
  · rw [if_pos hc, if_pos hc]
  · rw [if_neg hc, if_neg hc, bz_shr2 h0 h1, bz_and3 (by omega) (by omega)]
theorem bz_number {σ : az_Hp} {c : Int} (h : bz_I c) : fz_X7_number σ c = some (bz_nr c) := by
  unfold fz_X7_number bz_nr
  obtain ⟨h0, h1⟩ := h
  by_cases hc : c < 0
  · rw [if_pos hc, if_pos hc, bz_xor h0 h1]
  · rw [if_neg hc, if_neg hc, bz_shr4 h0 h1]
theorem bz_makeF {σ : az_Hp} {n a k : Int} (hn : 0 ≤ n) (hn1 : n < 16) (ha : 0 ≤ a) (ha1 : a < 4) (hk : 0 ≤ k) (hk1 : k < 4) : fz_X7_make σ k a n = some (n * 16 + a * 4 + k) := by
  unfold fz_X7_make
  rw [bz_make hn hn1 ha ha1 hk hk1]
theorem bz_ar_rng {c : Int} : 0 ≤ bz_ar c ∧ bz_ar c ≤ 3 := by
  unfold bz_ar
  split <;> omega
