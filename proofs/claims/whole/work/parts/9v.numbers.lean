/-! numbers in words -/
theorem pz_div {x z : Int} (x0 : 0 ≤ x) (x1 : x < 2147483648) (z0 : 0 < z) (z1 : z < 2147483648) : az_idivV x z = x / z := by
  unfold az_idivV
  rw [Int32.toInt_div, bz_ofT (by omega) x1, bz_ofT (by omega) z1, Int.tdiv_eq_ediv_of_nonneg x0]
  have h1 : 0 ≤ x / z := Int.ediv_nonneg x0 (by omega)
  have h2 : x / z ≤ x := Int.ediv_le_self z x0
  exact Int.bmod_eq_of_le (by omega) (by omega)
theorem pz_rem {x z : Int} (x0 : 0 ≤ x) (x1 : x < 2147483648) (z0 : 0 < z) (z1 : z < 2147483648) : az_iremV x z = x % z := by
  have hd := pz_div x0 x1 z0 z1
  unfold az_idivV at hd
  have h1 : 0 ≤ x / z := Int.ediv_nonneg x0 (by omega)
  have h3 : x / z * z + x % z = x := Int.ediv_mul_add_emod x z
  have h4 : 0 ≤ x % z := Int.emod_nonneg x (by omega)
  have h5 : 0 ≤ x / z * z := Int.mul_nonneg h1 (by omega)
  unfold az_iremV
  rw [Int32.toInt_sub, Int32.toInt_mul, hd, bz_ofT (by omega) x1, bz_ofT (by omega) z1]
  have e1 : (x / z * z).bmod (2 ^ 32) = x / z * z := Int.bmod_eq_of_le (by omega) (by omega)
  rw [e1]
  have e2 : (x - x / z * z).bmod (2 ^ 32) = x - x / z * z := Int.bmod_eq_of_le (by omega) (by omega)
  rw [e2]
  omega
theorem pz_and255 {y : Int} : az_iandV y 255 = y % 256 := by
  unfold az_iandV
  have e : (Int32.ofInt y &&& Int32.ofInt 255).toBitVec.toNat = (y % 4294967296).toNat % 256 := by
    rw [Int32.toBitVec_and, BitVec.toNat_and]
    have a1 : (Int32.ofInt y).toBitVec.toNat = (y % 4294967296).toNat := by
      have : (Int32.ofInt y).toBitVec = BitVec.ofInt 32 y := rfl
      rw [this, BitVec.toNat_ofInt]
      rfl
    have a2 : (Int32.ofInt 255).toBitVec.toNat = 2 ^ 8 - 1 := rfl
    rw [a1, a2, Nat.and_two_pow_sub_one_eq_mod]
  have l : (y % 4294967296).toNat % 256 < 256 := Nat.mod_lt _ (by decide)
  rw [bz_toI (by omega), e]
  omega
theorem pz_w32mod {x : Int} : az_w32 x % 256 = x % 256 := by
  unfold az_w32
  rw [Int.bmod_def]
  split <;> omega
theorem pz_of64 {x : Int} (h0 : 0 ≤ x) (h1 : x < 9223372036854775808) : (Int64.ofInt x).toBitVec.toInt = x := by
  have : (Int64.ofInt x).toBitVec.toInt = (Int64.ofInt x).toInt := rfl
  rw [this, Int64.toInt_ofInt]
  have q : (Int64.size : Nat) = 18446744073709551616 := rfl
  rw [q]
  exact Int.bmod_eq_of_le (by omega) (by omega)
theorem pz_shr {x : Int} (h0 : 0 ≤ x) (h1 : x < 9223372036854775808) (p : Nat) (hp : p < 8) : az_lshrV x (8 * p) = x / 256 ^ p := by
  unfold az_lshrV
  have e2 := pz_of64 h0 h1
  have hp8 : p = 0 ∨ p = 1 ∨ p = 2 ∨ p = 3 ∨ p = 4 ∨ p = 5 ∨ p = 6 ∨ p = 7 := by omega
  rcases hp8 with rfl | rfl | rfl | rfl | rfl | rfl | rfl | rfl
  · have e : (Int64.ofInt x >>> ((Int32.ofInt (8 * (0 : Nat))).toInt64 &&& 63)).toInt = ((Int64.ofInt x).toBitVec.sshiftRight 0).toInt := rfl
    rw [e, BitVec.toInt_sshiftRight, e2, Int.shiftRight_eq_div_pow]; rfl
  · have e : (Int64.ofInt x >>> ((Int32.ofInt (8 * (1 : Nat))).toInt64 &&& 63)).toInt = ((Int64.ofInt x).toBitVec.sshiftRight 8).toInt := rfl
    rw [e, BitVec.toInt_sshiftRight, e2, Int.shiftRight_eq_div_pow]; rfl
  · have e : (Int64.ofInt x >>> ((Int32.ofInt (8 * (2 : Nat))).toInt64 &&& 63)).toInt = ((Int64.ofInt x).toBitVec.sshiftRight 16).toInt := rfl
    rw [e, BitVec.toInt_sshiftRight, e2, Int.shiftRight_eq_div_pow]; rfl
  · have e : (Int64.ofInt x >>> ((Int32.ofInt (8 * (3 : Nat))).toInt64 &&& 63)).toInt = ((Int64.ofInt x).toBitVec.sshiftRight 24).toInt := rfl
    rw [e, BitVec.toInt_sshiftRight, e2, Int.shiftRight_eq_div_pow]; rfl
  · have e : (Int64.ofInt x >>> ((Int32.ofInt (8 * (4 : Nat))).toInt64 &&& 63)).toInt = ((Int64.ofInt x).toBitVec.sshiftRight 32).toInt := rfl
    rw [e, BitVec.toInt_sshiftRight, e2, Int.shiftRight_eq_div_pow]; rfl
  · have e : (Int64.ofInt x >>> ((Int32.ofInt (8 * (5 : Nat))).toInt64 &&& 63)).toInt = ((Int64.ofInt x).toBitVec.sshiftRight 40).toInt := rfl
    rw [e, BitVec.toInt_sshiftRight, e2, Int.shiftRight_eq_div_pow]; rfl
  · have e : (Int64.ofInt x >>> ((Int32.ofInt (8 * (6 : Nat))).toInt64 &&& 63)).toInt = ((Int64.ofInt x).toBitVec.sshiftRight 48).toInt := rfl
    rw [e, BitVec.toInt_sshiftRight, e2, Int.shiftRight_eq_div_pow]; rfl
  · have e : (Int64.ofInt x >>> ((Int32.ofInt (8 * (7 : Nat))).toInt64 &&& 63)).toInt = ((Int64.ofInt x).toBitVec.sshiftRight 56).toInt := rfl
    rw [e, BitVec.toInt_sshiftRight, e2, Int.shiftRight_eq_div_pow]; rfl
/-- one digit -/
theorem pz_dg {B : Int} (hB : 1 < B) : ∀ (l : List Int) (p : Nat), (∀ d ∈ l, 0 < d ∧ d < B) → bz_num B l / B ^ p % B = l.getD p 0 := by
  intro l
  induction l with
  | nil =>
    intro p _
    show (0 : Int) / B ^ p % B = _
    rw [Int.zero_ediv, Int.zero_emod]
    simp
  | cons d t ih =>
    intro p h
    have hd := h d (List.mem_cons_self ..)
    have m1 : (bz_num B t * B + d) % B = d := by rw [Int.add_comm, Int.add_mul_emod_self_right]; exact Int.emod_eq_of_lt (by omega) (by omega)
    cases p with
    | zero =>
      show (bz_num B t * B + d) / B ^ 0 % B = _
      rw [Int.pow_zero, Int.ediv_one, m1]
      simp
    | succ p =>
      show (bz_num B t * B + d) / B ^ (p + 1) % B = _
      have e1 : (bz_num B t * B + d) / B = bz_num B t := by
        rw [Int.add_comm, Int.add_mul_ediv_right d (bz_num B t) (by omega), Int.ediv_eq_zero_of_lt (by omega) (by omega), Int.zero_add]
      have e2 : (bz_num B t * B + d) / B ^ (p + 1) = bz_num B t / B ^ p := by
        rw [Int.pow_succ, Int.mul_comm (B ^ p) B, ← Int.ediv_ediv_of_nonneg (by omega), e1]
      rw [e2, ih p (fun x hx => h x (List.mem_cons_of_mem _ hx))]
      simp
