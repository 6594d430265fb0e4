/-! Products as digits: eleven of 32 bits on one side, thirty of base ten thousand on the other. -/
def dg (B P i : Nat) : Nat := P / B ^ i % B
def cyV (B P v i : Nat) : Nat := (P % B ^ i) * v / B ^ i
theorem dg_lt {B : Nat} (hB : 0 < B) (P i : Nat) : dg B P i < B := Nat.mod_lt _ hB
theorem cy_le {B : Nat} (hB : 0 < B) (P v i : Nat) : cyV B P v i ≤ v := Nat.div_le_of_le_mul (Nat.mul_le_mul_right v (Nat.le_of_lt (Nat.mod_lt _ (Nat.pow_pos hB))))
theorem cy_step {B : Nat} (hB : 0 < B) (P v i : Nat) : (P % B ^ (i + 1)) * v / B ^ i = dg B P i * v + cyV B P v i := by
  rw [Nat.pow_succ, Nat.mod_mul, Nat.add_mul, Nat.mul_assoc, Nat.add_mul_div_left _ _ (Nat.pow_pos hB)]
  unfold dg cyV
  omega
theorem cy_nx {B : Nat} (hB : 0 < B) (P v i : Nat) : (dg B P i * v + cyV B P v i) / B = cyV B P v (i + 1) := by
  rw [← cy_step hB, Nat.div_div_eq_div_mul]
  rfl
theorem cy_dg {B : Nat} (hB : 0 < B) (P v i : Nat) : (dg B P i * v + cyV B P v i) % B = dg B (P * v) i := by
  rw [← cy_step hB]
  unfold dg
  rw [← Nat.mod_mul_right_div_self, ← Nat.mod_mul_right_div_self (P * v), ← Nat.pow_succ, Nat.mod_mul_mod]
theorem cy_0 (B P v : Nat) : cyV B P v 0 = 0 := by
  unfold cyV
  rw [Nat.pow_zero, Nat.mod_one, Nat.zero_mul]
theorem dg_one {B : Nat} (hB : 2 ≤ B) (i : Nat) : dg B 1 i = if i = 0 then 1 else 0 := by
  unfold dg
  by_cases e : i = 0
  · rw [e, if_pos rfl, Nat.pow_zero, Nat.div_one, Nat.mod_eq_of_lt hB]
  · rw [if_neg e, Nat.div_eq_of_lt (Nat.one_lt_pow e hB), Nat.zero_mod]
theorem dg_top {B : Nat} (P Q i : Nat) (h : P / B ^ (i + 1) = Q / B ^ (i + 1)) : (dg B P i = dg B Q i → P / B ^ i = Q / B ^ i) ∧ (¬ dg B P i = dg B Q i → (dg B Q i < dg B P i ↔ Q < P)) := by
  rw [Nat.pow_succ, ← Nat.div_div_eq_div_mul, ← Nat.div_div_eq_div_mul] at h
  have p := Nat.div_add_mod (P / B ^ i) B
  have q := Nat.div_add_mod (Q / B ^ i) B
  rw [h] at p
  unfold dg
  refine ⟨fun e => by omega, fun e => ⟨fun l => ?_, fun l => ?_⟩⟩
  · refine Nat.lt_of_not_le fun z => ?_
    have := Nat.div_le_div_right (c := B ^ i) z
    omega
  · have := Nat.div_le_div_right (c := B ^ i) (Nat.le_of_lt l)
    omega
def PD (a : Nat → Int) (B n P : Nat) : Prop := ∀ i : Nat, i < n → a i = (dg B P i : Int)
theorem lush32 {a : Nat} (h2 : a < 9223372036854775808) : px_lush (a : Int) 32 = ((a / 4294967296 : Nat) : Int) := by
  unfold px_lush
  have e : ((Int32.ofInt 32).toInt64.toUInt64 &&& Int64.toUInt64 63 : UInt64) = 32 := by decide
  rw [e]
  have e1 : (Int64.ofInt (a : Int)).toUInt64.toNat = a := by
    have : (Int64.ofInt (a : Int)).toUInt64.toNat = (BitVec.ofInt 64 (a : Int)).toNat := rfl
    rw [this, BitVec.toNat_ofInt]
    omega
  have e2 : ((Int64.ofInt (a : Int)).toUInt64 >>> (32 : UInt64)).toNat = a / 4294967296 := by
    rw [UInt64.toNat_shiftRight, e1]
    show a >>> 32 = _
    rw [Nat.shiftRight_eq_div_pow]
  have e3 : ∀ u : UInt64, u.toNat < 9223372036854775808 → u.toInt64.toInt = (u.toNat : Int) := fun u hu => by
    have : u.toInt64.toInt = u.toBitVec.toInt := rfl
    rw [this, BitVec.toInt_eq_toNat_of_lt]
    · rfl
    · show 2 * u.toNat < 2 ^ 64
      omega
  rw [e3 _ (by omega), e2]
theorem land32 {a : Nat} (h2 : a < 9223372036854775808) : px_land (a : Int) 4294967295 = ((a % 4294967296 : Nat) : Int) := by
  unfold px_land
  have e1 : (Int64.ofInt (a : Int)).toBitVec.toNat = a := by
    have : (Int64.ofInt (a : Int)).toBitVec = BitVec.ofInt 64 (a : Int) := rfl
    rw [this, BitVec.toNat_ofInt]
    omega
  have e2 : (Int64.ofInt (a : Int) &&& Int64.ofInt 4294967295).toBitVec.toNat = a % 4294967296 := by
    rw [Int64.toBitVec_and, BitVec.toNat_and, e1]
    have : (Int64.ofInt 4294967295).toBitVec.toNat = 2 ^ 32 - 1 := by decide
    rw [this, Nat.and_two_pow_sub_one_eq_mod]
  have e3 : (Int64.ofInt (a : Int) &&& Int64.ofInt 4294967295).toInt = (Int64.ofInt (a : Int) &&& Int64.ofInt 4294967295).toBitVec.toInt := rfl
  rw [e3, BitVec.toInt_eq_toNat_of_lt (by omega), e2]
