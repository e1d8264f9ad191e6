/-! THE PURE PART: bits -/
theorem w32_and {x y : Int} : w32 (and32 x y) = and32 x y := by unfold w32 and32; rw [Int32.ofInt_toInt]
theorem w32_or {x y : Int} : w32 (or32 x y) = or32 x y := by unfold w32 or32; rw [Int32.ofInt_toInt]
theorem w32_xor {x y : Int} : w32 (xor32 x y) = xor32 x y := by unfold w32 xor32; rw [Int32.ofInt_toInt]
theorem w32_shl {x y : Int} : w32 (shl32 x y) = shl32 x y := by unfold w32 shl32; rw [Int32.ofInt_toInt]
theorem w32_shr {x y : Int} : w32 (shr32 x y) = shr32 x y := by unfold w32 shr32; rw [Int32.ofInt_toInt]
theorem and32_nat {n m : Nat} (hn : n < 2147483648) : and32 (n : Int) (m : Int) = ((n &&& m : Nat) : Int) := by
  unfold and32
  rw [Int32.ofInt_eq_ofNat, Int32.ofInt_eq_ofNat]
  have e : Int32.ofNat n &&& Int32.ofNat m = Int32.ofNat (n &&& m) := by
    apply Int32.toBitVec_inj.mp
    rw [Int32.toBitVec_and]
    exact (BitVec.ofNat_and).symm
  rw [e, Int32.toInt_ofNat_of_lt]
  have := Nat.and_le_left (n := n) (m := m)
  omega
theorem or32_nat {n m : Nat} (hn : n < 2147483648) (hm : m < 2147483648) : or32 (n : Int) (m : Int) = ((n ||| m : Nat) : Int) := by
  unfold or32
  rw [Int32.ofInt_eq_ofNat, Int32.ofInt_eq_ofNat]
  have e : Int32.ofNat n ||| Int32.ofNat m = Int32.ofNat (n ||| m) := by
    apply Int32.toBitVec_inj.mp
    rw [Int32.toBitVec_or]
    exact (BitVec.ofNat_or).symm
  rw [e, Int32.toInt_ofNat_of_lt]
  exact Nat.or_lt_two_pow (n := 31) (by omega) (by omega)
theorem shr_amt : ∀ k : Nat, k < 32 → ((Int32.ofInt (k : Int) &&& 31).toBitVec.smod 32).toNat = k := by decide +kernel
theorem shr32_nat {n k : Nat} (hn : n < 2147483648) (hk : k < 32) : shr32 (n : Int) (k : Int) = ((n >>> k : Nat) : Int) := by
  unfold shr32
  rw [Int32.ofInt_eq_ofNat (n := n)]
  have e : Int32.ofNat n >>> (Int32.ofInt (k : Int) &&& 31) = Int32.ofNat (n >>> k) := by
    apply Int32.toBitVec_inj.mp
    rw [Int32.toBitVec_shiftRight]
    apply BitVec.eq_of_toNat_eq
    have hm : (Int32.ofNat n).toBitVec.msb = false := by
      show (BitVec.ofNat 32 n).msb = false
      rw [BitVec.msb_eq_decide]
      simp
      omega
    rw [BitVec.toNat_sshiftRight'_of_msb_false hm, shr_amt k hk]
    show (BitVec.ofNat 32 n).toNat >>> k = (BitVec.ofNat 32 (n >>> k)).toNat
    have := Nat.shiftRight_le n k
    rw [BitVec.toNat_ofNat, BitVec.toNat_ofNat, Nat.mod_eq_of_lt (by omega), Nat.mod_eq_of_lt (by omega)]
  rw [e, Int32.toInt_ofNat_of_lt]
  have := Nat.shiftRight_le n k
  omega
theorem shl1 : ∀ k : Nat, k < 31 → shl32 1 (k : Int) = ((2 ^ k : Nat) : Int) := by decide +kernel
theorem bit_of {n k : Nat} (hn : n < 2147483648) (hk : k < 32) : and32 (shr32 (n : Int) (k : Int)) 1 = if n.testBit k then 1 else 0 := by
  rw [shr32_nat hn hk]
  have := Nat.shiftRight_le n k
  have e := and32_nat (n := n >>> k) (m := 1) (by omega)
  rw [show ((1 : Nat) : Int) = 1 from rfl] at e
  rw [e, Nat.testBit]
  rw [Nat.and_comm]
  have h := Nat.and_le_left (n := 1) (m := n >>> k)
  by_cases z : 1 &&& n >>> k = 0
  · rw [z]; rfl
  · have z1 : 1 &&& n >>> k = 1 := by omega
    rw [z1]; rfl
theorem bit_01 {n k : Nat} (hn : n < 2147483648) (hk : k < 32) : 0 ≤ and32 (shr32 (n : Int) (k : Int)) 1 ∧ and32 (shr32 (n : Int) (k : Int)) 1 ≤ 1 := by
  rw [bit_of hn hk]
  split <;> omega
/-- bit k set -/
theorem bit_set {x : Int} {k j : Nat} (h0 : 0 ≤ x) (h1 : x < 2147483648) (hk : k < 31) (hj : j < 31) : and32 (shr32 (or32 x (shl32 1 (k : Int))) (j : Int)) 1 = if j = k then 1 else and32 (shr32 x (j : Int)) 1 := by
  obtain ⟨n, rfl⟩ := Int.eq_ofNat_of_zero_le h0
  have p : 2 ^ k < 2 ^ 31 := Nat.pow_lt_pow_right (by omega) hk
  have hn : n < 2147483648 := by omega
  rw [shl1 k hk, or32_nat hn p, bit_of (Nat.or_lt_two_pow (n := 31) hn p) (by omega), bit_of hn (by omega), Nat.testBit_or, Nat.testBit_two_pow]
  by_cases e : j = k
  · simp [e]
  · rw [if_neg e]
    have : ¬ k = j := fun z => e z.symm
    simp [this]
theorem or_rng {x : Int} {k b : Nat} (h0 : 0 ≤ x) (h1 : x < ((2 ^ b : Nat) : Int)) (hb : b ≤ 31) (hk : k < b) : 0 ≤ or32 x (shl32 1 (k : Int)) ∧ or32 x (shl32 1 (k : Int)) < ((2 ^ b : Nat) : Int) := by
  obtain ⟨n, rfl⟩ := Int.eq_ofNat_of_zero_le h0
  have p : 2 ^ k < 2 ^ b := Nat.pow_lt_pow_right (by omega) hk
  have q : 2 ^ b ≤ 2 ^ 31 := Nat.pow_le_pow_right (by omega) hb
  have hn : n < 2 ^ b := by omega
  rw [shl1 k (by omega), or32_nat (by omega) (by omega)]
  have := Nat.or_lt_two_pow hn p
  omega
theorem bit_zero {k : Nat} (hk : k < 32) : and32 (shr32 0 (k : Int)) 1 = 0 := by
  have := bit_of (n := 0) (k := k) (by omega) hk
  simpa using this
theorem bit_rng {x : Int} {k : Nat} (h0 : 0 ≤ x) (h1 : x < 2147483648) (hk : k < 32) : 0 ≤ and32 (shr32 x (k : Int)) 1 ∧ and32 (shr32 x (k : Int)) 1 ≤ 1 := by
  obtain ⟨n, rfl⟩ := Int.eq_ofNat_of_zero_le h0
  exact bit_01 (by omega) hk
/-- all bits below n -/
theorem bit_all {n k : Nat} (hn : n ≤ 30) (hk : k < n) : and32 (shr32 ((2 ^ n : Nat) - 1 : Int) (k : Int)) 1 = 1 := by
  have p : 2 ^ n ≤ 2 ^ 30 := Nat.pow_le_pow_right (by omega) hn
  have q : 1 ≤ 2 ^ n := Nat.one_le_two_pow
  have e : (((2 ^ n : Nat) : Int) - 1) = ((2 ^ n - 1 : Nat) : Int) := by omega
  rw [e, bit_of (by omega) (by omega), Nat.testBit_two_pow_sub_one]
  simp [hk]
theorem has2_eq {x k : Int} : m_has2 x k = some (decide (and32 (shr32 x k) 1 = 1)) := by
  unfold m_has2
  rw [w32_and, w32_eq (x := 1) (by omega) (by omega)]
  by_cases h : and32 (shr32 x k) 1 = 1
  · simp [h]
  · simp [h]
theorem bit_clr : ∀ n : Nat, n < 128 → ∀ k : Nat, k < 7 → ∀ j : Nat, j < 7 → and32 (shr32 (and32 (n : Int) (xor32 (shl32 1 (k : Int)) (-1))) (j : Int)) 1 = if j = k then 0 else and32 (shr32 (n : Int) (j : Int)) 1 := by decide +kernel
theorem clr_rng : ∀ n : Nat, n < 128 → ∀ k : Nat, k < 7 → 0 ≤ and32 (n : Int) (xor32 (shl32 1 (k : Int)) (-1)) ∧ and32 (n : Int) (xor32 (shl32 1 (k : Int)) (-1)) ≤ (n : Int) := by decide +kernel
