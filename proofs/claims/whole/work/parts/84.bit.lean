theorem nI_bv (x : Nat) : (nI x).toBitVec = BitVec.ofNat 32 x := rfl
theorem bb_t0 {x b : Nat} (hb : b ≤ 1) : (2 * x + b).testBit 0 = decide (b = 1) := by
  rw [Nat.testBit_zero]
  exact decide_eq_decide.mpr (by omega)
theorem bb_t1 {x b i : Nat} (hb : b ≤ 1) : (2 * x + b).testBit (i + 1) = x.testBit i := by
  rw [Nat.testBit_add_one]
  congr 1
  omega
theorem bb_psh {x b : Nat} (hb : b ≤ 1) : BitVec.ofNat 32 x <<< 1 ||| BitVec.ofNat 32 b = BitVec.ofNat 32 (2 * x + b) := by
  apply BitVec.eq_of_getLsbD_eq
  intro i hi
  rw [BitVec.getLsbD_or, BitVec.getLsbD_shiftLeft, BitVec.getLsbD_ofNat, BitVec.getLsbD_ofNat, BitVec.getLsbD_ofNat]
  have e : decide (i < 32) = true := decide_eq_true hi
  cases i with
  | zero =>
    rw [bb_t0 hb]
    have : b = 0 ∨ b = 1 := by omega
    rcases this with rfl | rfl <;> simp
  | succ i =>
    rw [bb_t1 hb, e]
    have e2 : decide (i < 32) = true := decide_eq_true (by omega)
    have : b = 0 ∨ b = 1 := by omega
    have e3 : b.testBit (i + 1) = false := by
      rw [Nat.testBit_add_one]
      rcases this with rfl | rfl <;> simp
    rw [e3]
    simp
    omega
theorem bb_gl (n : Nat) {i : Nat} (hi : i < 32) : (BitVec.ofNat 32 n).getLsbD i = n.testBit i := by
  rw [BitVec.getLsbD_ofNat, decide_eq_true hi]
  simp
theorem bb_sr {x b : Nat} (hx : 2 * x + b < 2 ^ 31) (hb : b ≤ 1) : (BitVec.ofNat 32 (2 * x + b)).sshiftRight 1 = BitVec.ofNat 32 x := by
  apply BitVec.eq_of_getLsbD_eq
  intro i hi
  have e : decide (32 ≤ i) = false := decide_eq_false (by omega)
  rw [BitVec.getLsbD_sshiftRight, bb_gl x hi, e]
  by_cases h : 1 + i < 32
  · rw [if_pos h, bb_gl _ h, Nat.add_comm 1 i, bb_t1 hb]
    simp
  · rw [if_neg h]
    have hi1 : i = 31 := by omega
    subst hi1
    have m0 : (BitVec.ofNat 32 (2 * x + b)).msb = false := by
      rw [BitVec.msb_eq_decide]
      apply decide_eq_false
      rw [BitVec.toNat_ofNat, Nat.mod_eq_of_lt (by omega)]
      omega
    have t0 : x.testBit 31 = false := Nat.testBit_lt_two_pow (by omega)
    rw [m0, t0]
    simp
theorem bb_b {b i : Nat} (hb : b ≤ 1) : b.testBit (i + 1) = false := by
  have : b = 0 ∨ b = 1 := by omega
  rw [Nat.testBit_add_one]
  rcases this with rfl | rfl <;> simp
theorem bb_b0 {b : Nat} (hb : b ≤ 1) : b.testBit 0 = decide (b = 1) := by
  rw [Nat.testBit_zero]
  exact decide_eq_decide.mpr (by omega)
theorem bb_or {x b c : Nat} (hb : b ≤ 1) (hc : c ≤ 1) : BitVec.ofNat 32 (2 * x + b) ||| BitVec.ofNat 32 c = BitVec.ofNat 32 (2 * x + max b c) := by
  apply BitVec.eq_of_getLsbD_eq
  intro i hi
  rw [BitVec.getLsbD_or, bb_gl _ hi, bb_gl _ hi, bb_gl _ hi]
  cases i with
  | zero =>
    rw [bb_t0 hb, bb_t0 (by omega), bb_b0 hc]
    have : b = 0 ∨ b = 1 := by omega
    have : c = 0 ∨ c = 1 := by omega
    rcases ‹b = 0 ∨ b = 1› with rfl | rfl <;> rcases ‹c = 0 ∨ c = 1› with rfl | rfl <;> rfl
  | succ i =>
    rw [bb_t1 hb, bb_t1 (by omega), bb_b hc, Bool.or_false]
theorem bb_m2 {i : Nat} (hi : i + 1 < 32) : (4294967294 : Nat).testBit (i + 1) = true := by
  rw [Nat.testBit_add_one, show (4294967294 : Nat) / 2 = 2 ^ 31 - 1 from rfl, Nat.testBit_two_pow_sub_one]
  exact decide_eq_true (by omega)
theorem bb_and {x b c : Nat} (hb : b ≤ 1) (hc : c ≤ 1) : BitVec.ofNat 32 (2 * x + b) &&& (4294967294#32 ||| BitVec.ofNat 32 c) = BitVec.ofNat 32 (2 * x + min b c) := by
  apply BitVec.eq_of_getLsbD_eq
  intro i hi
  rw [BitVec.getLsbD_and, BitVec.getLsbD_or, bb_gl _ hi, bb_gl _ hi, bb_gl _ hi, bb_gl _ hi]
  cases i with
  | zero =>
    rw [bb_t0 hb, bb_t0 (by omega), bb_b0 hc]
    have : b = 0 ∨ b = 1 := by omega
    have : c = 0 ∨ c = 1 := by omega
    rcases ‹b = 0 ∨ b = 1› with rfl | rfl <;> rcases ‹c = 0 ∨ c = 1› with rfl | rfl <;> decide
  | succ i =>
    rw [bb_t1 hb, bb_t1 (by omega), bb_m2 hi, Bool.true_or, Bool.and_true]
theorem bb_xor {x b : Nat} (hb : b ≤ 1) : BitVec.ofNat 32 (2 * x + b) ^^^ 1#32 = BitVec.ofNat 32 (2 * x + (1 - b)) := by
  apply BitVec.eq_of_getLsbD_eq
  intro i hi
  rw [BitVec.getLsbD_xor, bb_gl _ hi, bb_gl _ hi, bb_gl _ hi]
  cases i with
  | zero =>
    rw [bb_t0 hb, bb_t0 (by omega), bb_b0 (by omega)]
    have : b = 0 ∨ b = 1 := by omega
    rcases this with rfl | rfl <;> decide
  | succ i =>
    rw [bb_t1 hb, bb_t1 (by omega), bb_b (by omega), Bool.xor_false]
theorem bb_1 {x b : Nat} (hb : b ≤ 1) : BitVec.ofNat 32 (2 * x + b) &&& 1#32 = BitVec.ofNat 32 b := by
  apply BitVec.eq_of_getLsbD_eq
  intro i hi
  rw [BitVec.getLsbD_and, BitVec.getLsbD_ofNat, BitVec.getLsbD_ofNat, BitVec.getLsbD_ofNat]
  have : b = 0 ∨ b = 1 := by omega
  cases i with
  | zero =>
    rw [bb_t0 hb]
    rcases this with rfl | rfl <;> simp
  | succ i =>
    have e3 : b.testBit (i + 1) = false := by
      rw [Nat.testBit_add_one]
      rcases this with rfl | rfl <;> simp
    have e4 : (1 : Nat).testBit (i + 1) = false := by rw [Nat.testBit_add_one]; simp
    rw [e3, e4]
    simp
theorem bs_psh {x b : Nat} (hb : b ≤ 1) : (nI x <<< ((1 : Int32) &&& 31)) ||| nI b = nI (2 * x + b) := Int32.toBitVec_inj.mp (bb_psh hb)
theorem bs_or {x b c : Nat} (hx : x < 2 ^ 29) (hb : b ≤ 1) (hc : c ≤ 1) : (nI (2 * (2 * x + b) + c) >>> ((1 : Int32) &&& 31)) ||| (nI (2 * (2 * x + b) + c) &&& (1 : Int32)) = nI (2 * x + max b c) := by
  apply Int32.toBitVec_inj.mp
  show (BitVec.ofNat 32 (2 * (2 * x + b) + c)).sshiftRight 1 ||| (BitVec.ofNat 32 (2 * (2 * x + b) + c) &&& 1#32) = BitVec.ofNat 32 (2 * x + max b c)
  rw [bb_sr (by omega) hc, bb_1 hc, bb_or hb hc]
theorem bs_and {x b c : Nat} (hx : x < 2 ^ 29) (hb : b ≤ 1) (hc : c ≤ 1) : (nI (2 * (2 * x + b) + c) >>> ((1 : Int32) &&& 31)) &&& (((-2) : Int32) ||| (nI (2 * (2 * x + b) + c) &&& (1 : Int32))) = nI (2 * x + min b c) := by
  apply Int32.toBitVec_inj.mp
  show (BitVec.ofNat 32 (2 * (2 * x + b) + c)).sshiftRight 1 &&& (4294967294#32 ||| (BitVec.ofNat 32 (2 * (2 * x + b) + c) &&& 1#32)) = BitVec.ofNat 32 (2 * x + min b c)
  rw [bb_sr (by omega) hc, bb_1 hc, bb_and hb hc]
theorem bs_not {x b : Nat} (hb : b ≤ 1) : nI (2 * x + b) ^^^ (1 : Int32) = nI (2 * x + (1 - b)) := Int32.toBitVec_inj.mp (bb_xor hb)
theorem bs_1 {x b : Nat} (hb : b ≤ 1) : nI (2 * x + b) &&& (1 : Int32) = nI b := Int32.toBitVec_inj.mp (bb_1 hb)
