theorem l1_01 (v : Int64) : v &&& 1 = 0 ∨ v &&& 1 = 1 := by
  have h : (v &&& 1).toBitVec.toNat ≤ 1 := by
    show (v.toBitVec &&& 1#64).toNat ≤ 1
    rw [BitVec.toNat_and]
    exact Nat.and_le_right
  have : (v &&& 1).toBitVec.toNat = 0 ∨ (v &&& 1).toBitVec.toNat = 1 := by omega
  rcases this with h | h
  · exact Or.inl (Int64.toBitVec_inj.mp (BitVec.eq_of_toNat_eq h))
  · exact Or.inr (Int64.toBitVec_inj.mp (BitVec.eq_of_toNat_eq h))
theorem lgc_0 (v : Int64) : lg_cmp (v &&& 1) 0 = 0 ↔ ¬ lg_cmp (v &&& 1) 1 = 0 := by
  rcases l1_01 v with h | h
  · rw [h]
    decide
  · rw [h]
    decide
