theorem mw_g (x y : BitVec 32) : y &&& (x ^^^ BitVec.allOnes 32) = 0#32 ↔ x &&& y = y := by
  constructor
  · intro h
    apply BitVec.eq_of_getLsbD_eq
    intro i hi
    have := congrArg (fun z => BitVec.getLsbD z i) h
    simp only [BitVec.getLsbD_and, BitVec.getLsbD_xor, BitVec.getLsbD_allOnes, hi, decide_true, BitVec.getLsbD_zero] at this
    rw [BitVec.getLsbD_and]
    revert this
    cases x.getLsbD i <;> cases y.getLsbD i <;> decide
  · intro h
    apply BitVec.eq_of_getLsbD_eq
    intro i hi
    have := congrArg (fun z => BitVec.getLsbD z i) h
    simp only [BitVec.getLsbD_and] at this
    simp only [BitVec.getLsbD_and, BitVec.getLsbD_xor, BitVec.getLsbD_allOnes, hi, decide_true, BitVec.getLsbD_zero]
    revert this
    cases x.getLsbD i <;> cases y.getLsbD i <;> decide
theorem m1_b : (-1 : Int32).toBitVec = BitVec.allOnes 32 := by decide
theorem mk_i {m s : Nat} : nI s &&& (nI m ^^^ (-1 : Int32)) = 0 ↔ nI m &&& nI s = nI s := by
  rw [← Int32.toBitVec_inj, ← Int32.toBitVec_inj]
  show (nI s).toBitVec &&& ((nI m).toBitVec ^^^ (-1 : Int32).toBitVec) = 0#32 ↔ (nI m).toBitVec &&& (nI s).toBitVec = (nI s).toBitVec
  rw [m1_b]
  exact mw_g _ _
def fitB (σ : sg_T) (b : Nat → Nat) (i t : Nat) : Bool := decide (σ 1 (14 * t + 12) < 3 ∧ σ 1 (14 * t + 0) = b (6 * i) ∧ σ 1 (14 * t + 1) = b (6 * i + 1) ∧ σ 1 (14 * t + 3) = b (6 * i + 2) ∧ nI (σ 1 (14 * t + 4)) &&& nI (b (6 * i + 3)) = nI (b (6 * i + 3)) ∧ (b (6 * i + 4) = 10 ∨ b (6 * i + 4) = t / 10) ∧ (b (6 * i + 5) = 10 ∨ b (6 * i + 5) = t % 10))
section
variable {σ : sg_T} {μ ν : fm_T} {b : Nat → Nat}
theorem by_c (hb : ∀ i, i < 940 → fI μ 3 i = nI (b i) ∧ b i ≤ 255) {i : Nat} (hi : i < 940) : gX7_byteAt μ (nI i) = nI (b i) ∧ pX7_byteAt μ (nI i) := by
  have q1 : ¬ nI i < 0 := nI_pos (by omega)
  have q2 : ¬ (940 : Int32) ≤ nI i := fun z => by have := (nI_leI (a := 940) (by omega) (by omega)).mp z; omega
  unfold gX7_byteAt pX7_byteAt
  rw [if_neg q1, if_neg q2, nI_clamp (by omega)]
  exact ⟨(hb i hi).1, fun _ _ => vp_in_nI (by omega) (by decide)⟩
theorem ft_c (w : WR σ (blk μ 8) (fL μ 25) (fI ν 2) (fL ν 5)) (hb : ∀ i, i < 940 → fI μ 3 i = nI (b i) ∧ b i ≤ 255) {i t : Nat} (hi : i < 8) (ht : t < σ 0 0) : (gX11_fits μ (nI t) (nI (6 * i)) = 0 ↔ fitB σ b i t = false) ∧ pX11_fits μ (nI t) (nI (6 * i)) := by
  have hS := (wr_S w).2.2
  have o0 : gX8_of μ (nI t) 0 = nI (σ 1 (14 * t + 0)) ∧ pX8_of μ (nI t) 0 := of_c w (j := 0) ht (by omega)
  have o1 : gX8_of μ (nI t) 1 = nI (σ 1 (14 * t + 1)) ∧ pX8_of μ (nI t) 1 := of_c w (j := 1) ht (by omega)
  have o3 : gX8_of μ (nI t) 3 = nI (σ 1 (14 * t + 3)) ∧ pX8_of μ (nI t) 3 := of_c w (j := 3) ht (by omega)
  have o4 : gX8_of μ (nI t) 4 = nI (σ 1 (14 * t + 4)) ∧ pX8_of μ (nI t) 4 := of_c w (j := 4) ht (by omega)
  have o12 : gX8_of μ (nI t) 12 = nI (σ 1 (14 * t + 12)) ∧ pX8_of μ (nI t) 12 := of_c w (j := 12) ht (by omega)
  have s12 := (st_now w ht).2.2
  obtain ⟨⟨w0, w1, -, -, w3, w4, -⟩, -⟩ := w.2.2.1.2.1 t ht
  have w7 := (wr_hw w).1.2.2.1
  have b0 := by_c hb (i := 6 * i) (by omega)
  have b1 := by_c hb (i := 6 * i + 1) (by omega)
  have b2 := by_c hb (i := 6 * i + 2) (by omega)
  have b3 := by_c hb (i := 6 * i + 3) (by omega)
  have b4 := by_c hb (i := 6 * i + 4) (by omega)
  have b5 := by_c hb (i := 6 * i + 5) (by omega)
  have l0 := (hb (6 * i) (by omega)).2
  have l1 := (hb (6 * i + 1) (by omega)).2
  have l2 := (hb (6 * i + 2) (by omega)).2
  have l4 := (hb (6 * i + 4) (by omega)).2
  have l5 := (hb (6 * i + 5) (by omega)).2
  have e1 : nI (6 * i) + 1 = nI (6 * i + 1) := by rw [show (1 : Int32) = nI 1 from rfl, nI_add]
  have e2 : nI (6 * i) + 2 = nI (6 * i + 2) := by rw [show (2 : Int32) = nI 2 from rfl, nI_add]
  have e3 : nI (6 * i) + 3 = nI (6 * i + 3) := by rw [show (3 : Int32) = nI 3 from rfl, nI_add]
  have e4 : nI (6 * i) + 4 = nI (6 * i + 4) := by rw [show (4 : Int32) = nI 4 from rfl, nI_add]
  have e5 : nI (6 * i) + 5 = nI (6 * i + 5) := by rw [show (5 : Int32) = nI 5 from rfl, nI_add]
  have d1 : nI t / 10 = nI (t / 10) := by rw [show (10 : Int32) = nI 10 from rfl, nI_div (by omega) (by omega) (by omega)]
  have d2 : nI t - nI (t / 10) * 10 = nI (t % 10) := by
    rw [show (10 : Int32) = nI 10 from rfl, nI_mul, nI_sub (by omega)]
    congr 1
    omega
  have k12 : 3 ≤ nI (σ 1 (14 * t + 12)) ↔ ¬ σ 1 (14 * t + 12) < 3 := by rw [show (3 : Int32) = nI 3 from rfl, nI_leI (by omega) (by omega)]; omega
  have k0 : nI (σ 1 (14 * t + 0)) = nI (b (6 * i)) ↔ σ 1 (14 * t + 0) = b (6 * i) := nI_eq (by omega) (by omega)
  have k1 : nI (σ 1 (14 * t + 1)) = nI (b (6 * i + 1)) ↔ σ 1 (14 * t + 1) = b (6 * i + 1) := nI_eq (by omega) (by omega)
  have k2 : nI (σ 1 (14 * t + 3)) = nI (b (6 * i + 2)) ↔ σ 1 (14 * t + 3) = b (6 * i + 2) := nI_eq (by omega) (by omega)
  have k4 : nI (b (6 * i + 4)) = 10 ↔ b (6 * i + 4) = 10 := nI_eq (b := 10) (by omega) (by omega)
  have k4' : nI (b (6 * i + 4)) = nI (t / 10) ↔ b (6 * i + 4) = t / 10 := nI_eq (by omega) (by omega)
  have k5 : nI (b (6 * i + 5)) = 10 ↔ b (6 * i + 5) = 10 := nI_eq (b := 10) (by omega) (by omega)
  have k5' : nI (b (6 * i + 5)) = nI (t % 10) ↔ b (6 * i + 5) = t % 10 := nI_eq (by omega) (by omega)
  have n1 : ¬ (1 : Int32) = 0 := by decide
  constructor
  · unfold gX11_fits gX8_isOpen gX11_isDigit fitB
    rw [e1, e2, e3, e4, e5, o0.1, o1.1, o3.1, o4.1, o12.1, b0.1, b1.1, b2.1, b3.1, b4.1, b5.1, d1, d2]
    simp only [k12, k0, k1, k2, k4, k4', k5, k5']
    by_cases a1 : σ 1 (14 * t + 12) < 3
    · by_cases a2 : σ 1 (14 * t + 0) = b (6 * i)
      · by_cases a3 : σ 1 (14 * t + 1) = b (6 * i + 1)
        · by_cases a4 : σ 1 (14 * t + 3) = b (6 * i + 2)
          · by_cases a5 : nI (σ 1 (14 * t + 4)) &&& nI (b (6 * i + 3)) = nI (b (6 * i + 3))
            · by_cases a6 : b (6 * i + 4) = 10
              · by_cases a7 : b (6 * i + 5) = 10
                · simp only [a1, a2, a3, a4, a5, a6, a7, not_true_eq_false, if_false, if_true, n1, true_and, true_or, decide_true, reduceCtorEq]
                · by_cases a8 : b (6 * i + 5) = t % 10 <;> simp only [a1, a2, a3, a4, a5, a6, a7, a8, not_true_eq_false, if_false, if_true, n1, true_and, true_or, false_or, or_true, ite_self, decide_true, decide_false, reduceCtorEq]
              · by_cases a6' : b (6 * i + 4) = t / 10
                · by_cases a7 : b (6 * i + 5) = 10
                  · simp only [a1, a2, a3, a4, a5, a6, a6', a7, not_true_eq_false, if_false, if_true, n1, true_and, true_or, or_true, decide_true, reduceCtorEq, ite_self]
                  · by_cases a8 : b (6 * i + 5) = t % 10 <;> simp only [a1, a2, a3, a4, a5, a6, a6', a7, a8, not_true_eq_false, if_false, if_true, n1, true_and, true_or, or_true, false_or, decide_true, decide_false, reduceCtorEq, ite_self]
                · simp only [a1, a2, a3, a4, a5, a6, a6', not_true_eq_false, if_false, if_true, n1, true_and, false_or, false_and, decide_false]
            · simp only [a1, a2, a3, a4, a5, not_true_eq_false, if_false, if_true, n1, true_and, false_and, and_false, decide_false]
          · simp only [a1, a2, a3, a4, not_true_eq_false, if_false, if_true, n1, true_and, false_and, and_false, decide_false]
        · simp only [a1, a2, a3, not_true_eq_false, if_false, if_true, n1, true_and, false_and, and_false, decide_false]
      · simp only [a1, a2, not_true_eq_false, if_false, if_true, n1, true_and, false_and, and_false, decide_false]
    · simp only [a1, not_false_eq_true, if_true, false_and, decide_false]
  · unfold pX11_fits pX8_isOpen
    rw [e1, e2, e3, e4, e5]
    exact ⟨b3.2, o12.2, fun _ => ⟨o0.2, b0.2, fun _ => ⟨o1.2, b1.2, fun _ => ⟨o3.2, b2.2, fun _ => ⟨o4.2, fun _ => ⟨b4.2, fun _ => b5.2⟩⟩⟩⟩⟩⟩
theorem ft_m (w : WR σ (blk μ 8) (fL μ 25) (fI ν 2) (fL ν 5)) (hb : ∀ i, i < 940 → fI ν 1 i = nI (b i) ∧ b i ≤ 255) {i t : Nat} (hi : i < 8) (ht : t < σ 0 0) : (gX12_isFitting ν (nI i) (nI t) = 0 ↔ fitB σ b i t = false) ∧ pX12_isFitting ν (nI i) (nI t) := by
  have hS := (wr_S w).2.2
  have o0 : gX12_of ν (nI t) 0 = nI (σ 1 (14 * t + 0)) ∧ pX12_of ν (nI t) 0 := of_m w (j := 0) ht (by omega)
  have o1 : gX12_of ν (nI t) 1 = nI (σ 1 (14 * t + 1)) ∧ pX12_of ν (nI t) 1 := of_m w (j := 1) ht (by omega)
  have o3 : gX12_of ν (nI t) 3 = nI (σ 1 (14 * t + 3)) ∧ pX12_of ν (nI t) 3 := of_m w (j := 3) ht (by omega)
  have o4 : gX12_of ν (nI t) 4 = nI (σ 1 (14 * t + 4)) ∧ pX12_of ν (nI t) 4 := of_m w (j := 4) ht (by omega)
  obtain ⟨s1, s2, s12⟩ := st_now w ht
  obtain ⟨⟨w0, w1, -, -, w3, w4, -⟩, -⟩ := w.2.2.1.2.1 t ht
  have w7 := (wr_hw w).1.2.2.1
  have l0 := hb (6 * i) (by omega)
  have l1 := hb (6 * i + 1) (by omega)
  have l2 := hb (6 * i + 2) (by omega)
  have l3 := hb (6 * i + 3) (by omega)
  have l4 := hb (6 * i + 4) (by omega)
  have l5 := hb (6 * i + 5) (by omega)
  have e0 : (6 : Int32) * nI i = nI (6 * i) := by rw [show (6 : Int32) = nI 6 from rfl, nI_mul]
  have e1 : nI (6 * i) + 1 = nI (6 * i + 1) := by rw [show (1 : Int32) = nI 1 from rfl, nI_add]
  have e2 : nI (6 * i) + 2 = nI (6 * i + 2) := by rw [show (2 : Int32) = nI 2 from rfl, nI_add]
  have e3 : nI (6 * i) + 3 = nI (6 * i + 3) := by rw [show (3 : Int32) = nI 3 from rfl, nI_add]
  have e4 : nI (6 * i) + 4 = nI (6 * i + 4) := by rw [show (4 : Int32) = nI 4 from rfl, nI_add]
  have e5 : nI (6 * i) + 5 = nI (6 * i + 5) := by rw [show (5 : Int32) = nI 5 from rfl, nI_add]
  have c0 : 6 * i < 2 ^ 31 := by omega
  have c1 : 6 * i + 1 < 2 ^ 31 := by omega
  have c2 : 6 * i + 2 < 2 ^ 31 := by omega
  have c3 : 6 * i + 3 < 2 ^ 31 := by omega
  have c4 : 6 * i + 4 < 2 ^ 31 := by omega
  have c5 : 6 * i + 5 < 2 ^ 31 := by omega
  have d1 : nI t / 10 = nI (t / 10) := by rw [show (10 : Int32) = nI 10 from rfl, nI_div (by omega) (by omega) (by omega)]
  have d2 : nI t - nI (t / 10) * 10 = nI (t % 10) := by
    rw [show (10 : Int32) = nI 10 from rfl, nI_mul, nI_sub (by omega)]
    congr 1
    omega
  have k12 : 3 ≤ nI (σ 1 (14 * t + 12)) ↔ ¬ σ 1 (14 * t + 12) < 3 := by rw [show (3 : Int32) = nI 3 from rfl, nI_leI (by omega) (by omega)]; omega
  have k0 : nI (σ 1 (14 * t + 0)) = nI (b (6 * i)) ↔ σ 1 (14 * t + 0) = b (6 * i) := nI_eq (by omega) (by omega)
  have k1 : nI (σ 1 (14 * t + 1)) = nI (b (6 * i + 1)) ↔ σ 1 (14 * t + 1) = b (6 * i + 1) := nI_eq (by omega) (by omega)
  have k2 : nI (σ 1 (14 * t + 3)) = nI (b (6 * i + 2)) ↔ σ 1 (14 * t + 3) = b (6 * i + 2) := nI_eq (by omega) (by omega)
  have k3 := mk_i (m := σ 1 (14 * t + 4)) (s := b (6 * i + 3))
  have k4 : nI (b (6 * i + 4)) = 10 ↔ b (6 * i + 4) = 10 := nI_eq (b := 10) (by omega) (by omega)
  have k4' : nI (b (6 * i + 4)) = nI (t / 10) ↔ b (6 * i + 4) = t / 10 := nI_eq (by omega) (by omega)
  have k5 : nI (b (6 * i + 5)) = 10 ↔ b (6 * i + 5) = 10 := nI_eq (b := 10) (by omega) (by omega)
  have k5' : nI (b (6 * i + 5)) = nI (t % 10) ↔ b (6 * i + 5) = t % 10 := nI_eq (by omega) (by omega)
  have n1 : ¬ (1 : Int32) = 0 := by decide
  constructor
  · unfold gX12_isFitting gX12_isOpen fitB
    rw [e0, e1, e2, e3, e4, e5, o0.1, o1.1, o3.1, o4.1, s1, nI_clamp c0, nI_clamp c1, nI_clamp c2, nI_clamp c3, nI_clamp c4, nI_clamp c5, l0.1, l1.1, l2.1, l3.1, l4.1, l5.1, d1, d2]
    simp only [k12, k0, k1, k2, k3, k4, k4', k5, k5']
    by_cases a1 : σ 1 (14 * t + 12) < 3
    · by_cases a2 : σ 1 (14 * t + 0) = b (6 * i)
      · by_cases a3 : σ 1 (14 * t + 1) = b (6 * i + 1)
        · by_cases a4 : σ 1 (14 * t + 3) = b (6 * i + 2)
          · by_cases a5 : nI (σ 1 (14 * t + 4)) &&& nI (b (6 * i + 3)) = nI (b (6 * i + 3))
            · by_cases a6 : b (6 * i + 4) = 10
              · by_cases a7 : b (6 * i + 5) = 10
                · simp only [a1, a2, a3, a4, a5, a6, a7, not_true_eq_false, if_false, if_true, n1, true_and, true_or, decide_true, reduceCtorEq]
                · by_cases a8 : b (6 * i + 5) = t % 10 <;> simp only [a1, a2, a3, a4, a5, a6, a7, a8, not_true_eq_false, if_false, if_true, n1, true_and, true_or, false_or, or_true, ite_self, decide_true, decide_false, reduceCtorEq]
              · by_cases a6' : b (6 * i + 4) = t / 10
                · by_cases a7 : b (6 * i + 5) = 10
                  · simp only [a1, a2, a3, a4, a5, a6, a6', a7, not_true_eq_false, if_false, if_true, n1, true_and, true_or, or_true, decide_true, reduceCtorEq, ite_self]
                  · by_cases a8 : b (6 * i + 5) = t % 10 <;> simp only [a1, a2, a3, a4, a5, a6, a6', a7, a8, not_true_eq_false, if_false, if_true, n1, true_and, true_or, or_true, false_or, decide_true, decide_false, reduceCtorEq, ite_self]
                · simp only [a1, a2, a3, a4, a5, a6, a6', not_true_eq_false, if_false, if_true, n1, true_and, false_or, false_and, decide_false]
            · simp only [a1, a2, a3, a4, a5, not_true_eq_false, if_false, if_true, n1, true_and, false_and, and_false, decide_false]
          · simp only [a1, a2, a3, a4, not_true_eq_false, if_false, if_true, n1, true_and, false_and, and_false, decide_false]
        · simp only [a1, a2, a3, not_true_eq_false, if_false, if_true, n1, true_and, false_and, and_false, decide_false]
      · simp only [a1, a2, not_true_eq_false, if_false, if_true, n1, true_and, false_and, and_false, decide_false]
    · simp only [a1, not_false_eq_true, if_true, false_and, decide_false]
  · unfold pX12_isFitting pX12_isOpen
    rw [e0, e1, e2, e3, e4, e5]
    have v0 : vp_in (nI (6 * i)) 940 := vp_in_nI (by omega) (by decide)
    have v1 : vp_in (nI (6 * i + 1)) 940 := vp_in_nI (by omega) (by decide)
    have v2 : vp_in (nI (6 * i + 2)) 940 := vp_in_nI (by omega) (by decide)
    have v3 : vp_in (nI (6 * i + 3)) 940 := vp_in_nI (by omega) (by decide)
    have v4 : vp_in (nI (6 * i + 4)) 940 := vp_in_nI (by omega) (by decide)
    have v5 : vp_in (nI (6 * i + 5)) 940 := vp_in_nI (by omega) (by decide)
    exact ⟨s2, fun _ => ⟨o0.2, v0, fun _ => ⟨o1.2, v1, fun _ => ⟨o3.2, v2, fun _ => ⟨v3, o4.2, fun _ => ⟨v4, fun _ => ⟨v5, fun _ => v5⟩, fun _ => ⟨v4, fun _ => ⟨v5, fun _ => v5⟩⟩⟩⟩⟩⟩⟩⟩
end
