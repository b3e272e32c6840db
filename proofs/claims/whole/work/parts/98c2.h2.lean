section
variable {b : Nat → Nat} {z l last : Nat} {K A V W P : Nat → Nat} {τ : sg_T} {μ ν : fm_T} {n s B : Nat}
theorem it_ok (lx : LXs b z l last K A V W P) (lk : LK b z l last K A V W P n μ ν) (h : ∀ s, s < 4 → HDs τ s μ ν) (k3 : K n = 3) : pX2_isTold μ (fL μ 1 12) ∧ ((gX2_isTold μ (fL μ 1 12) = 1 ∧ ∀ x1, lX12_readNew_h15 fF ν x1 0 = 0 ∧ mX12_readNew_h15 fF ν x1 0 = uX12_bad ν 3 ∧ qX12_readNew_h15 fF ν x1 0) ∨
    (gX2_isTold μ (fL μ 1 12) = 0 ∧ (∀ s, s < 4 → ∀ j, j < τ 0 (5 + s) → τ 22 (8 * s + j) ≠ W n) ∧ ∀ x1, lX12_readNew_h15 fF ν x1 0 = 1 ∧ mX12_readNew_h15 fF ν x1 0 = uX12_go (fm_l ν 6 (((gX12_base ν x1) + (fI ν 3 x1.toNatClampNeg)).toNatClampNeg) (fL ν 0 12)) ∧ (vp_in x1 130 ∧ vp_in ((gX12_base ν x1) + (fI ν 3 x1.toNatClampNeg)) 24 ∧ pX12_go (fm_l ν 6 (((gX12_base ν x1) + (fI ν 3 x1.toNatClampNeg)).toNatClampNeg) (fL ν 0 12)) → qX12_readNew_h15 fF ν x1 0))) := by
  obtain ⟨w1, w2⟩ := lk_w lk k3
  have hv := ((lk_t lx lk).2.2.2.1 k3).1
  obtain ⟨f, hf⟩ : ∃ f, fF = f + 5 := ⟨fF - 5, by have := fF_le; omega⟩
  obtain ⟨a0, b0, r0⟩ := nb_ok (s := 0) (h 0 (by omega)) (by omega) hv w1 w2
  obtain ⟨a1, b1, r1⟩ := nb_ok (s := 1) (h 1 (by omega)) (by omega) hv w1 w2
  obtain ⟨a2, b2, r2⟩ := nb_ok (s := 2) (h 2 (by omega)) (by omega) hv w1 w2
  obtain ⟨a3, b3, r3⟩ := nb_ok (s := 3) (h 3 (by omega)) (by omega) hv w1 w2
  have z0 : nI 0 = (0 : Int32) := rfl
  have z1 : nI 1 = (1 : Int32) := rfl
  have z2 : nI 2 = (2 : Int32) := rfl
  have z3 : nI 3 = (3 : Int32) := rfl
  rw [z0] at a0 b0
  rw [z1] at a1 b1
  rw [z2] at a2 b2
  rw [z3] at a3 b3
  have s0 : (0 : Int32) + 1 = 1 := rfl
  have s1 : (1 : Int32) + 1 = 2 := rfl
  have s2 : (2 : Int32) + 1 = 3 := rfl
  have s3 : (3 : Int32) + 1 = 4 := rfl
  have n0 : ¬ (4 : Int32) ≤ 0 := by decide
  have n1 : ¬ (4 : Int32) ≤ 1 := by decide
  have n2 : ¬ (4 : Int32) ≤ 2 := by decide
  have n3 : ¬ (4 : Int32) ≤ 3 := by decide
  have n4 : (4 : Int32) ≤ 4 := by decide
  have bd0 := HDn_b (h 0 (by omega)) (by omega)
  have bd1 := HDn_b (h 1 (by omega)) (by omega)
  have bd2 := HDn_b (h 2 (by omega)) (by omega)
  have bd3 := HDn_b (h 3 (by omega)) (by omega)
  rw [hf]
  rcases r0 with ⟨c0, m0, d0⟩ | ⟨j, d0, e0, c0, m0⟩
  rotate_left
  · have ne : ¬ nI j = -1 := nI_m1 (by omega)
    rw [z0] at c0 m0
    simp only [pX2_isTold, gX2_isTold, qX12_readNew_h15, lX12_readNew_h15, mX12_readNew_h15, c0, m0, s0, s1, s2, s3, if_neg n0, if_neg ne, if_true, gbad]
    exact ⟨⟨a0, fun y => absurd y ne⟩, Or.inl ⟨trivial, fun x1 => ⟨trivial, trivial, ⟨fun y => absurd y n0, fun _ => ⟨b0, fun y => absurd y ne, fun _ => Or.inl trivial⟩⟩⟩⟩⟩
  rw [z0] at c0 m0
  rcases r1 with ⟨c1, m1, d1⟩ | ⟨j, d1, e1, c1, m1⟩
  rotate_left
  · have ne : ¬ nI j = -1 := nI_m1 (by omega)
    rw [z1] at c1 m1
    simp only [pX2_isTold, gX2_isTold, qX12_readNew_h15, lX12_readNew_h15, mX12_readNew_h15, c0, m0, c1, m1, s0, s1, s2, s3, if_neg n0, if_neg n1, if_neg ne, if_true, gbad]
    exact ⟨⟨a0, fun _ => ⟨a1, fun y => absurd y ne⟩⟩, Or.inl ⟨trivial, fun x1 => ⟨trivial, trivial, ⟨fun y => absurd y n0, fun _ => ⟨b0, fun _ => ⟨fun y => absurd y n1, fun _ => ⟨b1, fun y => absurd y ne, fun _ => Or.inl trivial⟩⟩, fun y => absurd trivial y⟩⟩⟩⟩⟩
  rw [z1] at c1 m1
  rcases r2 with ⟨c2, m2, d2⟩ | ⟨j, d2, e2, c2, m2⟩
  rotate_left
  · have ne : ¬ nI j = -1 := nI_m1 (by omega)
    rw [z2] at c2 m2
    simp only [pX2_isTold, gX2_isTold, qX12_readNew_h15, lX12_readNew_h15, mX12_readNew_h15, c0, m0, c1, m1, c2, m2, s0, s1, s2, s3, if_neg n0, if_neg n1, if_neg n2, if_neg ne, if_true, gbad]
    exact ⟨⟨a0, fun _ => ⟨a1, fun _ => ⟨a2, fun y => absurd y ne⟩⟩⟩, Or.inl ⟨trivial, fun x1 => ⟨trivial, trivial, ⟨fun y => absurd y n0, fun _ => ⟨b0, fun _ => ⟨fun y => absurd y n1, fun _ => ⟨b1, fun _ => ⟨fun y => absurd y n2, fun _ => ⟨b2, fun y => absurd y ne, fun _ => Or.inl trivial⟩⟩, fun y => absurd trivial y⟩⟩, fun y => absurd trivial y⟩⟩⟩⟩⟩
  rw [z2] at c2 m2
  rcases r3 with ⟨c3, m3, d3⟩ | ⟨j, d3, e3, c3, m3⟩
  rotate_left
  · have ne : ¬ nI j = -1 := nI_m1 (by omega)
    rw [z3] at c3 m3
    simp only [pX2_isTold, gX2_isTold, qX12_readNew_h15, lX12_readNew_h15, mX12_readNew_h15, c0, m0, c1, m1, c2, m2, c3, m3, s0, s1, s2, s3, if_neg n0, if_neg n1, if_neg n2, if_neg n3, if_neg ne, if_true, gbad]
    exact ⟨⟨a0, fun _ => ⟨a1, fun _ => ⟨a2, fun _ => a3⟩⟩⟩, Or.inl ⟨trivial, fun x1 => ⟨trivial, trivial, ⟨fun y => absurd y n0, fun _ => ⟨b0, fun _ => ⟨fun y => absurd y n1, fun _ => ⟨b1, fun _ => ⟨fun y => absurd y n2, fun _ => ⟨b2, fun _ => ⟨fun y => absurd y n3, fun _ => ⟨b3, fun y => absurd y ne, fun _ => Or.inl trivial⟩⟩, fun y => absurd trivial y⟩⟩, fun y => absurd trivial y⟩⟩, fun y => absurd trivial y⟩⟩⟩⟩⟩
  rw [z3] at c3 m3
  simp only [pX2_isTold, gX2_isTold, qX12_readNew_h15, lX12_readNew_h15, mX12_readNew_h15, c0, m0, c1, m1, c2, m2, c3, m3, s0, s1, s2, s3, if_neg n0, if_neg n1, if_neg n2, if_neg n3, if_pos n4, if_true, gbad]
  refine ⟨⟨a0, fun _ => ⟨a1, fun _ => ⟨a2, fun _ => a3⟩⟩⟩, Or.inr ⟨trivial, fun s hs j hj => ?_, fun x1 => ⟨trivial, trivial, fun p => ⟨fun y => absurd y n0, fun _ => ⟨b0, fun _ => ⟨fun y => absurd y n1, fun _ => ⟨b1, fun _ => ⟨fun y => absurd y n2, fun _ => ⟨b2, fun _ => ⟨fun y => absurd y n3, fun _ => ⟨b3, fun _ => ⟨fun _ => p, fun y => absurd n4 y⟩, fun y => absurd trivial y⟩⟩, fun y => absurd trivial y⟩⟩, fun y => absurd trivial y⟩⟩, fun y => absurd trivial y⟩⟩⟩⟩⟩
  have : s = 0 ∨ s = 1 ∨ s = 2 ∨ s = 3 := by omega
  rcases this with rfl | rfl | rfl | rfl
  · exact d0 j hj
  · exact d1 j hj
  · exact d2 j hj
  · exact d3 j hj
end
