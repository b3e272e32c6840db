theorem FQ_c {μ ν : fm_T} {a j : Nat} {v : Int32} (h : FQ μ ν) (ha : a ≠ 1) : FQ (fm_i μ a j v) ν := ⟨by rw [fI_i, if_neg (by omega)]; exact h.1, by rw [fI_i, if_neg (by omega)]; exact h.2⟩
def fDc (a0 a1 k a j : Nat) : Prop := fAc a j ∨ (a0 ≤ a ∧ a ≤ a1 ∧ j = k)
def fDm (p q a j : Nat) : Prop := fGm a j ∨ (a = 3 ∧ p ≤ j ∧ j ≤ q)
section
variable {b : Nat → Nat} {z l last : Nat} {K A V W P : Nat → Nat} {μ ν : fm_T} {n k : Nat}
theorem LK_c (lk : LK b z l last K A V W P n μ ν) {a j : Nat} {v : Int32} (ha : 73 ≤ a) {p : Nat} {w : Int32} : LK b z l last K A V W P n (fm_i μ a j v) (fm_i ν 3 p w) :=
  LK_f lk ((frL.rf (fun c _ => 73 ≤ c) fN μ).i ha) ((frL.rf (fun c _ => c = 3) fN ν).i rfl) (fun k j y => by omega) (fun _ _ q => by unfold fN at q; exact q.elim) (fun k j y => by omega) (fun _ _ q => by unfold fN at q; exact q.elim)
theorem LK_m (lk : LK b z l last K A V W P n μ ν) {p : Nat} {w : Int32} : LK b z l last K A V W P n μ (fm_i ν 3 p w) :=
  LK_f lk (frL.rf (fun _ _ => False) fN μ) ((frL.rf (fun c _ => c = 3) fN ν).i rfl) (fun _ _ q => q.elim) (fun _ _ q => by unfold fN at q; exact q.elim) (fun k j y => by omega) (fun _ _ q => by unfold fN at q; exact q.elim)
theorem LK_k (lk : LK b z l last K A V W P n μ ν) {a j : Nat} {v : Int32} (ha : 73 ≤ a) : LK b z l last K A V W P n (fm_i μ a j v) ν :=
  LK_f lk ((frL.rf (fun c _ => 73 ≤ c) fN μ).i ha) (frL.rf (fun _ _ => False) fN ν) (fun k j y => by omega) (fun _ _ q => by unfold fN at q; exact q.elim) (fun _ _ q => q.elim) (fun _ _ q => by unfold fN at q; exact q.elim)
theorem dr_ok (lx : LXs b z l last K A V W P) (lk : LK b z l last K A V W P n μ ν) (hk : k < 4) (h3 : fI ν 3 3 = nI k) : pX2_readDrum μ (nI k) ∧ pX12_readDrum ν ∧ frL (fDc 82 83 k) fA1l μ (uX2_readDrum μ (nI k)) ∧ frL (fDm (110 + 2 * k) (111 + 2 * k)) fGl ν (uX12_readDrum ν) ∧
    ((gX2_readDrum μ (nI k) = 0 ∧ gX12_readDrum ν = 0 ∧ FQ (uX2_readDrum μ (nI k)) (uX12_readDrum ν)) ∨
     (gX2_readDrum μ (nI k) = 1 ∧ gX12_readDrum ν = 1 ∧ ∃ n' v1 v2, n < n' ∧ LK b z l last K A V W P n' (uX2_readDrum μ (nI k)) (uX12_readDrum ν) ∧ 1 ≤ v1 ∧ v1 ≤ 99 ∧ v2 ≤ 9 ∧ fI (uX2_readDrum μ (nI k)) 82 k = nI v1 ∧ fI (uX2_readDrum μ (nI k)) 83 k = nI v2 ∧ fI (uX12_readDrum ν) 3 (110 + 2 * k) = nI v1 ∧ fI (uX12_readDrum ν) 3 (111 + 2 * k) = nI v2)) := by
  obtain ⟨t1, t2, t3, t4, t5⟩ := ptn lx lk (lo := 1) (hi := 99) (by omega) (by omega)
  have y0 : nI 0 = (0 : Int32) := rfl
  have y1 : nI 1 = (1 : Int32) := rfl
  have y9 : nI 9 = (9 : Int32) := rfl
  have y99 : nI 99 = (99 : Int32) := rfl
  simp only [y1, y99] at t1 t2 t3 t4 t5
  have ix : (110 : Int32) + (2 : Int32) * nI k = nI (110 + 2 * k) := by rw [show (110 : Int32) = nI 110 from rfl, show (2 : Int32) = nI 2 from rfl, nI_mul, nI_add]
  have ix1 : nI (110 + 2 * k) + 1 = nI (111 + 2 * k) := by rw [nI_1]; congr 1; omega
  have ck : (nI k).toNatClampNeg = k := nI_clamp (by omega)
  have c1 : (nI (110 + 2 * k)).toNatClampNeg = 110 + 2 * k := nI_clamp (by omega)
  have c2 : (nI (111 + 2 * k)).toNatClampNeg = 111 + 2 * k := nI_clamp (by omega)
  have vk : vp_in (nI k) 4 := vp_in_nI (by omega) (by decide)
  have v1 : vp_in (nI (110 + 2 * k)) 130 := vp_in_nI (by omega) (by decide)
  have v2 : vp_in (nI (111 + 2 * k)) 130 := vp_in_nI (by omega) (by decide)
  unfold pX2_readDrum gX2_readDrum uX2_readDrum pX12_readDrum gX12_readDrum uX12_readDrum
  simp only [h3, ix, ix1, ck, c1, c2]
  generalize uX7_takeNumber μ 1 99 = X at t3 t5 ⊢
  generalize uX12_readNumber ν 1 99 = Y at t4 t5 ⊢
  have fX : ∀ v, frL (fDc 82 83 k) fA1l μ (fm_i X 82 k v) := fun v => (t3.mo (fun a j y => Or.inl y) (fun _ _ y => y)).i (Or.inr ⟨by omega, by omega, rfl⟩)
  have fY : frL (fDm (110 + 2 * k) (111 + 2 * k)) fGl ν Y := t4.mo (fun a j y => Or.inl y) (fun _ _ y => y)
  have n10 : ¬ (1 : Int32) = 0 := by decide
  rcases t5 with ⟨a1, a2, a3⟩ | ⟨a1, a2, a3, a4, a5, a6, a7⟩
  · simp only [a1, a2, if_true]
    exact ⟨⟨t1, vk, vk, fun y => absurd trivial y⟩, ⟨t2, fun y => absurd trivial y⟩, fX _, fY, Or.inl ⟨trivial, trivial, FQ_c a3 (by omega)⟩⟩
  · have ne : ¬ nI (V n) = -1 := nI_m1 (by omega)
    simp only [a4, a5, if_neg ne, if_neg n10, a6]
    have lk2 := LK_c (a := 82) (j := k) (v := nI (V n)) (p := 110 + 2 * k) (w := nI (V n)) a7 (by omega)
    have u82 : fI (fm_i X 82 k (nI (V n))) 82 k = nI (V n) := by rw [fI_i, if_pos ⟨rfl, rfl⟩]
    have u110 : fI (fm_i Y 3 (110 + 2 * k) (nI (V n))) 3 (110 + 2 * k) = nI (V n) := by rw [fI_i, if_pos ⟨rfl, rfl⟩]
    have fX1 := fX (nI (V n))
    have fY1 : frL (fDm (110 + 2 * k) (111 + 2 * k)) fGl ν (fm_i Y 3 (110 + 2 * k) (nI (V n))) := fY.i (Or.inr ⟨rfl, by omega, by omega⟩)
    generalize fm_i X 82 k (nI (V n)) = X1 at lk2 u82 fX1 ⊢
    generalize fm_i Y 3 (110 + 2 * k) (nI (V n)) = Y1 at lk2 u110 fY1 ⊢
    obtain ⟨s1, s2, s3, s4, s5⟩ := ptn lx lk2 (lo := 0) (hi := 9) (by omega) (by omega)
    simp only [y0, y9] at s1 s2 s3 s4 s5
    generalize uX7_takeNumber X1 0 9 = X2 at s3 s5 ⊢
    generalize uX12_readNumber Y1 0 9 = Y2 at s4 s5 ⊢
    have fX2 : ∀ v, frL (fDc 82 83 k) fA1l μ (fm_i X2 83 k v) := fun v => (fX1.tr (s3.mo (fun a j y => Or.inl y) (fun _ _ y => y))).i (Or.inr ⟨by omega, by omega, rfl⟩)
    have fY2 : frL (fDm (110 + 2 * k) (111 + 2 * k)) fGl ν Y2 := fY1.tr (s4.mo (fun a j y => Or.inl y) (fun _ _ y => y))
    have w82 : fI X2 82 k = nI (V n) := by rw [s3.2.2.2 82 k (by unfold fAc; omega)]; exact u82
    have w110 : fI Y2 3 (110 + 2 * k) = nI (V n) := by rw [s4.2.2.2 3 _ (by unfold fGm; omega)]; exact u110
    rcases s5 with ⟨d1, d2, d3⟩ | ⟨d1, d2, d3, d4, d5, d6, d7⟩
    · simp only [d1, d2, if_true]
      exact ⟨⟨t1, vk, vk, fun _ => ⟨s1, vk, vk⟩⟩, ⟨t2, fun _ => ⟨v1, s2, fun y => absurd trivial y⟩⟩, fX2 _, fY2, Or.inl ⟨trivial, trivial, FQ_c d3 (by omega)⟩⟩
    · have ne2 : ¬ nI (V (n + 1)) = -1 := nI_m1 (by omega)
      simp only [d4, d5, if_neg ne2, if_neg n10, d6]
      refine ⟨⟨t1, vk, vk, fun _ => ⟨s1, vk, vk⟩⟩, ⟨t2, fun _ => ⟨v1, s2, fun _ => v2⟩⟩, fX2 _, fY2.i (Or.inr ⟨rfl, by omega, by omega⟩), Or.inr ⟨trivial, trivial, n + 1 + 1, V n, V (n + 1), by omega, LK_c d7 (by omega), a2, a3, d3, ?_, ?_, ?_, ?_⟩⟩
      · rw [fI_i, if_neg (by omega)]; exact w82
      · rw [fI_i, if_pos ⟨rfl, rfl⟩]
      · rw [fI_i, if_neg (by omega)]; exact w110
      · rw [fI_i, if_pos ⟨rfl, rfl⟩]
end
