def IS (M : Nat) (F c : Nat → Nat) (d R y b a0 : Nat) (V V' : fm_T) : Prop := frL (tA d) tB V V' ∧ (a0 ≠ 9 ∧ y + qv M F c R a0 < b → fL V' 0 44 = lN (y + qv M F c R a0) ∧ ∀ j, j < rk M 6 → fI V' 23 j = (if j < d then fI V 24 (fI V 22 j).toNatClampNeg else if j = d then nI a0 else nI (qO M F c (j - d - 1) (R - 2 ^ a0)))) ∧ (¬ (a0 ≠ 9 ∧ y + qv M F c R a0 < b) → fL V' 0 44 = fL V 0 44 ∧ ∀ j, fI V' 23 j = fI V 23 j)
theorem h9_lp {M N d t y b : Nat} {F c : Nat → Nat} {B : Nat → Int64} {g : Nat → Nat → Int64} {V : fm_T} (r : Nat → fm_T → Int32 → Int32 → Int64 → fm_T) (rp : Nat → fm_T → Int32 → Int32 → Int64 → Prop) (hM : M < 64) (hc : ∀ a, c a ≤ 99) (hB : ∀ a s, c a * F s ≤ 10000000000000) (ht : t < 2 ^ rk M 6) (hd : d < rk M 6) (hv : VQ M N B g c V) (hb : bst (fL V 0 44) b) (hy : y ≤ 10000000000000 * pdp M t) (hp : ∀ j, j < d → ∃ i, i < 6 ∧ fI V 22 j = nI i)
    (Hr : ∀ (V1 : fm_T) (a b1 : Nat), a < 6 → (M - pdp M t).testBit a = true → t.testBit (rk M a) = false → VQ M N B g c V1 → bst (fL V1 0 44) b1 → (∀ j, j < d + 1 → ∃ i, i < 6 ∧ fI V1 22 j = nI i) → TR M F c (d + 1) (M - pdp M t - 2 ^ a) (y + c a * F (pdp M t)) b1 V1 (r 0 V1 (nI (d + 1)) (nI (t + 2 ^ rk M a)) (lN (y + c a * F (pdp M t)))) ∧ rp 0 V1 (nI (d + 1)) (nI (t + 2 ^ rk M a)) (lN (y + c a * F (pdp M t)))) :
    ∀ (k a n : Nat) (V' : fm_T), a + k = 6 → rk M 6 - rk M a < n → IS M F c d (M - pdp M t) y b (amN (qv M F c (M - pdp M t)) (M - pdp M t) a) V V' → qX12_tryOrder_h96 r rp n V' (nI d) (nI t) (lN y) (lN (F (pdp M t))) (nI (rk M a)) ∧ IS M F c d (M - pdp M t) y b (amN (qv M F c (M - pdp M t)) (M - pdp M t) 6) V (mX12_tryOrder_h96 r n V' (nI d) (nI t) (lN y) (lN (F (pdp M t))) (nI (rk M a))) := by
  have r6 := rk_le M 6
  have t64 := (pd_pc M hM t ht).2.2
  have pdM := (pd_pc M hM t ht).2.1
  have hRM : M - (M - pdp M t) = pdp M t := by omega
  intro k
  induction k with
  | zero =>
    intro a n V' h1 h2 h3
    obtain ⟨n, rfl⟩ : ∃ m, n = m + 1 := ⟨n - 1, by omega⟩
    obtain rfl : a = 6 := by omega
    have e : nI (rk M 6) ≤ nI (rk M 6) := (nI_leI (by omega) (by omega)).mpr (by omega)
    have c46 : fI V' 0 46 = nI (rk M 6) := (VQ_fr hv h3.1).1.2.1
    simp only [mX12_tryOrder_h96, qX12_tryOrder_h96, c46, if_pos e]
    exact ⟨fun z => absurd e z, h3⟩
  | succ k ih =>
    intro a n V' h1 h2 h3
    have ha : a < 6 := by omega
    obtain ⟨pM, pS, -⟩ := pd_R hM ht ha
    have rs := rk_s M a
    by_cases m : M.testBit a = true
    · obtain ⟨pb, rlt, pp⟩ := pM m
      rw [if_pos m] at rs
      obtain ⟨n, rfl⟩ : ∃ m, n = m + 1 := ⟨n - 1, by omega⟩
      have hv' := VQ_fr hv h3.1
      have c46 : fI V' 0 46 = nI (rk M 6) := hv'.1.2.1
      have e : ¬ nI (rk M 6) ≤ nI (rk M a) := fun z => by have := (nI_leI (by omega) (by omega)).mp z; omega
      have hs := hs_64 t t64 (rk M a) (by omega)
      by_cases u : t.testBit (rk M a) = true
      · have n1 : ¬ (1 : Int32) = 0 := by decide
        have rf : ¬ (M - pdp M t).testBit a = true := by rw [pb, u]; decide
        obtain ⟨k1, k2⟩ := ih (a + 1) n V' (by omega) (by omega) (by rw [amN, if_neg rf]; exact h3)
        rw [rs] at k1 k2
        simp only [mX12_tryOrder_h96, qX12_tryOrder_h96, c46, if_neg e, gX12_has, hs, u, if_true, if_neg n1, nI_1]
        exact ⟨fun _ => ⟨fun z => absurd z n1, fun _ => k1⟩, k2⟩
      · have uf : t.testBit (rk M a) = false := by simpa using u
        have rt : (M - pdp M t).testBit a = true := by rw [pb, uf]; decide
        have R0 : M - pdp M t ≠ 0 := fun z => by rw [z, Nat.zero_testBit] at rt; exact absurd rt (by decide)
        obtain ⟨w24, w2⟩ := hv'.2.1 a ha m
        obtain ⟨s1, s2, -⟩ := st_512 t (by omega) (rk M a) (by omega) uf
        have n2 : ¬ (0 : Int32) = 1 := by decide
        have hd2 : d < 2 ^ 31 := by omega
        have hr2 : rk M a < 2 ^ 31 := by omega
        have e10 : (10 : Int32) + (8 : Int32) * nI a = nI (10 + 8 * a) := by simp only [li_n, nI_mul, nI_add]
        have h10 : 10 + 8 * a < 2 ^ 31 := by omega
        have ca := hc a
        have hca : c a < 2 ^ 31 := by omega
        have v10 : vp_in (nI (10 + 8 * a)) 2560 := vp_in_nI (by omega) (by decide)
        have cF := hB a (pdp M t)
        have kv := qv_le (M := M) hB (R := M - pdp M t) (by omega) R0
        have qa : y + qv M F c (M - pdp M t) a = y + c a * F (pdp M t) + qW M F c (M - pdp M t - 2 ^ a) := by
          unfold qv
          rw [hRM]
          omega
        have lt9 := amN_lt (v := qv M F c (M - pdp M t)) (M := M - pdp M t) a
        have ihx := fun V2 => ih (a + 1) n V2 (by omega) (by omega)
        rw [amN, if_pos rt, rs] at ihx
        obtain ⟨f0, f1, f2⟩ := h3
        generalize amN (qv M F c (M - pdp M t)) (M - pdp M t) a = a0 at ihx f1 f2 lt9
        obtain ⟨b1, hb1, hb2⟩ : ∃ b1, bst (fL (fm_i V' 22 d (nI (rk M a))) 0 44) b1 ∧ ((a0 ≠ 9 ∧ y + qv M F c (M - pdp M t) a0 < b ∧ b1 = y + qv M F c (M - pdp M t) a0) ∨ (¬ (a0 ≠ 9 ∧ y + qv M F c (M - pdp M t) a0 < b) ∧ b1 = b)) := by
          rw [fL_i]
          by_cases q : a0 ≠ 9 ∧ y + qv M F c (M - pdp M t) a0 < b
          · have := kv a0
            exact ⟨_, by rw [(f1 q).1]; exact Or.inr ⟨rfl, by omega⟩, Or.inl ⟨q.1, q.2, rfl⟩⟩
          · exact ⟨b, by rw [(f2 q).1]; exact hb, Or.inr ⟨q, rfl⟩⟩
        have fV1 : frL (tA d) tB V (fm_i V' 22 d (nI (rk M a))) := f0.i (Or.inr ⟨rfl, Nat.le_refl d⟩)
        obtain ⟨⟨g0, g1, g2⟩, g3⟩ := Hr (fm_i V' 22 d (nI (rk M a))) a b1 ha rt uf (VQ_fr hv fV1) hb1 (fun j hj => by
          by_cases q : j = d
          · exact ⟨rk M a, by omega, by rw [fI_i, if_pos ⟨rfl, q⟩]⟩
          · obtain ⟨i, hi, pi⟩ := hp j (by omega)
            exact ⟨i, hi, (fV1.2.2.2 22 j (by unfold tA; omega)).trans pi⟩)
        simp only [mX12_tryOrder_h96, qX12_tryOrder_h96, c46, if_neg e, gX12_has, hs, uf, Bool.false_eq_true, if_false, if_neg n2, if_true, nI_clamp hd2, nI_clamp hr2, w24, e10, nI_clamp h10, w2, nl_i hca, lN_mul, lN_add, s1, nI_1]
        generalize r 0 (fm_i V' 22 d (nI (rk M a))) (nI (d + 1)) (nI (t + 2 ^ rk M a)) (lN (y + c a * F (pdp M t))) = V2 at g0 g1 g2
        have pre : ∀ j, j < d + 1 → fI (fm_i V' 22 d (nI (rk M a))) 24 (fI (fm_i V' 22 d (nI (rk M a))) 22 j).toNatClampNeg = if j < d then fI V 24 (fI V 22 j).toNatClampNeg else nI a := fun j hj => by
          rw [fV1.2.2.2 24 _ (by unfold tA; omega)]
          by_cases q : j = d
          · rw [fI_i, if_pos ⟨rfl, q⟩, nI_clamp hr2, if_neg (by omega)]
            exact (hv.2.1 a ha m).1
          · rw [fV1.2.2.2 22 j (by unfold tA; omega), if_pos (by omega)]
        have fV2 : frL (tA d) tB V V2 := fV1.tr (g0.mo (fun k j z => by unfold tA at z ⊢; omega) (fun _ _ z => z))
        have o23 : ∀ j, fI (fm_i V' 22 d (nI (rk M a))) 23 j = fI V' 23 j := fun j => by rw [fI_i, if_neg (by omega)]
        -- new choice
        by_cases q : y + c a * F (pdp M t) + qW M F c (M - pdp M t - 2 ^ a) < b1
        · obtain ⟨g4, g5⟩ := g1 q
          have am : (if a0 = 9 then a else if qv M F c (M - pdp M t) a0 ≤ qv M F c (M - pdp M t) a then a0 else a) = a := by
            by_cases z9 : a0 = 9
            · rw [if_pos z9]
            · rw [if_neg z9, if_neg]
              rcases hb2 with ⟨-, z2, z3⟩ | ⟨z2, z3⟩
              · omega
              · intro z
                exact z2 ⟨z9, by omega⟩
          have hi : IS M F c d (M - pdp M t) y b a V V2 := by
            refine ⟨fV2, fun _ => ⟨by rw [g4, qa], fun j hj => ?_⟩, fun z => ?_⟩
            · rw [g5 j hj]
              by_cases j1 : j < d + 1
              · rw [if_pos j1, pre j j1]
                by_cases j2 : j < d
                · rw [if_pos j2, if_pos j2]
                · rw [if_neg j2, if_neg j2, if_pos (by omega)]
              · rw [if_neg j1, if_neg (by omega), if_neg (by omega), show j - (d + 1) = j - d - 1 by omega]
            · exfalso
              apply z
              refine ⟨by omega, ?_⟩
              rcases hb2 with ⟨-, z2, z3⟩ | ⟨z2, z3⟩ <;> omega
          rw [am] at ihx
          obtain ⟨k1, k2⟩ := ihx V2 hi
          exact ⟨fun _ => ⟨fun _ => ⟨vp_in_nI (by omega) (by decide), vp_in_nI (by omega) (by decide), v10, g3, k1⟩, fun z => absurd trivial z⟩, k2⟩
        · obtain ⟨g4, g5⟩ := g2 q
          have g4' : fL V2 0 44 = fL V' 0 44 := g4
          have g5' : ∀ j, fI V2 23 j = fI V' 23 j := fun j => (g5 j).trans (o23 j)
          have hi : IS M F c d (M - pdp M t) y b (if a0 = 9 then a else if qv M F c (M - pdp M t) a0 ≤ qv M F c (M - pdp M t) a then a0 else a) V V2 := by
            rcases hb2 with ⟨z1, z2, z3⟩ | ⟨z2, z3⟩
            · rw [if_neg z1, if_pos (by omega)]
              refine ⟨fV2, fun z => ?_, fun z => absurd ⟨z1, z2⟩ z⟩
              obtain ⟨y1, y2⟩ := f1 z
              exact ⟨g4'.trans y1, fun j hj => (g5' j).trans (y2 j hj)⟩
            · obtain ⟨y1, y2⟩ := f2 z2
              have no : ¬ ((if a0 = 9 then a else if qv M F c (M - pdp M t) a0 ≤ qv M F c (M - pdp M t) a then a0 else a) ≠ 9 ∧ y + qv M F c (M - pdp M t) (if a0 = 9 then a else if qv M F c (M - pdp M t) a0 ≤ qv M F c (M - pdp M t) a then a0 else a) < b) := by
                by_cases z9 : a0 = 9
                · rw [if_pos z9]; omega
                · rw [if_neg z9]
                  by_cases le : qv M F c (M - pdp M t) a0 ≤ qv M F c (M - pdp M t) a
                  · rw [if_pos le]; exact z2
                  · rw [if_neg le]; omega
              exact ⟨fV2, fun z => absurd z no, fun _ => ⟨g4'.trans y1, fun j => (g5' j).trans (y2 j)⟩⟩
          obtain ⟨k1, k2⟩ := ihx V2 hi
          exact ⟨fun _ => ⟨fun _ => ⟨vp_in_nI (by omega) (by decide), vp_in_nI (by omega) (by decide), v10, g3, k1⟩, fun z => absurd trivial z⟩, k2⟩
    · have rf : ¬ (M - pdp M t).testBit a = true := fun z => m (pS z)
      rw [if_neg m, Nat.add_zero] at rs
      have := ih (a + 1) n V' (by omega) (by omega) (by rw [amN, if_neg rf]; exact h3)
      rw [rs] at this
      exact this
