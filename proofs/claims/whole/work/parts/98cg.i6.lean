section
variable {b : Nat → Nat} {z l last : Nat} {K A V W P : Nat → Nat} {τ : sg_T} {μ ν : fm_T} {n m : Nat}
theorem rl_ok (lx : LXs b z l last K A V W P) (lk : LK b z l last K A V W P n μ ν) (hr : HDR τ m μ ν) : pX2_readLine μ ∧ pX12_readLine ν ∧ LR b z l last K A V W P n μ ν (gX2_readLine μ) (gX12_readLine ν) (uX2_readLine μ) (uX12_readLine ν) := by
  have c2 : fI μ 1 9 = 2 ↔ K n = 2 := lk_K lx lk 2 (by omega)
  have gb : ∀ (x : fm_T) (k : Int32), (gX7_fail x k = 0) = True := fun _ _ => eq_true rfl
  have z0 : (0 : Int32) = nI 0 := rfl
  have v25 : K n = 2 → V n < 25 := fun y => ((lk_t lx lk).2.2.1 y).1
  have c11 : K n = 2 → fI μ 1 11 = nI (V n) := fun y => lk.1.2.2.2.2.2.2.2.1 (Or.inl y)
  have q88 : ((8 : Int32) = 8) = True := eq_true rfl
  unfold pX12_readLine gX12_readLine uX12_readLine pX2_readLine gX2_readLine uX2_readLine
  by_cases t : K n = 2 ∧ V n < 8
  · obtain ⟨k2, v8⟩ := t
    have d2 := c2.mpr k2
    have d11 := c11 k2
    obtain ⟨l1, l2, l3⟩ := rl_lp lx lk (t := V n) (Or.inl ⟨v8, k2, rfl⟩) (V n) 0 fF (by omega) (fF_gt (by omega))
    rw [← z0] at l1 l2 l3
    rw [l1, l2]
    have cases : V n = 0 ∨ V n = 1 ∨ V n = 2 ∨ V n = 3 ∨ V n = 4 ∨ V n = 5 ∨ V n = 6 ∨ V n = 7 := by omega
    rcases cases with e | e | e | e | e | e | e | e
    · rw [e] at d11 l3 ⊢
      have y : nI 0 = (0 : Int32) := rfl
      rw [y] at d11 l3 ⊢
      have a7 : (0 : Int32) ≤ 7 := by decide
      have a3 : ¬ (3 : Int32) < 0 := by decide
      obtain ⟨r1, r2, r3, r4⟩ := thg_0 lx lk hr k2
      simp only [d2, d11, a7, a3, if_pos a7, if_neg a3, if_true, gbad, gb, false_implies, true_implies, not_false_eq_true, not_true_eq_false, true_and, and_true, implies_true, true_or, or_true, if_false]
      exact ⟨⟨r1, r3⟩, l3 r2, r4⟩
    · rw [e] at d11 l3 ⊢
      have y : nI 1 = (1 : Int32) := rfl
      rw [y] at d11 l3 ⊢
      have a7 : (1 : Int32) ≤ 7 := by decide
      have a3 : ¬ (3 : Int32) < 1 := by decide
      obtain ⟨r1, r2, r3, r4⟩ := thg_1 lx lk hr k2
      simp only [d2, d11, a7, a3, if_pos a7, if_neg a3, if_true, gbad, gb, false_implies, true_implies, not_false_eq_true, not_true_eq_false, true_and, and_true, implies_true, true_or, or_true, if_false]
      exact ⟨⟨r1, r3⟩, l3 r2, r4⟩
    · rw [e] at d11 l3 ⊢
      have y : nI 2 = (2 : Int32) := rfl
      rw [y] at d11 l3 ⊢
      have a7 : (2 : Int32) ≤ 7 := by decide
      have a3 : ¬ (3 : Int32) < 2 := by decide
      obtain ⟨r1, r2, r3, r4⟩ := thg_2 lx lk hr k2
      simp only [d2, d11, a7, a3, if_pos a7, if_neg a3, if_true, gbad, gb, false_implies, true_implies, not_false_eq_true, not_true_eq_false, true_and, and_true, implies_true, true_or, or_true, if_false]
      exact ⟨⟨r1, r3⟩, l3 r2, r4⟩
    · rw [e] at d11 l3 ⊢
      have y : nI 3 = (3 : Int32) := rfl
      rw [y] at d11 l3 ⊢
      have a7 : (3 : Int32) ≤ 7 := by decide
      have a3 : ¬ (3 : Int32) < 3 := by decide
      obtain ⟨r1, r2, r3, r4⟩ := thg_3 lx lk hr k2
      simp only [d2, d11, a7, a3, if_pos a7, if_neg a3, if_true, gbad, gb, false_implies, true_implies, not_false_eq_true, not_true_eq_false, true_and, and_true, implies_true, true_or, or_true, if_false]
      exact ⟨⟨r1, r3⟩, l3 r2, r4⟩
    · rw [e] at d11 l3 ⊢
      have y : nI 4 = (4 : Int32) := rfl
      rw [y] at d11 l3 ⊢
      have a7 : (4 : Int32) ≤ 7 := by decide
      have a3 : (3 : Int32) < 4 := by decide
      have sb : (4 : Int32) - 4 = 0 := rfl
      obtain ⟨r1, r2, r3, r4⟩ := se_0 lx lk hr k2
      simp only [d2, d11, a7, a3, sb, if_pos a7, if_pos a3, if_true, gbad, gb, false_implies, true_implies, not_false_eq_true, not_true_eq_false, true_and, and_true, implies_true, true_or, or_true, if_false]
      exact ⟨⟨r1, r3⟩, l3 r2, r4⟩
    · rw [e] at d11 l3 ⊢
      have y : nI 5 = (5 : Int32) := rfl
      rw [y] at d11 l3 ⊢
      have a7 : (5 : Int32) ≤ 7 := by decide
      have a3 : (3 : Int32) < 5 := by decide
      have sb : (5 : Int32) - 4 = 1 := rfl
      obtain ⟨r1, r2, r3, r4⟩ := se_1 lx lk hr k2
      simp only [d2, d11, a7, a3, sb, if_pos a7, if_pos a3, if_true, gbad, gb, false_implies, true_implies, not_false_eq_true, not_true_eq_false, true_and, and_true, implies_true, true_or, or_true, if_false]
      exact ⟨⟨r1, r3⟩, l3 r2, r4⟩
    · rw [e] at d11 l3 ⊢
      have y : nI 6 = (6 : Int32) := rfl
      rw [y] at d11 l3 ⊢
      have a7 : (6 : Int32) ≤ 7 := by decide
      have a3 : (3 : Int32) < 6 := by decide
      have sb : (6 : Int32) - 4 = 2 := rfl
      obtain ⟨r1, r2, r3, r4⟩ := se_2 lx lk hr k2
      simp only [d2, d11, a7, a3, sb, if_pos a7, if_pos a3, if_true, gbad, gb, false_implies, true_implies, not_false_eq_true, not_true_eq_false, true_and, and_true, implies_true, true_or, or_true, if_false]
      exact ⟨⟨r1, r3⟩, l3 r2, r4⟩
    · rw [e] at d11 l3 ⊢
      have y : nI 7 = (7 : Int32) := rfl
      rw [y] at d11 l3 ⊢
      have a7 : (7 : Int32) ≤ 7 := by decide
      have a3 : (3 : Int32) < 7 := by decide
      have sb : (7 : Int32) - 4 = 3 := rfl
      obtain ⟨r1, r2, r3, r4⟩ := se_3 lx lk hr k2
      simp only [d2, d11, a7, a3, sb, if_pos a7, if_pos a3, if_true, gbad, gb, false_implies, true_implies, not_false_eq_true, not_true_eq_false, true_and, and_true, implies_true, true_or, or_true, if_false]
      exact ⟨⟨r1, r3⟩, l3 r2, r4⟩
  · obtain ⟨l1, l2, l3⟩ := rl_lp lx lk (t := 8) (Or.inr ⟨rfl, t⟩) 8 0 fF (by omega) (fF_gt (by omega))
    rw [← z0] at l1 l2 l3
    rw [l1, l2]
    have y8 : nI 8 = (8 : Int32) := rfl
    rw [y8] at l3 ⊢
    obtain ⟨f1, f2, f3⟩ := pfa lx lk 1 (fun _ => rfl)
    have fin : LR b z l last K A V W P n μ ν 0 0 (uX7_fail μ 1) (uX12_bad ν 1) := ⟨fAc_L (fN_A f1), fGm_L (fN_G f2), Or.inl ⟨rfl, rfl, f3⟩⟩
    have bq : bqM ν 8 := by
      unfold bqM
      exact ⟨fun y => absurd rfl y, fun _ => Or.inl (gbad _ _)⟩
    have bg : bgM ν 8 = 0 := by unfold bgM; rw [if_pos rfl]; exact gbad _ _
    have bu : buM ν 8 = uX12_bad ν 1 := by unfold buM; rw [if_pos rfl]
    rw [bg, bu]
    by_cases k2 : K n = 2
    · have d2 := c2.mpr k2
      have d11 := c11 k2
      have vv := v25 k2
      have a7 : ¬ nI (V n) ≤ 7 := fun h => by have := (nI_leI (b := 7) (by omega) (by omega)).mp h; omega
      simp only [d2, d11, a7, if_neg a7, if_true, gbad, gb, false_implies, true_implies, not_false_eq_true, not_true_eq_false, true_and, and_true, implies_true, true_or, or_true, if_false]
      exact ⟨l3 bq, fin⟩
    · have d2 : ¬ fI μ 1 9 = 2 := fun h => k2 (c2.mp h)
      simp only [d2, if_neg d2, if_true, gbad, gb, false_implies, true_implies, not_false_eq_true, not_true_eq_false, true_and, and_true, implies_true, true_or, or_true, if_false]
      exact ⟨l3 bq, fin⟩
end
