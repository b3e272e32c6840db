theorem fI_f (μ : fm_T) (k i N : Nat) (x : Int32) (k' j : Nat) : fI (fillm μ k i N x) k' j = if k' = k ∧ i ≤ j ∧ j < N then x else fI μ k' j := by
  show (va_up μ.2.2.1 k (fun j => if i ≤ j ∧ j < N then x else μ.2.2.1 k j)) k' j = _
  unfold va_up
  by_cases h1 : k' = k
  · subst h1
    by_cases h2 : i ≤ j ∧ j < N
    · simp [h2]
    · simp [h2]
  · simp [h1]
theorem fL_f (μ : fm_T) (k i N : Nat) (x : Int32) (k' j : Nat) : fL (fillm μ k i N x) k' j = fL μ k' j := rfl
theorem fL_i (μ : fm_T) (k i : Nat) (x : Int32) (k' j : Nat) : fL (fm_i μ k i x) k' j = fL μ k' j := rfl
theorem f1_i (μ : fm_T) (k i : Nat) (x : Int32) : (fm_i μ k i x).1 = μ.1 := rfl
theorem f1_f (μ : fm_T) (k i N : Nat) (x : Int32) : (fillm μ k i N x).1 = μ.1 := rfl
theorem fs_f (μ : fm_T) (k i N : Nat) (x : Int32) : (fillm μ k i N x).2.1 = μ.2.1 := rfl
theorem fF_gt {c : Nat} (h : c < 100000) : c < fF := Nat.lt_of_lt_of_le h fF_le
theorem std2 : ∀ (c i n : Nat) (μ : fm_T), i + c = 130 → c < n → mX12_standard_2_h2 n μ (nI i) = fm_i (fm_i (fm_i (fm_i (fillm μ 2 i 130 0) 2 4 2) 2 5 30) 2 6 20) 2 7 150 ∧ qX12_standard_2_h2 n μ (nI i) := by
  intro c
  induction c with
  | zero =>
    intro i n μ h hn
    obtain ⟨n, rfl⟩ : ∃ m, n = m + 1 := ⟨n - 1, by omega⟩
    have hi : (130 : Int32) ≤ nI i := by simp (disch := omega) only [li_n, nI_leI]; omega
    have e : i = 130 := by omega
    subst e
    simp only [mX12_standard_2_h2, qX12_standard_2_h2, if_pos hi, fillm_end]
    exact ⟨trivial, fun q => absurd hi q⟩
  | succ c ih =>
    intro i n μ h hn
    obtain ⟨n, rfl⟩ : ∃ m, n = m + 1 := ⟨n - 1, by omega⟩
    have hi : ¬ (130 : Int32) ≤ nI i := by simp (disch := omega) only [li_n, nI_leI]; omega
    have g := ih (i + 1) n (fm_i μ 2 i 0) (by omega) (by omega)
    simp (disch := omega) only [mX12_standard_2_h2, qX12_standard_2_h2, if_neg hi, nI_clamp, nI_1]
    refine ⟨?_, fun _ => ⟨vp_in_nI (by omega) (by decide), g.2⟩⟩
    rw [g.1, fillm_step (by omega)]
theorem emp72 : ∀ (c i n : Nat) (μ : fm_T), i + c = 100 → c < n → mX12_empty_h72 n μ (nI i) = fillm μ 2 (2340 + i) 2440 (-1) ∧ qX12_empty_h72 n μ (nI i) := by
  intro c
  induction c with
  | zero =>
    intro i n μ h hn
    obtain ⟨n, rfl⟩ : ∃ m, n = m + 1 := ⟨n - 1, by omega⟩
    have hi : (100 : Int32) ≤ nI i := by simp (disch := omega) only [li_n, nI_leI]; omega
    have e : i = 100 := by omega
    subst e
    simp only [mX12_empty_h72, qX12_empty_h72, if_pos hi]
    exact ⟨fillm_end.symm, fun q => absurd hi q⟩
  | succ c ih =>
    intro i n μ h hn
    obtain ⟨n, rfl⟩ : ∃ m, n = m + 1 := ⟨n - 1, by omega⟩
    have hi : ¬ (100 : Int32) ≤ nI i := by simp (disch := omega) only [li_n, nI_leI]; omega
    have e1 : ((2340 : Int32) + nI i) = nI (2340 + i) := by simp only [li_n, nI_add]
    have g := ih (i + 1) n (fm_i μ 2 (2340 + i) (-1)) (by omega) (by omega)
    simp (disch := omega) only [mX12_empty_h72, qX12_empty_h72, if_neg hi, e1, nI_clamp, nI_1]
    refine ⟨?_, fun _ => ⟨vp_in_nI (by omega) (by decide), g.2⟩⟩
    rw [g.1]
    exact fillm_step (by omega)
theorem emp47 : ∀ (c i n : Nat) (μ : fm_T), i + c = 100 → c < n → mX12_empty_h47 n μ (nI i) = fillm (fillm μ 2 (2240 + i) 2340 (-1)) 2 2340 2440 (-1) ∧ qX12_empty_h47 n μ (nI i) := by
  intro c
  induction c with
  | zero =>
    intro i n μ h hn
    obtain ⟨n, rfl⟩ : ∃ m, n = m + 1 := ⟨n - 1, by omega⟩
    have hi : (100 : Int32) ≤ nI i := by simp (disch := omega) only [li_n, nI_leI]; omega
    have e : i = 100 := by omega
    subst e
    have g := emp72 100 0 fF μ (by omega) (fF_gt (by omega))
    simp only [mX12_empty_h47, qX12_empty_h47, if_pos hi]
    refine ⟨?_, fun _ => g.2, fun q => absurd hi q⟩
    rw [show (0 : Int32) = nI 0 from rfl, g.1]
    exact congrArg (fun m => fillm m 2 2340 2440 (-1)) fillm_end.symm
  | succ c ih =>
    intro i n μ h hn
    obtain ⟨n, rfl⟩ : ∃ m, n = m + 1 := ⟨n - 1, by omega⟩
    have hi : ¬ (100 : Int32) ≤ nI i := by simp (disch := omega) only [li_n, nI_leI]; omega
    have e1 : ((2240 : Int32) + nI i) = nI (2240 + i) := by simp only [li_n, nI_add]
    have g := ih (i + 1) n (fm_i μ 2 (2240 + i) (-1)) (by omega) (by omega)
    simp (disch := omega) only [mX12_empty_h47, qX12_empty_h47, if_neg hi, e1, nI_clamp, nI_1]
    refine ⟨?_, fun q => absurd q hi, fun _ => ⟨vp_in_nI (by omega) (by decide), g.2⟩⟩
    rw [g.1]
    exact congrArg (fun m => fillm m 2 2340 2440 (-1)) (fillm_step (by omega))
theorem empt (μ : fm_T) : uX12_empty μ = fillm (fillm (fm_i (fm_i (fm_i (fm_i (fm_i μ 2 131 0) 2 132 0) 2 133 0) 2 134 0) 2 135 0) 2 2240 2340 (-1)) 2 2340 2440 (-1) ∧ pX12_empty μ := emp47 100 0 fF _ (by omega) (fF_gt (by omega))
theorem std2e (μ : fm_T) : uX12_standard_2 μ = fm_i (fm_i (fm_i (fm_i (fillm μ 2 0 130 0) 2 4 2) 2 5 30) 2 6 20) 2 7 150 ∧ pX12_standard_2 μ := std2 130 0 fF _ (by omega) (fF_gt (by omega))
def layR (ν ν' : fm_T) : Prop := ν'.1 = ν.1 ∧ ν'.2.1 = ν.2.1 ∧ fI ν' 0 21 = 1 ∧ (∀ k j, k ≠ 2 → ¬ (k = 0 ∧ j = 21) → fI ν' k j = fI ν k j) ∧ (∀ k j, fL ν' k j = fL ν k j) ∧ ∀ j, fI ν' 2 j = rowN ν j
