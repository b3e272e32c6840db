def hoF (k j : Nat) : Prop := (k = 36 ∧ (j = 3 ∨ j = 4)) ∨ (k = 9 ∧ 5 ≤ j ∧ j ≤ 7) ∨ (k = 19 ∧ j < 100) ∨ (k = 20 ∧ j < 40) ∨ (k = 15 ∧ j = 8)
theorem ho_cl (A : fm_T) : pX3_forgetAllButPlacesH (uX8_forgetAllH (uX5_forget_36H A)) ∧ ∃ Y, uX3_forgetAllButPlacesH (uX8_forgetAllH (uX5_forget_36H A)) = Y ∧ frL hoF fN A Y ∧ (fI Y 36 3 = 0 ∧ fI Y 36 4 = 0) ∧ (fI Y 9 5 = 0 ∧ fI Y 9 6 = 0 ∧ fI Y 9 7 = 0 ∧ fI Y 15 8 = 0) ∧ (∀ j, j < 100 → fI Y 19 j = -1) ∧ ∀ j, j < 40 → fI Y 20 j = -1 := by
  have z0 : nI 0 = (0 : Int32) := rfl
  have z1 : nI 100 = (100 : Int32) := rfl
  have z2 : nI 40 = (40 : Int32) := rfl
  have fB : frL hoF fN A (fm_i (fm_i (fm_i (fm_i (fm_i A 36 3 0) 36 4 0) 9 5 0) 9 6 0) 9 7 0) := (((((frL.rf hoF fN A).i (by unfold hoF; omega)).i (by unfold hoF; omega)).i (by unfold hoF; omega)).i (by unfold hoF; omega)).i (by unfold hoF; omega)
  have sm : ∀ k j, fI (fm_i (fm_i (fm_i (fm_i (fm_i A 36 3 0) 36 4 0) 9 5 0) 9 6 0) 9 7 0) k j = if k = 9 ∧ j = 7 then 0 else if k = 9 ∧ j = 6 then 0 else if k = 9 ∧ j = 5 then 0 else if k = 36 ∧ j = 4 then 0 else if k = 36 ∧ j = 3 then 0 else fI A k j := fun k j => by
    rw [fI_i, fI_i, fI_i, fI_i, fI_i]
  unfold pX3_forgetAllButPlacesH uX3_forgetAllButPlacesH uX8_forgetAllH uX5_forget_36H pJ7_fill_53178_19H pJ7_fill_53178_20H uJ7_fill_53178_19H uJ7_fill_53178_20H
  generalize fm_i (fm_i (fm_i (fm_i (fm_i A 36 3 0) 36 4 0) 9 5 0) 9 6 0) 9 7 0 = B at fB sm ⊢
  obtain ⟨a1, C, a2, a3, a4⟩ := fl_19H (-1) 100 0 fF B (by omega) (fF_gt (by omega))
  rw [z0, z1] at a1 a2
  rw [a2]
  obtain ⟨b1, D, b2, b3, b4⟩ := fl_20H (-1) 40 0 fF C (by omega) (fF_gt (by omega))
  rw [z0, z2] at b1 b2
  rw [b2]
  have g : ∀ k j, k ≠ 19 → k ≠ 20 → ¬ (k = 15 ∧ j = 8) → fI (fm_i D 15 8 0) k j = fI B k j := fun k j h1 h2 h3 => by rw [fI_i, if_neg h3, b3.2.2.2 k j (by omega), a3.2.2.2 k j (by omega)]
  refine ⟨⟨a1, b1⟩, fm_i D 15 8 0, rfl, ((fB.tr (a3.mo (fun k j y => by unfold hoF; omega) (fun _ _ y => y))).tr (b3.mo (fun k j y => by unfold hoF; omega) (fun _ _ y => y))).i (by unfold hoF; omega), ⟨?_, ?_⟩, ⟨?_, ?_, ?_, ?_⟩, fun j hj => ?_, fun j hj => ?_⟩
  · rw [g 36 3 (by omega) (by omega) (by omega), sm]; rfl
  · rw [g 36 4 (by omega) (by omega) (by omega), sm]; rfl
  · rw [g 9 5 (by omega) (by omega) (by omega), sm]; rfl
  · rw [g 9 6 (by omega) (by omega) (by omega), sm]; rfl
  · rw [g 9 7 (by omega) (by omega) (by omega), sm]; rfl
  · rw [fI_i, if_pos ⟨rfl, rfl⟩]
  · rw [fI_i, if_neg (by omega), b3.2.2.2 19 j (by omega)]; exact a4 j (by omega) hj
  · rw [fI_i, if_neg (by omega)]; exact b4 j (by omega) hj
theorem ho_m (x1 : Int32) (T : fm_T) : qX12_house_h54 fF T x1 0 ∧ lX12_house_h54 fF T x1 0 = x1 ∧ ∃ S, mX12_house_h54 fF T x1 0 = S ∧ frL (fun k j => k = 2 ∧ (j < 130 ∨ (131 ≤ j ∧ j ≤ 135) ∨ (2240 ≤ j ∧ j < 2440))) (fun k j => k = 5 ∧ j < 24) T S ∧ (∀ j, j < 130 → fI S 2 j = fI T 3 j) ∧ (∀ j, j < 24 → fL S 5 j = fL T 6 j) ∧ (∀ j, 131 ≤ j → j ≤ 135 → fI S 2 j = 0) ∧ ∀ j, 2240 ≤ j → j < 2440 → fI S 2 j = -1 := by
  have z0 : nI 0 = (0 : Int32) := rfl
  obtain ⟨Z, k1, k2, k3, k4, k5⟩ := hc_54 x1 130 0 fF T (by omega) (fF_gt (by omega))
  obtain ⟨Q, i1, i2, i3, i4, i5⟩ := hc_81 x1 24 0 fF Z (by omega) (fF_gt (by omega))
  obtain ⟨e1, e2⟩ := empt Q
  rw [z0] at k3 k4 k5 i3 i4 i5
  have i6 := i5 e2
  refine ⟨k5 i6, k3.trans i3, _, (k4.trans i4).trans e1, ?_, fun j hj => ?_, fun j hj => ?_, fun j h1 h2 => ?_, fun j h1 h2 => ?_⟩
  · refine ⟨i1.1.trans k1.1, i1.2.1.trans k1.2.1, fun k j y => ?_, fun k j y => ?_⟩
    · show fL Q k j = fL T k j
      rw [i1.2.2.1 k j (by omega), k1.2.2.1 k j (fun q => q)]
    · rw [fI_f, if_neg (by omega), fI_f, if_neg (by omega), fI_i, if_neg (by omega), fI_i, if_neg (by omega), fI_i, if_neg (by omega), fI_i, if_neg (by omega), fI_i, if_neg (by omega), i1.2.2.2 k j (fun q => q), k1.2.2.2 k j (by omega)]
  · rw [fI_f, if_neg (by omega), fI_f, if_neg (by omega), fI_i, if_neg (by omega), fI_i, if_neg (by omega), fI_i, if_neg (by omega), fI_i, if_neg (by omega), fI_i, if_neg (by omega), i1.2.2.2 2 j (fun q => q)]
    exact k2 j (by omega) hj
  · show fL Q 5 j = fL T 6 j
    rw [i2 j (by omega) hj, k1.2.2.1 6 j (fun q => q)]
  · have q : j = 131 ∨ j = 132 ∨ j = 133 ∨ j = 134 ∨ j = 135 := by omega
    rw [fI_f, if_neg (by omega), fI_f, if_neg (by omega), fI_i, fI_i, fI_i, fI_i, fI_i]
    rcases q with rfl | rfl | rfl | rfl | rfl <;> rfl
  · rw [fI_f]
    by_cases y : 2340 ≤ j
    · rw [if_pos ⟨rfl, y, h2⟩]
    · rw [if_neg (by omega), fI_f, if_pos ⟨rfl, h1, by omega⟩]
