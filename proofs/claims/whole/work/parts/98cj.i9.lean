theorem fI_s (μ : fm_T) (k : Nat) (L : List Int32) (n : Nat) (k' j : Nat) : fI (fm_s μ k L 0 0 n) k' j = if k' = k ∧ j < n then L.getD j 0 else fI μ k' j := by
  unfold fm_s fI
  by_cases e : k' = k
  · subst e
    by_cases h : j < n
    · rw [if_pos ⟨rfl, h⟩]
      simp [va_up, va_cpy, h]
    · rw [if_neg (fun y => h y.2)]
      simp [va_up, va_cpy, h]
  · rw [if_neg (fun y => e y.1)]
    simp [va_up, e]
def fFg (k j : Nat) : Prop := k = 75 ∨ k = 77 ∨ k = 80 ∨ k = 81 ∨ k = 84 ∨ (k = 73 ∧ (j = 11 ∨ j = 12))
theorem fg_ok (μ : fm_T) : pX2_forgetAll μ ∧ frL fFg fN μ (uX2_forgetAll μ) ∧ (∀ s, s < 4 → fI (uX2_forgetAll μ) 75 s = 0) ∧ (∀ j, j < 36 → fI (uX2_forgetAll μ) 77 j = 0) ∧ (∀ j, j < 8 → fI (uX2_forgetAll μ) 80 j = 0 ∧ fI (uX2_forgetAll μ) 81 j = 0) ∧ (fI (uX2_forgetAll μ) 84 0 = 2 ∧ fI (uX2_forgetAll μ) 84 1 = 30 ∧ fI (uX2_forgetAll μ) 84 2 = 20 ∧ fI (uX2_forgetAll μ) 84 3 = 150) ∧ fI (uX2_forgetAll μ) 73 11 = 0 ∧ fI (uX2_forgetAll μ) 73 12 = 0 := by
  unfold pX2_forgetAll uX2_forgetAll pJ7_fill_53178_75 pJ7_fill_53178_77 pJ7_fill_53178_80 pJ7_fill_53178_81 uJ7_fill_53178_75 uJ7_fill_53178_77 uJ7_fill_53178_80 uJ7_fill_53178_81 uX11_copyRow_4001_84
  obtain ⟨a1, A, a2, a3, a4⟩ := fl_75 0 4 0 fF μ (by omega) (fF_gt (by omega))
  have z0 : nI 0 = (0 : Int32) := rfl
  have z4 : nI 4 = (4 : Int32) := rfl
  have z36 : nI 36 = (36 : Int32) := rfl
  have z8 : nI 8 = (8 : Int32) := rfl
  rw [z0, z4] at a1 a2
  rw [a2]
  obtain ⟨b1, B, b2, b3, b4⟩ := fl_77 0 36 0 fF A (by omega) (fF_gt (by omega))
  rw [z0, z36] at b1 b2
  rw [b2]
  obtain ⟨c1, C, c2, c3, c4⟩ := fl_80 0 8 0 fF B (by omega) (fF_gt (by omega))
  rw [z0, z8] at c1 c2
  rw [c2]
  obtain ⟨d1, D, d2, d3, d4⟩ := fl_81 0 8 0 fF C (by omega) (fF_gt (by omega))
  rw [z0, z8] at d1 d2
  rw [d2]
  have fD' : frL fFg fN μ D := (((a3.mo (fun k j y => by unfold fFg; omega) (fun _ _ y => y)).tr (b3.mo (fun k j y => by unfold fFg; omega) (fun _ _ y => y))).tr (c3.mo (fun k j y => by unfold fFg; omega) (fun _ _ y => y))).tr (d3.mo (fun k j y => by unfold fFg; omega) (fun _ _ y => y))
  have g : ∀ k j, k ≠ 84 → k ≠ 73 → fI (fm_i (fm_i (fm_s D 84 [2, 30, 20, 150] 0 0 4) 73 11 0) 73 12 0) k j = fI D k j := fun k j h1 h2 => by rw [fI_i, if_neg (by omega), fI_i, if_neg (by omega), fI_s, if_neg (by omega)]
  have g84 : ∀ j, j < 4 → fI (fm_i (fm_i (fm_s D 84 [2, 30, 20, 150] 0 0 4) 73 11 0) 73 12 0) 84 j = ([2, 30, 20, 150] : List Int32).getD j 0 := fun j h => by rw [fI_i, if_neg (by omega), fI_i, if_neg (by omega), fI_s, if_pos ⟨rfl, h⟩]
  refine ⟨⟨a1, b1, c1, d1⟩, ⟨fD'.1, fD'.2.1, fD'.2.2.1, fun k j h => ?_⟩, fun s hs => ?_, fun j hj => ?_, fun j hj => ⟨?_, ?_⟩, ⟨g84 0 (by omega), g84 1 (by omega), g84 2 (by omega), g84 3 (by omega)⟩, ?_, ?_⟩
  · rw [fI_i, if_neg (fun y => h (by unfold fFg; omega)), fI_i, if_neg (fun y => h (by unfold fFg; omega)), fI_s, if_neg (fun y => h (by unfold fFg; omega))]
    exact fD'.2.2.2 k j h
  · rw [g 75 s (by omega) (by omega), d3.2.2.2 75 s (by omega), c3.2.2.2 75 s (by omega), b3.2.2.2 75 s (by omega)]
    exact a4 s (by omega) hs
  · rw [g 77 j (by omega) (by omega), d3.2.2.2 77 j (by omega), c3.2.2.2 77 j (by omega)]
    exact b4 j (by omega) hj
  · rw [g 80 j (by omega) (by omega), d3.2.2.2 80 j (by omega)]
    exact c4 j (by omega) hj
  · rw [g 81 j (by omega) (by omega)]
    exact d4 j (by omega) hj
  · rw [fI_i, if_neg (by omega), fI_i, if_pos ⟨rfl, rfl⟩]
  · rw [fI_i, if_pos ⟨rfl, rfl⟩]
