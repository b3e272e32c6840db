theorem lay_ok {ν : fm_T} (hb : BG ν) : pX12_lay ν ∧ layR ν (uX12_lay ν) := by
  unfold pX12_lay uX12_lay
  rcases hb with hb | ⟨hb, hz⟩
  · have hn : ¬ fI ν 0 21 = 0 := by rw [hb]; decide
    rw [if_neg hn]
    refine ⟨fun q => absurd q hn, rfl, rfl, hb, fun _ _ _ _ => rfl, fun _ _ => rfl, fun j => ?_⟩
    unfold rowN
    rw [if_neg hn]
  · rw [if_pos hb]
    refine ⟨fun _ => ⟨(std2e _).2, (empt _).2⟩, ?_⟩
    rw [(empt _).1, (std2e _).1]
    refine ⟨rfl, rfl, ?_, fun k j h1 h2 => ?_, fun _ _ => rfl, fun j => ?_⟩
    · simp [fI_f, fI_i]
    · simp only [fI_f, fI_i, h1, h2, false_and, if_false]
    · simp only [fI_f, fI_i, rowN, if_pos hb, row0, hz, true_and]
      have e1 : ¬ (2 = 0 ∧ j = 21) := by omega
      simp only [e1, if_false]
      by_cases q1 : 2340 ≤ j ∧ j < 2440
      · have : 2240 ≤ j ∧ j < 2440 := by omega
        have n4 : ¬ j = 4 := by omega
        have n5 : ¬ j = 5 := by omega
        have n6 : ¬ j = 6 := by omega
        have n7 : ¬ j = 7 := by omega
        simp [q1, this, n4, n5, n6, n7]
      · by_cases q2 : 2240 ≤ j ∧ j < 2340
        · have : 2240 ≤ j ∧ j < 2440 := by omega
          have n4 : ¬ j = 4 := by omega
          have n5 : ¬ j = 5 := by omega
          have n6 : ¬ j = 6 := by omega
          have n7 : ¬ j = 7 := by omega
          simp [q1, q2, this, n4, n5, n6, n7]
        · have q3 : ¬ (2240 ≤ j ∧ j < 2440) := by omega
          simp only [if_neg q1, if_neg q2, if_neg q3]
          (repeat' split) <;> first | rfl | (exfalso; omega)
