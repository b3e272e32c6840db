def tau0 : sg_T := fun a i => if a = 0 ∧ i = 9 then 2 else if a = 0 ∧ i = 10 then 30 else if a = 0 ∧ i = 11 then 20 else if a = 0 ∧ i = 12 then 150 else 0
theorem HDR_start {X T : fm_T} (c75 : ∀ s, s < 4 → fI X 75 s = 0) (c77 : ∀ j, j < 36 → fI X 77 j = 0) (c80 : ∀ j, j < 8 → fI X 80 j = 0 ∧ fI X 81 j = 0) (c84 : fI X 84 0 = 2 ∧ fI X 84 1 = 30 ∧ fI X 84 2 = 20 ∧ fI X 84 3 = 150) (c73 : fI X 73 11 = 0) (m3 : ∀ s, s < 4 → fI T 3 s = 0) (m4 : fI T 3 4 = 2 ∧ fI T 3 5 = 30 ∧ fI T 3 6 = 20 ∧ fI T 3 7 = 150) (m22 : fI T 0 22 = 0) : HDR tau0 0 X T := by
  have t : ∀ s, s < 4 → tau0 0 (5 + s) = 0 := fun s hs => by unfold tau0; rw [if_neg (by omega), if_neg (by omega), if_neg (by omega), if_neg (by omega)]
  have t6 : tau0 0 6 = 0 := rfl
  have t7 : tau0 0 7 = 0 := rfl
  have t8 : tau0 0 8 = 0 := rfl
  have t5 : tau0 0 5 = 0 := rfl
  refine ⟨fun s hs => ⟨⟨by rw [t s hs]; exact c75 s hs, by rw [t s hs]; exact m3 s hs⟩, fun i hi => by rw [t s hs] at hi; omega, by rw [t s hs]; omega, by have := mst_b hs; rw [t s hs]; omega⟩, ⟨fun i hi => by omega, fun i _ h2 s hs => c77 _ (by omega), by omega⟩, ⟨fun i hi => by omega, fun i _ h2 => c80 i h2, by omega, fun i j h1 h2 => by omega⟩, ⟨fun i hi => by omega, by omega⟩, fun i hi => ?_, by decide, by omega, c73, m22, by omega⟩
  have q : i = 0 ∨ i = 1 ∨ i = 2 ∨ i = 3 := by omega
  rcases q with rfl | rfl | rfl | rfl
  · exact ⟨c84.1, m4.1⟩
  · exact ⟨c84.2.1, m4.2.1⟩
  · exact ⟨c84.2.2.1, m4.2.2.1⟩
  · exact ⟨c84.2.2.2, m4.2.2.2⟩
