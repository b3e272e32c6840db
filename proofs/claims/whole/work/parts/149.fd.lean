theorem exD : ∃ n : Nat, n = 64 := ⟨_, rfl⟩
noncomputable def fD : Nat := Classical.choose exD
theorem fD_eq : fD = 64 := Classical.choose_spec exD
