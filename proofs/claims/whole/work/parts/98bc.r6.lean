section
variable {b : Nat → Nat} {z l last : Nat} {K A V W P : Nat → Nat} {n2 : Nat} {nm : Nat → Nat}
theorem one_all (lx : LXs b z l last K A V W P) : ∀ (d wi : Nat), wi + d = 8 → ∀ f f', 4 * d + 1 ≤ f → 4 * d + 1 ≤ f' → HP b z l last K A V W P n2 nm wi (fun μ => guX5_read f 2 μ (nI (wi + 1))) (fun μ => puX5_read f 2 μ (nI (wi + 1))) (fun ν => guX12_read f' 2 ν) (fun ν => puX12_read f' 2 ν) := by
  intro d
  induction d with
  | zero =>
    intro wi h1 f f' h2 h3 n so st μ ν lk rl cn
    obtain ⟨f, rfl⟩ : ∃ m, f = m + 1 := ⟨f - 1, by omega⟩
    obtain ⟨f', rfl⟩ : ∃ m, f' = m + 1 := ⟨f' - 1, by omega⟩
    exact one_st (rC := guX5_read f) (qC := puX5_read f) (rM := guX12_read f') (qM := puX12_read f') lx (fun q => absurd q (by omega)) (fun q => absurd q (by omega)) lk rl cn
  | succ d ih =>
    intro wi h1 f f' h2 h3 n so st μ ν lk rl cn
    obtain ⟨f, rfl⟩ : ∃ m, f = m + 4 := ⟨f - 4, by omega⟩
    obtain ⟨f', rfl⟩ : ∃ m, f' = m + 4 := ⟨f' - 4, by omega⟩
    have e2 : nI (wi + 1) + 1 = nI (wi + 1 + 1) := nI_1 _
    refine one_st (rC := guX5_read (f + 3)) (qC := puX5_read (f + 3)) (rM := guX12_read (f' + 3)) (qM := puX12_read (f' + 3)) lx (fun _ => ?_) (fun _ so st μ ν n lk rl cn => ?_) lk rl cn
    · apply br_HP lx
      rw [e2]
      exact cnd_HP lx (all_HP lx (ih (wi + 1) (by omega) f f' (by omega) (by omega)))
    · rw [e2]
      obtain ⟨c1, c2, c3⟩ := ih (wi + 1) (by omega) (f + 3) (f' + 2) (by omega) (by omega) n so st μ ν lk rl cn
      simp only at c1 c2 c3
      obtain ⟨k1, k2, k3⟩ := not_IQ (n := n) c3 rl.2.2.2.2.2.2.1
      exact ⟨c1, k1, ⟨c2, k2⟩, k3⟩
theorem cond_0 (lx : LXs b z l last K A V W P) : HP b z l last K A V W P n2 nm 0 (fun μ => guX5_read fD 0 μ 1) (fun μ => puX5_read fD 0 μ 1) (fun ν => guX12_read fD 0 ν) (fun ν => puX12_read fD 0 ν) := by
  rw [fD_eq]
  exact cnd_HP (f := 63) (f' := 63) lx (all_HP (f := 62) (f' := 62) lx (one_all lx 8 0 (by omega) 62 62 (by omega) (by omega)))
end
