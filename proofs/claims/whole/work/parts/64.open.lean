section
variable {σ : sg_T} {μ ν : fm_T}
theorem op_lp (w : WR σ (blk μ 8) (fL μ 25) (fI ν 2) (fL ν 5)) {y : Int32} (hy : y = 0 ∨ y = 1 ∨ y = 2 ∨ y = 3) : ∀ (c i n n' : Nat) (x : Int32), i + c = σ 0 0 → c < n → c < n' → lX11_open_h15 n μ y x (nI i) = lX12_open_h24 n' ν y x (nI i) ∧ qX11_open_h15 n μ y x (nI i) ∧ qX12_open_h24 n' ν y x (nI i) := by
  obtain ⟨cN, mN, hN⟩ := wr_S w
  obtain ⟨cT, mT, hT⟩ := wr_T w
  intro c
  induction c with
  | zero =>
    intro i n n' x h1 h2 h3
    obtain ⟨n, rfl⟩ : ∃ m, n = m + 1 := ⟨n - 1, by omega⟩
    obtain ⟨n', rfl⟩ : ∃ m, n' = m + 1 := ⟨n' - 1, by omega⟩
    have e : nI (σ 0 0) ≤ nI i := (nI_leI (by omega) (by omega)).mpr (by omega)
    simp only [lX11_open_h15, lX12_open_h24, qX11_open_h15, qX12_open_h24, gX12_tickets, cN, mN, if_pos e]
    exact ⟨trivial, fun z => absurd e z, fun z => absurd e z⟩
  | succ c ih =>
    intro i n n' x h1 h2 h3
    obtain ⟨n, rfl⟩ : ∃ m, n = m + 1 := ⟨n - 1, by omega⟩
    obtain ⟨n', rfl⟩ : ∃ m, n' = m + 1 := ⟨n' - 1, by omega⟩
    have hi : i < σ 0 0 := by omega
    have e : ¬ nI (σ 0 0) ≤ nI i := fun z => by have := (nI_leI (by omega) (by omega)).mp z; omega
    have o12 : gX8_of μ (nI i) 12 = nI (σ 1 (14 * i + 12)) ∧ pX8_of μ (nI i) 12 := of_c w (j := 12) hi (by omega)
    have o7 : gX8_of μ (nI i) 7 = nI (σ 1 (14 * i + 7)) ∧ pX8_of μ (nI i) 7 := of_c w (j := 7) hi (by omega)
    have o8 : gX8_of μ (nI i) 8 = nI (σ 1 (14 * i + 8)) ∧ pX8_of μ (nI i) 8 := of_c w (j := 8) hi (by omega)
    have m7 : gX12_of ν (nI i) 7 = nI (σ 1 (14 * i + 7)) ∧ pX12_of ν (nI i) 7 := of_m w (j := 7) hi (by omega)
    have m8 : gX12_of ν (nI i) 8 = nI (σ 1 (14 * i + 8)) ∧ pX12_of ν (nI i) 8 := of_m w (j := 8) hi (by omega)
    obtain ⟨s1, s2, s3⟩ := st_now w hi
    have op : gX11_opened μ (nI i) y = (if y = 0 then (if σ 1 (14 * i + 12) < 3 then 1 else 0) else if y = 1 then (if σ 1 (14 * i + 12) = 0 then 1 else 0) else if y = 2 then (if σ 1 (14 * i + 12) = 0 ∧ ¬ nI (σ 0 3) ≤ nI (σ 1 (14 * i + 7)) then 1 else 0) else (if σ 1 (14 * i + 12) = 3 then nI (σ 1 (14 * i + 8)) else 0)) ∧ pX11_opened μ (nI i) y := by
      have k0 : nI (σ 1 (14 * i + 12)) = 0 ↔ σ 1 (14 * i + 12) = 0 := nI_eq (b := 0) (by omega) (by omega)
      have k3 : nI (σ 1 (14 * i + 12)) = 3 ↔ σ 1 (14 * i + 12) = 3 := nI_eq (b := 3) (by omega) (by omega)
      have k4 : 3 ≤ nI (σ 1 (14 * i + 12)) ↔ 3 ≤ σ 1 (14 * i + 12) := nI_leI (a := 3) (by omega) (by omega)
      unfold gX11_opened pX11_opened gX8_isOpen pX8_isOpen
      rw [o12.1, o7.1, o8.1, cT]
      refine ⟨?_, o12.2, fun _ => ⟨fun _ => o12.2, fun _ => ⟨o12.2, fun _ => o8.2⟩⟩, fun _ => ⟨fun _ => o12.2, fun _ => o7.2, fun _ => ⟨o12.2, fun _ => o8.2⟩⟩⟩
      simp only [k0, k3, k4]
      rcases hy with rfl | rfl | rfl | rfl
      · rw [show (0 : Int32).toInt = 0 from rfl]
        simp only [if_true, ite_self]
        by_cases b : 3 ≤ σ 1 (14 * i + 12)
        · rw [if_neg (show ¬ σ 1 (14 * i + 12) < 3 by omega)]
          simp only [b, if_true, ite_self]
        · rw [if_pos (show σ 1 (14 * i + 12) < 3 by omega)]
          simp only [b, if_false, show ¬ (1 : Int32) = 0 by decide, ite_self]
      · rw [show (1 : Int32).toInt = 1 from rfl]
        simp only [show ¬ (1 : Int32) = 0 by decide, show ¬ (1 : Int) = 0 by decide, if_true, if_false]
      · rw [show (2 : Int32).toInt = 2 from rfl]
        simp only [show ¬ (2 : Int32) = 0 by decide, show ¬ (2 : Int) = 0 by decide, show ¬ (2 : Int32) = 1 by decide, show ¬ (2 : Int) = 1 by decide, if_true, if_false]
        by_cases a1 : σ 1 (14 * i + 12) = 0
        · by_cases a2 : nI (σ 0 3) ≤ nI (σ 1 (14 * i + 7))
          · rw [if_pos a1, if_pos a2, if_neg (fun z => z.2 a2)]
          · rw [if_pos a1, if_neg a2, if_pos ⟨a1, a2⟩]
        · rw [if_neg a1, if_neg (fun z => a1 z.1)]
      · rw [show (3 : Int32).toInt = 3 from rfl]
        simp only [show ¬ (3 : Int32) = 0 by decide, show ¬ (3 : Int) = 0 by decide, show ¬ (3 : Int32) = 1 by decide, show ¬ (3 : Int) = 1 by decide, show ¬ (3 : Int32) = 2 by decide, show ¬ (3 : Int) = 2 by decide, if_false, ite_self]
    have ihx := ih (i + 1) n n' (x + gX11_opened μ (nI i) y) (by omega) (by omega) (by omega)
    have q0 : nI (σ 1 (14 * i + 12)) = 0 ↔ σ 1 (14 * i + 12) = 0 := nI_eq (b := 0) (by omega) (by omega)
    have q3 : nI (σ 1 (14 * i + 12)) = 3 ↔ σ 1 (14 * i + 12) = 3 := nI_eq (b := 3) (by omega) (by omega)
    have q4 : nI (σ 1 (14 * i + 12)) < 3 ↔ σ 1 (14 * i + 12) < 3 := nI_ltI (b := 3) (by omega) (by omega)
    simp only [lX11_open_h15, lX12_open_h24, qX11_open_h15, qX12_open_h24, gX12_tickets, gX12_today, cN, mN, mT, if_neg e, nI_1, s1, m7.1, m8.1, q0, q3, q4]
    rw [op.1] at ihx ⊢
    have a1 : qX11_open_h15 n μ y (x + gX11_opened μ (nI i) y) (nI (i + 1)) := by rw [op.1]; exact ihx.2.1
    have a2 := op.2
    rw [op.1] at a1
    rcases hy with rfl | rfl | rfl | rfl
    · simp only [if_true, show ¬ (0 : Int32) = 1 by decide, show ¬ (0 : Int32) = 2 by decide, show ¬ (0 : Int32) = 3 by decide, if_false, not_true_eq_false, not_false_eq_true, false_implies, true_implies, true_and, and_true] at ihx ⊢
      by_cases b : σ 1 (14 * i + 12) < 3
      · simp only [b, if_true, not_true_eq_false, false_implies, true_implies, true_and, and_true] at ihx ⊢
        exact ⟨ihx.1, fun _ => ⟨a2, ihx.2.1⟩, fun _ => ⟨s2, ihx.2.2⟩⟩
      · simp only [b, if_false, not_false_eq_true, false_implies, true_implies, true_and, and_true, Int32.add_zero] at ihx ⊢
        exact ⟨ihx.1, fun _ => ⟨a2, ihx.2.1⟩, fun _ => ⟨s2, ihx.2.2⟩⟩
    · simp only [if_true, show ¬ (1 : Int32) = 0 by decide, show ¬ (1 : Int32) = 2 by decide, show ¬ (1 : Int32) = 3 by decide, if_false, not_true_eq_false, not_false_eq_true, false_implies, true_implies, true_and, and_true] at ihx ⊢
      by_cases b : σ 1 (14 * i + 12) = 0
      · simp only [b, if_true, not_true_eq_false, false_implies, true_implies, true_and, and_true] at ihx ⊢
        exact ⟨ihx.1, fun _ => ⟨a2, ihx.2.1⟩, fun _ => ⟨s2, ihx.2.2⟩⟩
      · simp only [b, if_false, not_false_eq_true, false_implies, true_implies, true_and, and_true, Int32.add_zero] at ihx ⊢
        exact ⟨ihx.1, fun _ => ⟨a2, ihx.2.1⟩, fun _ => ⟨s2, ihx.2.2⟩⟩
    · simp only [if_true, show ¬ (2 : Int32) = 0 by decide, show ¬ (2 : Int32) = 1 by decide, show ¬ (2 : Int32) = 3 by decide, if_false, not_true_eq_false, not_false_eq_true, false_implies, true_implies, true_and, and_true] at ihx ⊢
      by_cases b : σ 1 (14 * i + 12) = 0
      · by_cases b2 : nI (σ 0 3) ≤ nI (σ 1 (14 * i + 7))
        · simp only [b, b2, if_true, not_true_eq_false, and_false, if_false, false_implies, true_implies, true_and, and_true, Int32.add_zero] at ihx ⊢
          exact ⟨ihx.1, fun _ => ⟨a2, ihx.2.1⟩, fun _ => ⟨s2, m7.2, ihx.2.2⟩⟩
        · simp only [b, b2, if_true, if_false, not_true_eq_false, not_false_eq_true, and_self, false_implies, true_implies, true_and, and_true] at ihx ⊢
          exact ⟨ihx.1, fun _ => ⟨a2, ihx.2.1⟩, fun _ => ⟨s2, m7.2, ihx.2.2⟩⟩
      · simp only [b, if_false, not_false_eq_true, false_and, false_implies, true_implies, true_and, and_true, Int32.add_zero] at ihx ⊢
        exact ⟨ihx.1, fun _ => ⟨a2, ihx.2.1⟩, fun _ => ⟨s2, ihx.2.2⟩⟩
    · simp only [if_true, show ¬ (3 : Int32) = 0 by decide, show ¬ (3 : Int32) = 1 by decide, show ¬ (3 : Int32) = 2 by decide, if_false, not_true_eq_false, not_false_eq_true, false_implies, true_implies, true_and, and_true] at ihx ⊢
      by_cases b : σ 1 (14 * i + 12) = 3
      · simp only [b, if_true, not_true_eq_false, false_implies, true_implies, true_and, and_true] at ihx ⊢
        exact ⟨ihx.1, fun _ => ⟨a2, ihx.2.1⟩, fun _ => ⟨s2, m8.2, ihx.2.2⟩⟩
      · simp only [b, if_false, not_false_eq_true, false_implies, true_implies, true_and, and_true, Int32.add_zero] at ihx ⊢
        exact ⟨ihx.1, fun _ => ⟨a2, ihx.2.1⟩, fun _ => ⟨s2, ihx.2.2⟩⟩
end
theorem ok_open : ob_open RR := by
  rintro μ ν x1 ⟨σ, σ0, σ1, ρ, r0, r1, h⟩
  obtain ⟨g1, g2, g3⟩ := lay0 h
  generalize hν : uX12_lay (fm_i ν 0 0 0) = ν1 at g2 g3
  have w := RS_WR g2 g3
  have hS := (wr_S w).2.2
  unfold pX11_open pX12_open gX11_open gX12_open uX12_open
  rw [hν]
  simp only [isI (μ := μ), ite_self]
  by_cases h1 : gX11_within μ x1 0 3 = 0
  · simp only [if_pos h1]
    exact ⟨fun z => absurd h1 z, ⟨g1, fun z => absurd h1 z⟩, trivial, σ, σ0, σ1, ρ, r0, r1, g2⟩
  simp only [if_neg h1]
  obtain ⟨k, hk, rfl⟩ := wi_of (n := 3) (by decide) h1
  have hy : nI k = 0 ∨ nI k = 1 ∨ nI k = 2 ∨ nI k = 3 := by
    have : k = 0 ∨ k = 1 ∨ k = 2 ∨ k = 3 := by omega
    rcases this with rfl | rfl | rfl | rfl
    · exact Or.inl rfl
    · exact Or.inr (Or.inl rfl)
    · exact Or.inr (Or.inr (Or.inl rfl))
    · exact Or.inr (Or.inr (Or.inr rfl))
  obtain ⟨e1, e2, e3⟩ := op_lp w hy (σ 0 0) 0 fF fF 0 (by omega) (fF_gt (by omega)) (fF_gt (by omega))
  exact ⟨fun _ => e2, ⟨g1, fun _ => e3⟩, e1, σ, σ0, σ1, ρ, r0, r1, g2⟩
