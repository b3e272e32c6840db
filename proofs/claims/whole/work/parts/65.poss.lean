section
variable {σ : sg_T} {μ ν : fm_T}
theorem cm_lp (w : WR σ (blk μ 8) (fL μ 25) (fI ν 2) (fL ν 5)) {t : Nat} (ht : t < 1000) : ∀ (c i n : Nat), i + c = σ 0 2 → c < n → ((lX12_isClaimed_h2 n ν (nI t) (nI i) = 1 ∧ ∃ k, i ≤ k ∧ k < σ 0 2 ∧ σ 23 k = t) ∨ (lX12_isClaimed_h2 n ν (nI t) (nI i) = 0 ∧ ∀ k, i ≤ k → k < σ 0 2 → σ 23 k ≠ t)) ∧ qX12_isClaimed_h2 n ν (nI t) (nI i) := by
  obtain ⟨cN, mN, hN⟩ := wr_K w
  intro c
  induction c with
  | zero =>
    intro i n h1 h2
    obtain ⟨n, rfl⟩ : ∃ m, n = m + 1 := ⟨n - 1, by omega⟩
    have e : nI (σ 0 2) ≤ nI i := (nI_leI (by omega) (by omega)).mpr (by omega)
    simp only [lX12_isClaimed_h2, qX12_isClaimed_h2, mN, if_pos e]
    exact ⟨Or.inr ⟨trivial, fun k a b => by omega⟩, fun z => absurd e z⟩
  | succ c ih =>
    intro i n h1 h2
    obtain ⟨n, rfl⟩ : ∃ m, n = m + 1 := ⟨n - 1, by omega⟩
    have e : ¬ nI (σ 0 2) ≤ nI i := fun z => by have := (nI_leI (by omega) (by omega)).mp z; omega
    have m1 : fI ν 2 (140 + i) = nI (σ 23 i) := w.2.1.2.2.2.2.2.2.1 i (by omega)
    have b1 : σ 23 i < σ 0 0 := w.2.2.1.2.2.2.2.2.2.1 i (by omega)
    have hS := (wr_S w).2.2
    have e1 : (140 : Int32) + nI i = nI (140 + i) := by simp only [li_n, nI_add]
    have ihx := ih (i + 1) n (by omega) (by omega)
    simp only [lX12_isClaimed_h2, qX12_isClaimed_h2, mN, if_neg e, e1, nI_1]
    rw [nI_clamp (by omega), m1]
    have k1 : (nI (σ 23 i) = nI t) ↔ σ 23 i = t := nI_eq (by omega) (by omega)
    simp only [k1]
    refine ⟨?_, fun _ => ⟨vp_in_nI (by omega) (by decide), fun _ => ihx.2⟩⟩
    by_cases a : σ 23 i = t
    · rw [if_pos a]
      exact Or.inl ⟨rfl, i, by omega, by omega, a⟩
    · rw [if_neg a]
      rcases ihx.1 with ⟨f, k, h1, h2, h3⟩ | ⟨f, h⟩
      · exact Or.inl ⟨f, k, by omega, h2, h3⟩
      · refine Or.inr ⟨f, fun k h1 h2 h3 => ?_⟩
        rcases Nat.eq_or_lt_of_le h1 with rfl | h1
        · exact a h3
        · exact h k h1 h2 h3
theorem cm_ok (w : WR σ (blk μ 8) (fL μ 25) (fI ν 2) (fL ν 5)) {t : Nat} (ht : t < σ 0 0) : gX12_isClaimed ν (nI t) = nI (σ 1 (14 * t + 11)) ∧ pX12_isClaimed ν (nI t) ∧ σ 1 (14 * t + 11) ≤ 1 := by
  have hS := (wr_S w).2.2
  have hK := (wr_K w).2.2
  obtain ⟨e1, e2⟩ := cm_lp w (t := t) (by omega) (σ 0 2) 0 fF (by omega) (fF_gt (by omega))
  have h := (w.2.2.1.2.1 t ht).2.1
  refine ⟨?_, e2, by omega⟩
  unfold gX12_isClaimed
  rcases h with ⟨h1, k, h2, h3⟩ | ⟨h1, h2⟩
  · rw [h1]
    rcases e1 with ⟨f, -⟩ | ⟨f, z⟩
    · exact f
    · exact absurd h3 (z k (by omega) h2)
  · rw [h1]
    rcases e1 with ⟨f, k, z1, z2, z3⟩ | ⟨f, z⟩
    · exact absurd z3 (h2 k z2)
    · exact f
theorem ic_ok (w : WR σ (blk μ 8) (fL μ 25) (fI ν 2) (fL ν 5)) {t : Nat} (ht : t < σ 0 0) : gX8_isCleaned μ (nI t) = gX12_isIn ν (gX12_standsNow ν (nI t)) 1 3 ∧ pX8_isCleaned μ (nI t) := by
  have o12 : gX8_of μ (nI t) 12 = nI (σ 1 (14 * t + 12)) ∧ pX8_of μ (nI t) 12 := of_c w (j := 12) ht (by omega)
  unfold gX8_isCleaned pX8_isCleaned
  rw [o12.1, (st_now w ht).1]
  exact ⟨rfl, o12.2, wi_01 _ _ _ _⟩
theorem hc_ok (w : WR σ (blk μ 8) (fL μ 25) (fI ν 2) (fL ν 5)) {t : Nat} (hi : t < σ 0 0) (y : Int32) : gX11_hasCause μ (nI t) y = gX12_hasCause ν (nI t) y ∧ pX11_hasCause μ (nI t) y ∧ pX12_hasCause ν (nI t) y := by
  have o9 : gX8_of μ (nI t) 9 = nI (σ 1 (14 * t + 9)) ∧ pX8_of μ (nI t) 9 := of_c w (j := 9) hi (by omega)
  have o5 : gX8_of μ (nI t) 5 = nI (σ 1 (14 * t + 5)) ∧ pX8_of μ (nI t) 5 := of_c w (j := 5) hi (by omega)
  have o0 : gX8_of μ (nI t) 0 = nI (σ 1 (14 * t + 0)) ∧ pX8_of μ (nI t) 0 := of_c w (j := 0) hi (by omega)
  have m9 : gX12_of ν (nI t) 9 = nI (σ 1 (14 * t + 9)) ∧ pX12_of ν (nI t) 9 := of_m w (j := 9) hi (by omega)
  have m5 : gX12_of ν (nI t) 5 = nI (σ 1 (14 * t + 5)) ∧ pX12_of ν (nI t) 5 := of_m w (j := 5) hi (by omega)
  have m0 : gX12_of ν (nI t) 0 = nI (σ 1 (14 * t + 0)) ∧ pX12_of ν (nI t) 0 := of_m w (j := 0) hi (by omega)
  unfold gX11_hasCause gX12_hasCause pX11_hasCause pX12_hasCause
  rw [o9.1, o5.1, o0.1, m9.1, m5.1, m0.1]
  refine ⟨?_, ⟨fun _ => ⟨fun _ _ => o9.2, fun _ => o0.2⟩, fun _ => o5.2⟩, ⟨fun _ => ⟨fun _ => m5.2, fun _ => m0.2⟩, fun _ _ => m9.2⟩⟩
  have t1 : (100 : Int32).toInt = 100 := rfl
  have t2 : (200 : Int32).toInt = 200 := rfl
  by_cases a1 : y < 200
  · have a2 : ¬ 200 ≤ y := by rw [lt_ti, t2] at a1; rw [le_ti, t2]; omega
    by_cases a3 : y < 100
    · have a4 : ¬ 100 ≤ y := by rw [lt_ti, t1] at a3; rw [le_ti, t1]; omega
      rw [if_pos a1, if_pos a3, if_neg a4]
    · have a4 : 100 ≤ y := by rw [lt_ti, t1] at a3; rw [le_ti, t1]; omega
      rw [if_pos a1, if_neg a3, if_pos a4, if_neg a2]
  · have a2 : 200 ≤ y := by rw [lt_ti, t2] at a1; rw [le_ti, t2]; omega
    have a4 : 100 ≤ y := by rw [le_ti, t2] at a2; rw [le_ti, t1]; omega
    rw [if_neg a1, if_pos a4, if_pos a2]
theorem po_lp (w : WR σ (blk μ 8) (fL μ 25) (fI ν 2) (fL ν 5)) (y : Int32) : ∀ (c i n n' : Nat) (x : Int32), i + c = σ 0 0 → c < n → c < n' → (x = 0 ∨ x = 1) → lX11_isPossible_h4 n μ y x (nI i) = lX12_isPossible_h4 n' ν y x (nI i) ∧ qX11_isPossible_h4 n μ y x (nI i) ∧ qX12_isPossible_h4 n' ν y x (nI i) ∧ (y ≤ 0 → lX11_isPossible_h4 n μ y x (nI i) = x) := by
  obtain ⟨cN, mN, hN⟩ := wr_S w
  intro c
  induction c with
  | zero =>
    intro i n n' x h1 h2 h3 hx
    obtain ⟨n, rfl⟩ : ∃ m, n = m + 1 := ⟨n - 1, by omega⟩
    obtain ⟨n', rfl⟩ : ∃ m, n' = m + 1 := ⟨n' - 1, by omega⟩
    have e : nI (σ 0 0) ≤ nI i := (nI_leI (by omega) (by omega)).mpr (by omega)
    simp only [lX11_isPossible_h4, lX12_isPossible_h4, qX11_isPossible_h4, qX12_isPossible_h4, gX12_tickets, cN, mN, if_pos e]
    exact ⟨trivial, ⟨fun _ => hx, fun z => absurd e z⟩, ⟨fun _ => hx, fun z => absurd e z⟩, fun _ => trivial⟩
  | succ c ih =>
    intro i n n' x h1 h2 h3 hx
    obtain ⟨n, rfl⟩ : ∃ m, n = m + 1 := ⟨n - 1, by omega⟩
    obtain ⟨n', rfl⟩ : ∃ m, n' = m + 1 := ⟨n' - 1, by omega⟩
    have hi : i < σ 0 0 := by omega
    have e : ¬ nI (σ 0 0) ≤ nI i := fun z => by have := (nI_leI (by omega) (by omega)).mp z; omega
    obtain ⟨f1, f2⟩ := ic_ok w hi
    obtain ⟨k1, k2, k3⟩ := hc_ok w hi y
    obtain ⟨d1, d2, -⟩ := cm_ok w hi
    have o11 : gX8_of μ (nI i) 11 = nI (σ 1 (14 * i + 11)) ∧ pX8_of μ (nI i) 11 := of_c w (j := 11) hi (by omega)
    have sn := (st_now w hi).2.1
    obtain ⟨i1, i2, i3, i4⟩ := ih (i + 1) n n' x (by omega) (by omega) (by omega) hx
    obtain ⟨j1, j2, j3, j4⟩ := ih (i + 1) n n' 1 (by omega) (by omega) (by omega) (Or.inr rfl)
    have y0 : y ≤ 0 → gX12_hasCause ν (nI i) y = 0 := fun hy => by
      unfold gX12_hasCause
      have a4 : ¬ 100 ≤ y := by rw [le_ti, show (0 : Int32).toInt = 0 from rfl] at hy; rw [le_ti, show (100 : Int32).toInt = 100 from rfl]; omega
      rw [if_neg a4, if_pos hy]
    simp only [lX11_isPossible_h4, lX12_isPossible_h4, qX11_isPossible_h4, qX12_isPossible_h4, gX12_tickets, cN, mN, if_neg e, nI_1, f1, k1, d1, o11.1, i1, j1]
    refine ⟨?_, ⟨fun z => absurd z e, fun _ => ⟨f2, fun _ => i2, fun _ => ⟨k2, fun _ => i2, fun _ => ⟨o11.2, fun _ => j2⟩⟩⟩⟩, ⟨fun z => absurd z e, fun _ => ⟨k3, fun _ => i3, fun _ => ⟨sn, fun _ => ⟨d2, fun _ => j3⟩, fun _ => i3⟩⟩⟩, fun hy => ?_⟩
    · by_cases a1 : gX12_isIn ν (gX12_standsNow ν (nI i)) 1 3 = 0
      · simp only [if_pos a1, ite_self]
      · simp only [if_neg a1]
    · rw [if_pos (y0 hy), ite_self, ← i1]
      exact i4 hy
end
theorem ok_possible : ob_possible RR := by
  rintro μ ν x1 ⟨σ, σ0, σ1, ρ, r0, r1, h⟩
  obtain ⟨g1, g2, g3⟩ := lay0 h
  generalize hν : uX12_lay (fm_i ν 0 0 0) = ν1 at g2 g3
  have w := RS_WR g2 g3
  have hS := (wr_S w).2.2
  obtain ⟨e1, e2, e3, e4⟩ := po_lp w x1 (σ 0 0) 0 fF fF 0 (by omega) (fF_gt (by omega)) (fF_gt (by omega)) (Or.inl rfl)
  unfold pX11_possible pX12_possible gX11_possible gX12_possible uX12_possible gX11_isPossible gX12_isPossible pX11_isPossible pX12_isPossible
  rw [hν]
  simp only [ite_self]
  refine ⟨e2, ⟨g1, fun _ => e3⟩, ?_, σ, σ0, σ1, ρ, r0, r1, g2⟩
  have e1 : lX11_isPossible_h4 fF μ x1 0 0 = lX12_isPossible_h4 fF ν1 x1 0 0 := e1
  by_cases h1 : x1 < 0
  · have e5 : lX11_isPossible_h4 fF μ x1 0 0 = 0 := e4 (by rw [lt_ti] at h1; rw [le_ti]; omega)
    rw [if_pos h1, if_pos e5]
  · rw [if_neg h1, e1]
