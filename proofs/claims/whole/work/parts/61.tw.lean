section
variable {σ : sg_T} {μ ν : fm_T}
theorem tw_lp (w : WR σ (blk μ 8) (fL μ 25) (fI ν 2) (fL ν 5)) {t : Nat} (ht : t < 40) : ∀ (c i n n' : Nat) (x : Int32), i + c = σ 0 1 → c < n → c < n' → lX8_wasDoneTwice_h4 n μ (nI t) x (nI i) = lX12_isTwice_h4 n' ν (nI t) x (nI i) ∧ qX8_wasDoneTwice_h4 n μ (nI t) x (nI i) ∧ qX12_isTwice_h4 n' ν (nI t) x (nI i) := by
  obtain ⟨cN, mN, hN⟩ := wr_N w
  intro c
  induction c with
  | zero =>
    intro i n n' x h1 h2 h3
    obtain ⟨n, rfl⟩ : ∃ m, n = m + 1 := ⟨n - 1, by omega⟩
    obtain ⟨n', rfl⟩ : ∃ m, n' = m + 1 := ⟨n' - 1, by omega⟩
    have e : nI (σ 0 1) ≤ nI i := (nI_leI (by omega) (by omega)).mpr (by omega)
    simp only [lX8_wasDoneTwice_h4, lX12_isTwice_h4, qX8_wasDoneTwice_h4, qX12_isTwice_h4, cN, mN, if_pos e]
    exact ⟨trivial, fun z => absurd e z, fun z => absurd e z⟩
  | succ c ih =>
    intro i n n' x h1 h2 h3
    obtain ⟨n, rfl⟩ : ∃ m, n = m + 1 := ⟨n - 1, by omega⟩
    obtain ⟨n', rfl⟩ : ∃ m, n' = m + 1 := ⟨n' - 1, by omega⟩
    have e : ¬ nI (σ 0 1) ≤ nI i := fun z => by have := (nI_leI (by omega) (by omega)).mp z; omega
    obtain ⟨⟨c1, c2, c3, c4⟩, ⟨m1, m2, m3⟩, b1, b2, b3, b4, b5, b6⟩ := wr_n w (n := i) (by omega)
    have hS := (wr_S w).2.2
    have hT := (wr_T w).2.2
    have e1 : (640 : Int32) + (3 : Int32) * nI i = nI (640 + 3 * i) := by simp only [li_n, nI_mul, nI_add]
    have e2 : nI (640 + 3 * i) + 1 = nI (641 + 3 * i) := by rw [nI_1]; congr 1; omega
    have e3 : (8 : Int32) * nI t + 1 = nI (8 * t + 1) := by simp only [li_n, nI_mul, nI_add]
    have ihx := ih (i + 1) n n' x (by omega) (by omega) (by omega)
    have ihy := ih (i + 1) n n' (nI (σ 4 i)) (by omega) (by omega) (by omega)
    simp only [lX8_wasDoneTwice_h4, lX12_isTwice_h4, qX8_wasDoneTwice_h4, qX12_isTwice_h4, cN, mN, if_neg e, e1, e2, e3]
    rw [nI_clamp (by omega), nI_clamp (by omega), nI_clamp (by omega), c1, c2, c3, m1, m2, nI_1]
    have k1 : (nI (σ 2 i) = nI t) ↔ σ 2 i = t := nI_eq (by omega) (by omega)
    have k2 : (nI (σ 3 i) = 1) ↔ σ 3 i = 1 := nI_eq (b := 1) (by omega) (by omega)
    have k3 : (nI (8 * σ 2 i + σ 3 i) = nI (8 * t + 1)) ↔ (σ 2 i = t ∧ σ 3 i = 1) := (nI_eq (by omega) (by omega)).trans (by omega)
    have v1 : vp_in (nI i) 240 := vp_in_nI (by omega) (by decide)
    have v2 : vp_in (nI (640 + 3 * i)) 2560 := vp_in_nI (by omega) (by decide)
    have v3 : vp_in (nI (641 + 3 * i)) 2560 := vp_in_nI (by omega) (by decide)
    simp only [k1, k2, k3]
    by_cases a1 : σ 2 i = t
    · by_cases a2 : σ 3 i = 1
      · simp only [a1, a2, if_true, and_self, not_true_eq_false, false_implies, true_and, true_implies, e, not_false_eq_true, v1, v2, v3]
        by_cases a3 : x = -1
        · simp only [a3, if_true, ihy.1, ihy.2.1, ihy.2.2, not_true_eq_false, false_implies, and_self, implies_true]
        · simp only [a3, if_false, not_false_eq_true, true_implies, false_implies, true_and]
          by_cases a4 : nI (σ 4 i) = x
          · simp only [a4, if_true, ihx.1, ihx.2.1, ihx.2.2, and_self, implies_true]
          · simp only [a4, if_false, false_implies, and_self]
      · simp only [a1, a2, if_true, if_false, and_false, not_false_eq_true, not_true_eq_false, false_implies, true_and, true_implies, e, v1, v2, v3, ihx.1, ihx.2.1, ihx.2.2, and_self]
    · simp only [a1, if_false, false_and, not_false_eq_true, false_implies, true_and, true_implies, e, v1, v2, v3, ihx.1, ihx.2.1, ihx.2.2, and_self, and_true]
theorem tw_ok (w : WR σ (blk μ 8) (fL μ 25) (fI ν 2) (fL ν 5)) {t : Nat} (ht : t < 40) : gX8_wasDoneTwice μ (nI t) = gX12_isTwice ν (nI t) ∧ pX8_wasDoneTwice μ (nI t) ∧ pX12_isTwice ν (nI t) := tw_lp w ht (σ 0 1) 0 fF fF (-1) (by omega) (fF_gt (by have := (wr_N w).2.2; omega)) (fF_gt (by have := (wr_N w).2.2; omega))
theorem tw_lq (w : WR σ (blk μ 8) (fL μ 25) (fI ν 2) (fL ν 5)) (y : Int32) : ∀ (c i n n' : Nat) (x : Int32), i + c = σ 0 0 → c < n → c < n' → lX11_twice_h42 n μ y x (nI i) = lX12_twice_h48 n' ν y x (nI i) ∧ qX11_twice_h42 n μ y x (nI i) ∧ qX12_twice_h48 n' ν y x (nI i) := by
  obtain ⟨cN, mN, hN⟩ := wr_S w
  intro c
  induction c with
  | zero =>
    intro i n n' x h1 h2 h3
    obtain ⟨n, rfl⟩ : ∃ m, n = m + 1 := ⟨n - 1, by omega⟩
    obtain ⟨n', rfl⟩ : ∃ m, n' = m + 1 := ⟨n' - 1, by omega⟩
    have e : nI (σ 0 0) ≤ nI i := (nI_leI (by omega) (by omega)).mpr (by omega)
    simp only [lX11_twice_h42, lX12_twice_h48, qX11_twice_h42, qX12_twice_h48, gX12_tickets, cN, mN, if_pos e]
    exact ⟨trivial, fun z => absurd e z, fun z => absurd e z⟩
  | succ c ih =>
    intro i n n' x h1 h2 h3
    obtain ⟨n, rfl⟩ : ∃ m, n = m + 1 := ⟨n - 1, by omega⟩
    obtain ⟨n', rfl⟩ : ∃ m, n' = m + 1 := ⟨n' - 1, by omega⟩
    have e : ¬ nI (σ 0 0) ≤ nI i := fun z => by have := (nI_leI (by omega) (by omega)).mp z; omega
    obtain ⟨f1, f2, f3⟩ := tw_ok w (t := i) (by omega)
    have ihx := ih (i + 1) n n' x (by omega) (by omega) (by omega)
    have ihy := ih (i + 1) n n' (x + 1) (by omega) (by omega) (by omega)
    simp only [lX11_twice_h42, lX12_twice_h48, qX11_twice_h42, qX12_twice_h48, gX12_tickets, cN, mN, if_neg e, nI_1, f1, Int32.add_zero]
    by_cases a1 : gX12_isTwice ν (nI i) = 0
    · simp only [if_pos a1]
      exact ⟨ihx.1, fun _ => ⟨f2, fun _ => ihx.2.1, fun z => absurd a1 z⟩, fun _ => ⟨f3, fun _ => ihx.2.2, fun z => absurd a1 z⟩⟩
    · simp only [if_neg a1]
      exact ⟨ihy.1, fun _ => ⟨f2, fun z => absurd z a1, fun _ => ihy.2.1⟩, fun _ => ⟨f3, fun z => absurd z a1, fun _ => ihy.2.2⟩⟩
end
theorem ok_twice : ob_twice RR := by
  rintro μ ν x1 ⟨σ, σ0, σ1, ρ, r0, r1, h⟩
  obtain ⟨g1, g2, g3⟩ := lay0 h
  generalize hν : uX12_lay (fm_i ν 0 0 0) = ν1 at g2 g3
  have w := RS_WR g2 g3
  obtain ⟨cS, mS, hS⟩ := wr_S w
  have hT := isT (x := x1) (by omega) cS mS
  unfold pX11_twice pX12_twice gX11_twice gX12_twice uX12_twice
  rw [hν]
  simp only [hT, ite_self]
  by_cases h0 : x1 = -1
  · obtain ⟨e1, e2, e3⟩ := tw_lq w x1 (σ 0 0) 0 fF fF 0 (by omega) (fF_gt (by omega)) (fF_gt (by omega))
    simp only [if_pos h0]
    exact ⟨⟨fun _ => e2, fun z => absurd h0 z⟩, ⟨g1, fun _ => e3, fun z => absurd h0 z⟩, e1, σ, σ0, σ1, ρ, r0, r1, g2⟩
  by_cases h1 : gX11_isTicket μ x1 = 0
  · simp only [if_neg h0, if_pos h1]
    exact ⟨⟨fun z => absurd z h0, fun _ => ⟨wi_01 _ _ _ _, fun z => absurd h1 z⟩⟩, ⟨g1, fun z => absurd z h0, fun _ z => absurd h1 z⟩, trivial, σ, σ0, σ1, ρ, r0, r1, g2⟩
  simp only [if_neg h0, if_neg h1]
  obtain ⟨t, ht, rfl⟩ := isT_of (by omega) cS h1
  obtain ⟨f1, f2, f3⟩ := tw_ok w (t := t) (by omega)
  refine ⟨⟨fun z => absurd z h0, fun _ => ⟨wi_01 _ _ _ _, fun _ => f2⟩⟩, ⟨g1, fun z => absurd z h0, fun _ _ => f3⟩, ?_, σ, σ0, σ1, ρ, r0, r1, g2⟩
  rw [f1]
