section
variable {σ : sg_T} {μ ν : fm_T}
theorem se_c (w : WR σ (blk μ 8) (fL μ 25) (fI ν 2) (fL ν 5)) : (fI μ 35 0 = nI (σ 0 9) ∧ fI μ 35 1 = nI (σ 0 10) ∧ fI μ 35 2 = nI (σ 0 11) ∧ fI μ 35 3 = nI (σ 0 12)) ∧ (fI ν 2 4 = nI (σ 0 9) ∧ fI ν 2 5 = nI (σ 0 10) ∧ fI ν 2 6 = nI (σ 0 11) ∧ fI ν 2 7 = nI (σ 0 12)) := ⟨⟨(wr_hc w).2.1 0 (by decide), (wr_hc w).2.1 1 (by decide), (wr_hc w).2.1 2 (by decide), (wr_hc w).2.1 3 (by decide)⟩, ⟨(wr_hm w).2.1 0 (by decide), (wr_hm w).2.1 1 (by decide), (wr_hm w).2.1 2 (by decide), (wr_hm w).2.1 3 (by decide)⟩⟩
theorem nI_m1 {k : Nat} (h : k < 2 ^ 31) : ¬ nI k = -1 := by
  rw [eq_ti, ti_m1, ti_nI h]
  omega
theorem un_lp (w : WR σ (blk μ 8) (fL μ 25) (fI ν 2) (fL ν 5)) {d : Nat} (hd : d ≤ 199) (y : Int32) : ∀ (c i n n' k : Nat) (x4 x5 : Int32), i + c = σ 0 0 → c < n → c < n' → k ≤ i → (k = 0 ↔ x5 = -1) → lX11_unfetched_h29 n μ (nI d) y (nI k) x4 x5 (nI i) = lX12_unfetched_h42 n' ν (nI d) y (nI k) x4 x5 (nI i) ∧ qX11_unfetched_h29 n μ (nI d) y (nI k) x4 x5 (nI i) ∧ qX12_unfetched_h42 n' ν (nI d) y (nI k) x4 x5 (nI i) := by
  obtain ⟨cN, mN, hN⟩ := wr_S w
  obtain ⟨cT, mT, hT⟩ := wr_T w
  obtain ⟨⟨-, c35, -⟩, ⟨-, m5, -⟩⟩ := se_c w
  have hs := (wr_hw w).2.1
  intro c
  induction c with
  | zero =>
    intro i n n' k x4 x5 h1 h2 h3 hk hx
    obtain ⟨n, rfl⟩ : ∃ m, n = m + 1 := ⟨n - 1, by omega⟩
    obtain ⟨n', rfl⟩ : ∃ m, n' = m + 1 := ⟨n' - 1, by omega⟩
    have e : nI (σ 0 0) ≤ nI i := (nI_leI (by omega) (by omega)).mpr (by omega)
    simp only [lX11_unfetched_h29, lX12_unfetched_h42, qX11_unfetched_h29, qX12_unfetched_h42, gX12_tickets, cN, mN, if_pos e]
    exact ⟨trivial, fun z => absurd e z, fun z => absurd e z⟩
  | succ c ih =>
    intro i n n' k x4 x5 h1 h2 h3 hk hx
    obtain ⟨n, rfl⟩ : ∃ m, n = m + 1 := ⟨n - 1, by omega⟩
    obtain ⟨n', rfl⟩ : ∃ m, n' = m + 1 := ⟨n' - 1, by omega⟩
    have hi : i < σ 0 0 := by omega
    have e : ¬ nI (σ 0 0) ≤ nI i := fun z => by have := (nI_leI (by omega) (by omega)).mp z; omega
    have o7 : gX8_of μ (nI i) 7 = nI (σ 1 (14 * i + 7)) ∧ pX8_of μ (nI i) 7 := of_c w (j := 7) hi (by omega)
    have o8 : gX8_of μ (nI i) 8 = nI (σ 1 (14 * i + 8)) ∧ pX8_of μ (nI i) 8 := of_c w (j := 8) hi (by omega)
    have m6 : gX12_of ν (nI i) 6 = nI (σ 1 (14 * i + 6)) ∧ pX12_of ν (nI i) 6 := of_m w (j := 6) hi (by omega)
    have m7 : gX12_of ν (nI i) 7 = nI (σ 1 (14 * i + 7)) ∧ pX12_of ν (nI i) 7 := of_m w (j := 7) hi (by omega)
    have m8 : gX12_of ν (nI i) 8 = nI (σ 1 (14 * i + 8)) ∧ pX12_of ν (nI i) 8 := of_m w (j := 8) hi (by omega)
    have bt := (w.2.2.1.2.1 i hi).1
    have s1 := st_c w (t := i) (d := d) (k := σ 0 3) (by omega) (by omega) (by omega)
    have s2 := st_m w (t := i) (d := d) (k := σ 0 3) (by omega) (by omega) (by omega)
    have k6 : nI d < nI (σ 1 (14 * i + 6)) ↔ d < σ 1 (14 * i + 6) := nI_ltI (by omega) (by omega)
    have k7 : nI d < nI (σ 1 (14 * i + 7) + σ 0 10) ↔ d < σ 1 (14 * i + 7) + σ 0 10 := nI_ltI (by omega) (by omega)
    have kk : nI k = 0 ↔ x5 = -1 := (nI_eq (b := 0) (by omega) (by omega)).trans hx
    obtain ⟨i1, i2, i3⟩ := ih (i + 1) n n' k x4 x5 (by omega) (by omega) (by omega) (by omega) hx
    simp only [lX11_unfetched_h29, lX12_unfetched_h42, qX11_unfetched_h29, qX12_unfetched_h42, gX11_isUnfetched, pX11_isUnfetched, gX12_tickets, gX12_today, cN, mN, cT, mT, if_neg e, nI_1, o7.1, o8.1, m6.1, m7.1, m8.1, c35, m5, nI_add, s1.1, s2.1, k6, k7, kk]
    by_cases a1 : d < σ 1 (14 * i + 7) + σ 0 10
    · simp only [if_pos a1]
      refine ⟨?_, fun _ => ⟨⟨o7.2, fun z => absurd a1 z⟩, fun _ => i2, fun z => absurd trivial z⟩, fun _ => ⟨m6.2, fun _ => i3, fun _ => ⟨m7.2, fun _ => i3, fun z => absurd a1 z⟩⟩⟩
      simpa only [ite_self, if_true] using i1
    · have a2 : ¬ d < σ 1 (14 * i + 6) := by omega
      simp only [if_neg a1, if_neg a2]
      by_cases a3 : nI (stD σ i d (σ 0 3) (σ 0 1)).1 = 2
      · simp only [if_pos a3, show ¬ (1 : Int32) = 0 by decide, if_false]
        by_cases a4 : x5 = -1
        · obtain ⟨j1, j2, j3⟩ := ih (i + 1) n n' (k + 1) (x4 + nI (σ 1 (14 * i + 8))) (nI i) (by omega) (by omega) (by omega) (by omega) ⟨fun z => by omega, fun z => absurd z (nI_m1 (by omega))⟩
          simp only [if_pos a4]
          exact ⟨j1, fun _ => ⟨⟨o7.2, fun _ => s1.2⟩, fun z => absurd z (by decide), fun _ => ⟨o8.2, fun z => absurd a4 z, fun _ => j2⟩⟩, fun _ => ⟨m6.2, fun z => absurd z a2, fun _ => ⟨m7.2, fun z => absurd z a1, fun _ => ⟨s2.2, fun _ => ⟨fun z => absurd a4 z, fun _ => ⟨m8.2, j3⟩⟩, fun z => absurd a3 z⟩⟩⟩⟩
        · obtain ⟨j1, j2, j3⟩ := ih (i + 1) n n' (k + 1) (x4 + nI (σ 1 (14 * i + 8))) x5 (by omega) (by omega) (by omega) (by omega) ⟨fun z => by omega, fun z => absurd z a4⟩
          simp only [if_neg a4]
          exact ⟨j1, fun _ => ⟨⟨o7.2, fun _ => s1.2⟩, fun z => absurd z (by decide), fun _ => ⟨o8.2, fun _ => j2, fun z => absurd z a4⟩⟩, fun _ => ⟨m6.2, fun z => absurd z a2, fun _ => ⟨m7.2, fun z => absurd z a1, fun _ => ⟨s2.2, fun _ => ⟨fun _ => ⟨m8.2, j3⟩, fun z => absurd z a4⟩, fun z => absurd a3 z⟩⟩⟩⟩
      · simp only [if_neg a3, if_true]
        exact ⟨i1, fun _ => ⟨⟨o7.2, fun _ => s1.2⟩, fun _ => i2, fun z => absurd trivial z⟩, fun _ => ⟨m6.2, fun z => absurd z a2, fun _ => ⟨m7.2, fun z => absurd z a1, fun _ => ⟨s2.2, fun z => absurd z a3, fun _ => i3⟩⟩⟩⟩
end
theorem ok_unfetched : ob_unfetched RR := by
  rintro μ ν x1 x2 ⟨σ, σ0, σ1, ρ, r0, r1, h⟩
  obtain ⟨g1, g2, g3⟩ := lay0 h
  generalize hν : uX12_lay (fm_i ν 0 0 0) = ν1 at g2 g3
  have w := RS_WR g2 g3
  have hS := (wr_S w).2.2
  unfold pX11_unfetched pX12_unfetched gX11_unfetched gX12_unfetched uX12_unfetched gX11_isDay pX11_isDay
  rw [hν]
  simp only [isI (μ := μ), ite_self]
  by_cases h1 : gX11_within μ x1 0 199 = 0
  · simp only [if_pos h1]
    exact ⟨⟨wi_01 _ _ _ _, fun z => absurd h1 z⟩, ⟨g1, fun z => absurd h1 z⟩, trivial, σ, σ0, σ1, ρ, r0, r1, g2⟩
  by_cases h2 : gX11_within μ x2 0 2 = 0
  · simp only [if_neg h1, if_pos h2]
    exact ⟨⟨wi_01 _ _ _ _, fun _ z => absurd h2 z⟩, ⟨g1, fun _ z => absurd h2 z⟩, trivial, σ, σ0, σ1, ρ, r0, r1, g2⟩
  simp only [if_neg h1, if_neg h2]
  obtain ⟨d, hd, rfl⟩ := wi_of (n := 199) (by decide) h1
  obtain ⟨e1, e2, e3⟩ := un_lp w hd x2 (σ 0 0) 0 fF fF 0 0 (-1) (by omega) (fF_gt (by omega)) (fF_gt (by omega)) (by omega) ⟨fun _ => rfl, fun _ => rfl⟩
  exact ⟨⟨wi_01 _ _ _ _, fun _ _ => e2⟩, ⟨g1, fun _ _ => e3⟩, e1, σ, σ0, σ1, ρ, r0, r1, g2⟩
