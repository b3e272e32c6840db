section
variable {σ : sg_T} {μ ν : fm_T}
theorem dc_lp (w : WR σ (blk μ 8) (fL μ 25) (fI ν 2) (fL ν 5)) {t : Nat} (ht : t < σ 0 0) : ∀ (c i n n' : Nat) (x : Int32), i + c = σ 0 1 → c < n → c < n' → ((lX8_daysToCounter_h5 n μ (nI t) (nI (σ 0 3)) x (nI i) = lX12_cameTo_h4 n' ν (nI t) x (nI i) - nI (σ 1 (14 * t + 6))) ∨ (lX8_daysToCounter_h5 n μ (nI t) (nI (σ 0 3)) x (nI i) = 0 ∧ lX12_cameTo_h4 n' ν (nI t) x (nI i) = -1)) ∧ qX8_daysToCounter_h5 n μ (nI t) (nI (σ 0 3)) x (nI i) ∧ qX12_cameTo_h4 n' ν (nI t) x (nI i) := by
  obtain ⟨cN, mN, hN⟩ := wr_N w
  obtain ⟨-, mT, hT⟩ := wr_T w
  intro c
  induction c with
  | zero =>
    intro i n n' x h1 h2 h3
    obtain ⟨n, rfl⟩ : ∃ m, n = m + 1 := ⟨n - 1, by omega⟩
    obtain ⟨n', rfl⟩ : ∃ m, n' = m + 1 := ⟨n' - 1, by omega⟩
    have e : nI (σ 0 1) ≤ nI i := (nI_leI (by omega) (by omega)).mpr (by omega)
    have o12 : gX8_of μ (nI t) 12 = nI (σ 1 (14 * t + 12)) ∧ pX8_of μ (nI t) 12 := of_c w (j := 12) ht (by omega)
    have o6 : gX8_of μ (nI t) 6 = nI (σ 1 (14 * t + 6)) ∧ pX8_of μ (nI t) 6 := of_c w (j := 6) ht (by omega)
    have sn := st_now w ht
    simp only [lX8_daysToCounter_h5, lX12_cameTo_h4, qX8_daysToCounter_h5, qX12_cameTo_h4, gX8_isOpen, gX12_isOpen, pX8_isOpen, pX12_isOpen, gX12_today, cN, mN, mT, if_pos e, o12.1, o6.1, sn.1]
    refine ⟨?_, ⟨fun _ => ⟨fun _ => o6.2, fun _ => ⟨o12.2, fun _ => o6.2⟩⟩, fun z => absurd e z⟩, ⟨?_, fun z => absurd e z⟩⟩
    · by_cases a1 : x = -1
      · by_cases a2 : (if 3 ≤ nI (σ 1 (14 * t + 12)) then (0 : Int32) else 1) = 0
        · simp only [if_pos a1, if_pos a2]
          exact Or.inr ⟨trivial, a1⟩
        · simp only [if_pos a1, if_neg a2]
          exact Or.inl trivial
      · simp only [if_neg a1]
        exact Or.inl trivial
    · intros
      first | exact sn.2.1 | exact ⟨sn.2.1, fun _ => trivial⟩
  | succ c ih =>
    intro i n n' x h1 h2 h3
    obtain ⟨n, rfl⟩ : ∃ m, n = m + 1 := ⟨n - 1, by omega⟩
    obtain ⟨n', rfl⟩ : ∃ m, n' = m + 1 := ⟨n' - 1, by omega⟩
    have e : ¬ nI (σ 0 1) ≤ nI i := fun z => by have := (nI_leI (by omega) (by omega)).mp z; omega
    obtain ⟨⟨c1, c2, c3, c4⟩, ⟨m1, m2, m3⟩, b1, b2, b3, b4, b5, b6⟩ := wr_n w (n := i) (by omega)
    have hS := (wr_S w).2.2
    have e1 : (640 : Int32) + (3 : Int32) * nI i = nI (640 + 3 * i) := by simp only [li_n, nI_mul, nI_add]
    have e2 : nI (640 + 3 * i) + 1 = nI (641 + 3 * i) := by rw [nI_1]; congr 1; omega
    have e3 : (8 : Int32) * nI t + 2 = nI (8 * t + 2) := by simp only [li_n, nI_mul, nI_add]
    obtain ⟨i1, i2, i3⟩ := ih (i + 1) n n' x (by omega) (by omega) (by omega)
    obtain ⟨j1, j2, j3⟩ := ih (i + 1) n n' (nI (σ 4 i)) (by omega) (by omega) (by omega)
    simp only [lX8_daysToCounter_h5, lX12_cameTo_h4, qX8_daysToCounter_h5, qX12_cameTo_h4, cN, mN, if_neg e, e1, e2, e3]
    rw [nI_clamp (by omega), nI_clamp (by omega), nI_clamp (by omega), c1, c2, c3, m1, m2, nI_1]
    have k1 : (nI (σ 2 i) = nI t) ↔ σ 2 i = t := nI_eq (by omega) (by omega)
    have k2 : (nI (σ 3 i) = 2) ↔ σ 3 i = 2 := nI_eq (b := 2) (by omega) (by omega)
    have k3 : (nI (8 * σ 2 i + σ 3 i) = nI (8 * t + 2)) ↔ (σ 2 i = t ∧ σ 3 i = 2) := (nI_eq (by omega) (by omega)).trans (by omega)
    have v1 : vp_in (nI i) 240 := vp_in_nI (by omega) (by decide)
    have v2 : vp_in (nI (640 + 3 * i)) 2560 := vp_in_nI (by omega) (by decide)
    have v3 : vp_in (nI (641 + 3 * i)) 2560 := vp_in_nI (by omega) (by decide)
    simp only [k1, k2, k3]
    refine ⟨?_, ⟨fun z => absurd z e, fun _ => ⟨v1, fun _ => i2, fun _ => ⟨v1, fun _ => i2, fun _ => ⟨fun _ => ⟨v1, j2⟩, fun _ => ⟨v1, fun _ => i2, fun _ => ⟨v1, j2⟩⟩⟩⟩⟩⟩, ⟨fun z => absurd z e, fun _ => ⟨v2, ?_⟩⟩⟩
    · by_cases a1 : σ 2 i = t
      · by_cases a2 : σ 3 i = 2
        · simp only [if_pos a1, if_pos a2, if_pos (And.intro a1 a2)]
          by_cases a3 : x = -1
          · simp only [if_pos a3]; exact j1
          · simp only [if_neg a3]
            by_cases a4 : x ≤ nI (σ 4 i)
            · simp only [if_pos a4]; exact i1
            · simp only [if_neg a4]; exact j1
        · simp only [if_pos a1, if_neg a2, if_neg (fun z : _ ∧ _ => a2 z.2)]; exact i1
      · simp only [if_neg a1, if_neg (fun z : _ ∧ _ => a1 z.1)]; exact i1
    · first | exact ⟨fun _ => i3, fun _ => ⟨fun _ => ⟨v3, j3⟩, fun _ => ⟨v3, fun _ => i3, fun _ => ⟨v3, j3⟩⟩⟩⟩ | exact ⟨fun _ => ⟨fun _ => ⟨v3, j3⟩, fun _ => ⟨v3, fun _ => i3, fun _ => ⟨v3, j3⟩⟩⟩, fun _ => i3⟩
theorem ow_lp (w : WR σ (blk μ 8) (fL μ 25) (fI ν 2) (fL ν 5)) {q d p : Nat} (hq : q < 40) (hd : σ 10 q = d + 1) (hp : σ 11 q = p) : ∀ (c i n n' : Nat) (x : Int32), i + c = σ 0 0 → c < n → c < n' → lX11_owed_h29 n μ (nI q) x (nI i) = lX12_owed_h39 n' ν (nI q) (x * nI p) (nI i) ∧ qX11_owed_h29 n μ (nI q) x (nI i) ∧ qX12_owed_h39 n' ν (nI q) (x * nI p) (nI i) := by
  obtain ⟨cN, mN, hN⟩ := wr_S w
  obtain ⟨cT, mT, hT⟩ := wr_T w
  have cq : fI μ 20 q = nI (σ 10 q) - 1 ∧ (σ 10 q ≠ 0 → fI μ 21 q = nI (σ 11 q)) ∧ fI μ 22 q = nI (σ 12 q) ∧ fI μ 23 q = nI (σ 13 q) := w.1.2.2.2.2.2.1 q hq
  have mq := (w.2.1.2.2.2.2.2.1 q hq).1
  have bq := w.2.2.1.2.2.2.2.2.1 q hq
  rw [if_neg (by omega), hd, hp] at mq
  have c20 : fI μ 20 q = nI d := by rw [cq.1, hd, show (1 : Int32) = nI 1 from rfl, nI_sub (by omega)]; rfl
  have c21 : fI μ 21 q = nI p := by rw [cq.2.1 (by omega), hp]
  have e5 : (2340 : Int32) + nI q = nI (2340 + q) := by simp only [li_n, nI_add]
  have e6 : nI (1000 * (d + 1 - 1) + p) / 1000 = nI d := by rw [show (1000 : Int32) = nI 1000 from rfl, nI_div (by omega) (by omega) (by omega)]; congr 1; omega
  have e7 : nI (1000 * (d + 1 - 1) + p) - nI d * 1000 = nI p := by rw [show (1000 : Int32) = nI 1000 from rfl, nI_mul, nI_sub (by omega)]; congr 1; omega
  have vq : vp_in (nI q) 40 := vp_in_nI hq (by decide)
  have vm : vp_in (nI (2340 + q)) 2560 := vp_in_nI (by omega) (by decide)
  intro c
  induction c with
  | zero =>
    intro i n n' x h1 h2 h3
    obtain ⟨n, rfl⟩ : ∃ m, n = m + 1 := ⟨n - 1, by omega⟩
    obtain ⟨n', rfl⟩ : ∃ m, n' = m + 1 := ⟨n' - 1, by omega⟩
    have e : nI (σ 0 0) ≤ nI i := (nI_leI (by omega) (by omega)).mpr (by omega)
    simp only [lX11_owed_h29, lX12_owed_h39, qX11_owed_h29, qX12_owed_h39, gX12_tickets, cN, mN, if_pos e]
    rw [nI_clamp (by omega), c21]
    exact ⟨rfl, ⟨fun _ => vq, fun z => absurd e z⟩, fun z => absurd e z⟩
  | succ c ih =>
    intro i n n' x h1 h2 h3
    obtain ⟨n, rfl⟩ : ∃ m, n = m + 1 := ⟨n - 1, by omega⟩
    obtain ⟨n', rfl⟩ : ∃ m, n' = m + 1 := ⟨n' - 1, by omega⟩
    have hi : i < σ 0 0 := by omega
    have e : ¬ nI (σ 0 0) ≤ nI i := fun z => by have := (nI_leI (by omega) (by omega)).mp z; omega
    have o5 : gX8_of μ (nI i) 5 = nI (σ 1 (14 * i + 5)) ∧ pX8_of μ (nI i) 5 := of_c w (j := 5) hi (by omega)
    have m5 : gX12_of ν (nI i) 5 = nI (σ 1 (14 * i + 5)) ∧ pX12_of ν (nI i) 5 := of_m w (j := 5) hi (by omega)
    have m6 : gX12_of ν (nI i) 6 = nI (σ 1 (14 * i + 6)) ∧ pX12_of ν (nI i) 6 := of_m w (j := 6) hi (by omega)
    have b6 : σ 1 (14 * i + 6) ≤ σ 0 3 := (w.2.2.1.2.1 i hi).1.2.2.2.2.2.2.2.1
    have hN := (wr_N w).2.2
    obtain ⟨d1, d2, d3⟩ := dc_lp w hi (σ 0 1) 0 fF fF (-1) (by omega) (fF_gt (by omega)) (fF_gt (by omega))
    have d1 : (gX8_daysToCounter μ (nI i) (nI (σ 0 3)) = gX12_cameTo ν (nI i) - nI (σ 1 (14 * i + 6))) ∨ (gX8_daysToCounter μ (nI i) (nI (σ 0 3)) = 0 ∧ gX12_cameTo ν (nI i) = -1) := d1
    have d2 : pX8_daysToCounter μ (nI i) (nI (σ 0 3)) := d2
    have d3 : pX12_cameTo ν (nI i) := d3
    simp only [lX11_owed_h29, lX12_owed_h39, qX11_owed_h29, qX12_owed_h39, gX12_tickets, cN, mN, cT, if_neg e, nI_1, o5.1, m5.1, m6.1, e5]
    rw [nI_clamp (by omega), nI_clamp (by omega), c20, mq, e6, e7]
    by_cases a1 : nI (σ 1 (14 * i + 5)) = nI q
    · simp only [if_pos a1]
      by_cases a2 : gX12_cameTo ν (nI i) - nI (σ 1 (14 * i + 6)) - nI d ≤ 0
      · have a3 : ¬ 0 < gX8_daysToCounter μ (nI i) (nI (σ 0 3)) - nI d := by
          rcases d1 with z | ⟨z, -⟩
          · rw [z, lt_ti]
            rw [le_ti] at a2
            omega
          · rw [z, lt_ti, ti_sub (x := -(d : Int)) (by rw [ti_nI (by omega)]; simp) (by omega) (by omega)]
            simp
        obtain ⟨i1, i2, i3⟩ := ih (i + 1) n n' x (by omega) (by omega) (by omega)
        simp only [if_pos a2, if_neg a3, Int32.add_zero]
        exact ⟨i1, ⟨fun z => absurd z e, fun _ => ⟨o5.2, fun _ => i2, fun _ => ⟨d2, vq, i2⟩⟩⟩, fun _ => ⟨m5.2, fun _ => ⟨d3, m6.2, vm, fun _ => i3, fun z => absurd a2 z⟩, fun _ => i3⟩⟩
      · have z : gX8_daysToCounter μ (nI i) (nI (σ 0 3)) = gX12_cameTo ν (nI i) - nI (σ 1 (14 * i + 6)) := by
          rcases d1 with z | ⟨-, z⟩
          · exact z
          · exfalso
            apply a2
            rw [z, le_ti, ti_sub (x := -1 - (σ 1 (14 * i + 6) : Int) - d) (by rw [ti_sub (x := -1 - (σ 1 (14 * i + 6) : Int)) (by rw [ti_m1, ti_nI (by omega)]) (by omega) (by omega), ti_nI (by omega)]) (by omega) (by omega)]
            show _ ≤ (0 : Int)
            omega
        have a3 : 0 < gX12_cameTo ν (nI i) - nI (σ 1 (14 * i + 6)) - nI d := by
          rw [lt_ti]
          rw [le_ti] at a2
          omega
        obtain ⟨i1, i2, i3⟩ := ih (i + 1) n n' (x + (gX12_cameTo ν (nI i) - nI (σ 1 (14 * i + 6)) - nI d)) (by omega) (by omega) (by omega)
        rw [Int32.add_mul] at i1 i3
        simp only [z, if_neg a2, if_pos a3]
        exact ⟨i1, ⟨fun z => absurd z e, fun _ => ⟨o5.2, fun z => absurd a1 z, fun _ => ⟨d2, vq, i2⟩⟩⟩, fun _ => ⟨m5.2, fun _ => ⟨d3, m6.2, vm, fun z => absurd z a2, fun _ => ⟨vm, i3⟩⟩, fun z => absurd a1 z⟩⟩
    · obtain ⟨i1, i2, i3⟩ := ih (i + 1) n n' x (by omega) (by omega) (by omega)
      simp only [if_neg a1]
      exact ⟨i1, ⟨fun z => absurd z e, fun _ => ⟨o5.2, fun _ => i2, fun z => absurd z a1⟩⟩, fun _ => ⟨m5.2, fun z => absurd z a1, fun _ => i3⟩⟩
end
theorem ok_owed : ob_owed RR := by
  rintro μ ν x1 ⟨σ, σ0, σ1, ρ, r0, r1, h⟩
  obtain ⟨g1, g2, g3⟩ := lay0 h
  generalize hν : uX12_lay (fm_i ν 0 0 0) = ν1 at g2 g3
  have w := RS_WR g2 g3
  have hS := (wr_S w).2.2
  unfold pX11_owed pX12_owed gX11_owed gX12_owed uX12_owed gX11_isCounter pX11_isCounter
  rw [hν]
  simp only [isI (μ := μ), ite_self]
  by_cases h1 : gX11_within μ x1 0 39 = 0
  · simp only [if_pos h1]
    exact ⟨⟨wi_01 _ _ _ _, fun z => absurd h1 z⟩, ⟨g1, fun z => absurd h1 z⟩, trivial, σ, σ0, σ1, ρ, r0, r1, g2⟩
  simp only [if_neg h1]
  obtain ⟨q, hq, rfl⟩ := wi_of (n := 39) (by decide) h1
  have cq : fI μ 20 q = nI (σ 10 q) - 1 ∧ (σ 10 q ≠ 0 → fI μ 21 q = nI (σ 11 q)) ∧ fI μ 22 q = nI (σ 12 q) ∧ fI μ 23 q = nI (σ 13 q) := w.1.2.2.2.2.2.1 q (by omega)
  have mq := (w.2.1.2.2.2.2.2.1 q (by omega)).1
  have bq := w.2.2.1.2.2.2.2.2.1 q (by omega)
  have e5 : (2340 : Int32) + nI q = nI (2340 + q) := by simp only [li_n, nI_add]
  have vq : vp_in (nI q) 40 := vp_in_nI (by omega) (by decide)
  have vm : vp_in (nI (2340 + q)) 2560 := vp_in_nI (by omega) (by decide)
  rw [e5, nI_clamp (by omega), nI_clamp (by omega)]
  by_cases h2 : σ 10 q = 0
  · have a1 : fI μ 20 q = -1 := by rw [cq.1, h2]; rfl
    have a2 : fI ν1 2 (2340 + q) = -1 := by rw [mq, if_pos h2]
    simp only [if_pos a1, if_pos a2]
    exact ⟨⟨wi_01 _ _ _ _, fun _ => ⟨vq, fun z => absurd a1 z⟩⟩, ⟨g1, fun _ => ⟨vm, fun z => absurd a2 z⟩⟩, trivial, σ, σ0, σ1, ρ, r0, r1, g2⟩
  · have a1 : ¬ fI μ 20 q = -1 := by
      rw [cq.1, eq_ti, ti_m1, ti_sub (x := (σ 10 q : Int) - 1) (by rw [ti_nI (by omega)]; rfl) (by omega) (by omega)]
      omega
    have a2 : ¬ fI ν1 2 (2340 + q) = -1 := by
      rw [mq, if_neg h2, eq_ti, ti_m1, ti_nI (by omega)]
      omega
    simp only [if_neg a1, if_neg a2]
    obtain ⟨e1, e2, e3⟩ := ow_lp w (q := q) (d := σ 10 q - 1) (p := σ 11 q) (by omega) (by omega) rfl (σ 0 0) 0 fF fF 0 (by omega) (fF_gt (by omega)) (fF_gt (by omega))
    rw [Int32.zero_mul] at e1 e3
    exact ⟨⟨wi_01 _ _ _ _, fun _ => ⟨vq, fun _ => e2⟩⟩, ⟨g1, fun _ => ⟨vm, fun _ => e3⟩⟩, e1, σ, σ0, σ1, ρ, r0, r1, g2⟩
