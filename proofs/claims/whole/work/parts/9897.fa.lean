theorem fd_rd {σ : sg_T} {μ ν : fm_T} {b : Nat → Nat} {k : Nat} (w : WR σ (blk μ 8) (fL μ 25) (fI ν 2) (fL ν 5)) (hk : k ≤ 8) (hb : ∀ i, i < 940 → fI μ 3 i = nI (b i) ∧ fI ν 1 i = nI (b i) ∧ b i ≤ 255) (x1 : Int32) : ∀ (c i n n' : Nat), i + c = k → c < n → c < n' →
    (lX11_found_h36 n μ x1 (nI k) (nI i) = -1 ∧ lX12_found_h42 n' ν x1 (nI k) (nI i) = -1 ∧ mX11_found_h36 n μ x1 (nI k) (nI i) = μ ∧ mX12_found_h42 n' ν x1 (nI k) (nI i) = ν ∧ qX11_found_h36 n μ x1 (nI k) (nI i) ∧ qX12_found_h42 n' ν x1 (nI k) (nI i)) ∨
    ((lX11_found_h36 n μ x1 (nI k) (nI i) = lX11_found_h82 fF (uX1_start μ (nI k) (fI μ 9 5)) x1 (nI k) 0 ∧ mX11_found_h36 n μ x1 (nI k) (nI i) = mX11_found_h82 fF (uX1_start μ (nI k) (fI μ 9 5)) x1 (nI k) 0 ∧ (pX1_start μ (nI k) (fI μ 9 5) → qX11_found_h82 fF (uX1_start μ (nI k) (fI μ 9 5)) x1 (nI k) 0 → qX11_found_h36 n μ x1 (nI k) (nI i))) ∧ lX12_found_h42 n' ν x1 (nI k) (nI i) = lX12_found_h140 fF ν x1 (nI k) 0 ∧ mX12_found_h42 n' ν x1 (nI k) (nI i) = mX12_found_h140 fF ν x1 (nI k) 0 ∧ (qX12_found_h140 fF ν x1 (nI k) 0 → qX12_found_h42 n' ν x1 (nI k) (nI i))) := by
  have cn := (n2_c w).2.2.1
  have mn : fI ν 2 2 = nI (σ 0 7) := (wr_hm w).1 2 (by decide)
  intro c
  induction c with
  | zero =>
    intro i n n' h1 h2 h3
    obtain ⟨n, rfl⟩ : ∃ m, n = m + 1 := ⟨n - 1, by omega⟩
    obtain ⟨n', rfl⟩ : ∃ m, n' = m + 1 := ⟨n' - 1, by omega⟩
    obtain rfl : i = k := by omega
    have e : nI i ≤ nI i := (nI_leI (by omega) (by omega)).mpr (by omega)
    simp only [lX11_found_h36, mX11_found_h36, qX11_found_h36, lX12_found_h42, mX12_found_h42, qX12_found_h42, if_pos e]
    exact Or.inr ⟨⟨trivial, trivial, fun q1 q2 => ⟨fun _ => ⟨q1, q2⟩, fun z => absurd e z⟩⟩, trivial, trivial, fun q => ⟨fun _ => q, fun z => absurd e z⟩⟩
  | succ c ih =>
    intro i n n' h1 h2 h3
    obtain ⟨n, rfl⟩ : ∃ m, n = m + 1 := ⟨n - 1, by omega⟩
    obtain ⟨n', rfl⟩ : ∃ m, n' = m + 1 := ⟨n' - 1, by omega⟩
    have e : ¬ nI k ≤ nI i := fun z => by have := (nI_leI (by omega) (by omega)).mp z; omega
    have hc : ∀ i, i < 940 → fI μ 3 i = nI (b i) ∧ b i ≤ 255 := fun i hi => ⟨(hb i hi).1, (hb i hi).2.2⟩
    have b0 := by_c hc (i := 6 * i) (by omega)
    have b1 := by_c hc (i := 6 * i + 1) (by omega)
    have b2 := by_c hc (i := 6 * i + 2) (by omega)
    have b4 := by_c hc (i := 6 * i + 4) (by omega)
    have b5 := by_c hc (i := 6 * i + 5) (by omega)
    have m0 := (hb (6 * i) (by omega)).2
    have m1 := (hb (6 * i + 1) (by omega)).2
    have m2 := (hb (6 * i + 2) (by omega)).2
    have m4 := (hb (6 * i + 4) (by omega)).2
    have m5 := (hb (6 * i + 5) (by omega)).2
    have e0 : (6 : Int32) * nI i = nI (6 * i) := by rw [show (6 : Int32) = nI 6 from rfl, nI_mul]
    have e0' : nI i * (6 : Int32) = nI (6 * i) := by rw [show (6 : Int32) = nI 6 from rfl, nI_mul]; congr 1; omega
    have e1 : nI (6 * i) + 1 = nI (6 * i + 1) := by rw [show (1 : Int32) = nI 1 from rfl, nI_add]
    have e2 : nI (6 * i) + 2 = nI (6 * i + 2) := by rw [show (2 : Int32) = nI 2 from rfl, nI_add]
    have e4 : nI (6 * i) + 4 = nI (6 * i + 4) := by rw [show (4 : Int32) = nI 4 from rfl, nI_add]
    have e5 : nI (6 * i) + 5 = nI (6 * i + 5) := by rw [show (5 : Int32) = nI 5 from rfl, nI_add]
    have c0 : 6 * i < 2 ^ 31 := by omega
    have c1 : 6 * i + 1 < 2 ^ 31 := by omega
    have c2 : 6 * i + 2 < 2 ^ 31 := by omega
    have c4 : 6 * i + 4 < 2 ^ 31 := by omega
    have c5 : 6 * i + 5 < 2 ^ 31 := by omega
    have v0 : vp_in (nI (6 * i)) 940 := vp_in_nI (by omega) (by decide)
    have v1 : vp_in (nI (6 * i + 1)) 940 := vp_in_nI (by omega) (by decide)
    have v2 : vp_in (nI (6 * i + 2)) 940 := vp_in_nI (by omega) (by decide)
    have v4 : vp_in (nI (6 * i + 4)) 940 := vp_in_nI (by omega) (by decide)
    have v5 : vp_in (nI (6 * i + 5)) 940 := vp_in_nI (by omega) (by decide)
    have pc : pX11_isCoatAsTold μ (nI (6 * i)) := by
      unfold pX11_isCoatAsTold
      rw [e1, e2, e4, e5]
      exact ⟨b0.2, fun _ => ⟨b1.2, fun _ => ⟨b2.2, fun _ => ⟨b4.2, fun _ => b5.2⟩⟩⟩⟩
    have hi2 : i + 1 < 2 ^ 31 := by omega
    have l5 : (10 : Int32) < nI (b (6 * i + 5)) ↔ ¬ nI (b (6 * i + 5)) ≤ 10 := by
      rw [show (10 : Int32) = nI 10 from rfl, nI_ltI (by omega) (by omega), nI_leI (by omega) (by omega)]
      omega
    have gc : gX11_isCoatAsTold μ (nI (6 * i)) = (if nI (σ 0 7) ≤ nI (b (6 * i)) then 0 else if 2 < nI (b (6 * i + 1)) then 0 else if 9 < nI (b (6 * i + 2)) then 0 else if 10 < nI (b (6 * i + 4)) then 0 else if nI (b (6 * i + 5)) ≤ 10 then 1 else 0) := by
      unfold gX11_isCoatAsTold
      rw [e1, e2, e4, e5, b0.1, b1.1, b2.1, b4.1, b5.1, cn]
      by_cases q : nI (b (6 * i + 5)) ≤ 10
      · rw [if_pos q, if_neg (fun z => l5.mp z q)]
      · rw [if_neg q, if_pos (l5.mpr q)]
    simp only [lX11_found_h36, mX11_found_h36, qX11_found_h36, lX12_found_h42, mX12_found_h42, qX12_found_h42, if_neg e, e0', gc, e0, e1, e2, e4, e5, nI_clamp c0, nI_clamp c1, nI_clamp c2, nI_clamp c4, nI_clamp c5, m0.1, m1.1, m2.1, m4.1, m5.1, mn, nI_1]
    have n1 : ¬ (1 : Int32) = 0 := by decide
    by_cases a0 : nI (σ 0 7) ≤ nI (b (6 * i))
    · simp only [if_pos a0, if_true]
      exact Or.inl ⟨trivial, trivial, trivial, trivial, ⟨fun z => absurd z e, fun _ => ⟨pc, fun z => absurd trivial z⟩⟩, ⟨fun z => absurd z e, fun _ => ⟨v0, fun z => absurd a0 z⟩⟩⟩
    by_cases a1 : (2 : Int32) < nI (b (6 * i + 1))
    · simp only [if_neg a0, if_pos a1, if_true]
      exact Or.inl ⟨trivial, trivial, trivial, trivial, ⟨fun z => absurd z e, fun _ => ⟨pc, fun z => absurd trivial z⟩⟩, ⟨fun z => absurd z e, fun _ => ⟨v0, fun _ => ⟨v1, fun z => absurd a1 z⟩⟩⟩⟩
    by_cases a2 : (9 : Int32) < nI (b (6 * i + 2))
    · simp only [if_neg a0, if_neg a1, if_pos a2, if_true]
      exact Or.inl ⟨trivial, trivial, trivial, trivial, ⟨fun z => absurd z e, fun _ => ⟨pc, fun z => absurd trivial z⟩⟩, ⟨fun z => absurd z e, fun _ => ⟨v0, fun _ => ⟨v1, fun _ => ⟨v2, fun z => absurd a2 z⟩⟩⟩⟩⟩
    by_cases a4 : (10 : Int32) < nI (b (6 * i + 4))
    · simp only [if_neg a0, if_neg a1, if_neg a2, if_pos a4, if_true]
      exact Or.inl ⟨trivial, trivial, trivial, trivial, ⟨fun z => absurd z e, fun _ => ⟨pc, fun z => absurd trivial z⟩⟩, ⟨fun z => absurd z e, fun _ => ⟨v0, fun _ => ⟨v1, fun _ => ⟨v2, fun _ => ⟨v4, fun z => absurd a4 z⟩⟩⟩⟩⟩⟩
    by_cases a5 : nI (b (6 * i + 5)) ≤ 10
    · simp only [if_neg a0, if_neg a1, if_neg a2, if_neg a4, if_pos a5, if_neg n1]
      rcases ih (i + 1) n n' (by omega) (by omega) (by omega) with ⟨i1, i2, i3, i4, i5, i6⟩ | ⟨⟨i1, i2, i3⟩, i4, i5, i6⟩
      · exact Or.inl ⟨i1, i2, i3, i4, ⟨fun z => absurd z e, fun _ => ⟨pc, fun _ => i5⟩⟩, ⟨fun z => absurd z e, fun _ => ⟨v0, fun _ => ⟨v1, fun _ => ⟨v2, fun _ => ⟨v4, fun _ => ⟨v5, fun _ => i6⟩⟩⟩⟩⟩⟩⟩
      · exact Or.inr ⟨⟨i1, i2, fun q1 q2 => ⟨fun z => absurd z e, fun _ => ⟨pc, fun _ => i3 q1 q2⟩⟩⟩, i4, i5, fun q => ⟨fun z => absurd z e, fun _ => ⟨v0, fun _ => ⟨v1, fun _ => ⟨v2, fun _ => ⟨v4, fun _ => ⟨v5, fun _ => i6 q⟩⟩⟩⟩⟩⟩⟩
    · simp only [if_neg a0, if_neg a1, if_neg a2, if_neg a4, if_neg a5, if_true]
      exact Or.inl ⟨trivial, trivial, trivial, trivial, ⟨fun z => absurd z e, fun _ => ⟨pc, fun z => absurd trivial z⟩⟩, ⟨fun z => absurd z e, fun _ => ⟨v0, fun _ => ⟨v1, fun _ => ⟨v2, fun _ => ⟨v4, fun _ => ⟨v5, fun z => absurd z a5⟩⟩⟩⟩⟩⟩⟩
theorem ok_found : ob_found RR := by
  rintro μ ν ⟨σ, σ0, σ1, ρ, r0, r1, h⟩
  obtain ⟨g1, g2, g3⟩ := lay0 h
  unfold pX11_found pX12_found gX11_found gX12_found uX11_found uX12_found uX7_takeAll gX7_takeAll uX12_take gX12_take
  generalize hν : uX12_lay (fm_i ν 0 0 0) = ν1 at g1 g2 g3 ⊢
  obtain ⟨a1, a2, a3, a4⟩ := g2.2.2.2.1.1
  obtain ⟨RN, g3'⟩ := RS_tk g2 g3
  have b4 : ∀ i, i < 940 → fI (fm_i μ 1 2 0) 3 i = nI (ρ 1 i) ∧ fI (fm_i ν1 0 2 0) 1 i = nI (ρ 1 i) ∧ ρ 1 i ≤ 255 := fun i hi => by
    rw [fI_i, if_neg (by omega), fI_i, if_neg (by omega)]; exact a4 i hi
  rw [a1, a2]
  generalize fm_i μ 1 2 0 = μa at RN b4 ⊢
  generalize fm_i ν1 0 2 0 = νa at RN g3' b4 ⊢
  simp only [isI (μ := μa)]
  by_cases h0 : nI (ρ 0 0) - nI (ρ 0 0) / 6 * 6 = 0
  · have d6 : nI (ρ 0 0) / 6 = nI (ρ 0 0 / 6) := by rw [show (6 : Int32) = nI 6 from rfl, nI_div (by omega) (by omega) (by omega)]
    simp only [if_pos h0]
    by_cases h1 : gX11_within μa (nI (ρ 0 0) / 6) 1 8 = 0
    · simp only [if_pos h1]
      exact ⟨fun _ z => absurd h1 z, ⟨g1, fun _ z => absurd h1 z⟩, trivial, σ, σ0, σ1, _, r0, r1, RN⟩
    · simp only [if_neg h1]
      rw [d6] at h1 ⊢
      have hk : ρ 0 0 / 6 ≤ 8 := by
        rw [wi_nI, show (8 : Int32) = nI 8 from rfl, nI_ltI (a := 8) (by omega) (by omega)] at h1
        omega
      have w := RS_WR RN g3'
      obtain ⟨l1, l2, l3, l4⟩ := RN.2.2.2.1.2.1
      rcases fd_rd (b := ρ 1) (k := ρ 0 0 / 6) w hk b4 (nI (ρ 0 0)) (ρ 0 0 / 6) 0 fF fF (by omega) (fF_gt (by omega)) (fF_gt (by omega)) with ⟨i1, i2, i3, i4, i5, i6⟩ | ⟨⟨i1, i2, i3⟩, i4, i5, i6⟩
      · rw [show nI 0 = 0 from rfl] at i1 i2 i3 i4 i5 i6
        rw [i1, i2, i3, i4]
        exact ⟨fun _ _ => i5, ⟨g1, fun _ _ => i6⟩, rfl, σ, σ0, σ1, _, r0, r1, RN⟩
      · rw [show nI 0 = 0 from rfl] at i1 i2 i3 i4 i5 i6
        obtain ⟨U, V, q', ⟨e1, e2, e3⟩, ⟨e4, e5, e6⟩, e7, e8, e9, e10, e11, e12⟩ := fd_run (b := ρ 1) (k := ρ 0 0 / 6) w hk b4 l3 ⟨l1, l2, l4⟩ (nI (ρ 0 0))
        rw [i1, i2, i4, i5, e1, e2, e3]
        exact ⟨fun _ _ => i3 e4 e5, ⟨g1, fun _ _ => i6 e6⟩, rfl, σ, σ0, σ1, _, r0, r1, RS_x RN (e7.cC (fun k j z => by unfold qfA at z; omega) (fun k j z => by unfold qfB at z; omega)) (e8.cM (fun k j z => by unfold qfC at z; omega) (fun k j z => by unfold f19 at z; omega)) (XR_fd RN.2.2.2.1 e7 e8 e9 e10 e11 e12)⟩
  · simp only [if_neg h0]
    exact ⟨fun z => absurd z h0, ⟨g1, fun z => absurd z h0⟩, trivial, σ, σ0, σ1, _, r0, r1, RN⟩
