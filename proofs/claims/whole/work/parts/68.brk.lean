def pS (f : Nat → Int32) : Nat → Int32
  | 0 => 0
  | n + 1 => pS f n + f n
section
variable {σ : sg_T} {μ ν : fm_T}
theorem bk_in (w : WR σ (blk μ 8) (fL μ 25) (fI ν 2) (fL ν 5)) {d : Nat} (hd : d < σ 0 4) {f g : Nat → Int32} (hf : ∀ i, i < σ 0 4 → gX12_lostOn ν (nI i) = f i ∧ pX12_lostOn ν (nI i)) (hg : ∀ i, i < σ 0 4 → fI ν 2 (1401 + 3 * i) = g i) : ∀ (c i n : Nat) (x y : Int32), i + c = d + 1 → c < n → l2X12_broken_h43 n ν (nI d) x y (nI i) = x + (pS f (d + 1) - pS f i) ∧ l3X12_broken_h43 n ν (nI d) x y (nI i) = y + (pS g (d + 1) - pS g i) ∧ qX12_broken_h43 n ν (nI d) x y (nI i) := by
  have hB := (wr_B w).2.2
  intro c
  induction c with
  | zero =>
    intro i n x y h1 h2
    obtain ⟨n, rfl⟩ : ∃ m, n = m + 1 := ⟨n - 1, by omega⟩
    have e : nI d < nI i := (nI_ltI (by omega) (by omega)).mpr (by omega)
    obtain rfl : i = d + 1 := by omega
    simp only [l2X12_broken_h43, l3X12_broken_h43, qX12_broken_h43, if_pos e]
    exact ⟨by grind, by grind, fun z => absurd e z⟩
  | succ c ih =>
    intro i n x y h1 h2
    obtain ⟨n, rfl⟩ : ∃ m, n = m + 1 := ⟨n - 1, by omega⟩
    have e : ¬ nI d < nI i := fun z => by have := (nI_ltI (by omega) (by omega)).mp z; omega
    have e1 : (1400 : Int32) + (3 : Int32) * nI i = nI (1400 + 3 * i) := by simp only [li_n, nI_mul, nI_add]
    have e2 : nI (1400 + 3 * i) + 1 = nI (1401 + 3 * i) := by rw [nI_1]; congr 1; omega
    obtain ⟨f1, f2⟩ := hf i (by omega)
    have g1 := hg i (by omega)
    simp only [l2X12_broken_h43, l3X12_broken_h43, qX12_broken_h43, if_neg e, e1, e2, f1]
    rw [nI_clamp (by omega), g1, nI_1]
    obtain ⟨i1, i2, i3⟩ := ih (i + 1) n (x + f i) (y + g i) (by omega) (by omega)
    refine ⟨?_, ?_, fun _ => ⟨f2, vp_in_nI (by omega) (by decide), i3⟩⟩
    · rw [i1]
      have : pS f (i + 1) = pS f i + f i := rfl
      rw [this]
      grind
    · rw [i2]
      have : pS g (i + 1) = pS g i + g i := rfl
      rw [this]
      grind
theorem bk_lp (w : WR σ (blk μ 8) (fL μ 25) (fI ν 2) (fL ν 5)) {f g : Nat → Int32} (hf : ∀ i, i < σ 0 4 → gX12_lostOn ν (nI i) = f i ∧ pX12_lostOn ν (nI i)) (hf' : ∀ i, i < σ 0 4 → gX3_lostOn μ (nI i) = f i ∧ pX3_lostOn μ (nI i)) (hg : ∀ i, i < σ 0 4 → fI ν 2 (1401 + 3 * i) = g i) (hg' : ∀ i, i < σ 0 4 → fI μ 17 i = g i) : ∀ (c i n n' : Nat), i + c = σ 0 4 → c < n → c < n' → lX3_firstBroken_h7 n μ (nI (σ 0 11)) (pS f i - pS f (i - 7)) (pS g i - pS g (i - 7)) (nI i) = lX12_broken_h11 n' ν (nI i) ∧ qX3_firstBroken_h7 n μ (nI (σ 0 11)) (pS f i - pS f (i - 7)) (pS g i - pS g (i - 7)) (nI i) ∧ qX12_broken_h11 n' ν (nI i) := by
  obtain ⟨cB, mB, hB⟩ := wr_B w
  obtain ⟨⟨-, -, c35, -⟩, ⟨-, -, m6, -⟩⟩ := se_c w
  intro c
  induction c with
  | zero =>
    intro i n n' h1 h2 h3
    obtain ⟨n, rfl⟩ : ∃ m, n = m + 1 := ⟨n - 1, by omega⟩
    obtain ⟨n', rfl⟩ : ∃ m, n' = m + 1 := ⟨n' - 1, by omega⟩
    have e : nI (σ 0 4) ≤ nI i := (nI_leI (by omega) (by omega)).mpr (by omega)
    simp only [lX3_firstBroken_h7, lX12_broken_h11, qX3_firstBroken_h7, qX12_broken_h11, cB, mB, if_pos e]
    exact ⟨trivial, fun z => absurd e z, fun z => absurd e z⟩
  | succ c ih =>
    intro i n n' h1 h2 h3
    obtain ⟨n, rfl⟩ : ∃ m, n = m + 1 := ⟨n - 1, by omega⟩
    obtain ⟨n', rfl⟩ : ∃ m, n' = m + 1 := ⟨n' - 1, by omega⟩
    have e : ¬ nI (σ 0 4) ≤ nI i := fun z => by have := (nI_leI (by omega) (by omega)).mp z; omega
    obtain ⟨f1, f2⟩ := hf' i (by omega)
    have g1 := hg' i (by omega)
    have v1 : vp_in (nI i) 200 := vp_in_nI (by omega) (by decide)
    obtain ⟨i1, i2, i3⟩ := ih (i + 1) n n' (by omega) (by omega) (by omega)
    simp only [lX3_firstBroken_h7, lX12_broken_h11, qX3_firstBroken_h7, qX12_broken_h11, cB, mB, m6, if_neg e, f1]
    rw [nI_clamp (by omega), g1, nI_1]
    have s1 : ∀ h : Nat → Int32, pS h (i + 1) = pS h i + h i := fun _ => rfl
    by_cases a7 : i < 7
    · have k7 : nI i < 7 := (nI_ltI (b := 7) (by omega) (by omega)).mpr a7
      have z1 : i - 7 = 0 := by omega
      have z2 : i + 1 - 7 = 0 := by omega
      have z3 : ∀ h : Nat → Int32, pS h (i + 1) - pS h (i + 1 - 7) = pS h i - pS h (i - 7) + h i := fun h => by rw [z1, z2, s1]; show _ - 0 = _ - 0 + _; grind
      rw [z3, z3] at i1 i2
      simp only [if_pos k7]
      by_cases a6 : i < 6
      · have k6 : ¬ 6 ≤ nI i := fun z => by have := (nI_leI (a := 6) (by omega) (by omega)).mp z; omega
        obtain ⟨b1, b2, b3⟩ := bk_in w (d := i) (by omega) hf hg (i + 1) 0 fF 0 0 (by omega) (fF_gt (by omega))
        have b1 : l2X12_broken_h43 fF ν (nI i) 0 0 0 = pS f i - pS f (i - 7) + f i := by rw [← z3, z2]; exact b1.trans (by grind)
        have b2 : l3X12_broken_h43 fF ν (nI i) 0 0 0 = pS g i - pS g (i - 7) + g i := by rw [← z3, z2]; exact b2.trans (by grind)
        simp only [if_neg k6, b1, b2]
        refine ⟨?_, fun _ => ⟨f2, v1, fun _ _ => i2, fun z => absurd k7 z⟩, fun _ => ⟨fun z => absurd z k6, fun _ => ⟨b3, fun _ => i3⟩⟩⟩
        split
        · exact i1
        · rfl
      · have k6 : 6 ≤ nI i := (nI_leI (a := 6) (by omega) (by omega)).mpr (by omega)
        have e6 : nI i - 6 = nI 0 := by rw [show i = 6 by omega]; rfl
        obtain ⟨b1, b2, b3⟩ := bk_in w (d := i) (by omega) hf hg (i + 1) 0 fF 0 0 (by omega) (fF_gt (by omega))
        have b1 : l2X12_broken_h43 fF ν (nI i) 0 0 (nI 0) = pS f i - pS f (i - 7) + f i := by rw [← z3, z2]; exact b1.trans (by grind)
        have b2 : l3X12_broken_h43 fF ν (nI i) 0 0 (nI 0) = pS g i - pS g (i - 7) + g i := by rw [← z3, z2]; exact b2.trans (by grind)
        simp only [if_pos k6, e6, b1, b2]
        refine ⟨?_, fun _ => ⟨f2, v1, fun _ _ => i2, fun z => absurd k7 z⟩, fun _ => ⟨fun _ => ⟨b3, fun _ => i3⟩, fun z => absurd k6 z⟩⟩
        split
        · exact i1
        · rfl
    · have k7 : ¬ nI i < 7 := fun z => by have := (nI_ltI (b := 7) (by omega) (by omega)).mp z; omega
      have k6 : 6 ≤ nI i := (nI_leI (a := 6) (by omega) (by omega)).mpr (by omega)
      have e6 : nI i - 6 = nI (i - 6) := nI_sub (b := 6) (by omega)
      have e7 : nI i - 7 = nI (i - 7) := nI_sub (b := 7) (by omega)
      obtain ⟨f3, f4⟩ := hf' (i - 7) (by omega)
      have g3 := hg' (i - 7) (by omega)
      have z2 : i + 1 - 7 = i - 7 + 1 := by omega
      have z4 : i - 6 = i - 7 + 1 := by omega
      have z3 : ∀ h : Nat → Int32, pS h (i + 1) - pS h (i + 1 - 7) = pS h i - pS h (i - 7) + h i - h (i - 7) := fun h => by
        rw [z2, s1, show pS h (i - 7 + 1) = pS h (i - 7) + h (i - 7) from rfl]
        grind
      rw [z3, z3] at i1 i2
      obtain ⟨b1, b2, b3⟩ := bk_in w (d := i) (by omega) hf hg 7 (i - 6) fF 0 0 (by omega) (fF_gt (by omega))
      have b1 : l2X12_broken_h43 fF ν (nI i) 0 0 (nI (i - 6)) = pS f i - pS f (i - 7) + f i - f (i - 7) := by rw [← z3, z2, ← z4]; exact b1.trans (by grind)
      have b2 : l3X12_broken_h43 fF ν (nI i) 0 0 (nI (i - 6)) = pS g i - pS g (i - 7) + g i - g (i - 7) := by rw [← z3, z2, ← z4]; exact b2.trans (by grind)
      simp only [if_neg k7, if_pos k6, e6, e7, b1, b2, f3]
      rw [nI_clamp (by omega), g3]
      refine ⟨?_, fun _ => ⟨f2, v1, fun z => absurd z k7, fun _ => ⟨f4, vp_in_nI (by omega) (by decide), fun _ => i2⟩⟩, fun _ => ⟨fun _ => ⟨b3, fun _ => i3⟩, fun z => absurd k6 z⟩⟩
      split
      · exact i1
      · rfl
end
theorem ok_broken : ob_broken RR := by
  rintro μ ν ⟨σ, σ0, σ1, ρ, r0, r1, h⟩
  obtain ⟨g1, g2, g3⟩ := lay0 h
  generalize hν : uX12_lay (fm_i ν 0 0 0) = ν1 at g2 g3
  have w := RS_WR g2 g3
  have hB := (wr_B w).2.2
  obtain ⟨e1, e2, e3⟩ := bk_lp w (f := fun i => gX3_lostOn μ (nI i)) (g := fun i => fI μ 17 i) (fun i hi => ⟨(lo_ok w hi).1.symm, (lo_ok w hi).2.2.1⟩) (fun i hi => ⟨rfl, (lo_ok w hi).2.1⟩) (fun i hi => (w.2.1.2.2.2.1 i hi).2.1.trans (w.1.2.2.2.1 i hi).2.1.symm) (fun _ _ => rfl) (σ 0 4) 0 fF fF (by omega) (fF_gt (by omega)) (fF_gt (by omega))
  have z0 : ∀ h : Nat → Int32, pS h 0 - pS h (0 - 7) = 0 := fun h => by show (0 : Int32) - 0 = 0; rfl
  rw [z0, z0] at e1 e2
  unfold pX11_broken pX12_broken gX11_broken gX12_broken uX12_broken gX3_firstBroken pX3_firstBroken
  rw [hν, (se_c w).1.2.2.1]
  exact ⟨e2, ⟨g1, e3⟩, e1, σ, σ0, σ1, ρ, r0, r1, g2⟩
