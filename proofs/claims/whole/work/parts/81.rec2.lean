theorem ok_recall : ob_recall RR := by
  rintro μ ν x1 x2 ⟨σ, σ0, σ1, ρ, r0, r1, h⟩
  obtain ⟨g1, g2, g3⟩ := lay0 h
  generalize hν : uX12_lay (fm_i ν 0 0 0) = ν1 at g2 g3
  have w := RS_WR g2 g3
  have cn := (n2_c w).2.2.1
  have mn : fI ν1 2 2 = nI (σ 0 7) := (wr_hm w).1 2 (by decide)
  have hn := (wr_hw w).1.2.2.1
  have hS := (wr_S w).2.2
  unfold pX11_recall pX12_recall gX11_recall gX12_recall uX11_recall uX12_recall
  rw [hν, cn, mn]
  simp only [isI (μ := μ)]
  by_cases h1 : gX11_within μ x1 0 (nI (σ 0 7) - 1) = 0
  · simp only [if_pos h1]
    exact ⟨fun z => absurd h1 z, ⟨g1, fun z => absurd h1 z⟩, trivial, σ, σ0, σ1, ρ, r0, r1, g2⟩
  by_cases h2 : gX11_within μ x2 0 9 = 0
  · simp only [if_neg h1, if_pos h2]
    exact ⟨fun _ z => absurd h2 z, ⟨g1, fun _ z => absurd h2 z⟩, trivial, σ, σ0, σ1, ρ, r0, r1, g2⟩
  simp only [if_neg h1, if_neg h2]
  obtain ⟨c, hc, rfl⟩ := wi_lt (by omega) h1
  obtain ⟨t, ht, rfl⟩ := wi_of (n := 9) (by decide) h2
  obtain ⟨⟨e1, e2, e3⟩, f1, f2, q, hq, l1, l2, l3⟩ := rc_lp (c := c) (h := t) w (by omega) ht (σ 0 0) 0 fF fF 0 (fm_i μ 0 11 0) (fm_i ν1 0 48 0) (by omega) (fF_gt (by omega)) (fF_gt (by omega)) (by omega) ((frI.rf _ _).i (Or.inr ⟨rfl, rfl⟩)) ((frI.rf _ _).i (Or.inr ⟨rfl, rfl⟩)) (by rw [fI_i, if_pos ⟨rfl, rfl⟩]; rfl) (by rw [fI_i, if_pos ⟨rfl, rfl⟩]; rfl) (fun j hj => by omega)
  refine ⟨fun _ _ => e2, ⟨g1, fun _ _ => e3⟩, e1, σ, σ0, σ1, up2 ρ 0 3 q, r0, r1, RS_x g2 (f1.cC (fun k j z => by unfold rcA at z; omega)) (f2.cM (fun k j z => by unfold rcB at z; omega)) ?_⟩
  have F1 : ∀ k j, k ≠ 72 → (k = 0 → j ≠ 11) → fI (mX11_recall_h41 fF (fm_i μ 0 11 0) (nI c) (nI t) (nI 0)) k j = fI μ k j := fun k j z1 z2 => f1.2.2.2 k j (by unfold rcA; omega)
  have F2 : ∀ k j, k ≠ 25 → (k = 0 → j ≠ 48) → fI (mX12_recall_h44 fF (fm_i ν1 0 48 0) (nI c) (nI t) (nI 0)) k j = fI ν1 k j := fun k j z1 z2 => f2.2.2.2 k j (by unfold rcB; omega)
  have F3 := f1.2.2.1
  show XR (up2 ρ 0 3 q) (mX11_recall_h41 fF (fm_i μ 0 11 0) (nI c) (nI t) (nI 0)) (mX12_recall_h44 fF (fm_i ν1 0 48 0) (nI c) (nI t) (nI 0))
  generalize mX11_recall_h41 fF (fm_i μ 0 11 0) (nI c) (nI t) (nI 0) = μ2 at l1 l3 F1 F3 ⊢
  generalize mX12_recall_h44 fF (fm_i ν1 0 48 0) (nI c) (nI t) (nI 0) = ν2 at l2 l3 F2 ⊢
  obtain ⟨⟨a1, a2, a3, a4⟩, ⟨b1, b2, b3, b4⟩, ⟨c1, c2, c3, c4⟩, -, ⟨d1, d2, d3, d4⟩, ⟨k1, k2, k3, k4⟩, m1, m2⟩ := g2.2.2.2.1
  refine ⟨⟨(F1 1 2 (by omega) (by omega)).trans a1, (F2 0 2 (by omega) (by omega)).trans a2, a3, fun i hi => ?_⟩, ⟨(F1 51 8 (by omega) (by omega)).trans b1, (F2 0 39 (by omega) (by omega)).trans b2, b3, fun i hi => ?_⟩, ⟨(F1 57 4 (by omega) (by omega)).trans c1, (F2 0 45 (by omega) (by omega)).trans c2, c3, fun i hi => ?_⟩, ⟨l1, l2, (by show q ≤ 40; omega), l3⟩, ⟨(F1 61 5 (by omega) (by omega)).trans d1, (F2 0 54 (by omega) (by omega)).trans d2, d3, fun i hi => ?_⟩, ⟨(F1 66 5 (by omega) (by omega)).trans k1, (F2 0 59 (by omega) (by omega)).trans k2, k3, fun i hi => ?_⟩, ?_, fun i hi => (F3 2 i).trans (m2 i hi)⟩
  · rw [F1 3 i (by omega) (by omega), F2 1 i (by omega) (by omega)]; exact a4 i hi
  · rw [F1 56 i (by omega) (by omega), F2 20 i (by omega) (by omega)]; exact b4 i hi
  · rw [F1 60 i (by omega) (by omega), F2 23 i (by omega) (by omega)]; exact c4 i hi
  · rw [F1 65 i (by omega) (by omega), F2 29 i (by omega) (by omega)]; exact d4 i hi
  · rw [F1 70 i (by omega) (by omega), F2 32 i (by omega) (by omega)]; exact k4 i hi
  · rw [F1 0 12 (by omega) (by omega), F2 0 10 (by omega) (by omega)]; exact m1
