theorem shC_inj {r0 r1 a b : Nat} (h : shC r0 r1 = shC a b) : r0 = a ∧ r1 = b := by
  have e := congrFun h 40
  have e1 : shC r0 r1 40 = (4, 2, [r0, r1]) := rfl
  have e2 : shC a b 40 = (4, 2, [a, b]) := rfl
  rw [e1, e2] at e
  injection e with _ e
  injection e with _ e
  injection e with x e
  injection e with y _
  exact ⟨x, y⟩
theorem rowN_1 {ν : fm_T} (h : fI ν 0 21 = 1) : rowN ν = fI ν 2 := by
  funext j
  unfold rowN
  rw [if_neg (by rw [h]; decide)]
section
variable {σ σ0 σ1 ρ : sg_T} {r0 r1 : Nat} {μ ν : fm_T}
theorem ok_re (h : RS σ σ0 σ1 ρ r0 r1 μ ν) (g3 : fI ν 0 21 = 1) {b s : Nat} (hb : b ≤ 1) {σb : sg_T} (hs : s = 89 ∨ s = 121) {U : fm_T} (hU : CP 8 s inR True μ U) (wb : WR σb (blk μ s) (fL μ (s + 17)) (fun j => fI ν 4 (2560 * b + j)) (fun j => fL ν 7 (24 * b + j))) : qX12_restore_h31 fF ν (nI b) 0 ∧ lX12_restore_h31 fF ν (nI b) 0 = 1 ∧ RR U (mX12_restore_h31 fF ν (nI b) 0) := by
  obtain ⟨ν1, k1, k2, k3, k4⟩ := re1 (ν := ν) hb 2560 0 fF ν (by omega) (fF_gt (by omega)) ⟨⟨rfl, rfl⟩, fun _ _ => rfl, fun _ _ _ => rfl, fun _ h => by omega⟩
  obtain ⟨l1, l2, l3⟩ := re2 (ν := ν1) hb 24 0 fF ν1 (by omega) (fF_gt (by omega)) ⟨⟨rfl, rfl⟩, fun _ _ => rfl, fun _ _ _ => rfl, fun _ h => by omega⟩
  have k2 : mX12_restore_h31 fF ν (nI b) 0 = mX12_restore_h64 fF ν1 (nI b) 0 := k2
  have k3 : lX12_restore_h31 fF ν (nI b) 0 = lX12_restore_h64 fF ν1 (nI b) 0 := k3
  have l1 : CL 7 5 0 (24 * b) 24 ν1 (mX12_restore_h64 fF ν1 (nI b) 0) := l1
  refine ⟨k4 l3, k3.trans l2, ?_⟩
  rw [k2]
  generalize mX12_restore_h64 fF ν1 (nI b) 0 = ν2 at l1
  obtain ⟨⟨a1, a2⟩, a3, a4, a5⟩ := k1
  obtain ⟨⟨c1, c2⟩, c3, c4, c5⟩ := l1
  obtain ⟨⟨u1, u2⟩, u3, u4, u5⟩ := hU
  have F : ∀ k j, k ≠ 2 → fI ν2 k j = fI ν k j := fun k j q => (c3 k j).trans (a4 k j (Or.inl q))
  have G : ∀ k j, (k < 8 ∨ 40 ≤ k) → fI U k j = fI μ k j ∧ fL U k j = fL μ k j := fun k j q => u3 k j (by omega)
  refine ⟨σb, σ0, σ1, ρ, r0, r1, RS_w h ⟨u1, u2, fun k j q => (G k j (by omega)).1, fun k j q => (G k j (by omega)).2⟩ ⟨c1.trans a1, c2.trans a2, fun j => F 4 j (by omega), fun j => F 8 j (by omega), fun j => (c4 7 j (Or.inl (by omega))).trans (a3 7 j)⟩ (XR_cg ⟨⟨(G 1 2 (by omega)).1, (G 51 8 (by omega)).1, (G 57 4 (by omega)).1, (G 0 11 (by omega)).1, (G 61 5 (by omega)).1, (G 66 5 (by omega)).1, (G 0 12 (by omega)).1⟩, fun k j q => (G k j (by omega)).1, fun j => (G 2 j (by omega)).2⟩ ⟨⟨F 0 2 (by omega), F 0 39 (by omega), F 0 45 (by omega), F 0 48 (by omega), F 0 54 (by omega), F 0 59 (by omega), F 0 10 (by omega)⟩, fun k j q => F k j (by omega)⟩ h.2.2.2.1) ((F 0 21 (by omega)).trans g3) ?_⟩
  refine WR_rg wb (fun k j q => u4 k j q ?_) (fun j q => u5 trivial j q) (fun j q => ?_) (fun j q => ?_)
  · unfold inR csA csB csC csE at q
    omega
  · have := a5 j q
    rw [Nat.zero_add] at this
    exact (c3 2 j).trans this
  · have := c5 j q
    rw [Nat.zero_add] at this
    exact this.trans (a3 7 _)
end
theorem ok_restore : ob_restore RR := by
  rintro μ ν x1 r0 r1 hr ⟨σ, σ0, σ1, ρ, r0', r1', h⟩
  obtain ⟨rfl, rfl⟩ := shC_inj (hr.1.symm.trans h.1.1)
  obtain ⟨g1, g2, g3⟩ := lay0 h
  generalize hν : uX12_lay (fm_i ν 0 0 0) = ν1 at g2 g3
  have K0 := g2.2.2.2.2.2.2.1
  have K1 := g2.2.2.2.2.2.2.2
  unfold pX12_restore gX12_restore uX12_restore gX11_restore uX11_restore
  rw [hν]
  simp only [isI (μ := μ)]
  by_cases h1 : gX11_within μ x1 0 1 = 0
  · have n0 : ¬ x1 = 0 := fun z => by rw [z] at h1; exact absurd h1 (by unfold gX11_within; decide)
    have n1 : ¬ x1 = 1 := fun z => by rw [z] at h1; exact absurd h1 (by unfold gX11_within; decide)
    simp only [if_pos h1, if_neg n0, if_neg n1]
    exact ⟨⟨g1, fun z => absurd h1 z⟩, trivial, σ, σ0, σ1, ρ, r0, r1, g2⟩
  simp only [if_neg h1]
  obtain ⟨b, hb, rfl⟩ := wi_of (n := 1) (by decide) h1
  have vb : vp_in (nI b) 2 := vp_in_nI (by omega) (by decide)
  rw [nI_clamp (by omega)]
  have hb2 : b = 0 ∨ b = 1 := by omega
  rcases hb2 with rfl | rfl
  · simp only [show nI 0 = 0 from rfl, if_true]
    rcases K0 with ⟨e1, e2⟩ | ⟨e1, e2, e3⟩ | ⟨e1, e2, e3⟩
    · simp only [e1, e2, if_true, show ¬ (2 : Nat) = 92 by decide, show ¬ (2 : Nat) = 124 by decide, if_false]
      exact ⟨⟨g1, fun _ => ⟨vb, fun z => absurd trivial z⟩⟩, trivial, σ, σ0, σ1, ρ, r0, r1, g2⟩
    · have n8 : ¬ fI ν1 8 0 = 0 := by rw [e2]; decide
      obtain ⟨p, q, r⟩ := ok_re g2 g3 (b := 0) (by omega) (Or.inl rfl) (cp_8_89 μ) e3
      have q : lX12_restore_h31 fF ν1 0 0 = 1 := q
      simp only [e1, if_neg n8, show ¬ (92 : Nat) = 2 by decide, if_true, if_false, q]
      exact ⟨⟨g1, fun _ => ⟨vb, fun _ => p⟩⟩, trivial, r⟩
    · have n8 : ¬ fI ν1 8 0 = 0 := by rw [e2]; decide
      obtain ⟨p, q, r⟩ := ok_re g2 g3 (b := 0) (by omega) (Or.inr rfl) (cp_8_121 μ) e3
      have q : lX12_restore_h31 fF ν1 0 0 = 1 := q
      simp only [e1, if_neg n8, show ¬ (124 : Nat) = 2 by decide, show ¬ (124 : Nat) = 92 by decide, if_true, if_false, q]
      exact ⟨⟨g1, fun _ => ⟨vb, fun _ => p⟩⟩, trivial, r⟩
  · simp only [show nI 1 = 1 from rfl, show ¬ (1 : Int32) = 0 by decide, if_true, if_false]
    rcases K1 with ⟨e1, e2⟩ | ⟨e1, e2, e3⟩ | ⟨e1, e2, e3⟩
    · simp only [e1, e2, if_true, show ¬ (2 : Nat) = 92 by decide, show ¬ (2 : Nat) = 124 by decide, if_false]
      exact ⟨⟨g1, fun _ => ⟨vb, fun z => absurd trivial z⟩⟩, trivial, σ, σ0, σ1, ρ, r0, r1, g2⟩
    · have n8 : ¬ fI ν1 8 1 = 0 := by rw [e2]; decide
      obtain ⟨p, q, r⟩ := ok_re g2 g3 (b := 1) (by omega) (Or.inl rfl) (cp_8_89 μ) e3
      have q : lX12_restore_h31 fF ν1 1 0 = 1 := q
      simp only [e1, if_neg n8, show ¬ (92 : Nat) = 2 by decide, if_true, if_false, q]
      exact ⟨⟨g1, fun _ => ⟨vb, fun _ => p⟩⟩, trivial, r⟩
    · have n8 : ¬ fI ν1 8 1 = 0 := by rw [e2]; decide
      obtain ⟨p, q, r⟩ := ok_re g2 g3 (b := 1) (by omega) (Or.inr rfl) (cp_8_121 μ) e3
      have q : lX12_restore_h31 fF ν1 1 0 = 1 := q
      simp only [e1, if_neg n8, show ¬ (124 : Nat) = 2 by decide, show ¬ (124 : Nat) = 92 by decide, if_true, if_false, q]
      exact ⟨⟨g1, fun _ => ⟨vb, fun _ => p⟩⟩, trivial, r⟩
