theorem inR_lt {k j : Nat} (q : inR k j) : k < 32 := by
  unfold inR csA csB csC csE at q
  omega
theorem KP_rg {σ : sg_T} {r k : Nat} {μ μ' ν ν' : fm_T} (h : KP σ r μ ν k) (h8 : fI ν' 8 k = fI ν 8 k) (O92 : r = 92 → ∀ q j, q < 32 → fI μ' (89 + q) j = fI μ (89 + q) j ∧ fL μ' (89 + q) j = fL μ (89 + q) j) (O124 : r = 124 → ∀ q j, q < 32 → fI μ' (121 + q) j = fI μ (121 + q) j ∧ fL μ' (121 + q) j = fL μ (121 + q) j) (e3 : ∀ j, j < 2560 → fI ν' 4 (2560 * k + j) = fI ν 4 (2560 * k + j)) (e4 : ∀ j, j < 24 → fL ν' 7 (24 * k + j) = fL ν 7 (24 * k + j)) : KP σ r μ' ν' k := by
  rcases h with ⟨a, b⟩ | ⟨a, b, c⟩ | ⟨a, b, c⟩
  · exact Or.inl ⟨a, h8.trans b⟩
  · exact Or.inr (Or.inl ⟨a, h8.trans b, WR_rg c (fun q j z => (O92 a q j (inR_lt z)).1) (fun j _ => (O92 a 17 j (by omega)).2) e3 e4⟩)
  · exact Or.inr (Or.inr ⟨a, h8.trans b, WR_rg c (fun q j z => (O124 a q j (inR_lt z)).1) (fun j _ => (O124 a 17 j (by omega)).2) e3 e4⟩)
def imA (D : Nat) (μ U : fm_T) : Prop := (∀ k j, k < 89 → fI U k j = fI μ k j ∧ fL U k j = fL μ k j) ∧ (∀ k j, inR k j → fI U (D + k) j = fI μ (8 + k) j) ∧ ∀ j, j < 32 → fL U (D + 17) j = fL μ 25 j
section
variable {σ σ0 σ1 ρ : sg_T} {r0 r1 : Nat} {μ ν : fm_T}
theorem im_mod {b : Nat} (hb : b ≤ 1) (g3 : fI ν 0 21 = 1) : ∃ ν2, (qX12_image_h22 fF ν (nI b) 0 ∧ lX12_image_h22 fF ν (nI b) 0 = 1 ∧ mX12_image_h22 fF ν (nI b) 0 = ν2) ∧ (ν2.1 = ν.1 ∧ ν2.2.1 = ν.2.1) ∧ (∀ k j, k ≠ 4 → k ≠ 8 → fI ν2 k j = fI ν k j) ∧ (∀ k j, k ≠ 7 → fL ν2 k j = fL ν k j) ∧ (fI ν2 8 b = 1 ∧ ∀ c, c ≠ b → fI ν2 8 c = fI ν 8 c) ∧ ((∀ j, j < 2560 → fI ν2 4 (2560 * b + j) = fI ν 2 j) ∧ ∀ c j, c ≤ 1 → c ≠ b → j < 2560 → fI ν2 4 (2560 * c + j) = fI ν 4 (2560 * c + j)) ∧ (∀ j, j < 24 → fL ν2 7 (24 * b + j) = fL ν 5 j) ∧ ∀ c j, c ≤ 1 → c ≠ b → j < 24 → fL ν2 7 (24 * c + j) = fL ν 7 (24 * c + j) := by
  obtain ⟨ν1, k1, k2, k3, k4⟩ := im1 (ν := ν) hb 2560 0 fF ν (by omega) (fF_gt (by omega)) ⟨⟨rfl, rfl⟩, fun _ _ => rfl, fun _ _ _ => rfl, fun _ h => by omega⟩
  obtain ⟨ν2, l1, l2, l3, l4⟩ := im2 (ν := ν1) hb 24 0 fF ν1 (by omega) (fF_gt (by omega)) ⟨⟨rfl, rfl⟩, fun _ _ => rfl, fun _ _ _ => rfl, fun _ h => by omega⟩
  obtain ⟨⟨a1, a2⟩, a3, a4, a5⟩ := k1
  obtain ⟨⟨c1, c2⟩, c3, c4, c5⟩ := l1
  refine ⟨fm_i ν2 8 b 1, ⟨k4 l4, k3.trans l3, k2.trans l2⟩, ⟨c1.trans a1, c2.trans a2⟩, fun k j q1 q2 => ?_, fun k j q => (c4 k j (Or.inl q)).trans (a3 k j), ⟨by rw [fI_i, if_pos ⟨rfl, rfl⟩], fun c hc => ?_⟩, ⟨fun j hj => ?_, fun c j hc1 hc hj => ?_⟩, fun j hj => ?_, fun c j hc1 hc hj => ?_⟩
  · rw [fI_i, if_neg (by omega)]; exact (c3 k j).trans (a4 k j (Or.inl q1))
  · rw [fI_i, if_neg (by omega)]; exact (c3 8 c).trans (a4 8 c (Or.inl (by omega)))
  · rw [fI_i, if_neg (by omega)]
    have := a5 j hj
    rw [Nat.zero_add] at this
    exact (c3 4 _).trans this
  · rw [fI_i, if_neg (by omega)]; exact (c3 4 _).trans (a4 4 _ (by omega))
  · have := c5 j hj
    rw [Nat.zero_add] at this
    exact this.trans (a3 5 j)
  · exact (c4 7 _ (by omega)).trans (a3 7 _)
theorem im_rs (h : RS σ σ0 σ1 ρ r0 r1 μ ν) (g3 : fI ν 0 21 = 1) {b D rD ro : Nat} {σo : sg_T} (hb : b ≤ 1) (hD : (D = 89 ∧ rD = 92) ∨ (D = 121 ∧ rD = 124)) {U : fm_T} (A : imA D μ U) (lz : lz_r U (if b = 0 then rD else r0) (if b = 0 then r1 else rD)) (hro : ro = if b = 0 then r1 else r0) (O92 : ro = 92 → ∀ q j, q < 32 → fI U (89 + q) j = fI μ (89 + q) j ∧ fL U (89 + q) j = fL μ (89 + q) j) (O124 : ro = 124 → ∀ q j, q < 32 → fI U (121 + q) j = fI μ (121 + q) j ∧ fL U (121 + q) j = fL μ (121 + q) j) : qX12_image_h22 fF ν (nI b) 0 ∧ lX12_image_h22 fF ν (nI b) 0 = 1 ∧ RR U (mX12_image_h22 fF ν (nI b) 0) := by
  obtain ⟨ν2, ⟨m1, m2, m3⟩, ⟨n1, n2⟩, F, G, ⟨p1, p2⟩, ⟨q1, q2⟩, s1, s2⟩ := im_mod (ν := ν) hb g3
  refine ⟨m1, m2, ?_⟩
  rw [m3]
  have w := RS_WR h g3
  obtain ⟨A1, A2, A3⟩ := A
  have g3' : fI ν2 0 21 = 1 := (F 0 21 (by omega) (by omega)).trans g3
  have XR' : XR ρ U ν2 := XR_cg ⟨⟨(A1 1 2 (by omega)).1, (A1 51 8 (by omega)).1, (A1 57 4 (by omega)).1, (A1 0 11 (by omega)).1, (A1 61 5 (by omega)).1, (A1 66 5 (by omega)).1, (A1 0 12 (by omega)).1⟩, fun k j q => (A1 k j (by omega)).1, fun j => (A1 2 j (by omega)).2⟩ ⟨⟨F 0 2 (by omega) (by omega), F 0 39 (by omega) (by omega), F 0 45 (by omega) (by omega), F 0 48 (by omega) (by omega), F 0 54 (by omega) (by omega), F 0 59 (by omega) (by omega), F 0 10 (by omega) (by omega)⟩, fun k j q => F k j (by omega) (by omega)⟩ h.2.2.2.1
  have W' : WR σ (blk U 8) (fL U 25) (rowN ν2) (fL ν2 5) := by
    rw [rowN_1 g3']
    exact WR_rg w (fun k j q => (A1 (8 + k) j (by have := inR_lt q; omega)).1) (fun j _ => (A1 25 j (by omega)).2) (fun j _ => F 2 j (by omega) (by omega)) (fun j _ => G 5 j (by omega))
  have KN : KP σ rD U ν2 b := by
    have wn : ∀ D', D' = D → WR σ (blk U D') (fL U (D' + 17)) (fun j => fI ν2 4 (2560 * b + j)) (fun j => fL ν2 7 (24 * b + j)) := fun D' e => by
      subst e
      exact WR_rg w (fun k j q => A2 k j q) A3 (fun j hj => q1 j hj) (fun j hj => s1 j hj)
    rcases hD with ⟨e1, e2⟩ | ⟨e1, e2⟩
    · exact Or.inr (Or.inl ⟨e2, p1, wn 89 e1.symm⟩)
    · exact Or.inr (Or.inr ⟨e2, p1, wn 121 e1.symm⟩)
  have hb2 : b = 0 ∨ b = 1 := by omega
  rcases hb2 with rfl | rfl
  · simp only [if_true] at lz hro
    subst hro
    exact ⟨σ, σ, σ1, ρ, rD, ro, lz, n2.trans h.2.1, n1.trans h.2.2.1, XR', Or.inl g3', W', KN, KP_rg h.2.2.2.2.2.2.2 (p2 1 (by omega)) O92 O124 (fun j hj => q2 1 j (by omega) (by omega) hj) (fun j hj => s2 1 j (by omega) (by omega) hj)⟩
  · simp only [show ¬ (1 : Nat) = 0 by decide, if_false] at lz hro
    subst hro
    exact ⟨σ, σ0, σ, ρ, ro, rD, lz, n2.trans h.2.1, n1.trans h.2.2.1, XR', Or.inl g3', W', KP_rg h.2.2.2.2.2.2.1 (p2 0 (by omega)) O92 O124 (fun j hj => q2 0 j (by omega) (by omega) hj) (fun j hj => s2 0 j (by omega) (by omega) hj), KN⟩
end
theorem imA_c {D : Nat} {μ U : fm_T} (h : CP D 8 inR True μ U) (hD : 89 ≤ D) : imA D μ U := ⟨fun k j q => h.2.1 k j (by omega), fun k j q => h.2.2.1 k j q (inR_lt q), h.2.2.2 trivial⟩
theorem imgN_f {B r r' k : Nat} {μ : fm_T} (hk : k < B) (j : Nat) : fI (imgN B r r' μ) k j = fI μ k j ∧ fL (imgN B r r' μ) k j = fL μ k j := by
  refine ⟨?_, ?_⟩
  · show (if k < B then μ.2.2.1 k else imgZ B k) j = _
    rw [if_pos hk]
  · show (if k < B then μ.2.2.2 k else fun _ => 0) j = _
    rw [if_pos hk]
theorem imA_n {B r r' : Nat} {μ U : fm_T} (h : CP B 8 inR True (imgN B r r' μ) U) (hB : 89 ≤ B) : imA B μ U := by
  obtain ⟨a1, a2, a3⟩ := imA_c h hB
  exact ⟨fun k j q => ⟨(a1 k j q).1.trans (imgN_f (by omega) j).1, (a1 k j q).2.trans (imgN_f (by omega) j).2⟩, fun k j q => (a2 k j q).trans (imgN_f (by have := inR_lt q; omega) j).1, fun j q => (a3 j q).trans (imgN_f (by omega) j).2⟩
theorem ok_image : ob_image RR := by
  rintro μ ν x1 r0 r1 hr ⟨σ, σ0, σ1, ρ, r0', r1', h⟩
  obtain ⟨rfl, rfl⟩ := shC_inj (hr.1.symm.trans h.1.1)
  obtain ⟨g1, g2, g3⟩ := lay0 h
  generalize hν : uX12_lay (fm_i ν 0 0 0) = ν1 at g2 g3
  unfold pX12_image gX12_image uX12_image gX11_image uX11_image
  rw [hν]
  simp only [isI (μ := μ)]
  by_cases h1 : gX11_within μ x1 0 1 = 0
  · have n0 : ¬ x1 = 0 := fun z => by rw [z] at h1; exact absurd h1 (by unfold gX11_within; decide)
    have n1 : ¬ x1 = 1 := fun z => by rw [z] at h1; exact absurd h1 (by unfold gX11_within; decide)
    simp only [if_pos h1, if_neg n0, if_neg n1]
    exact ⟨⟨g1, fun z => absurd h1 z⟩, trivial, σ, σ0, σ1, ρ, r0, r1, g2⟩
  simp only [if_neg h1]
  obtain ⟨b, hb, rfl⟩ := wi_of (n := 1) (by decide) h1
  have key : ∃ U, (if nI b = 0 then (if r0 = 92 then uX10_copyFrom_89_8 μ else if r0 = 124 then uX10_copyFrom_121_8 μ else if μ.1 = 89 then uX10_copyFrom_89_8 (imgN 89 92 r1 μ) else uX10_copyFrom_121_8 (imgN 121 124 r1 μ)) else if nI b = 1 then (if r1 = 92 then uX10_copyFrom_89_8 μ else if r1 = 124 then uX10_copyFrom_121_8 μ else if μ.1 = 89 then uX10_copyFrom_89_8 (imgN 89 r0 92 μ) else uX10_copyFrom_121_8 (imgN 121 r0 124 μ)) else μ) = U ∧ qX12_image_h22 fF ν1 (nI b) 0 ∧ lX12_image_h22 fF ν1 (nI b) 0 = 1 ∧ RR U (mX12_image_h22 fF ν1 (nI b) 0) := by
    have c1 := cp_89_8 μ
    have c2 := cp_121_8 μ
    have hb2 : b = 0 ∨ b = 1 := by omega
    have e10 : ¬ nI 1 = 0 := by decide
    obtain ⟨sh, hr⟩ := hr
    rcases hb2 with rfl | rfl
    · simp only [show nI 0 = 0 from rfl, if_true]
      rcases hr with ⟨hn, rfl, rfl⟩ | ⟨hn, rfl, rfl⟩ | ⟨hn, rfl, rfl⟩ | ⟨hn, rfl, rfl⟩ | ⟨hn, rfl, rfl⟩
      · have c := cp_89_8 (imgN 89 92 2 μ)
        simp only [hn, if_true, show ¬ (2 : Nat) = 92 by decide, show ¬ (2 : Nat) = 124 by decide, if_false]
        exact ⟨_, rfl, im_rs (b := 0) (σo := σ) g2 g3 (by omega) (Or.inl ⟨rfl, rfl⟩) (imA_n c (by omega)) ⟨c.1.2, Or.inr (Or.inl ⟨c.1.1, rfl, rfl⟩)⟩ rfl (fun z => by simp at z) (fun z => by simp at z)⟩
      · simp only [if_true]
        exact ⟨_, rfl, im_rs (b := 0) (σo := σ) g2 g3 (by omega) (Or.inl ⟨rfl, rfl⟩) (imA_c c1 (by omega)) ⟨c1.1.2.trans sh, Or.inr (Or.inl ⟨c1.1.1.trans hn, rfl, rfl⟩)⟩ rfl (fun z => by simp at z) (fun z => by simp at z)⟩
      · have c := cp_121_8 (imgN 121 124 92 μ)
        simp only [hn, show ¬ (2 : Nat) = 92 by decide, show ¬ (2 : Nat) = 124 by decide, show ¬ (121 : Nat) = 89 by decide, if_false]
        exact ⟨_, rfl, im_rs (b := 0) (σo := σ) g2 g3 (by omega) (Or.inr ⟨rfl, rfl⟩) (imA_n c (by omega)) ⟨c.1.2, Or.inr (Or.inr (Or.inr (Or.inr ⟨c.1.1, rfl, rfl⟩)))⟩ rfl (fun _ q j hq => ⟨(c.2.1 (89 + q) j (by omega)).1.trans (imgN_f (by omega) j).1, (c.2.1 (89 + q) j (by omega)).2.trans (imgN_f (by omega) j).2⟩) (fun z => by simp at z)⟩
      · simp only [if_true]
        exact ⟨_, rfl, im_rs (b := 0) (σo := σ) g2 g3 (by omega) (Or.inl ⟨rfl, rfl⟩) (imA_c c1 (by omega)) ⟨c1.1.2.trans sh, Or.inr (Or.inr (Or.inr (Or.inl ⟨c1.1.1.trans hn, rfl, rfl⟩)))⟩ rfl (fun z => by simp at z) (fun _ q j hq => c1.2.1 (121 + q) j (by omega))⟩
      · simp only [show ¬ (124 : Nat) = 92 by decide, if_false, if_true]
        exact ⟨_, rfl, im_rs (b := 0) (σo := σ) g2 g3 (by omega) (Or.inr ⟨rfl, rfl⟩) (imA_c c2 (by omega)) ⟨c2.1.2.trans sh, Or.inr (Or.inr (Or.inr (Or.inr ⟨c2.1.1.trans hn, rfl, rfl⟩)))⟩ rfl (fun _ q j hq => c2.2.1 (89 + q) j (by omega)) (fun z => by simp at z)⟩
    · simp only [if_neg e10, show nI 1 = 1 from rfl, if_true, show ¬ (1 : Int32) = 0 by decide, if_false]
      rcases hr with ⟨hn, rfl, rfl⟩ | ⟨hn, rfl, rfl⟩ | ⟨hn, rfl, rfl⟩ | ⟨hn, rfl, rfl⟩ | ⟨hn, rfl, rfl⟩
      · have c := cp_89_8 (imgN 89 2 92 μ)
        simp only [hn, if_true, show ¬ (2 : Nat) = 92 by decide, show ¬ (2 : Nat) = 124 by decide, if_false]
        exact ⟨_, rfl, im_rs (b := 1) (σo := σ) g2 g3 (by omega) (Or.inl ⟨rfl, rfl⟩) (imA_n c (by omega)) ⟨c.1.2, Or.inr (Or.inr (Or.inl ⟨c.1.1, rfl, rfl⟩))⟩ rfl (fun z => by simp at z) (fun z => by simp at z)⟩
      · have c := cp_121_8 (imgN 121 92 124 μ)
        simp only [hn, show ¬ (2 : Nat) = 92 by decide, show ¬ (2 : Nat) = 124 by decide, show ¬ (121 : Nat) = 89 by decide, if_false]
        exact ⟨_, rfl, im_rs (b := 1) (σo := σ) g2 g3 (by omega) (Or.inr ⟨rfl, rfl⟩) (imA_n c (by omega)) ⟨c.1.2, Or.inr (Or.inr (Or.inr (Or.inl ⟨c.1.1, rfl, rfl⟩)))⟩ rfl (fun _ q j hq => ⟨(c.2.1 (89 + q) j (by omega)).1.trans (imgN_f (by omega) j).1, (c.2.1 (89 + q) j (by omega)).2.trans (imgN_f (by omega) j).2⟩) (fun z => by simp at z)⟩
      · simp only [if_true]
        exact ⟨_, rfl, im_rs (b := 1) (σo := σ) g2 g3 (by omega) (Or.inl ⟨rfl, rfl⟩) (imA_c c1 (by omega)) ⟨c1.1.2.trans sh, Or.inr (Or.inr (Or.inl ⟨c1.1.1.trans hn, rfl, rfl⟩))⟩ rfl (fun z => by simp at z) (fun z => by simp at z)⟩
      · simp only [show ¬ (124 : Nat) = 92 by decide, if_false, if_true]
        exact ⟨_, rfl, im_rs (b := 1) (σo := σ) g2 g3 (by omega) (Or.inr ⟨rfl, rfl⟩) (imA_c c2 (by omega)) ⟨c2.1.2.trans sh, Or.inr (Or.inr (Or.inr (Or.inl ⟨c2.1.1.trans hn, rfl, rfl⟩)))⟩ rfl (fun _ q j hq => c2.2.1 (89 + q) j (by omega)) (fun z => by simp at z)⟩
      · simp only [if_true]
        exact ⟨_, rfl, im_rs (b := 1) (σo := σ) g2 g3 (by omega) (Or.inl ⟨rfl, rfl⟩) (imA_c c1 (by omega)) ⟨c1.1.2.trans sh, Or.inr (Or.inr (Or.inr (Or.inr ⟨c1.1.1.trans hn, rfl, rfl⟩)))⟩ rfl (fun z => by simp at z) (fun _ q j hq => c1.2.1 (121 + q) j (by omega))⟩
  obtain ⟨U, k1, k2, k3, k4⟩ := key
  rw [k1, k3]
  refine ⟨⟨g1, fun _ => k2⟩, ?_, k4⟩
  have hb2 : b = 0 ∨ b = 1 := by omega
  rcases hb2 with rfl | rfl <;> rfl
