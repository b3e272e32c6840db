section
variable {σ σ0 σ1 ρ τ : sg_T} {r0 r1 s0 s1 m : Nat} {μ N U T S X : fm_T}
theorem RS_ho (h : RS σ σ0 σ1 ρ r0 r1 μ N) (hb : fI N 0 21 = 1) (hz : μ.2.1 = shC s0 s1) (f1 : frL fRC fRCl μ U) (f2 : frL fRM fRMl N T) (e : fI T 0 2 = 0) (e10 : fI T 0 10 = 0) (hd : HDR τ m U T)
    (f4 : frL hoF fN (fm_r (fm_r (fm_i (fm_i U 1 2 0) 0 12 0) 8 2 76) 0 9 27) X) (x36 : fI X 36 3 = 0 ∧ fI X 36 4 = 0) (x9 : fI X 9 5 = 0 ∧ fI X 9 6 = 0 ∧ fI X 9 7 = 0 ∧ fI X 15 8 = 0) (x19 : ∀ j, j < 100 → fI X 19 j = -1) (x20 : ∀ j, j < 40 → fI X 20 j = -1)
    (f3 : frL (fun k j => k = 2 ∧ (j < 130 ∨ (131 ≤ j ∧ j ≤ 135) ∨ (2240 ≤ j ∧ j < 2440))) (fun k j => k = 5 ∧ j < 24) T S) (m1 : ∀ j, j < 130 → fI S 2 j = fI T 3 j) (m2 : ∀ j, j < 24 → fL S 5 j = fL T 6 j) (m3 : ∀ j, 131 ≤ j → j ≤ 135 → fI S 2 j = 0) (m4 : ∀ j, 2240 ≤ j → j < 2440 → fI S 2 j = -1) :
    RS (nwS σ τ) σ0 σ1 (rzR ρ) r0 r1 (cn_m (shC s0 s1) (rn_m rnH X)) S := by
  have c0 : ∀ k j, ¬ (k = 1 ∧ j = 2) → ¬ (k = 0 ∧ j = 12) → fI (fm_i (fm_i U 1 2 0) 0 12 0) k j = fI U k j := fun k j q1 q2 => by rw [fI_i, if_neg q2, fI_i, if_neg q1]
  have c : ∀ k j, ¬ (k = 1 ∧ j = 2) → ¬ (k = 0 ∧ j = 12) → ¬ hoF k j → fI X k j = fI U k j := fun k j q1 q2 q3 => (f4.2.2.2 k j q3).trans (c0 k j q1 q2)
  have z1 : fI X 1 2 = 0 := by
    refine (f4.2.2.2 1 2 (by unfold hoF; omega)).trans ?_
    show fI (fm_i (fm_i U 1 2 0) 0 12 0) 1 2 = 0
    rw [fI_i, if_neg (by omega), fI_i, if_pos ⟨rfl, rfl⟩]
  have z2 : fI X 0 12 = 0 := by
    refine (f4.2.2.2 0 12 (by unfold hoF; omega)).trans ?_
    show fI (fm_i (fm_i U 1 2 0) 0 12 0) 0 12 = 0
    rw [fI_i, if_pos ⟨rfl, rfl⟩]
  have x1 : X.1 = μ.1 := f4.1.trans f1.1
  have xl : ∀ k j, fL X k j = fL U k j := fun k j => f4.2.2.1 k j (fun q => q)
  have g : ∀ k j, fI (cn_m (shC s0 s1) (rn_m rnH X)) k j = fI X (rnH k) j := fun k j => rfl
  have gl : ∀ k j, fL (cn_m (shC s0 s1) (rn_m rnH X)) k j = fL X (rnH k) j := fun k j => rfl
  have g1 : (cn_m (shC s0 s1) (rn_m rnH X)).1 = X.1 := rfl
  have g2 : (cn_m (shC s0 s1) (rn_m rnH X)).2.1 = shC s0 s1 := rfl
  generalize cn_m (shC s0 s1) (rn_m rnH X) = Y at g gl g1 g2 ⊢
  have y : ∀ k j, ¬ ((24 ≤ k ∧ k < 36) ∨ (73 ≤ k ∧ k < 85)) → ¬ (k = 1 ∧ j = 2) → ¬ (k = 0 ∧ j = 12) → ¬ hoF k j → ¬ fRC k j → fI Y k j = fI μ k j := fun k j a1 a2 a3 a4 a5 => by
    rw [g, rnH_o a1, c k j a2 a3 a4]
    exact f1.2.2.2 k j a5
  have yx : ∀ k j, ¬ ((24 ≤ k ∧ k < 36) ∨ (73 ≤ k ∧ k < 85)) → fI Y k j = fI X k j := fun k j a1 => by rw [g, rnH_o a1]
  have yl : ∀ k j, ¬ ((24 ≤ k ∧ k < 36) ∨ (73 ≤ k ∧ k < 85)) → ¬ fRCl k j → fL Y k j = fL μ k j := fun k j a1 a4 => by
    rw [gl, rnH_o a1, xl]
    exact f1.2.2.1 k j a4
  have s : ∀ k j, ¬ (k = 2 ∧ (j < 130 ∨ (131 ≤ j ∧ j ≤ 135) ∨ (2240 ≤ j ∧ j < 2440))) → ¬ fRM k j → fI S k j = fI N k j := fun k j a1 a2 => by
    rw [f3.2.2.2 k j a1]
    exact f2.2.2.2 k j a2
  have w := RS_WR h hb
  have kc : kpC μ Y := ⟨g1.trans x1, by rw [g2, hz], fun k j q => y k j (by omega) (by omega) (by omega) (by unfold hoF; omega) (by unfold fRC; omega), fun k j q => yl k j (by omega) (by unfold fRCl; omega)⟩
  have km : kpM N S := ⟨f3.1.trans f2.1, f3.2.1.trans f2.2.1, fun j => s 4 j (by omega) (by unfold fRM; omega), fun j => s 8 j (by omega) (by unfold fRM; omega), fun j => by
    rw [f3.2.2.1 7 j (by omega)]; exact f2.2.2.1 7 j (by unfold fRMl; omega)⟩
  refine RS_w h kc km (XR_z h.2.2.2.1 ?_ ?_ ?_ (fun k j q => y k j (by omega) (by omega) (by omega) (by unfold hoF; omega) (by unfold fRC; omega)) (fun j => yl 2 j (by omega) (by unfold fRCl; omega)) (fun k j q => s k j (by omega) (by unfold fRM; omega))) ?_ ⟨CB_ho hd w.1 ⟨?_, ?_, ?_, ?_⟩ ?_ (fun l hl => ?_) (fun q hq => ⟨?_, ?_, ?_⟩) (fun k j hk => ?_) (fun j => ?_), MB_ho hd w.2.1 m3 ?_ m4 (fun j hj => ?_) m1 m2, WF_ho hd w.2.2.1, 0, 0, 0, ?_, ?_, by omega, by omega, Or.inl ⟨rfl, m3 135 (by omega) (by omega)⟩⟩
  · rw [yx 1 2 (by omega)]; exact z1
  · rw [f3.2.2.2 0 2 (by omega)]; exact e
  · rw [yx 0 12 (by omega), z2, f3.2.2.2 0 10 (by omega), e10]
  · rw [s 0 21 (by omega) (by unfold fRM; omega)]; exact hb
  · exact (yx 9 5 (by omega)).trans x9.1
  · exact (yx 9 6 (by omega)).trans x9.2.1
  · exact (yx 9 7 (by omega)).trans x9.2.2.1
  · exact (yx 15 8 (by omega)).trans x9.2.2.2
  · exact y 8 4 (by omega) (by omega) (by omega) (by unfold hoF; omega) (by unfold fRC; omega)
  · exact (yx 19 l (by omega)).trans (x19 l hl)
  · exact (yx 20 q (by omega)).trans (x20 q hq)
  · exact y 22 q (by omega) (by omega) (by omega) (by unfold hoF; omega) (by unfold fRC; omega)
  · exact y 23 q (by omega) (by omega) (by omega) (by unfold hoF; omega) (by unfold fRC; omega)
  · show fI Y (8 + (16 + k)) j = fI U (73 + k) j
    rw [show 8 + (16 + k) = 24 + k by omega, g, rnH_u (by omega), c _ _ (by omega) (by omega) (by unfold hoF; omega), show 24 + k + 49 = 73 + k by omega]
  · show fL Y 25 j = fL U 74 j
    rw [gl, rnH_u (by omega), xl]
  · exact s 2 130 (by omega) (by unfold fRM; omega)
  · exact s 2 j (by omega) (by unfold fRM; omega)
  · exact (yx 36 4 (by omega)).trans x36.2
  · exact (yx 36 3 (by omega)).trans x36.1
end
theorem ok_house : ob_house RR := by
  rintro μ ν r0 r1 hz ⟨σ, σ0, σ1, ρ, s0, s1, h⟩
  obtain ⟨l1, l2, l3⟩ := lay1 h
  obtain ⟨p1, p2, p3, U, T, u1, u2, u3, u4, u5⟩ := hread l2
  unfold pX11_house pX12_house gX11_house gX12_house vX11_house uX12_house uX11_house kX11_house
  rw [u1]
  rcases u5 with ⟨d1, d2, d3, d4, d5⟩ | ⟨d1, d2, τ, m, i, d3, d4, d5, d6, d7⟩
  · simp only [if_pos d1]
    refine ⟨⟨p1, fun q => absurd d1 q⟩, ⟨l1, p2, p3, d5⟩, by rw [d3, d2.2], u2.1, σ, σ0, σ1, rzR ρ, s0, s1, ?_⟩
    rw [d4]
    exact RS_rf l2 u2 u3 u4 d2
  · have n1 : ¬ gX2_readFrom μ = 0 := by rw [d1]; decide
    simp only [if_neg n1]
    obtain ⟨c1, X, c2, c3, c4, c5, c6, c7⟩ := ho_cl (fm_r (fm_r (fm_i (fm_i U 1 2 0) 0 12 0) 8 2 76) 0 9 27)
    obtain ⟨q1, q2, S, q3, q4, q5, q6, q7, q8⟩ := ho_m (nI i) T
    rw [c2, d5, d6, q2, q3]
    refine ⟨⟨p1, fun _ => c1⟩, ⟨l1, p2, p3, d7 q1⟩, ?_, c3.1.trans u2.1, nwS σ τ, σ0, σ1, rzR ρ, s0, s1, RS_ho l2 l3 hz.1 u2 u3 u4 d2 d3 c3 c4 c5 c6 c7 q4 q5 q6 q7 q8⟩
    refine (c3.2.2.2 73 12 (by unfold hoF; omega)).trans ?_
    show fI (fm_i (fm_i U 1 2 0) 0 12 0) 73 12 = nI i
    rw [fI_i, if_neg (by omega), fI_i, if_neg (by omega)]
    exact d4
