theorem hread {σ σ0 σ1 ρ : sg_T} {s0 s1 : Nat} {μ N : fm_T} (h : RS σ σ0 σ1 ρ s0 s1 μ N) : pX2_readFrom μ ∧ pX12_begin N 900 ∧ pX12_standard_3 (uX12_begin N 900) ∧ ∃ U T, uX2_readFrom μ = U ∧ frL fRC fRCl μ U ∧ frL fRM fRMl N T ∧ fI T 0 2 = 0 ∧
    ((gX2_readFrom μ = 0 ∧ FQ U T ∧ lX12_house_h25 fF (fm_i (uX12_standard_3 (uX12_begin N 900)) 0 22 0) 0 = (-1 : Int32) - fI T 0 11 ∧ mX12_house_h25 fF (fm_i (uX12_standard_3 (uX12_begin N 900)) 0 22 0) 0 = T ∧ qX12_house_h25 fF (fm_i (uX12_standard_3 (uX12_begin N 900)) 0 22 0) 0) ∨
     (gX2_readFrom μ = 1 ∧ fI T 0 10 = 0 ∧ ∃ τ' m' i', HDR τ' m' U T ∧ fI U 73 12 = nI i' ∧ lX12_house_h25 fF (fm_i (uX12_standard_3 (uX12_begin N 900)) 0 22 0) 0 = lX12_house_h54 fF T (nI i') 0 ∧ mX12_house_h25 fF (fm_i (uX12_standard_3 (uX12_begin N 900)) 0 22 0) 0 = mX12_house_h54 fF T (nI i') 0 ∧ (qX12_house_h54 fF T (nI i') 0 → qX12_house_h25 fF (fm_i (uX12_standard_3 (uX12_begin N 900)) 0 22 0) 0))) := by
  have hx := h.2.2.2.1
  have e900 : (900 : Int32) = nI 900 := rfl
  have z0 : (0 : Int32) = nI 0 := rfl
  obtain ⟨g1, g2, c75, c77, c80, c84, c11, c12⟩ := fg_ok μ
  have fF0 : frL fRC fRCl μ (uX2_forgetAll μ) := g2.mo (fun k j y => by unfold fFg at y; unfold fRC; omega) (fun _ _ y => fN_e y)
  have cb : CBy (ρ 1) (ρ 0 0) (uX2_forgetAll μ) := ⟨hx.1.2.2.1, by rw [fF0.2.2.2 1 2 (by unfold fRC; omega)]; exact hx.1.1, fun i hi => ⟨by rw [fF0.2.2.2 3 i (by unfold fRC; omega)]; exact (hx.1.2.2.2 i hi).1, (hx.1.2.2.2 i hi).2.2⟩, fun i hi => by rw [fF0.2.2.1 2 i (by unfold fRCl; omega)]; exact hx.2.2.2.2.2.2.2 i hi⟩
  obtain ⟨p1, p2, last, K, A, V, W, P, p3, lx⟩ := sr_ok (l := 900) cb (by omega)
  obtain ⟨b1, b2, b3, b4, b5, b6⟩ := mbg_ok (l := 900) (N := N) hx.1.2.1 hx.1.2.2.1 (fun i hi => ⟨(hx.1.2.2.2 i hi).2.1, (hx.1.2.2.2 i hi).2.2⟩) (by omega) lx
  rw [← e900] at p1 p2 p3 b1 b2 b3 b4 b5 b6
  have fC0 : frL fRC fRCl μ (uX7_startReading (uX2_forgetAll μ) 900) := fF0.tr (p2.mo (fun k j y => by unfold fTa at y; unfold fRC; omega) (fun k j y => by unfold fTal at y; unfold fRCl; omega))
  have fM0 : frL fRM fRMl N (uX12_begin N 900) := b2.mo (fun k j y => by unfold fBm at y; unfold fRM; omega) (fun k j y => by unfold fGl at y; unfold fRMl; omega)
  have lk0 : LK (ρ 1) (ρ 0 0) 900 last K A V W P 0 (uX7_startReading (uX2_forgetAll μ) 900) (uX12_begin N 900) := ⟨p3, b3, b4, b6⟩
  have cc : ∀ k j, 73 ≤ k → fI (uX7_startReading (uX2_forgetAll μ) 900) k j = fI (uX2_forgetAll μ) k j := fun k j hk => p2.2.2.2 k j (by unfold fTa; omega)
  obtain ⟨q1, Z, q2, q3, q4⟩ := sd_3 130 0 fF (uX12_begin N 900) (by omega) (fF_gt (by omega))
  rw [← z0] at q1 q2
  unfold pX2_readFrom uX2_readFrom gX2_readFrom pX12_standard_3 uX12_standard_3
  rw [q2]
  have fS : frL (fun k j => k = 3 ∨ (k = 0 ∧ j = 22)) fN (uX12_begin N 900) (fm_i (fm_i (fm_i (fm_i (fm_i Z 3 4 2) 3 5 30) 3 6 20) 3 7 150) 0 22 0) := (((((q3.mo (A' := fun k j => k = 3 ∨ (k = 0 ∧ j = 22)) (fun k j y => Or.inl y.1) (fun _ _ y => y)).i (Or.inl rfl)).i (Or.inl rfl)).i (Or.inl rfl)).i (Or.inl rfl)).i (Or.inr ⟨rfl, rfl⟩)
  have sm : ∀ j, fI (fm_i (fm_i (fm_i (fm_i (fm_i Z 3 4 2) 3 5 30) 3 6 20) 3 7 150) 0 22 0) 3 j = if j = 7 then 150 else if j = 6 then 20 else if j = 5 then 30 else if j = 4 then 2 else fI Z 3 j := fun j => by
    simp only [fI_i, true_and, show ¬ (3 : Nat) = 0 by omega, false_and, if_false]
  have s22 : fI (fm_i (fm_i (fm_i (fm_i (fm_i Z 3 4 2) 3 5 30) 3 6 20) 3 7 150) 0 22 0) 0 22 = 0 := by rw [fI_i, if_pos ⟨rfl, rfl⟩]
  generalize fm_i (fm_i (fm_i (fm_i (fm_i Z 3 4 2) 3 5 30) 3 6 20) 3 7 150) 0 22 0 = M at fS sm s22 ⊢
  have lk := LK_f lk0 (frL.rf (fun _ _ => False) fN _) fS (fun _ _ q => q.elim) (fun _ _ q => by unfold fN at q; exact q.elim) (fun k j q => by omega) (fun _ _ q => by unfold fN at q; exact q.elim)
  have hR : HDR tau0 0 (uX7_startReading (uX2_forgetAll μ) 900) M := HDR_start (fun s hs => by rw [cc 75 s (by omega)]; exact c75 s hs) (fun j hj => by rw [cc 77 j (by omega)]; exact c77 j hj) (fun j hj => by rw [cc 80 j (by omega), cc 81 j (by omega)]; exact c80 j hj) (by rw [cc 84 0 (by omega), cc 84 1 (by omega), cc 84 2 (by omega), cc 84 3 (by omega)]; exact c84) (by rw [cc 73 11 (by omega)]; exact c11) (fun s hs => by rw [sm, if_neg (by omega), if_neg (by omega), if_neg (by omega), if_neg (by omega)]; exact q4 s (by omega) (by omega)) ⟨by rw [sm]; rfl, by rw [sm]; rfl, by rw [sm]; rfl, by rw [sm]; rfl⟩ s22
  have k12 : fI (uX7_startReading (uX2_forgetAll μ) 900) 73 12 = nI 0 := by rw [cc 73 12 (by omega)]; exact c12
  have fM : frL fRM fRMl N M := fM0.tr (fS.mo (fun k j y => by unfold fRM; omega) (fun _ _ y => fN_e y))
  have m2 : fI M 0 2 = 0 := by rw [fS.2.2.2 0 2 (by omega)]; exact b5
  generalize uX7_startReading (uX2_forgetAll μ) 900 = C at fC0 lk hR k12 ⊢
  obtain ⟨i1, U, T, i2, i3, i4, i5⟩ := hl_ok lx 941 0 fF fF 0 C M tau0 0 (by omega) (fF_gt (by omega)) (fF_gt (by omega)) (by omega) lk hR k12
  rw [← z0] at i1 i2 i5
  refine ⟨⟨g1, p1, i1⟩, b1, q1, U, T, i2, fC0.tr (i3.mo (fun k j y => by unfold fAc at y; unfold fRC; omega) (fun k j y => by unfold fLcl fA1l at y; unfold fRCl; omega)), fM.tr (i4.mo (fun k j y => by unfold fLm fGm at y; unfold fRM; omega) (fun k j y => by unfold fLml fGl at y; unfold fRMl; omega)), by rw [i4.2.2.2 0 2 (by unfold fLm fGm; omega)]; exact m2, ?_⟩
  rcases i5 with y | ⟨j1, τ2, m2', i', n2, j2, j3, j4, j5, j6, j7⟩
  · exact Or.inl y
  · exact Or.inr ⟨j1, j2.2.2.2, τ2, m2', i', j3, j4, j5, j6, j7⟩
