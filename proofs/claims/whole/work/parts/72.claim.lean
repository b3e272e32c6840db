theorem ok_claim : ob_claim RR := by
  rintro μ ν x1 ⟨σ, σ0, σ1, ρ, r0, r1, h⟩
  obtain ⟨g1, g2, g3⟩ := lay0 h
  generalize hν : uX12_lay (fm_i ν 0 0 0) = ν1 at g2 g3
  have w := RS_WR g2 g3
  obtain ⟨cS, mS, hS⟩ := wr_S w
  obtain ⟨cK, mK, hK⟩ := wr_K w
  have hT := isT (x := x1) (by omega) cS mS
  unfold pX11_claim pX12_claim gX11_claim gX12_claim uX11_claim uX12_claim
  rw [hν, cK, mK]
  simp only [hT]
  by_cases h1 : gX11_isTicket μ x1 = 0
  · simp only [if_pos h1]
    exact ⟨⟨wi_01 _ _ _ _, fun z => absurd h1 z⟩, ⟨g1, fun z => absurd h1 z⟩, trivial, σ, σ0, σ1, ρ, r0, r1, g2⟩
  simp only [if_neg h1]
  obtain ⟨t, ht, rfl⟩ := isT_of (by omega) cS h1
  by_cases h2 : σ 0 2 = 12
  · have q1 : (12 : Int32) ≤ nI (σ 0 2) := by rw [h2]; decide
    have q2 : nI (σ 0 2) = 12 := by rw [h2]; rfl
    simp only [if_pos q1, if_pos q2]
    exact ⟨⟨wi_01 _ _ _ _, fun _ z => absurd q1 z⟩, ⟨g1, fun _ z => absurd q2 z⟩, trivial, σ, σ0, σ1, ρ, r0, r1, g2⟩
  have q1 : ¬ (12 : Int32) ≤ nI (σ 0 2) := fun z => by have := (nI_leI (a := 12) (by omega) (by omega)).mp z; omega
  have q2 : ¬ nI (σ 0 2) = 12 := fun z => h2 (nI_inj (b := 12) (by omega) (by decide) z)
  simp only [if_neg q1, if_neg q2]
  have o11 : gX8_of μ (nI t) 11 = nI (σ 1 (14 * t + 11)) ∧ pX8_of μ (nI t) 11 := of_c w (j := 11) ht (by omega)
  obtain ⟨d1, d2, d3⟩ := cm_ok w ht
  obtain ⟨f1, f2⟩ := ic_ok w ht
  have sn := (st_now w ht).2.1
  rw [o11.1, d1, f1]
  by_cases h3 : σ 1 (14 * t + 11) = 0
  · have q3 : nI (σ 1 (14 * t + 11)) = 0 := by rw [h3]; rfl
    simp only [if_pos q3]
    by_cases h4 : gX12_isIn ν1 (gX12_standsNow ν1 (nI t)) 1 3 = 0
    · simp only [if_pos h4]
      exact ⟨⟨wi_01 _ _ _ _, fun _ _ => ⟨o11.2, fun _ => ⟨f2, fun z => absurd h4 z⟩⟩⟩, ⟨g1, fun _ _ => ⟨d2, fun _ => ⟨sn, fun z => absurd h4 z⟩⟩⟩, trivial, σ, σ0, σ1, ρ, r0, r1, g2⟩
    · simp only [if_neg h4]
      have se := set_eq (j := 11) (v := 1) hS cS ht (by decide)
      have se1 : uX8_set μ (nI t) 11 1 = fm_i μ 10 (14 * t + 11) 1 := se.1
      have e1 : (140 : Int32) + nI (σ 0 2) = nI (140 + σ 0 2) := by simp only [li_n, nI_add]
      have e2 : fI (fm_i μ 10 (14 * t + 11) 1) 9 7 = nI (σ 0 2) := by rw [fI_i, if_neg (by omega)]; exact cK
      have e3 : fI (fm_i ν1 2 (140 + σ 0 2) (nI t)) 2 133 = nI (σ 0 2) := by rw [fI_i, if_neg (by omega)]; exact mK
      rw [se1, e1, nI_clamp (by omega), e2, e3, nI_1]
      refine ⟨⟨wi_01 _ _ _ _, fun _ _ => ⟨o11.2, fun _ => ⟨f2, fun _ => se.2⟩⟩⟩, ⟨g1, fun _ _ => ⟨d2, fun _ => ⟨sn, fun _ => vp_in_nI (by omega) (by decide)⟩⟩⟩, rfl, up2 (up2 (up2 σ 1 (14 * t + 11) 1) 23 (σ 0 2) t) 0 2 (σ 0 2 + 1), σ0, σ1, ρ, r0, r1, RS_w g2 ((kpC_i (by decide)).tr (kpC_i (by decide))) ((kpM_i (by decide) (by decide)).tr (kpM_i (by decide) (by decide))) (XR_cg ((xgC_i (by decide)).tr (xgC_i (by decide))) (xgM_i.tr xgM_i) g2.2.2.2.1) (by rw [fI_i, if_neg (by omega), fI_i, if_neg (by omega)]; exact g3) ?_⟩
      refine WR_claim w ht (by omega) h3 (fun k hk => by simp [up2, hk]) (by simp [up2]) (fun j hj => by simp [up2, hj]) (by simp [up2]) (fun k hk => by simp [up2, hk]) (by simp [up2]) (fun r z1 z2 z3 => by funext j; simp [up2, z1, z2, z3]) (fun k j hk z1 z2 => ?_) ?_ ?_ (fun j z1 z2 => ?_) ?_ ?_
      · simp only [blk, fI_i]
        rw [if_neg (by omega), if_neg (by omega)]
      · simp [blk, fI_i]
      · simp [blk, fI_i]
      · rw [fI_i, if_neg (by omega), fI_i, if_neg (by omega)]
      · rw [fI_i, if_neg (by omega), fI_i, if_pos ⟨rfl, rfl⟩]
      · rw [fI_i, if_pos ⟨rfl, rfl⟩]
  · have q3 : ¬ nI (σ 1 (14 * t + 11)) = 0 := fun z => h3 (nI_inj (b := 0) (by omega) (by decide) z)
    simp only [if_neg q3]
    exact ⟨⟨wi_01 _ _ _ _, fun _ _ => ⟨o11.2, fun z => absurd z q3⟩⟩, ⟨g1, fun _ _ => ⟨d2, fun z => absurd z q3⟩⟩, trivial, σ, σ0, σ1, ρ, r0, r1, g2⟩
