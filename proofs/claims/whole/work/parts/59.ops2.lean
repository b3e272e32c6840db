theorem isT {μ ν : fm_T} {x : Int32} {S : Nat} (hS : S ≤ 100000) (h1 : fI μ 9 5 = nI S) (h2 : fI ν 2 131 = nI S) : gX12_isTicket ν x = 0 ↔ gX11_isTicket μ x = 0 := by
  unfold gX12_isTicket gX11_isTicket gX12_tickets
  rw [h1, h2, at_cmp hS]
  by_cases q1 : x < 0
  · simp [q1]
  · by_cases q2 : nI S ≤ x
    · simp [q1, q2]
    · simp [q1, q2]
theorem isT_of {μ : fm_T} {x : Int32} {S : Nat} (hS : S ≤ 100000) (h1 : fI μ 9 5 = nI S) (h : ¬ gX11_isTicket μ x = 0) : ∃ t, t < S ∧ x = nI t := by
  unfold gX11_isTicket at h
  rw [h1] at h
  exact wi_lt hS h
theorem set_eq {μ : fm_T} {t j S : Nat} {v : Int32} (hS : S ≤ 40) (h1 : fI μ 9 5 = nI S) (ht : t < S) (hj : j < 14) : uX8_set μ (nI t) (nI j) v = fm_i μ 10 (14 * t + j) v ∧ pX8_set μ (nI t) (nI j) v := by
  unfold uX8_set pX8_set
  have e1 : nI t * (14 : Int32) + nI j = nI (14 * t + j) := by
    simp only [li_n, nI_mul, nI_add]
    congr 1
    omega
  have q1 : ¬ gX11_within μ (nI t) 0 (fI μ 9 5 - 1) = 0 := by
    rw [h1, at_cmp (by omega)]
    rintro (z | z)
    · exact nI_pos (by omega) z
    · rw [nI_leI (by omega) (by omega)] at z
      omega
  have q2 : ¬ gX11_within μ (nI j) 0 13 = 0 := by
    rw [wi_nI]
    rintro (z | z)
    · exact nI_pos (by omega) z
    · have z : nI 13 < nI j := z
      rw [nI_ltI (by omega) (by omega)] at z
      omega
  rw [if_neg q1, if_neg q2, e1, nI_clamp (by omega)]
  exact ⟨rfl, fun _ _ => vp_in_nI (by omega) (by decide)⟩
theorem ok_loaded : ob_loaded RR := by
  rintro μ ν x1 x2 ⟨σ, σ0, σ1, ρ, r0, r1, h⟩
  obtain ⟨g1, g2, g3⟩ := lay0 h
  generalize hν : uX12_lay (fm_i ν 0 0 0) = ν1 at g2 g3
  have w := RS_WR g2 g3
  have hS := w.2.2.1.1.1
  have cS : fI μ 9 5 = nI (σ 0 0) := w.1.1.1
  have mS : fI ν1 2 131 = nI (σ 0 0) := w.2.1.1.1
  have hT := isT (x := x1) (by omega) cS mS
  unfold pX11_loaded pX12_loaded gX11_loaded gX12_loaded uX11_loaded uX12_loaded
  rw [hν]
  simp only [isI (μ := μ), hT]
  by_cases h1 : gX11_isTicket μ x1 = 0
  · simp only [if_pos h1]
    exact ⟨⟨wi_01 _ _ _ _, fun z => absurd h1 z⟩, ⟨g1, fun z => absurd h1 z⟩, trivial, σ, σ0, σ1, ρ, r0, r1, g2⟩
  by_cases h2 : gX11_within μ x2 1 99 = 0
  · simp only [if_neg h1, if_pos h2]
    exact ⟨⟨wi_01 _ _ _ _, fun _ z => absurd h2 z⟩, ⟨g1, fun _ z => absurd h2 z⟩, trivial, σ, σ0, σ1, ρ, r0, r1, g2⟩
  simp only [if_neg h1, if_neg h2]
  obtain ⟨t, ht, rfl⟩ := isT_of (by omega) cS h1
  obtain ⟨l, hl0, hl, rfl⟩ := wi_of1 (n := 99) (by decide) h2
  have se := set_eq (j := 9) (v := nI l) hS cS ht (by decide)
  have e1 : (160 : Int32) + (12 : Int32) * nI t + 9 = nI (160 + 12 * t + 9) := by simp only [li_n, nI_mul, nI_add]
  have se1 : uX8_set μ (nI t) 9 (nI l) = fm_i μ 10 (14 * t + 9) (nI l) := se.1
  rw [se1, e1, nI_clamp (by omega)]
  refine ⟨⟨wi_01 _ _ _ _, fun _ _ => se.2⟩, ⟨g1, fun _ _ => vp_in_nI (by omega) (by decide)⟩, trivial, up2 σ 1 (14 * t + 9) l, σ0, σ1, ρ, r0, r1, RS_w g2 (kpC_i (by decide)) (kpM_i (by decide) (by decide)) (XR_cg (xgC_i (by decide)) xgM_i g2.2.2.2.1) (by rw [fI_i, if_neg (by omega)]; exact g3) ?_⟩
  refine WR_loaded w ht hl ?_ (fun k j hk hj => ?_) ?_ (fun j hj => ?_)
  · simp [blk, fI_i]
  · simp only [blk, fI_i]
    rw [if_neg (by omega)]
  · rw [fI_i, if_pos ⟨rfl, rfl⟩]
  · rw [fI_i, if_neg (by omega)]
theorem ok_solvent : ob_solvent RR := by
  rintro μ ν x1 x2 x3 ⟨σ, σ0, σ1, ρ, r0, r1, h⟩
  obtain ⟨g1, g2, g3⟩ := lay0 h
  generalize hν : uX12_lay (fm_i ν 0 0 0) = ν1 at g2 g3
  have w := RS_WR g2 g3
  have hB := w.2.2.1.1.2.2.2.2
  have cB : fI μ 15 8 = nI (σ 0 4) := w.1.1.2.2.2.2
  have mB : fI ν1 2 134 = nI (σ 0 4) := w.2.1.1.2.2.2.2
  unfold pX11_solvent pX12_solvent gX11_solvent gX12_solvent uX11_solvent uX12_solvent
  rw [hν]
  simp only [isI (μ := μ)]
  by_cases h1 : gX11_within μ x1 0 30000 = 0
  · simp only [if_pos h1]
    exact ⟨fun z => absurd h1 z, ⟨g1, fun z => absurd h1 z⟩, trivial, σ, σ0, σ1, ρ, r0, r1, g2⟩
  by_cases h2 : gX11_within μ x2 0 30000 = 0
  · simp only [if_neg h1, if_pos h2]
    exact ⟨fun _ z => absurd h2 z, ⟨g1, fun _ z => absurd h2 z⟩, trivial, σ, σ0, σ1, ρ, r0, r1, g2⟩
  by_cases h3 : gX11_within μ x3 0 30000 = 0
  · simp only [if_neg h1, if_neg h2, if_pos h3]
    exact ⟨fun _ _ z => absurd h3 z, ⟨g1, fun _ _ z => absurd h3 z⟩, trivial, σ, σ0, σ1, ρ, r0, r1, g2⟩
  simp only [if_neg h1, if_neg h2, if_neg h3]
  obtain ⟨x, hx, rfl⟩ := wi_of (n := 30000) (by decide) h1
  obtain ⟨y, hy, rfl⟩ := wi_of (n := 30000) (by decide) h2
  obtain ⟨z, hz, rfl⟩ := wi_of (n := 30000) (by decide) h3
  unfold pX3_addBookDay gX3_addBookDay uX3_addBookDay
  rw [cB, mB]
  by_cases h4 : σ 0 4 = 200
  · have q1 : ¬ nI (σ 0 4) < 200 := by rw [h4]; decide
    have q2 : nI (σ 0 4) = 200 := by rw [h4]; rfl
    simp only [if_neg q1, if_pos q2]
    exact ⟨fun _ _ _ v => absurd v q1, ⟨g1, fun _ _ _ v => absurd q2 v⟩, trivial, σ, σ0, σ1, ρ, r0, r1, g2⟩
  · have q1 : nI (σ 0 4) < 200 := nI_lt (b := 200) (by omega) (by decide)
    have q2 : ¬ nI (σ 0 4) = 200 := fun v => h4 (nI_inj (b := 200) (by omega) (by decide) v)
    have e1 : (1400 : Int32) + (3 : Int32) * nI (σ 0 4) = nI (1400 + 3 * σ 0 4) := by simp only [li_n, nI_mul, nI_add]
    have e2 : nI (1400 + 3 * σ 0 4) + 1 = nI (1401 + 3 * σ 0 4) := by rw [nI_1]; congr 1; omega
    have e3 : nI (1400 + 3 * σ 0 4) + 2 = nI (1402 + 3 * σ 0 4) := by rw [show (2 : Int32) = nI 2 from rfl, nI_add]; congr 1; omega
    simp only [if_pos q1, if_neg q2, e1, e2, e3]
    rw [nI_clamp (by omega), nI_clamp (by omega), nI_clamp (by omega), nI_clamp (by omega)]
    have e4 : fI (fm_i (fm_i (fm_i ν1 2 (1400 + 3 * σ 0 4) (nI x)) 2 (1401 + 3 * σ 0 4) (nI y)) 2 (1402 + 3 * σ 0 4) (nI z)) 2 134 = nI (σ 0 4) := by
      rw [fI_i, if_neg (by omega), fI_i, if_neg (by omega), fI_i, if_neg (by omega)]
      exact mB
    rw [e4, nI_1]
    refine ⟨fun _ _ _ _ => ⟨vp_in_nI (by omega) (by decide), vp_in_nI (by omega) (by decide), vp_in_nI (by omega) (by decide)⟩, ⟨g1, fun _ _ _ _ => ⟨vp_in_nI (by omega) (by decide), vp_in_nI (by omega) (by decide), vp_in_nI (by omega) (by decide)⟩⟩, rfl, up2 (up2 (up2 (up2 σ 6 (σ 0 4) x) 7 (σ 0 4) y) 8 (σ 0 4) z) 0 4 (σ 0 4 + 1), σ0, σ1, ρ, r0, r1, RS_w g2 ((((kpC_i (by decide)).tr (kpC_i (by decide))).tr (kpC_i (by decide))).tr (kpC_i (by decide))) ((((kpM_i (by decide) (by decide)).tr (kpM_i (by decide) (by decide))).tr (kpM_i (by decide) (by decide))).tr (kpM_i (by decide) (by decide))) (XR_cg ((((xgC_i (by decide)).tr (xgC_i (by decide))).tr (xgC_i (by decide))).tr (xgC_i (by decide))) (((xgM_i.tr xgM_i).tr xgM_i).tr xgM_i) g2.2.2.2.1) (by rw [fI_i, if_neg (by omega), fI_i, if_neg (by omega), fI_i, if_neg (by omega), fI_i, if_neg (by omega)]; exact g3) ?_⟩
    refine WR_solvent w (by omega) hx hy hz ?_ ?_ ?_ ?_ (fun k j hk hj1 hj2 => ?_) ?_ ?_ ?_ ?_ (fun j hj => ?_)
    · simp [blk, fI_i]
    · simp [blk, fI_i]
    · simp [blk, fI_i]
    · simp [blk, fI_i]
    · simp only [blk, fI_i]
      rw [if_neg (by omega), if_neg (by omega), if_neg (by omega), if_neg (by omega)]
    · rw [fI_i, if_neg (by omega), fI_i, if_neg (by omega), fI_i, if_neg (by omega), fI_i, if_pos ⟨rfl, rfl⟩]
    · rw [fI_i, if_neg (by omega), fI_i, if_neg (by omega), fI_i, if_pos ⟨rfl, rfl⟩]
    · rw [fI_i, if_neg (by omega), fI_i, if_pos ⟨rfl, rfl⟩]
    · rw [fI_i, if_pos ⟨rfl, rfl⟩]
    · rw [fI_i, if_neg (by omega), fI_i, if_neg (by omega), fI_i, if_neg (by omega), fI_i, if_neg (by omega)]
