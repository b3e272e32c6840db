theorem wi_of {μ : fm_T} {x : Int32} {n : Nat} (hn : n < 2 ^ 31) (h : ¬ gX11_within μ x 0 (nI n) = 0) : ∃ i, i ≤ n ∧ x = nI i := by
  rw [wi_nI] at h
  have h1 : ¬ x < 0 := fun z => h (Or.inl z)
  have h2 : ¬ nI n < x := fun z => h (Or.inr z)
  obtain ⟨i, hi, rfl⟩ := nI_of h1
  refine ⟨i, ?_, rfl⟩
  rw [nI_ltI hn hi] at h2
  omega
theorem wi_of1 {μ : fm_T} {x : Int32} {n : Nat} (hn : n < 2 ^ 31) (h : ¬ gX11_within μ x 1 (nI n) = 0) : ∃ i, 1 ≤ i ∧ i ≤ n ∧ x = nI i := by
  rw [wi_nI] at h
  have h1 : ¬ x < 1 := fun z => h (Or.inl z)
  have h0 : ¬ x < 0 := fun z => h1 (by rw [lt_ti] at z ⊢; have e : (1 : Int32).toInt = 1 := rfl; have e0 : (0 : Int32).toInt = 0 := rfl; omega)
  have h2 : ¬ nI n < x := fun z => h (Or.inr z)
  obtain ⟨i, hi, rfl⟩ := nI_of h0
  have h1 : ¬ nI i < nI 1 := h1
  rw [nI_ltI hn hi] at h2
  rw [nI_ltI hi (by omega)] at h1
  exact ⟨i, by omega, by omega, rfl⟩
theorem wi_lt {μ : fm_T} {x : Int32} {n : Nat} (hn : n ≤ 100000) (h : ¬ gX11_within μ x 0 (nI n - 1) = 0) : ∃ i, i < n ∧ x = nI i := by
  rw [at_cmp hn] at h
  exact nI_at (fun z => h (Or.inl z)) (fun z => h (Or.inr z)) hn
theorem isI {μ ν : fm_T} {a b c : Int32} : gX12_isIn ν a b c = gX11_within μ a b c := rfl
theorem ok_contract : ob_contract RR := by
  rintro μ ν x1 x2 x3 ⟨σ, σ0, σ1, ρ, r0, r1, h⟩
  obtain ⟨g1, g2, g3⟩ := lay0 h
  generalize hν : uX12_lay (fm_i ν 0 0 0) = ν1 at g2 g3
  have w := RS_WR g2 g3
  unfold pX11_contract pX12_contract gX11_contract gX12_contract uX11_contract uX12_contract gX11_isCounter pX11_isCounter
  rw [hν]
  simp only [isI (μ := μ)]
  by_cases h1 : gX11_within μ x1 0 39 = 0
  · simp only [if_pos h1]
    exact ⟨⟨wi_01 _ _ _ _, fun z => absurd h1 z⟩, ⟨g1, fun z => absurd h1 z⟩, trivial, σ, σ0, σ1, ρ, r0, r1, g2⟩
  by_cases h2 : gX11_within μ x2 0 30 = 0
  · simp only [if_neg h1, if_pos h2]
    exact ⟨⟨wi_01 _ _ _ _, fun _ z => absurd h2 z⟩, ⟨g1, fun _ z => absurd h2 z⟩, trivial, σ, σ0, σ1, ρ, r0, r1, g2⟩
  by_cases h3 : gX11_within μ x3 0 999 = 0
  · simp only [if_neg h1, if_neg h2, if_pos h3]
    exact ⟨⟨wi_01 _ _ _ _, fun _ _ z => absurd h3 z⟩, ⟨g1, fun _ _ z => absurd h3 z⟩, trivial, σ, σ0, σ1, ρ, r0, r1, g2⟩
  simp only [if_neg h1, if_neg h2, if_neg h3]
  obtain ⟨q, hq, rfl⟩ := wi_of (n := 39) (by decide) h1
  obtain ⟨d, hd, rfl⟩ := wi_of (n := 30) (by decide) h2
  obtain ⟨p, hp, rfl⟩ := wi_of (n := 999) (by decide) h3
  have e1 : (2340 : Int32) + nI q = nI (2340 + q) := by simp only [li_n, nI_add]
  have e2 : (1000 : Int32) * nI d + nI p = nI (1000 * d + p) := by simp only [li_n, nI_mul, nI_add]
  rw [e1, e2, nI_clamp (by omega), nI_clamp (by omega)]
  refine ⟨⟨wi_01 _ _ _ _, fun _ _ _ => ⟨vp_in_nI (by omega) (by decide), vp_in_nI (by omega) (by decide)⟩⟩, ⟨g1, fun _ _ _ => vp_in_nI (by omega) (by decide)⟩, trivial, up2 (up2 σ 10 q (d + 1)) 11 q p, σ0, σ1, ρ, r0, r1, RS_w g2 ((kpC_i (by decide)).tr (kpC_i (by decide))) (kpM_i (by decide) (by decide)) (XR_cg ((xgC_i (by decide)).tr (xgC_i (by decide))) xgM_i g2.2.2.2.1) (by rw [fI_i, if_neg (by omega)]; exact g3) ?_⟩
  refine WR_contract w (by omega) hd hp ?_ ?_ (fun k j hk hj => ?_) ?_ (fun j hj => ?_)
  · simp [blk, fI_i]
  · simp [blk, fI_i]
  · simp only [blk, fI_i]
    rw [if_neg (by omega), if_neg (by omega)]
  · simp [fI_i]
  · rw [fI_i, if_neg (by omega)]
theorem ok_place : ob_place RR := by
  rintro μ ν x1 x2 x3 ⟨σ, σ0, σ1, ρ, r0, r1, h⟩
  obtain ⟨g1, g2, g3⟩ := lay0 h
  generalize hν : uX12_lay (fm_i ν 0 0 0) = ν1 at g2 g3
  have w := RS_WR g2 g3
  unfold pX11_place pX12_place gX11_place gX12_place uX11_place uX12_place gX11_isCounter pX11_isCounter
  rw [hν]
  simp only [isI (μ := μ)]
  by_cases h1 : gX11_within μ x1 0 39 = 0
  · simp only [if_pos h1]
    exact ⟨⟨wi_01 _ _ _ _, fun z => absurd h1 z⟩, ⟨g1, fun z => absurd h1 z⟩, trivial, σ, σ0, σ1, ρ, r0, r1, g2⟩
  by_cases h2 : gX11_within μ x2 0 99 = 0
  · simp only [if_neg h1, if_pos h2]
    exact ⟨⟨wi_01 _ _ _ _, fun _ z => absurd h2 z⟩, ⟨g1, fun _ z => absurd h2 z⟩, trivial, σ, σ0, σ1, ρ, r0, r1, g2⟩
  by_cases h3 : gX11_within μ x3 0 99 = 0
  · simp only [if_neg h1, if_neg h2, if_pos h3]
    exact ⟨⟨wi_01 _ _ _ _, fun _ _ z => absurd h3 z⟩, ⟨g1, fun _ _ z => absurd h3 z⟩, trivial, σ, σ0, σ1, ρ, r0, r1, g2⟩
  simp only [if_neg h1, if_neg h2, if_neg h3]
  obtain ⟨q, hq, rfl⟩ := wi_of (n := 39) (by decide) h1
  obtain ⟨x, hx, rfl⟩ := wi_of (n := 99) (by decide) h2
  obtain ⟨y, hy, rfl⟩ := wi_of (n := 99) (by decide) h3
  have e1 : (2440 : Int32) + (2 : Int32) * nI q = nI (2440 + 2 * q) := by simp only [li_n, nI_mul, nI_add]
  have e2 : nI (2440 + 2 * q) + 1 = nI (2441 + 2 * q) := by rw [nI_1]; congr 1; omega
  rw [e1, e2, nI_clamp (by omega), nI_clamp (by omega), nI_clamp (by omega)]
  refine ⟨⟨wi_01 _ _ _ _, fun _ _ _ => ⟨vp_in_nI (by omega) (by decide), vp_in_nI (by omega) (by decide)⟩⟩, ⟨g1, fun _ _ _ => ⟨vp_in_nI (by omega) (by decide), vp_in_nI (by omega) (by decide)⟩⟩, trivial, up2 (up2 σ 12 q x) 13 q y, σ0, σ1, ρ, r0, r1, RS_w g2 ((kpC_i (by decide)).tr (kpC_i (by decide))) ((kpM_i (by decide) (by decide)).tr (kpM_i (by decide) (by decide))) (XR_cg ((xgC_i (by decide)).tr (xgC_i (by decide))) (xgM_i.tr xgM_i) g2.2.2.2.1) (by rw [fI_i, if_neg (by omega), fI_i, if_neg (by omega)]; exact g3) ?_⟩
  refine WR_place w (by omega) hx hy ?_ ?_ (fun k j hk hj => ?_) ?_ ?_ (fun j hj1 hj2 => ?_)
  · simp [blk, fI_i]
  · simp [blk, fI_i]
  · simp only [blk, fI_i]
    rw [if_neg (by omega), if_neg (by omega)]
  · rw [fI_i, if_neg (by omega), fI_i, if_pos ⟨rfl, rfl⟩]
  · rw [fI_i, if_pos ⟨rfl, rfl⟩]
  · rw [fI_i, if_neg (by omega), fI_i, if_neg (by omega)]
theorem ok_drum : ob_drum RR := by
  rintro μ ν x1 x2 ⟨σ, σ0, σ1, ρ, r0, r1, h⟩
  obtain ⟨g1, g2, g3⟩ := lay0 h
  generalize hν : uX12_lay (fm_i ν 0 0 0) = ν1 at g2 g3
  have w := RS_WR g2 g3
  have hn3 : σ 0 8 ≤ 4 := w.2.2.1.2.2.2.2.2.2.2.2.1.2.2.2
  have c3 : fI μ 26 3 = nI (σ 0 8) := w.1.2.2.2.2.2.2.1 3 (by decide)
  have m3 : fI ν1 2 3 = nI (σ 0 8) := w.2.1.2.2.2.2.2.2.2.1 3 (by decide)
  unfold pX11_drum pX12_drum gX11_drum gX12_drum uX11_drum uX12_drum
  rw [hν, c3, m3]
  simp only [isI (μ := μ)]
  by_cases h1 : gX11_within μ x1 1 99 = 0
  · simp only [if_pos h1]
    exact ⟨fun z => absurd h1 z, ⟨g1, fun z => absurd h1 z⟩, trivial, σ, σ0, σ1, ρ, r0, r1, g2⟩
  by_cases h2 : gX11_within μ x2 0 (nI (σ 0 8) - 1) = 0
  · simp only [if_neg h1, if_pos h2]
    exact ⟨fun _ z => absurd h2 z, ⟨g1, fun _ z => absurd h2 z⟩, trivial, σ, σ0, σ1, ρ, r0, r1, g2⟩
  simp only [if_neg h1, if_neg h2]
  obtain ⟨l, hl0, hl, rfl⟩ := wi_of1 (n := 99) (by decide) h1
  obtain ⟨d, hd, rfl⟩ := wi_lt (by omega) h2
  have e1 : (2240 : Int32) + nI l = nI (2240 + l) := by simp only [li_n, nI_add]
  rw [e1, nI_clamp (by omega), nI_clamp (by omega)]
  refine ⟨fun _ _ => vp_in_nI (by omega) (by decide), ⟨g1, fun _ _ => vp_in_nI (by omega) (by decide)⟩, trivial, up2 σ 9 l (d + 1), σ0, σ1, ρ, r0, r1, RS_w g2 (kpC_i (by decide)) (kpM_i (by decide) (by decide)) (XR_cg (xgC_i (by decide)) xgM_i g2.2.2.2.1) (by rw [fI_i, if_neg (by omega)]; exact g3) ?_⟩
  refine WR_drum w (by omega) hd ?_ (fun k j hk hj => ?_) ?_ (fun j hj => ?_)
  · simp [blk, fI_i]
  · simp only [blk, fI_i]
    rw [if_neg (by omega)]
  · rw [fI_i, if_pos ⟨rfl, rfl⟩]
  · rw [fI_i, if_neg (by omega)]
