section
variable {σ : sg_T} {μ ν : fm_T}
theorem wr_S (w : WR σ (blk μ 8) (fL μ 25) (fI ν 2) (fL ν 5)) : fI μ 9 5 = nI (σ 0 0) ∧ fI ν 2 131 = nI (σ 0 0) ∧ σ 0 0 ≤ 40 := ⟨w.1.1.1, w.2.1.1.1, w.2.2.1.1.1⟩
theorem wr_N (w : WR σ (blk μ 8) (fL μ 25) (fI ν 2) (fL ν 5)) : fI μ 9 6 = nI (σ 0 1) ∧ fI ν 2 132 = nI (σ 0 1) ∧ σ 0 1 ≤ 240 := ⟨w.1.1.2.1, w.2.1.1.2.1, w.2.2.1.1.2.1⟩
theorem wr_K (w : WR σ (blk μ 8) (fL μ 25) (fI ν 2) (fL ν 5)) : fI μ 9 7 = nI (σ 0 2) ∧ fI ν 2 133 = nI (σ 0 2) ∧ σ 0 2 ≤ 12 := ⟨w.1.1.2.2.1, w.2.1.1.2.2.1, w.2.2.1.1.2.2.1⟩
theorem wr_T (w : WR σ (blk μ 8) (fL μ 25) (fI ν 2) (fL ν 5)) : fI μ 8 4 = nI (σ 0 3) ∧ fI ν 2 130 = nI (σ 0 3) ∧ σ 0 3 ≤ 199 := ⟨w.1.1.2.2.2.1, w.2.1.1.2.2.2.1, w.2.2.1.1.2.2.2.1⟩
theorem wr_B (w : WR σ (blk μ 8) (fL μ 25) (fI ν 2) (fL ν 5)) : fI μ 15 8 = nI (σ 0 4) ∧ fI ν 2 134 = nI (σ 0 4) ∧ σ 0 4 ≤ 200 := ⟨w.1.1.2.2.2.2, w.2.1.1.2.2.2.2, w.2.2.1.1.2.2.2.2⟩
theorem wr_t (w : WR σ (blk μ 8) (fL μ 25) (fI ν 2) (fL ν 5)) {t : Nat} (ht : t < σ 0 0) : (∀ j, j < 14 → fI μ 10 (14 * t + j) = nI (σ 1 (14 * t + j))) ∧ (∀ j, j < 11 → fI ν 2 (160 + 12 * t + j) = nI (σ 1 (14 * t + j))) := ⟨fun j hj => w.1.2.1 t j ht hj, fun j hj => w.2.1.2.1 t j ht hj⟩
theorem wr_n (w : WR σ (blk μ 8) (fL μ 25) (fI ν 2) (fL ν 5)) {n : Nat} (hn : n < σ 0 1) : (fI μ 11 n = nI (σ 2 n) ∧ fI μ 12 n = nI (σ 3 n) ∧ fI μ 13 n = nI (σ 4 n) ∧ fI μ 14 n = nI (σ 5 n)) ∧ (fI ν 2 (640 + 3 * n) = nI (8 * σ 2 n + σ 3 n) ∧ fI ν 2 (641 + 3 * n) = nI (σ 4 n) ∧ fI ν 2 (642 + 3 * n) = nI (σ 5 n)) ∧ (σ 2 n < σ 0 0 ∧ 1 ≤ σ 3 n ∧ σ 3 n ≤ 5 ∧ σ 1 (14 * σ 2 n + 6) ≤ σ 4 n ∧ σ 4 n ≤ σ 5 n ∧ σ 5 n ≤ σ 0 3) := ⟨w.1.2.2.1 n hn, w.2.1.2.2.1 n hn, w.2.2.1.2.2.1 n hn⟩
theorem wr_hc (w : WR σ (blk μ 8) (fL μ 25) (fI ν 2) (fL ν 5)) : HC σ (blk μ 24) (fL μ 25) := w.1.2.2.2.2.2.2
theorem wr_hm (w : WR σ (blk μ 8) (fL μ 25) (fI ν 2) (fL ν 5)) : HM σ (fI ν 2) (fL ν 5) := w.2.1.2.2.2.2.2.2.2
theorem wr_hw (w : WR σ (blk μ 8) (fL μ 25) (fI ν 2) (fL ν 5)) : HW σ := w.2.2.1.2.2.2.2.2.2.2.2
theorem wi_y {x a b : Nat} (ha : a < 2 ^ 31) (hb : b < 2 ^ 31) (h1 : a ≤ x) (h2 : x ≤ b) : ¬ gX11_within μ (nI x) (nI a) (nI b) = 0 := by
  rw [wi_nI]
  rintro (z | z)
  · rw [nI_ltI (by omega) ha] at z
    omega
  · rw [nI_ltI hb (by omega)] at z
    omega
theorem wi_b {x n : Nat} (hn : n ≤ 100000) (h : x < n) : ¬ gX11_within μ (nI x) 0 (nI n - 1) = 0 := by
  rw [at_cmp hn]
  rintro (z | z)
  · exact nI_pos (by omega) z
  · rw [nI_leI (by omega) (by omega)] at z
    omega
theorem of_c (w : WR σ (blk μ 8) (fL μ 25) (fI ν 2) (fL ν 5)) {t j : Nat} (ht : t < σ 0 0) (hj : j < 14) : gX8_of μ (nI t) (nI j) = nI (σ 1 (14 * t + j)) ∧ pX8_of μ (nI t) (nI j) := by
  obtain ⟨cS, -, hS⟩ := wr_S w
  have e1 : nI t * (14 : Int32) + nI j = nI (14 * t + j) := by
    simp only [li_n, nI_mul, nI_add]
    congr 1
    omega
  unfold gX8_of pX8_of
  have q2 : ¬ gX11_within μ (nI j) 0 13 = 0 := wi_y (μ := μ) (a := 0) (b := 13) (by decide) (by decide) (by omega) (by omega)
  rw [cS, if_neg (wi_b (by omega) ht), if_neg q2, e1, nI_clamp (by omega)]
  exact ⟨(wr_t w ht).1 j hj, fun _ _ => vp_in_nI (by omega) (by decide)⟩
theorem of_m (w : WR σ (blk μ 8) (fL μ 25) (fI ν 2) (fL ν 5)) {t j : Nat} (ht : t < σ 0 0) (hj : j < 11) : gX12_of ν (nI t) (nI j) = nI (σ 1 (14 * t + j)) ∧ pX12_of ν (nI t) (nI j) := by
  obtain ⟨-, -, hS⟩ := wr_S w
  have e1 : (160 : Int32) + (12 : Int32) * nI t + nI j = nI (160 + 12 * t + j) := by simp only [li_n, nI_mul, nI_add]
  unfold gX12_of pX12_of
  rw [e1, nI_clamp (by omega)]
  exact ⟨(wr_t w ht).2 j hj, vp_in_nI (by omega) (by decide)⟩
end
theorem ok_about : ob_about RR := by
  rintro μ ν x1 x2 ⟨σ, σ0, σ1, ρ, r0, r1, h⟩
  obtain ⟨g1, g2, g3⟩ := lay1 h
  generalize hν : uX12_lay ν = ν1 at g2 g3
  have w := RS_WR g2 g3
  obtain ⟨cS, mS, hS⟩ := wr_S w
  have hT := isT (x := x1) (by omega) cS mS
  unfold pX12_about uX12_about gX12_about
  rw [hν]
  simp only [isI (μ := μ), hT]
  by_cases h1 : gX11_isTicket μ x1 = 0
  · simp only [if_pos h1]
    exact ⟨⟨g1, fun z => absurd h1 z⟩, ⟨σ, σ0, σ1, ρ, r0, r1, RS_thr g2 1⟩, fun _ => rfl, fun z => absurd (Or.inl h1) z⟩
  by_cases h2 : gX11_within μ x2 0 9 = 0
  · simp only [if_neg h1, if_pos h2]
    exact ⟨⟨g1, fun _ z => absurd h2 z⟩, ⟨σ, σ0, σ1, ρ, r0, r1, RS_thr g2 1⟩, fun _ => rfl, fun z => absurd (Or.inr ⟨h1, h2⟩) z⟩
  simp only [if_neg h1, if_neg h2]
  obtain ⟨t, ht, rfl⟩ := isT_of (by omega) cS h1
  obtain ⟨j, hj, rfl⟩ := wi_of (n := 9) (by decide) h2
  have w0 := RS_WR (RS_thr g2 0) (by rw [fI_i, if_neg (by decide)]; exact g3)
  have a1 := of_c w0 (j := j) ht (by omega)
  have a2 := of_m w0 (j := j) ht (by omega)
  exact ⟨⟨g1, fun _ _ => a2.2⟩, ⟨σ, σ0, σ1, ρ, r0, r1, RS_thr g2 0⟩, fun z => absurd z (fun z => z.elim h1 (fun z => h2 z.2)), fun _ => ⟨a1.2, rfl, a1.1.trans a2.1.symm⟩⟩
section
variable {σ : sg_T} {μ ν : fm_T}
theorem lo_ok (w : WR σ (blk μ 8) (fL μ 25) (fI ν 2) (fL ν 5)) {d : Nat} (hd : d < σ 0 4) : gX3_lostOn μ (nI d) = gX12_lostOn ν (nI d) ∧ pX3_lostOn μ (nI d) ∧ pX12_lostOn ν (nI d) ∧ (gX3_lostOn μ (nI d)).toInt = ((if d = 0 then 0 else σ 8 (d - 1)) : Nat) + (σ 6 d : Int) - σ 8 d := by
  obtain ⟨cB, mB, hB⟩ := wr_B w
  have c3 := w.1.2.2.2.1
  have m3 := w.2.1.2.2.2.1
  have b3 := w.2.2.1.2.2.2.1
  have cd : fI μ 16 d = nI (σ 6 d) ∧ fI μ 17 d = nI (σ 7 d) ∧ fI μ 18 d = nI (σ 8 d) := c3 d hd
  have md := m3 d hd
  have bd := b3 d hd
  have e1 : (1400 : Int32) + (3 : Int32) * nI d = nI (1400 + 3 * d) := by simp only [li_n, nI_mul, nI_add]
  have e2 : nI (1400 + 3 * d) + 2 = nI (1402 + 3 * d) := by rw [show (2 : Int32) = nI 2 from rfl, nI_add]; congr 1; omega
  unfold gX3_lostOn gX12_lostOn pX3_lostOn pX12_lostOn
  rw [cB, if_neg (wi_b (by omega) hd), e1, e2]
  by_cases h0 : d = 0
  · subst h0
    simp only [show nI 0 = 0 from rfl, if_true]
    rw [nI_clamp (by omega), nI_clamp (by omega), md.1, md.2.2, show (0 : Int32).toNatClampNeg = 0 from rfl, cd.1, cd.2.2]
    refine ⟨rfl, fun _ => ⟨fun z => absurd trivial z, fun _ => ⟨vp_in_nI (n := 0) (N := 200) (by decide) (by decide), vp_in_nI (n := 0) (N := 200) (by decide) (by decide)⟩⟩, ⟨fun z => absurd trivial z, fun _ => ⟨vp_in_nI (by omega) (by decide), vp_in_nI (by omega) (by decide)⟩⟩, ti_sub ?_ (by simp; omega) (by simp; omega)⟩
    rw [ti_add (a := 0) (x := σ 6 0) (by rw [ti_nI (by omega)]; simp) (by omega) (by omega), ti_nI (by omega)]
    simp
  · have n0 : ¬ nI d = 0 := fun z => h0 (nI_inj (b := 0) (by omega) (by decide) z)
    have e3 : nI d - 1 = nI (d - 1) := nI_sub (b := 1) (by omega)
    have e4 : nI (1400 + 3 * d) - 1 = nI (1402 + 3 * (d - 1)) := by rw [show (1 : Int32) = nI 1 from rfl, nI_sub (by omega)]; congr 1; omega
    have cd1 : fI μ 16 (d-1) = nI (σ 6 (d-1)) ∧ fI μ 17 (d-1) = nI (σ 7 (d-1)) ∧ fI μ 18 (d-1) = nI (σ 8 (d-1)) := c3 (d-1) (by omega)
    have md1 := m3 (d-1) (by omega)
    have bd1 := b3 (d-1) (by omega)
    simp only [if_neg n0, if_neg h0]
    rw [e3, e4, nI_clamp (by omega), nI_clamp (by omega), nI_clamp (by omega), nI_clamp (by omega), nI_clamp (by omega), md.1, md.2.2, md1.2.2, cd.1, cd.2.2, cd1.2.2]
    refine ⟨rfl, fun _ => ⟨fun _ => ⟨vp_in_nI (by omega) (by decide), vp_in_nI (by omega) (by decide), vp_in_nI (by omega) (by decide)⟩, fun z => absurd z n0⟩, ⟨fun _ => ⟨vp_in_nI (by omega) (by decide), vp_in_nI (by omega) (by decide), vp_in_nI (by omega) (by decide)⟩, fun z => absurd z n0⟩, ti_sub ?_ (by omega) (by omega)⟩
    rw [nI_add, ti_nI (by omega), ti_nI (by omega)]
    omega
end
theorem ok_lost : ob_lost RR := by
  rintro μ ν x1 ⟨σ, σ0, σ1, ρ, r0, r1, h⟩
  obtain ⟨g1, g2, g3⟩ := lay1 h
  generalize hν : uX12_lay ν = ν1 at g2 g3
  have w := RS_WR g2 g3
  obtain ⟨cB, mB, hB⟩ := wr_B w
  unfold pX12_lost uX12_lost gX12_lost
  rw [hν, cB, mB]
  by_cases h1 : x1 < 0
  · simp only [if_pos h1]
    exact ⟨⟨g1, fun z => absurd h1 z⟩, ⟨σ, σ0, σ1, ρ, r0, r1, RS_thr g2 1⟩, fun _ => rfl, fun z => absurd ((at_cmp (by omega)).mpr (Or.inl h1)) z⟩
  by_cases h2 : nI (σ 0 4) ≤ x1
  · have h3 : ¬ x1 < nI (σ 0 4) := fun z => by rw [lt_ti] at z; rw [le_ti] at h2; omega
    simp only [if_neg h1, if_neg h3]
    exact ⟨⟨g1, fun _ z => absurd z h3⟩, ⟨σ, σ0, σ1, ρ, r0, r1, RS_thr g2 1⟩, fun _ => rfl, fun z => absurd ((at_cmp (by omega)).mpr (Or.inr h2)) z⟩
  have h3 : x1 < nI (σ 0 4) := by rw [lt_ti]; rw [le_ti] at h2; omega
  simp only [if_neg h1, if_pos h3]
  obtain ⟨d, hd, rfl⟩ := nI_at h1 h2 (by omega)
  have w0 := RS_WR (RS_thr g2 0) (by rw [fI_i, if_neg (by decide)]; exact g3)
  have a := lo_ok w0 hd
  exact ⟨⟨g1, fun _ _ => a.2.2.1⟩, ⟨σ, σ0, σ1, ρ, r0, r1, RS_thr g2 0⟩, fun z => absurd z (wi_b (by omega) hd), fun _ => ⟨a.2.1, rfl, a.1⟩⟩
