theorem gof_eq {μ : fm_T} {t j S : Nat} (hS : S ≤ 40) (h1 : fI μ 9 5 = nI S) (ht : t < S) (hj : j < 14) : gX8_of μ (nI t) (nI j) = fI μ 10 (14 * t + j) ∧ pX8_of μ (nI t) (nI j) := by
  have e1 : nI t * (14 : Int32) + nI j = nI (14 * t + j) := by
    simp only [li_n, nI_mul, nI_add]
    congr 1
    omega
  have q2 : ¬ gX11_within μ (nI j) 0 13 = 0 := wi_y (μ := μ) (a := 0) (b := 13) (by decide) (by decide) (by omega) (by omega)
  unfold gX8_of pX8_of
  rw [h1, if_neg (wi_b (by omega) ht), if_neg q2, e1, nI_clamp (by omega)]
  exact ⟨rfl, fun _ _ => vp_in_nI (by omega) (by decide)⟩
theorem wi_of2 {μ : fm_T} {x : Int32} {a n : Nat} (ha : a < 2 ^ 31) (hn : n < 2 ^ 31) (h : ¬ gX11_within μ x (nI a) (nI n) = 0) : ∃ i, a ≤ i ∧ i ≤ n ∧ x = nI i := by
  rw [wi_nI] at h
  have h1 : ¬ x < nI a := fun z => h (Or.inl z)
  have h2 : ¬ nI n < x := fun z => h (Or.inr z)
  have h0 : ¬ x < 0 := fun z => h1 (by rw [lt_ti] at z ⊢; rw [ti_nI ha]; have : (0 : Int32).toInt = 0 := rfl; omega)
  obtain ⟨i, hi, rfl⟩ := nI_of h0
  rw [nI_ltI (by omega) (by omega)] at h1 h2
  exact ⟨i, by omega, by omega, rfl⟩
theorem ok_news : ob_news RR := by
  rintro μ ν x1 x2 x3 ⟨σ, σ0, σ1, ρ, r0, r1, h⟩
  obtain ⟨g1, g2, g3⟩ := lay0 h
  generalize hν : uX12_lay (fm_i ν 0 0 0) = ν1 at g2 g3
  have w := RS_WR g2 g3
  obtain ⟨cS, mS, hS⟩ := wr_S w
  obtain ⟨cN, mN, hN⟩ := wr_N w
  obtain ⟨cT, mT, hT9⟩ := wr_T w
  have hT := isT (x := x1) (by omega) cS mS
  unfold pX11_news pX12_news gX11_news gX12_news uX11_news uX12_news gX12_today
  rw [hν, cT, mT, mN]
  simp only [isI (μ := μ), hT]
  by_cases h1 : gX11_isTicket μ x1 = 0
  · simp only [if_pos h1]
    exact ⟨⟨wi_01 _ _ _ _, fun z => absurd h1 z⟩, ⟨g1, fun z => absurd h1 z⟩, trivial, σ, σ0, σ1, ρ, r0, r1, g2⟩
  by_cases h2 : gX11_within μ x2 1 5 = 0
  · simp only [if_neg h1, if_pos h2]
    exact ⟨⟨wi_01 _ _ _ _, fun _ z => absurd h2 z⟩, ⟨g1, fun _ z => absurd h2 z⟩, trivial, σ, σ0, σ1, ρ, r0, r1, g2⟩
  simp only [if_neg h1, if_neg h2]
  obtain ⟨t, ht, rfl⟩ := isT_of (by omega) cS h1
  obtain ⟨v, hv0, hv, rfl⟩ := wi_of1 (n := 5) (by decide) h2
  have o6 : gX8_of μ (nI t) 6 = nI (σ 1 (14 * t + 6)) ∧ pX8_of μ (nI t) 6 := of_c w (j := 6) ht (by omega)
  have m6 : gX12_of ν1 (nI t) 6 = nI (σ 1 (14 * t + 6)) ∧ pX12_of ν1 (nI t) 6 := of_m w (j := 6) ht (by omega)
  have b6 := (w.2.2.1.2.1 t ht).1.2.2.2.2.2.2.2.1
  rw [o6.1, m6.1]
  by_cases h3 : gX11_within μ x3 (nI (σ 1 (14 * t + 6))) (nI (σ 0 3)) = 0
  · simp only [if_pos h3]
    exact ⟨⟨wi_01 _ _ _ _, fun _ _ => ⟨o6.2, fun z => absurd h3 z⟩⟩, ⟨g1, fun _ _ => ⟨m6.2, fun z => absurd h3 z⟩⟩, trivial, σ, σ0, σ1, ρ, r0, r1, g2⟩
  simp only [if_neg h3]
  obtain ⟨d, hd1, hd2, rfl⟩ := wi_of2 (by omega) (by omega) h3
  unfold pX8_addNews gX8_addNews uX8_addNews
  rw [cN]
  by_cases h4 : σ 0 1 = 240
  · have q1 : ¬ nI (σ 0 1) < 240 := by rw [h4]; decide
    have q2 : nI (σ 0 1) = 240 := by rw [h4]; rfl
    simp only [if_neg q1, if_pos q2]
    exact ⟨⟨wi_01 _ _ _ _, fun _ _ => ⟨o6.2, fun _ z => absurd z q1⟩⟩, ⟨g1, fun _ _ => ⟨m6.2, fun _ z => absurd q2 z⟩⟩, trivial, σ, σ0, σ1, ρ, r0, r1, g2⟩
  have q1 : nI (σ 0 1) < 240 := nI_lt (b := 240) (by omega) (by decide)
  have q2 : ¬ nI (σ 0 1) = 240 := fun z => h4 (nI_inj (b := 240) (by omega) (by decide) z)
  have vN : vp_in (nI (σ 0 1)) 240 := vp_in_nI (by omega) (by decide)
  simp only [if_pos q1, if_neg q2]
  have e1 : (640 : Int32) + (3 : Int32) * nI (σ 0 1) = nI (640 + 3 * σ 0 1) := by simp only [li_n, nI_mul, nI_add]
  have e2 : nI (640 + 3 * σ 0 1) + 1 = nI (641 + 3 * σ 0 1) := by rw [nI_1]; congr 1; omega
  have e3 : nI (640 + 3 * σ 0 1) + 2 = nI (642 + 3 * σ 0 1) := by rw [show (2 : Int32) = nI 2 from rfl, nI_add]; congr 1; omega
  have e4 : (8 : Int32) * nI t + nI v = nI (8 * t + v) := by simp only [li_n, nI_mul, nI_add]
  have e5 : nI (σ 0 1) + 1 - 1 = nI (σ 0 1) := Int32.add_sub_cancel _ _
  rw [e1, e2, e3, e4, nI_clamp (by omega), nI_clamp (by omega), nI_clamp (by omega), nI_clamp (by omega)]
  have e6 : fI (fm_i (fm_i ν1 2 (640 + 3 * σ 0 1) (nI (8 * t + v))) 2 (641 + 3 * σ 0 1) (nI d)) 2 130 = nI (σ 0 3) := by
    rw [fI_i, if_neg (by omega), fI_i, if_neg (by omega)]; exact mT
  rw [e6]
  have e7 : fI (fm_i (fm_i (fm_i ν1 2 (640 + 3 * σ 0 1) (nI (8 * t + v))) 2 (641 + 3 * σ 0 1) (nI d)) 2 (642 + 3 * σ 0 1) (nI (σ 0 3))) 2 132 = nI (σ 0 1) := by
    rw [fI_i, if_neg (by omega), fI_i, if_neg (by omega), fI_i, if_neg (by omega)]; exact mN
  rw [e7, e5, nI_1]
  have kM := ((((kpM_i (ν := ν1) (k := 2) (j := 640 + 3 * σ 0 1) (v := nI (8 * t + v)) (by decide) (by decide)).tr (kpM_i (k := 2) (j := 641 + 3 * σ 0 1) (v := nI d) (by decide) (by decide))).tr (kpM_i (k := 2) (j := 642 + 3 * σ 0 1) (v := nI (σ 0 3)) (by decide) (by decide))).tr (kpM_i (k := 2) (j := 132) (v := nI (σ 0 1 + 1)) (by decide) (by decide)))
  have xM := (((xgM_i (ν := ν1) (j := 640 + 3 * σ 0 1) (v := nI (8 * t + v))).tr (xgM_i (j := 641 + 3 * σ 0 1) (v := nI d))).tr (xgM_i (j := 642 + 3 * σ 0 1) (v := nI (σ 0 3)))).tr (xgM_i (j := 132) (v := nI (σ 0 1 + 1)))
  have a4 : fI (fm_i (fm_i (fm_i (fm_i ν1 2 (640 + 3 * σ 0 1) (nI (8 * t + v))) 2 (641 + 3 * σ 0 1) (nI d)) 2 (642 + 3 * σ 0 1) (nI (σ 0 3))) 2 132 (nI (σ 0 1 + 1))) 0 21 = 1 := by
    rw [fI_i, if_neg (by omega), fI_i, if_neg (by omega), fI_i, if_neg (by omega), fI_i, if_neg (by omega)]; exact g3
  have a5 : ∀ j, (j < 640 + 3 * σ 0 1 ∨ 642 + 3 * σ 0 1 < j) → j ≠ 132 → fI (fm_i (fm_i (fm_i (fm_i ν1 2 (640 + 3 * σ 0 1) (nI (8 * t + v))) 2 (641 + 3 * σ 0 1) (nI d)) 2 (642 + 3 * σ 0 1) (nI (σ 0 3))) 2 132 (nI (σ 0 1 + 1))) 2 j = fI ν1 2 j := fun j z1 z2 => by
    rw [fI_i, if_neg (by omega), fI_i, if_neg (by omega), fI_i, if_neg (by omega), fI_i, if_neg (by omega)]
  have a6 : fI (fm_i (fm_i (fm_i (fm_i ν1 2 (640 + 3 * σ 0 1) (nI (8 * t + v))) 2 (641 + 3 * σ 0 1) (nI d)) 2 (642 + 3 * σ 0 1) (nI (σ 0 3))) 2 132 (nI (σ 0 1 + 1))) 2 (640 + 3 * σ 0 1) = nI (8 * t + v) := by
    rw [fI_i, if_neg (by omega), fI_i, if_neg (by omega), fI_i, if_neg (by omega), fI_i, if_pos ⟨rfl, rfl⟩]
  have a7 : fI (fm_i (fm_i (fm_i (fm_i ν1 2 (640 + 3 * σ 0 1) (nI (8 * t + v))) 2 (641 + 3 * σ 0 1) (nI d)) 2 (642 + 3 * σ 0 1) (nI (σ 0 3))) 2 132 (nI (σ 0 1 + 1))) 2 (641 + 3 * σ 0 1) = nI d := by
    rw [fI_i, if_neg (by omega), fI_i, if_neg (by omega), fI_i, if_pos ⟨rfl, rfl⟩]
  have a8 : fI (fm_i (fm_i (fm_i (fm_i ν1 2 (640 + 3 * σ 0 1) (nI (8 * t + v))) 2 (641 + 3 * σ 0 1) (nI d)) 2 (642 + 3 * σ 0 1) (nI (σ 0 3))) 2 132 (nI (σ 0 1 + 1))) 2 (642 + 3 * σ 0 1) = nI (σ 0 3) := by
    rw [fI_i, if_neg (by omega), fI_i, if_pos ⟨rfl, rfl⟩]
  have a9 : fI (fm_i (fm_i (fm_i (fm_i ν1 2 (640 + 3 * σ 0 1) (nI (8 * t + v))) 2 (641 + 3 * σ 0 1) (nI d)) 2 (642 + 3 * σ 0 1) (nI (σ 0 3))) 2 132 (nI (σ 0 1 + 1))) 2 132 = nI (σ 0 1 + 1) := by
    rw [fI_i, if_pos ⟨rfl, rfl⟩]
  generalize hm : fm_i (fm_i (fm_i (fm_i ν1 2 (640 + 3 * σ 0 1) (nI (8 * t + v))) 2 (641 + 3 * σ 0 1) (nI d)) 2 (642 + 3 * σ 0 1) (nI (σ 0 3))) 2 132 (nI (σ 0 1 + 1)) = ν2 at kM xM a4 a5 a6 a7 a8 a9
  have kC := (((((kpC_i (μ := μ) (k := 11) (j := σ 0 1) (v := nI t) (by decide)).tr (kpC_i (k := 12) (j := σ 0 1) (v := nI v) (by decide))).tr (kpC_i (k := 13) (j := σ 0 1) (v := nI d) (by decide))).tr (kpC_i (k := 14) (j := σ 0 1) (v := nI (σ 0 3)) (by decide))).tr (kpC_i (k := 9) (j := 6) (v := nI (σ 0 1 + 1)) (by decide)))
  have xC := (((((xgC_i (μ := μ) (k := 11) (j := σ 0 1) (v := nI t) (by decide)).tr (xgC_i (k := 12) (j := σ 0 1) (v := nI v) (by decide))).tr (xgC_i (k := 13) (j := σ 0 1) (v := nI d) (by decide))).tr (xgC_i (k := 14) (j := σ 0 1) (v := nI (σ 0 3)) (by decide))).tr (xgC_i (k := 9) (j := 6) (v := nI (σ 0 1 + 1)) (by decide)))
  have b5 : ∀ k j, (k = 9 → j ≠ 6) → (11 ≤ k ∧ k ≤ 14 → j ≠ σ 0 1) → fI (fm_i (fm_i (fm_i (fm_i (fm_i μ 11 (σ 0 1) (nI t)) 12 (σ 0 1) (nI v)) 13 (σ 0 1) (nI d)) 14 (σ 0 1) (nI (σ 0 3))) 9 6 (nI (σ 0 1 + 1))) k j = fI μ k j := fun k j z1 z2 => by
    rw [fI_i, if_neg (by omega), fI_i, if_neg (by omega), fI_i, if_neg (by omega), fI_i, if_neg (by omega), fI_i, if_neg (by omega)]
  have b7 : fI (fm_i (fm_i (fm_i (fm_i (fm_i μ 11 (σ 0 1) (nI t)) 12 (σ 0 1) (nI v)) 13 (σ 0 1) (nI d)) 14 (σ 0 1) (nI (σ 0 3))) 9 6 (nI (σ 0 1 + 1))) 9 6 = nI (σ 0 1 + 1) := by rw [fI_i, if_pos ⟨rfl, rfl⟩]
  have b8 : fI (fm_i (fm_i (fm_i (fm_i (fm_i μ 11 (σ 0 1) (nI t)) 12 (σ 0 1) (nI v)) 13 (σ 0 1) (nI d)) 14 (σ 0 1) (nI (σ 0 3))) 9 6 (nI (σ 0 1 + 1))) 11 (σ 0 1) = nI t ∧ fI (fm_i (fm_i (fm_i (fm_i (fm_i μ 11 (σ 0 1) (nI t)) 12 (σ 0 1) (nI v)) 13 (σ 0 1) (nI d)) 14 (σ 0 1) (nI (σ 0 3))) 9 6 (nI (σ 0 1 + 1))) 12 (σ 0 1) = nI v ∧ fI (fm_i (fm_i (fm_i (fm_i (fm_i μ 11 (σ 0 1) (nI t)) 12 (σ 0 1) (nI v)) 13 (σ 0 1) (nI d)) 14 (σ 0 1) (nI (σ 0 3))) 9 6 (nI (σ 0 1 + 1))) 13 (σ 0 1) = nI d ∧ fI (fm_i (fm_i (fm_i (fm_i (fm_i μ 11 (σ 0 1) (nI t)) 12 (σ 0 1) (nI v)) 13 (σ 0 1) (nI d)) 14 (σ 0 1) (nI (σ 0 3))) 9 6 (nI (σ 0 1 + 1))) 14 (σ 0 1) = nI (σ 0 3) := by
    simp [fI_i]
  have b9 : ∀ j, fL (fm_i (fm_i (fm_i (fm_i (fm_i μ 11 (σ 0 1) (nI t)) 12 (σ 0 1) (nI v)) 13 (σ 0 1) (nI d)) 14 (σ 0 1) (nI (σ 0 3))) 9 6 (nI (σ 0 1 + 1))) 25 j = fL μ 25 j := fun _ => rfl
  generalize hμ : fm_i (fm_i (fm_i (fm_i (fm_i μ 11 (σ 0 1) (nI t)) 12 (σ 0 1) (nI v)) 13 (σ 0 1) (nI d)) 14 (σ 0 1) (nI (σ 0 3))) 9 6 (nI (σ 0 1 + 1)) = μ2 at kC xC b5 b7 b8 b9 ⊢
  have lf1 : fL μ2 25 = fL μ 25 := by rw [← hμ]; rfl
  have lf2 : fL ν2 5 = fL ν1 5 := by rw [← hm]; rfl
  have nS : fI μ2 9 5 = nI (σ 0 0) := by rw [b5 9 5 (by omega) (by omega)]; exact cS
  have o13 : gX8_of μ2 (nI t) 13 = fI μ2 10 (14 * t + 13) ∧ pX8_of μ2 (nI t) 13 := gof_eq (j := 13) hS nS ht (by omega)
  have n13 : fI μ2 10 (14 * t + 13) = nI (σ 1 (14 * t + 13)) := by rw [b5 _ _ (by omega) (by omega)]; exact (wr_t w ht).1 13 (by omega)
  have s13 : σ 1 (14 * t + 13) = (stN σ t (σ 0 1)).2 := (w.2.2.1.2.1 t ht).2.2.2
  have s12 : σ 1 (14 * t + 12) = (stN σ t (σ 0 1)).1 := (w.2.2.1.2.1 t ht).2.2.1
  have sb : (stN σ t (σ 0 1)).2 ≤ 199 := by
    rw [← stD_N (σ := σ) (t := t) (T := σ 0 3) (σ 0 1) (fun i hi => by obtain ⟨-, -, b1, b2, b3, b4, b5, b6⟩ := wr_n w hi; omega)]
    exact (stD_bd (σ := σ) (t := t) (d := σ 0 3) (k := σ 0 3) (B := 199) (σ 0 1) (fun j hj => by obtain ⟨-, -, b1, b2, b3, b4, b5, b6⟩ := wr_n w hj; omega)).2
  rw [o13.1, n13]
  have vm1 : vp_in (nI (640 + 3 * σ 0 1)) 2560 := vp_in_nI (by omega) (by decide)
  have vm2 : vp_in (nI (641 + 3 * σ 0 1)) 2560 := vp_in_nI (by omega) (by decide)
  have vm3 : vp_in (nI (642 + 3 * σ 0 1)) 2560 := vp_in_nI (by omega) (by decide)
  have kd : nI d < nI (σ 1 (14 * t + 13)) ↔ d < σ 1 (14 * t + 13) := nI_ltI (by omega) (by omega)
  by_cases h5 : d < σ 1 (14 * t + 13)
  · rw [if_pos (kd.mpr h5), if_pos (kd.mpr h5)]
    refine ⟨⟨wi_01 _ _ _ _, fun _ _ => ⟨o6.2, fun _ _ => ⟨vN, vN, vN, vN, o13.2, fun z => absurd (kd.mpr h5) z⟩⟩⟩, ⟨g1, fun _ _ => ⟨m6.2, fun _ _ => ⟨vm1, vm2, vm3⟩⟩⟩, rfl, up2 (up2 (up2 (up2 (up2 σ 2 (σ 0 1) t) 3 (σ 0 1) v) 4 (σ 0 1) d) 5 (σ 0 1) (σ 0 3)) 0 1 (σ 0 1 + 1), σ0, σ1, ρ, r0, r1, RS_w g2 kC kM (XR_cg xC xM g2.2.2.2.1) a4 ?_⟩
    have hst : stN (up2 (up2 (up2 (up2 (up2 σ 2 (σ 0 1) t) 3 (σ 0 1) v) 4 (σ 0 1) d) 5 (σ 0 1) (σ 0 3)) 0 1 (σ 0 1 + 1)) t (σ 0 1) = stN σ t (σ 0 1) := stN_cg _ (fun i hi => by simp [up2, show i ≠ σ 0 1 by omega])
    have hst2 : stN (up2 (up2 (up2 (up2 (up2 σ 2 (σ 0 1) t) 3 (σ 0 1) v) 4 (σ 0 1) d) 5 (σ 0 1) (σ 0 3)) 0 1 (σ 0 1 + 1)) t (σ 0 1 + 1) = stN σ t (σ 0 1) := by
      rw [stN, hst, if_neg]
      simp only [up2]
      simp
      omega
    rw [lf1, lf2]
    refine WR_news w ht (by omega) hv0 hv hd1 hd2 (fun k hk => by simp [up2, hk]) (by simp [up2]) (fun j _ _ => by simp [up2]) ?_ ?_ (fun r n z1 z2 z3 => ?_) (by simp [up2]) (by simp [up2]) (by simp [up2]) (by simp [up2]) (fun r hr => ?_) (fun k j hk z1 z2 z3 => b5 (8 + k) j (by omega) (by omega)) ?_ ?_ b7 b8 a5 ⟨a6, a7, a8⟩ a9
    · rw [hst2, ← s12]; simp [up2]
    · rw [hst2, ← s13]; simp [up2]
    · have : r = 2 ∨ r = 3 ∨ r = 4 ∨ r = 5 := by omega
      rcases this with rfl | rfl | rfl | rfl <;> simp [up2, z3]
    · funext j
      simp [up2, show r ≠ 2 by omega, show r ≠ 3 by omega, show r ≠ 4 by omega, show r ≠ 5 by omega, show r ≠ 0 by omega]
    · show fI μ2 10 (14 * t + 12) = _
      rw [b5 _ _ (by omega) (by omega)]
      exact (wr_t w ht).1 12 (by omega)
    · exact n13
  · rw [if_neg (fun z => h5 (kd.mp z)), if_neg (fun z => h5 (kd.mp z))]
    have se1 := set_eq (μ := μ2) (j := 12) (v := nI v) hS nS ht (by decide)
    have se1' : uX8_set μ2 (nI t) 12 (nI v) = fm_i μ2 10 (14 * t + 12) (nI v) := se1.1
    have nS3 : fI (fm_i μ2 10 (14 * t + 12) (nI v)) 9 5 = nI (σ 0 0) := by rw [fI_i, if_neg (by omega)]; exact nS
    have se2 := set_eq (μ := fm_i μ2 10 (14 * t + 12) (nI v)) (j := 13) (v := nI d) hS nS3 ht (by decide)
    have se2' : uX8_set (fm_i μ2 10 (14 * t + 12) (nI v)) (nI t) 13 (nI d) = fm_i (fm_i μ2 10 (14 * t + 12) (nI v)) 10 (14 * t + 13) (nI d) := se2.1
    have p1 : pX8_set μ2 (nI t) 12 (nI v) := se1.2
    have p2 : pX8_set (fm_i μ2 10 (14 * t + 12) (nI v)) (nI t) 13 (nI d) := se2.2
    rw [se1', se2']
    have gg : fI (fm_i (fm_i μ2 10 (14 * t + 12) (nI v)) 10 (14 * t + 13) (nI d)) 9 6 - 1 = nI (σ 0 1) := by
      rw [fI_i, if_neg (by omega), fI_i, if_neg (by omega), b7, ← nI_1]
      exact e5
    rw [gg]
    refine ⟨⟨wi_01 _ _ _ _, fun _ _ => ⟨o6.2, fun _ _ => ⟨vN, vN, vN, vN, o13.2, fun _ => ⟨p1, p2⟩⟩⟩⟩, ⟨g1, fun _ _ => ⟨m6.2, fun _ _ => ⟨vm1, vm2, vm3⟩⟩⟩, rfl, up2 (up2 (up2 (up2 (up2 (up2 (up2 σ 2 (σ 0 1) t) 3 (σ 0 1) v) 4 (σ 0 1) d) 5 (σ 0 1) (σ 0 3)) 0 1 (σ 0 1 + 1)) 1 (14 * t + 12) v) 1 (14 * t + 13) d, σ0, σ1, ρ, r0, r1, RS_w g2 ((kC.tr (kpC_i (by decide))).tr (kpC_i (by decide))) kM (XR_cg ((xC.tr (xgC_i (by decide))).tr (xgC_i (by decide))) xM g2.2.2.2.1) a4 ?_⟩
    have hst : stN (up2 (up2 (up2 (up2 (up2 (up2 (up2 σ 2 (σ 0 1) t) 3 (σ 0 1) v) 4 (σ 0 1) d) 5 (σ 0 1) (σ 0 3)) 0 1 (σ 0 1 + 1)) 1 (14 * t + 12) v) 1 (14 * t + 13) d) t (σ 0 1) = stN σ t (σ 0 1) := stN_cg _ (fun i hi => by simp [up2, show i ≠ σ 0 1 by omega])
    have hst2 : stN (up2 (up2 (up2 (up2 (up2 (up2 (up2 σ 2 (σ 0 1) t) 3 (σ 0 1) v) 4 (σ 0 1) d) 5 (σ 0 1) (σ 0 3)) 0 1 (σ 0 1 + 1)) 1 (14 * t + 12) v) 1 (14 * t + 13) d) t (σ 0 1 + 1) = (v, d) := by
      rw [stN, hst, if_pos]
      · simp [up2]
      · simp only [up2]
        simp
        omega
    rw [show fL (fm_i (fm_i μ2 10 (14 * t + 12) (nI v)) 10 (14 * t + 13) (nI d)) 25 = fL μ 25 from lf1, lf2]
    refine WR_news w ht (by omega) hv0 hv hd1 hd2 (fun k hk => by simp [up2, hk]) (by simp [up2]) (fun j z1 z2 => by simp [up2, z1, z2]) ?_ ?_ (fun r n z1 z2 z3 => ?_) (by simp [up2]) (by simp [up2]) (by simp [up2]) (by simp [up2]) (fun r hr => ?_) (fun k j hk z1 z2 z3 => ?_) ?_ ?_ ?_ ?_ a5 ⟨a6, a7, a8⟩ a9
    · rw [hst2]; simp [up2]
    · rw [hst2]; simp [up2]
    · have : r = 2 ∨ r = 3 ∨ r = 4 ∨ r = 5 := by omega
      rcases this with rfl | rfl | rfl | rfl <;> simp [up2, z3]
    · funext j
      simp [up2, show r ≠ 2 by omega, show r ≠ 3 by omega, show r ≠ 4 by omega, show r ≠ 5 by omega, show r ≠ 0 by omega, show r ≠ 1 by omega]
    · simp only [blk, fI_i]
      rw [if_neg (by omega), if_neg (by omega)]
      exact b5 (8 + k) j (by omega) (by omega)
    · simp [blk, fI_i, up2]
    · simp [blk, fI_i, up2]
    · simp only [blk, fI_i]
      rw [if_neg (by omega), if_neg (by omega)]
      exact b7
    · simp only [blk, fI_i]
      rw [if_neg (by omega), if_neg (by omega), if_neg (by omega), if_neg (by omega), if_neg (by omega), if_neg (by omega), if_neg (by omega), if_neg (by omega)]
      exact b8
