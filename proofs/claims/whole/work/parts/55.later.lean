theorem stN_cg {σ σ' : sg_T} {t : Nat} : ∀ (n : Nat), (∀ i, i < n → σ' 2 i = σ 2 i ∧ σ' 3 i = σ 3 i ∧ σ' 4 i = σ 4 i) → stN σ' t n = stN σ t n
  | 0, _ => rfl
  | n + 1, h => by
    obtain ⟨h1, h2, h3⟩ := h n (by omega)
    simp only [stN, stN_cg n (fun i hi => h i (by omega)), h1, h2, h3]
theorem kpC_i {μ : fm_T} {k j : Nat} {v : Int32} (hk : k < 89) : kpC μ (fm_i μ k j v) := ⟨rfl, rfl, fun k' j' h => by rw [fI_i, if_neg (by omega)], fun _ _ _ => rfl⟩
theorem kpC.tr {μ μ1 μ2 : fm_T} (h1 : kpC μ μ1) (h2 : kpC μ1 μ2) : kpC μ μ2 := ⟨h2.1.trans h1.1, h2.2.1.trans h1.2.1, fun k j h => (h2.2.2.1 k j h).trans (h1.2.2.1 k j h), fun k j h => (h2.2.2.2 k j h).trans (h1.2.2.2 k j h)⟩
theorem kpM.rf (ν : fm_T) : kpM ν ν := ⟨rfl, rfl, fun _ => rfl, fun _ => rfl, fun _ => rfl⟩
theorem kpM_i {ν : fm_T} {k j : Nat} {v : Int32} (h1 : k ≠ 4) (h2 : k ≠ 8) : kpM ν (fm_i ν k j v) := ⟨rfl, rfl, fun j' => by rw [fI_i, if_neg (by omega)], fun j' => by rw [fI_i, if_neg (by omega)], fun _ => rfl⟩
theorem kpM.tr {μ μ1 μ2 : fm_T} (h1 : kpM μ μ1) (h2 : kpM μ1 μ2) : kpM μ μ2 := ⟨h2.1.trans h1.1, h2.2.1.trans h1.2.1, fun j => (h2.2.2.1 j).trans (h1.2.2.1 j), fun j => (h2.2.2.2.1 j).trans (h1.2.2.2.1 j), fun j => (h2.2.2.2.2 j).trans (h1.2.2.2.2 j)⟩
theorem xgC_i {μ : fm_T} {k j : Nat} {v : Int32} (hk : 8 ≤ k ∧ k < 40) : xgC μ (fm_i μ k j v) := by
  refine ⟨⟨?_, ?_, ?_, ?_, ?_, ?_, ?_⟩, fun k' j' h => ?_, fun j' => rfl⟩
  all_goals rw [fI_i, if_neg (by omega)]
theorem xgC.tr {μ μ1 μ2 : fm_T} (h1 : xgC μ μ1) (h2 : xgC μ1 μ2) : xgC μ μ2 := by
  obtain ⟨⟨a1, a2, a3, a4, a5, a6, a7⟩, a8, a9⟩ := h1
  obtain ⟨⟨b1, b2, b3, b4, b5, b6, b7⟩, b8, b9⟩ := h2
  exact ⟨⟨b1.trans a1, b2.trans a2, b3.trans a3, b4.trans a4, b5.trans a5, b6.trans a6, b7.trans a7⟩, fun k j h => (b8 k j h).trans (a8 k j h), fun j => (b9 j).trans (a9 j)⟩
theorem xgM_i {ν : fm_T} {j : Nat} {v : Int32} : xgM ν (fm_i ν 2 j v) := by
  refine ⟨⟨?_, ?_, ?_, ?_, ?_, ?_, ?_⟩, fun k' j' h => ?_⟩
  all_goals rw [fI_i, if_neg (by omega)]
theorem xgM.tr {μ μ1 μ2 : fm_T} (h1 : xgM μ μ1) (h2 : xgM μ1 μ2) : xgM μ μ2 := by
  obtain ⟨⟨a1, a2, a3, a4, a5, a6, a7⟩, a8⟩ := h1
  obtain ⟨⟨b1, b2, b3, b4, b5, b6, b7⟩, b8⟩ := h2
  exact ⟨⟨b1.trans a1, b2.trans a2, b3.trans a3, b4.trans a4, b5.trans a5, b6.trans a6, b7.trans a7⟩, fun k j h => (b8 k j h).trans (a8 k j h)⟩
theorem isIn_nI {μ : fm_T} {a b c : Int32} : gX12_isIn μ a b c = 0 ↔ (a < b ∨ c < a) := wi_nI (μ := μ)
theorem HC_s {σ σ' : sg_T} {h h' : Nat → Nat → Int32} {hn hn' : Nat → Int64} (e0 : ∀ k, 5 ≤ k → k < 13 → σ' 0 k = σ 0 k) (er : ∀ r j, 14 ≤ r → r < 23 → σ' r j = σ r j) (e1 : ∀ k j, k < 12 → h' k j = h k j) (e2 : ∀ j, hn' j = hn j) (H : HC σ h hn) : HC σ' h' hn' := by
  obtain ⟨a1, a2, a3, a4, a5, a6⟩ := HC_cg e1 e2 H
  refine ⟨fun s hs => ?_, fun i hi => ?_, fun i hi => ?_, fun i hi => ?_, fun i hi => ?_, fun s i hs hi => ?_⟩
  · rw [e0 _ (by omega) (by omega)]; exact a1 s hs
  · rw [e0 _ (by omega) (by omega)]; exact a2 i hi
  · rw [e0 6 (by omega) (by omega)] at hi
    rw [er 14 i (by omega) (by omega)]
    exact ⟨(a3 i hi).1, fun s hs => by rw [er 15 _ (by omega) (by omega)]; exact (a3 i hi).2 s hs⟩
  · rw [e0 7 (by omega) (by omega)] at hi
    rw [er 16 i (by omega) (by omega), er 17 i (by omega) (by omega), er 18 i (by omega) (by omega), er 19 i (by omega) (by omega)]
    exact a4 i hi
  · rw [e0 8 (by omega) (by omega)] at hi
    rw [er 20 i (by omega) (by omega), er 21 i (by omega) (by omega)]
    exact a5 i hi
  · rw [e0 _ (by omega) (by omega)] at hi
    rw [er 22 _ (by omega) (by omega)]
    exact a6 s i hs hi
theorem HM_s {σ σ' : sg_T} {a a' : Nat → Int32} {nm nm' : Nat → Int64} (e0 : ∀ k, 5 ≤ k → k < 13 → σ' 0 k = σ 0 k) (er : ∀ r j, 14 ≤ r → r < 23 → σ' r j = σ r j) (hw : HW σ) (e1 : ∀ j, j < 130 → a' j = a j) (e2 : ∀ j, nm' j = nm j) (H : HM σ a nm) : HM σ' a' nm' := by
  obtain ⟨a1, a2, a3, a4, a5, a6⟩ := H
  obtain ⟨⟨w0, w1, w2, w3⟩, -⟩ := hw
  refine ⟨fun s hs => ?_, fun i hi => ?_, fun i hi => ?_, fun i hi => ?_, fun i hi => ?_, fun s i hs hi => ?_⟩
  · rw [e0 _ (by omega) (by omega), e1 _ (by omega)]; exact a1 s hs
  · rw [e0 _ (by omega) (by omega), e1 _ (by omega)]; exact a2 i hi
  · rw [e0 6 (by omega) (by omega)] at hi
    rw [er 14 i (by omega) (by omega), e1 _ (by omega)]
    exact ⟨(a3 i hi).1, fun s hs => by rw [er 15 _ (by omega) (by omega), e1 _ (by omega)]; exact (a3 i hi).2 s hs⟩
  · rw [e0 7 (by omega) (by omega)] at hi
    rw [er 16 i (by omega) (by omega), er 17 i (by omega) (by omega), er 18 i (by omega) (by omega), er 19 i (by omega) (by omega), e1 _ (by omega), e1 _ (by omega), e1 _ (by omega), e1 _ (by omega)]
    exact a4 i hi
  · rw [e0 8 (by omega) (by omega)] at hi
    rw [er 20 i (by omega) (by omega), er 21 i (by omega) (by omega), e1 _ (by omega), e1 _ (by omega)]
    exact a5 i hi
  · rw [e0 _ (by omega) (by omega)] at hi
    rw [er 22 _ (by omega) (by omega), e2]
    exact a6 s i hs hi
theorem HW_s {σ σ' : sg_T} (e0 : ∀ k, 5 ≤ k → k < 13 → σ' 0 k = σ 0 k) (er : ∀ r j, 14 ≤ r → r < 23 → σ' r j = σ r j) (H : HW σ) : HW σ' := by
  obtain ⟨a1, a2, a3, a4, a5, a6, a7⟩ := H
  refine ⟨?_, ?_, fun i hi => ?_, fun i hi => ?_, fun i hi => ?_, fun s i hs hi => ?_, fun i j hi hj => ?_⟩
  · rw [e0 5 (by omega) (by omega), e0 6 (by omega) (by omega), e0 7 (by omega) (by omega), e0 8 (by omega) (by omega)]; exact a1
  · rw [e0 9 (by omega) (by omega), e0 10 (by omega) (by omega), e0 11 (by omega) (by omega), e0 12 (by omega) (by omega)]; exact a2
  · rw [e0 6 (by omega) (by omega)] at hi
    rw [er 14 i (by omega) (by omega)]
    exact ⟨(a3 i hi).1, fun s hs => by rw [er 15 _ (by omega) (by omega)]; exact (a3 i hi).2 s hs⟩
  · rw [e0 7 (by omega) (by omega)] at hi
    rw [er 16 i (by omega) (by omega), er 17 i (by omega) (by omega), er 18 i (by omega) (by omega), er 19 i (by omega) (by omega)]
    exact a4 i hi
  · rw [e0 8 (by omega) (by omega)] at hi
    rw [er 20 i (by omega) (by omega), er 21 i (by omega) (by omega)]
    exact a5 i hi
  · rw [e0 _ (by omega) (by omega)] at hi
    rw [er 22 _ (by omega) (by omega)]
    exact a6 s i hs hi
  · rw [e0 7 (by omega) (by omega)] at hj
    rw [er 22 _ (by omega) (by omega), er 22 _ (by omega) (by omega)]
    exact a7 i j hi hj
theorem up2_0 {σ : sg_T} {i v : Nat} (h : i < 5) : ∀ k, 5 ≤ k → k < 13 → up2 σ 0 i v 0 k = σ 0 k := fun k h1 h2 => if_neg (by omega)
theorem up2_r {σ : sg_T} {i v : Nat} {q : Nat} (h : q < 14 ∨ 23 ≤ q) : ∀ r j, 14 ≤ r → r < 23 → up2 σ q i v r j = σ r j := fun r j h1 h2 => if_neg (by omega)
theorem up2_q {σ : sg_T} {i v : Nat} {q : Nat} (h : 0 < q) : ∀ k, 5 ≤ k → k < 13 → up2 σ q i v 0 k = σ 0 k := fun k h1 h2 => if_neg (by omega)
theorem ok_later : ob_later RR := by
  rintro μ ν x1 ⟨σ, σ0, σ1, ρ, r0, r1, h⟩
  obtain ⟨g1, g2, g3⟩ := lay0 h
  generalize hν : uX12_lay (fm_i ν 0 0 0) = ν1 at g2 g3
  have w := RS_WR g2 g3
  have cT : fI μ 8 4 = nI (σ 0 3) := w.1.1.2.2.2.1
  have mT : fI ν1 2 130 = nI (σ 0 3) := w.2.1.1.2.2.2.1
  have hT : σ 0 3 ≤ 199 := w.2.2.1.1.2.2.2.1
  unfold pX12_later gX11_later gX12_later uX11_later uX12_later
  rw [hν, cT, mT]
  refine ⟨trivial, g1, ?_⟩
  by_cases h1 : x1 < 0
  · have e : gX12_isIn ν1 x1 0 199 = 0 := isIn_nI.mpr (Or.inl h1)
    simp only [if_pos h1, if_pos e]
    exact ⟨trivial, σ, σ0, σ1, ρ, r0, r1, g2⟩
  by_cases h2 : 199 < x1
  · have e : gX12_isIn ν1 x1 0 199 = 0 := isIn_nI.mpr (Or.inr h2)
    simp only [if_neg h1, if_pos h2, if_pos e]
    exact ⟨trivial, σ, σ0, σ1, ρ, r0, r1, g2⟩
  have e : ¬ gX12_isIn ν1 x1 0 199 = 0 := fun z => (isIn_nI.mp z).elim h1 h2
  simp only [if_neg h1, if_neg h2, if_neg e]
  refine ⟨trivial, ?_⟩
  by_cases h3 : nI (σ 0 3) + x1 ≤ 199
  · simp only [if_pos h3]
    obtain ⟨i, hi, rfl⟩ := nI_of h1
    rw [nI_add] at h3 ⊢
    have hi9 : i ≤ 199 := by
      have h2 : ¬ nI 199 < nI i := h2
      rw [nI_ltI (by omega) (by omega)] at h2
      omega
    have h3 : σ 0 3 + i ≤ 199 := (nI_leI (b := 199) (by omega) (by omega)).mp h3
    refine ⟨up2 σ 0 3 (σ 0 3 + i), σ0, σ1, ρ, r0, r1, RS_w g2 (kpC_i (by decide)) (kpM_i (by decide) (by decide)) (XR_cg (xgC_i (by decide)) xgM_i g2.2.2.2.1) (by rw [fI_i, if_neg (by decide)]; exact g3) ⟨?_, ?_, ?_, ?_⟩⟩
    · obtain ⟨⟨c1, c2, c3, c4, c5⟩, d1, d2, d3, d4, d5, d6⟩ := w.1
      exact ⟨⟨c1, c2, c3, rfl, c5⟩, d1, d2, d3, d4, d5, HC_s (up2_0 (by decide)) (up2_r (by decide)) (fun k j hk => by show fI (fm_i μ 8 4 _) (8 + (16 + k)) j = fI μ (8 + (16 + k)) j; rw [fI_i, if_neg (by omega)]) (fun _ => rfl) d6⟩
    · obtain ⟨⟨c1, c2, c3, c4, c5⟩, d1, d2, d3, d4, d5, d6, d7⟩ := w.2.1
      refine ⟨⟨c1, c2, c3, rfl, c5⟩, fun t j ht hj => ?_, fun n hn => ?_, fun d hd => ?_, fun l hl => ?_, fun q hq => ?_, fun k hk => ?_, HM_s (up2_0 (by decide)) (up2_r (by decide)) w.2.2.1.2.2.2.2.2.2.2.2 (fun j hj => ?_) (fun _ => rfl) d7⟩
      · rw [fI_i, if_neg (by omega)]; exact d1 t j ht hj
      · rw [fI_i, if_neg (by omega), fI_i, if_neg (by omega), fI_i, if_neg (by omega)]; exact d2 n hn
      · rw [fI_i, if_neg (by omega), fI_i, if_neg (by omega), fI_i, if_neg (by omega)]; exact d3 d hd
      · rw [fI_i, if_neg (by omega)]; exact d4 l hl
      · have e : ∀ j, j ≠ 130 → fI (fm_i ν1 2 130 (nI (σ 0 3 + i))) 2 j = fI ν1 2 j := fun j hj => by rw [fI_i, if_neg (by omega)]
        rw [e (2340 + q) (by omega), e (2440 + 2 * q) (by omega), e (2441 + 2 * q) (by omega)]; exact d5 q hq
      · have hK : k < 12 := Nat.lt_of_lt_of_le (show k < σ 0 2 from hk) w.2.2.1.1.2.2.1
        rw [fI_i, if_neg (by omega)]; exact d6 k hk
      · rw [fI_i, if_neg (by omega)]
    · obtain ⟨⟨c1, c2, c3, c4, c5⟩, d1, d2, d3, d4, d5, d6, d7, d8⟩ := w.2.2.1
      refine ⟨⟨c1, c2, c3, h3, c5⟩, fun t ht => ?_, fun n hn => ?_, d3, d4, d5, d6, d7, HW_s (up2_0 (by decide)) (up2_r (by decide)) d8⟩
      · obtain ⟨⟨e1, e2, e3, e4, e5, e6, e7, e8, e9⟩, f1, f2, f3⟩ := d1 t ht
        refine ⟨⟨e1, e2, e3, e4, e5, e6, e7, ?_, e9⟩, f1, ?_, ?_⟩
        · show σ 1 (14 * t + 6) ≤ σ 0 3 + i
          omega
        · exact f2.trans (congrArg Prod.fst (stN_cg (σ := σ) (σ' := up2 σ 0 3 (σ 0 3 + i)) (σ 0 1) (fun i hi => ⟨rfl, rfl, rfl⟩)).symm)
        · exact f3.trans (congrArg Prod.snd (stN_cg (σ := σ) (σ' := up2 σ 0 3 (σ 0 3 + i)) (σ 0 1) (fun i hi => ⟨rfl, rfl, rfl⟩)).symm)
      · obtain ⟨e1, e2, e3, e4, e5, e6⟩ := d2 n hn
        refine ⟨e1, e2, e3, e4, e5, ?_⟩
        show σ 5 n ≤ σ 0 3 + i
        omega
    · exact RU_cg (fun k j hk => by show fI (fm_i μ 8 4 _) (8 + (28 + k)) j = fI μ (8 + (28 + k)) j; rw [fI_i, if_neg (by omega)]) (fun j hj => by rw [fI_i, if_neg (by omega)]) w.2.2.2
  · simp only [if_neg h3]
    exact ⟨σ, σ0, σ1, ρ, r0, r1, g2⟩
