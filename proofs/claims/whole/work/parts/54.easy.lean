theorem at_cmp {μ : fm_T} {x : Int32} {n : Nat} (hn : n ≤ 100000) : gX11_within μ x 0 (nI n - 1) = 0 ↔ (x < 0 ∨ nI n ≤ x) := by
  rw [wi_nI, lt_ti, lt_ti, le_ti]
  have h1 : (nI n - 1).toInt = (n : Int) - 1 := ti_sub (x := (n : Int) - 1) (by rw [nI_toInt (by omega)]; rfl) (by omega) (by omega)
  rw [h1, nI_toInt (by omega)]
  omega
theorem nI_at {x : Int32} {n : Nat} (h1 : ¬ x < 0) (h2 : ¬ nI n ≤ x) (hn : n ≤ 100000) : ∃ i, i < n ∧ x = nI i := by
  obtain ⟨i, hi, rfl⟩ := nI_of h1
  refine ⟨i, ?_, rfl⟩
  rw [nI_leI (by omega) hi] at h2
  omega
theorem rd_at {μ : fm_T} {x : Int32} {n B : Nat} {f g : Nat → Int32} (hn : n ≤ B) (hB : B ≤ 100000) (h : ∀ i, i < n → f i = g i) :
    (¬ gX11_within μ x 0 (nI n - 1) = 0 → vp_in x B) ∧ (¬ x < 0 → ¬ nI n ≤ x → vp_in x B) ∧ (if gX11_within μ x 0 (nI n - 1) = 0 then (-1 : Int32) else f x.toNatClampNeg) = (if x < 0 then -1 else if nI n ≤ x then -1 else g x.toNatClampNeg) := by
  have key : ¬ x < 0 → ¬ nI n ≤ x → vp_in x B ∧ f x.toNatClampNeg = g x.toNatClampNeg := fun h1 h2 => by
    obtain ⟨i, hi, rfl⟩ := nI_at h1 h2 (by omega)
    rw [nI_clamp (by omega)]
    exact ⟨vp_in_nI (by omega) (by omega), h i hi⟩
  refine ⟨fun q => ?_, fun q1 q2 => (key q1 q2).1, ?_⟩
  · rw [at_cmp (by omega)] at q
    exact (key (fun z => q (Or.inl z)) (fun z => q (Or.inr z))).1
  · by_cases h1 : x < 0
    · rw [if_pos ((at_cmp (by omega)).mpr (Or.inl h1)), if_pos h1]
    · by_cases h2 : nI n ≤ x
      · rw [if_pos ((at_cmp (by omega)).mpr (Or.inr h2)), if_neg h1, if_pos h2]
      · rw [if_neg (fun z => ((at_cmp (by omega)).mp z).elim h1 h2), if_neg h1, if_neg h2]
        exact (key h1 h2).2
theorem ok_fault : ob_fault RR := by
  rintro μ ν ⟨σ, σ0, σ1, ρ, r0, r1, h⟩
  exact ⟨trivial, trivial, h.2.2.2.1.2.2.2.2.2.2.1, σ, σ0, σ1, ρ, r0, r1, RS_thr h 0⟩
theorem ok_sure : ob_sure RR := by
  rintro μ ν x1 ⟨σ, σ0, σ1, ρ, r0, r1, h⟩
  obtain ⟨a1, a2, a3, a4⟩ := h.2.2.2.1.2.1
  have g := rd_at (μ := μ) (x := x1) (f := fI μ 56) (g := fI ν 20) a3 (by omega) a4
  unfold pX11_sure pX12_sure gX11_sure gX12_sure uX12_sure
  rw [a1, a2]
  refine ⟨g.1, g.2.1, g.2.2, σ, σ0, σ1, ρ, r0, r1, ?_⟩
  simp only [ite_self]
  exact RS_thr h 0
theorem ok_bestAt : ob_bestAt RR := by
  rintro μ ν x1 ⟨σ, σ0, σ1, ρ, r0, r1, h⟩
  obtain ⟨a1, a2, a3, a4⟩ := h.2.2.2.1.2.2.1
  have g := rd_at (μ := μ) (x := x1) (f := fI μ 60) (g := fI ν 23) a3 (by omega) a4
  unfold pX11_bestAt pX12_bestAt gX11_bestAt gX12_bestAt uX12_bestAt
  rw [a1, a2]
  refine ⟨g.1, g.2.1, g.2.2, σ, σ0, σ1, ρ, r0, r1, ?_⟩
  simp only [ite_self]
  exact RS_thr h 0
theorem ok_recalled : ob_recalled RR := by
  rintro μ ν x1 ⟨σ, σ0, σ1, ρ, r0, r1, h⟩
  obtain ⟨a1, a2, a3, a4⟩ := h.2.2.2.1.2.2.2.1
  have g := rd_at (μ := μ) (x := x1) (f := fI μ 72) (g := fI ν 25) a3 (by omega) a4
  unfold pX11_recalled pX12_recalled gX11_recalled gX12_recalled uX12_recalled
  rw [a1, a2]
  refine ⟨g.1, g.2.1, g.2.2, σ, σ0, σ1, ρ, r0, r1, ?_⟩
  simp only [ite_self]
  exact RS_thr h 0
theorem ok_cause : ob_cause RR := by
  rintro μ ν x1 ⟨σ, σ0, σ1, ρ, r0, r1, h⟩
  obtain ⟨a1, a2, a3, a4⟩ := h.2.2.2.1.2.2.2.2.1
  have g := rd_at (μ := μ) (x := x1) (f := fI μ 65) (g := fI ν 29) a3 (by omega) a4
  unfold pX11_cause pX12_cause gX11_cause gX12_cause uX12_cause
  rw [a1, a2]
  refine ⟨g.1, g.2.1, g.2.2, σ, σ0, σ1, ρ, r0, r1, ?_⟩
  simp only [ite_self]
  exact RS_thr h 0
theorem ok_roundAt : ob_roundAt RR := by
  rintro μ ν x1 ⟨σ, σ0, σ1, ρ, r0, r1, h⟩
  obtain ⟨a1, a2, a3, a4⟩ := h.2.2.2.1.2.2.2.2.2.1
  have g := rd_at (μ := μ) (x := x1) (f := fI μ 70) (g := fI ν 32) a3 (by omega) a4
  unfold pX11_roundAt pX12_roundAt gX11_roundAt gX12_roundAt uX12_roundAt
  rw [a1, a2]
  refine ⟨g.1, g.2.1, g.2.2, σ, σ0, σ1, ρ, r0, r1, ?_⟩
  simp only [ite_self]
  exact RS_thr h 0
theorem ok_count : ob_count RR := by
  rintro μ ν x1 ⟨σ, σ0, σ1, ρ, r0, r1, h⟩
  obtain ⟨g1, g2, g3⟩ := lay0 h
  have w := RS_WR g2 g3
  obtain ⟨⟨c1, c2, c3, c4, c5⟩, -, -, -, -, -, c7⟩ := w.1
  obtain ⟨⟨m1, m2, m3, m4, m5⟩, -, -, -, -, -, -, m7⟩ := w.2.1
  have c1 : fI μ 9 5 = nI (σ 0 0) := c1
  have c2 : fI μ 9 6 = nI (σ 0 1) := c2
  have c3 : fI μ 9 7 = nI (σ 0 2) := c3
  have c4 : fI μ 8 4 = nI (σ 0 3) := c4
  have c5 : fI μ 15 8 = nI (σ 0 4) := c5
  have t1 : fI (uX12_lay (fm_i ν 0 0 0)) 0 2 = fI μ 1 2 := g2.2.2.2.1.1.2.1.trans g2.2.2.2.1.1.1.symm
  have hc : ∀ s, s < 4 → fI μ 26 s = fI (uX12_lay (fm_i ν 0 0 0)) 2 s := fun s hs => (c7.1 s hs).trans (m7.1 s hs).symm
  have hx : ∀ n : Nat, n < 4 → x1.toInt = n → x1.toNatClampNeg = n ∧ vp_in x1 4 := fun n hn e => by
    have e2 : x1 = nI n := by apply Int32.toInt_inj.mp; rw [nI_toInt (by omega)]; exact e
    rw [e2]
    exact ⟨nI_clamp (by omega), vp_in_nI hn (by decide)⟩
  unfold pX11_count pX12_count gX11_count gX12_count uX12_count gX12_tickets gX12_today
  refine ⟨⟨fun q => (hx 0 (by decide) q).2, fun q => (hx 1 (by decide) q).2, fun q => (hx 2 (by decide) q).2, fun q => (hx 3 (by decide) q).2⟩, g1, ?_, σ, σ0, σ1, ρ, r0, r1, by simp only [ite_self]; exact g2⟩
  rw [m1, m2, m3, m4, m5, c1, c2, c3, c4, c5, t1]
  by_cases q0 : x1.toInt = 0
  · rw [if_pos q0, if_pos q0, (hx 0 (by decide) q0).1]; exact hc 0 (by decide)
  · rw [if_neg q0, if_neg q0]
    by_cases q1 : x1.toInt = 1
    · rw [if_pos q1, if_pos q1, (hx 1 (by decide) q1).1]; exact hc 1 (by decide)
    · rw [if_neg q1, if_neg q1]
      by_cases q2 : x1.toInt = 2
      · rw [if_pos q2, if_pos q2, (hx 2 (by decide) q2).1]; exact hc 2 (by decide)
      · rw [if_neg q2, if_neg q2]
        by_cases q3 : x1.toInt = 3
        · rw [if_pos q3, if_pos q3, (hx 3 (by decide) q3).1]; exact hc 3 (by decide)
        · rw [if_neg q3, if_neg q3]
def up2 (σ : sg_T) (i j v : Nat) : sg_T := fun a b => if a = i ∧ b = j then v else σ a b
theorem ok_end : ob_end RR := by
  rintro μ ν x1 ⟨σ, σ0, σ1, ρ, r0, r1, h⟩
  obtain ⟨a1, a2, a3, a4⟩ := h.2.2.2.1.1
  unfold gX11_end gX12_end uX11_end uX12_end
  rw [a1, a2]
  refine ⟨trivial, trivial, rfl, ?_⟩
  by_cases h1 : x1 < 0
  · simp only [if_pos h1]
    exact ⟨σ, σ0, σ1, ρ, r0, r1, RS_thr h 0⟩
  · by_cases h2 : x1 ≤ nI (ρ 0 0)
    · simp only [if_neg h1, if_pos h2]
      obtain ⟨i, hi, rfl⟩ := nI_of h1
      have hi2 : i ≤ ρ 0 0 := (nI_leI hi (by omega)).mp h2
      have h0 := RS_thr h 0
      refine ⟨σ, σ0, σ1, up2 ρ 0 0 i, r0, r1, RS_x h0 ⟨rfl, rfl, fun k j hk => ?_, fun k j hk => rfl⟩ ⟨rfl, rfl, ?_, fun j => ?_, fun j => rfl, fun j => ?_, fun j => ?_, fun j => rfl⟩ ?_⟩
      · rw [fI_i, if_neg (by omega)]
      · rw [fI_i, if_neg (by omega)]
      · rw [fI_i, if_neg (by omega)]
      · rw [fI_i, if_neg (by omega)]
      · rw [fI_i, if_neg (by omega)]
      · obtain ⟨-, b2, b3, b4, b5, b6, b7, b8⟩ := h0.2.2.2.1
        have a4' := h0.2.2.2.1.1.2.2.2
        unfold XR
        simp only [fI_i, up2, fL_i]
        simp only [fI_i] at b2 b3 b4 b5 b6 b7 a4'
        simp at b2 b3 b4 b5 b6 b7 a4' ⊢
        exact ⟨⟨by omega, a4'⟩, b2, b3, b4, b5, b6, b7, b8⟩
    · simp only [if_neg h1, if_neg h2]
      exact ⟨σ, σ0, σ1, ρ, r0, r1, RS_thr h 0⟩
