def tOK (μ : fm_T) (S T n : Nat) (k x2 x3 x4 x5 x6 : Int32) : Prop := S ≠ 40 ∧ (¬ k < 0 ∧ k < nI (3 * n)) ∧ ¬ gX11_within μ x2 1 200 = 0 ∧ ¬ gX11_within μ x3 0 9 = 0 ∧ ¬ gX11_within μ x4 0 255 = 0 ∧ ¬ gX11_within μ x5 0 39 = 0 ∧ ¬ gX11_within μ x6 (nI T) 199 = 0
section
variable {μ ν : fm_T} {S T n : Nat} {k x2 x3 x4 x5 x6 z : Int32}
theorem tk_guard (hS : S ≤ 40) (cS : fI μ 9 5 = nI S) (cT : fI μ 8 4 = nI T) (cn : fI μ 26 2 = nI n) : (tOK μ S T n k x2 x3 x4 x5 x6 → ∀ {α : Type} (u v : α), tkG μ k x2 x3 x4 x5 x6 u v = v) ∧ (¬ tOK μ S T n k x2 x3 x4 x5 x6 → ∀ {α : Type} (u v : α), tkG μ k x2 x3 x4 x5 x6 u v = u) ∧ ((tOK μ S T n k x2 x3 x4 x5 x6 → tkP μ k x2 x3 x4 x5 x6 z) → tkGp μ k x2 x3 x4 x5 x6 z) := by
  have e40 : (40 : Int32) ≤ nI S ↔ S = 40 := (nI_leI (a := 40) (by omega) (by omega)).trans (by omega)
  have e3 : (3 : Int32) * nI n = nI (3 * n) := by simp only [li_n, nI_mul]
  refine ⟨fun h => ?_, fun h => ?_, fun h => ?_⟩
  · obtain ⟨a1, ⟨a2, a3⟩, a4, a5, a6, a7, a8⟩ := h
    intro α u v
    unfold tkG gX11_isCounter
    rw [cS, cT, cn, e3, if_neg (fun q => a1 (e40.mp q)), if_neg a2, if_pos a3, if_neg a4, if_neg a5, if_neg a6, if_neg a7, if_neg a8]
  · intro α u v
    unfold tkG gX11_isCounter
    rw [cS, cT, cn, e3]
    by_cases a1 : (40 : Int32) ≤ nI S
    · rw [if_pos a1]
    rw [if_neg a1]
    by_cases a2 : k < 0
    · rw [if_pos a2]
    rw [if_neg a2]
    by_cases a3 : k < nI (3 * n)
    · rw [if_pos a3]
      by_cases a4 : gX11_within μ x2 1 200 = 0
      · rw [if_pos a4]
      rw [if_neg a4]
      by_cases a5 : gX11_within μ x3 0 9 = 0
      · rw [if_pos a5]
      rw [if_neg a5]
      by_cases a6 : gX11_within μ x4 0 255 = 0
      · rw [if_pos a6]
      rw [if_neg a6]
      by_cases a7 : gX11_within μ x5 0 39 = 0
      · rw [if_pos a7]
      rw [if_neg a7]
      by_cases a8 : gX11_within μ x6 (nI T) 199 = 0
      · rw [if_pos a8]
      exact absurd ⟨fun q => a1 (e40.mpr q), ⟨a2, a3⟩, a4, a5, a6, a7, a8⟩ h
    · rw [if_neg a3]
  · unfold tkGp gX11_isCounter
    rw [cS, cT, cn, e3]
    exact fun a1 a2 a3 a4 a5 a6 => ⟨wi_01 _ _ _ _, fun a7 a8 => h ⟨fun q => a1 (e40.mpr q), ⟨a2, a3⟩, a4, a5, a6, a7, a8⟩⟩
theorem mk_guard (hS : S ≤ 40) (hn : n ≤ 8) (mS : fI ν 2 131 = nI S) (mT : fI ν 2 130 = nI T) (mn : fI ν 2 2 = nI n) : (tOK μ S T n k x2 x3 x4 x5 x6 → ∀ {α : Type} (u v : α), mkG ν k x2 x3 x4 x5 x6 u v = v) ∧ (¬ tOK μ S T n k x2 x3 x4 x5 x6 → ∀ {α : Type} (u v : α), mkG ν k x2 x3 x4 x5 x6 u v = u) ∧ ∀ M, (tOK μ S T n k x2 x3 x4 x5 x6 → (vp_in (mkB ν + 0) 2560) ∧ ((vp_in (mkB ν + 1) 2560) ∧ ((vp_in (mkB ν + 2) 2560) ∧ ((vp_in (mkB ν + 3) 2560) ∧ ((vp_in (mkB ν + 4) 2560) ∧ ((vp_in (mkB ν + 5) 2560) ∧ ((vp_in (mkB ν + 6) 2560) ∧ ((vp_in (mkB ν + 7) 2560) ∧ ((pX12_clothOf M (k / 3) (1 : Int32)) ∧ ((vp_in (mkB ν + 8) 2560) ∧ ((vp_in (mkB ν + 9) 2560) ∧ ((vp_in (mkB ν + 10) 2560)))))))))))) ) → mkGp ν k x2 x3 x4 x5 x6 M := by
  have e40 : nI S = 40 ↔ S = 40 := nI_eq (b := 40) (by omega) (by omega)
  have e3 : (3 : Int32) * nI n = nI (3 * n) := by simp only [li_n, nI_mul]
  have ek : gX11_within μ k 0 (nI (3 * n) - 1) = 0 ↔ ¬ (¬ k < 0 ∧ k < nI (3 * n)) := by
    rw [at_cmp (by omega)]
    have : k < nI (3 * n) ↔ ¬ nI (3 * n) ≤ k := by rw [lt_ti, le_ti]; omega
    rw [this]
    by_cases q1 : k < 0
    · simp [q1]
    · by_cases q2 : nI (3 * n) ≤ k
      · simp [q1, q2]
      · simp [q1, q2]
  refine ⟨fun h => ?_, fun h => ?_, fun M h => ?_⟩
  · obtain ⟨a1, a2, a4, a5, a6, a7, a8⟩ := h
    intro α u v
    unfold mkG gX12_tickets gX12_today
    simp only [isI (μ := μ)]
    rw [mS, mT, mn, e3, if_neg (fun q => ek.mp q a2), if_neg a4, if_neg a5, if_neg a6, if_neg a7, if_neg a8, if_neg (fun q => a1 (e40.mp q))]
  · intro α u v
    unfold mkG gX12_tickets gX12_today
    simp only [isI (μ := μ)]
    rw [mS, mT, mn, e3]
    by_cases a2 : gX11_within μ k 0 (nI (3 * n) - 1) = 0
    · rw [if_pos a2]
    rw [if_neg a2]
    by_cases a4 : gX11_within μ x2 1 200 = 0
    · rw [if_pos a4]
    rw [if_neg a4]
    by_cases a5 : gX11_within μ x3 0 9 = 0
    · rw [if_pos a5]
    rw [if_neg a5]
    by_cases a6 : gX11_within μ x4 0 255 = 0
    · rw [if_pos a6]
    rw [if_neg a6]
    by_cases a7 : gX11_within μ x5 0 39 = 0
    · rw [if_pos a7]
    rw [if_neg a7]
    by_cases a8 : gX11_within μ x6 (nI T) 199 = 0
    · rw [if_pos a8]
    rw [if_neg a8]
    by_cases a1 : nI S = 40
    · rw [if_pos a1]
    exact absurd ⟨fun q => a1 (e40.mpr q), Classical.not_not.mp (fun q => a2 (ek.mpr q)), a4, a5, a6, a7, a8⟩ h
  · unfold mkGp gX12_tickets gX12_today
    simp only [isI (μ := μ)]
    rw [mS, mT, mn, e3]
    exact fun a2 a4 a5 a6 a7 a8 a1 => h ⟨fun q => a1 (e40.mpr q), Classical.not_not.mp (fun q => a2 (ek.mpr q)), a4, a5, a6, a7, a8⟩
end
def smR (ν ν' : fm_T) (S : Nat) (m : Nat) (f : Nat → Int32) : Prop := ν'.1 = ν.1 ∧ ν'.2.1 = ν.2.1 ∧ (∀ k j, fL ν' k j = fL ν k j) ∧ (∀ k j, (k = 2 → j < 160 + 12 * S ∨ 172 + 12 * S ≤ j) → fI ν' k j = fI ν k j) ∧ ∀ j, j < m → fI ν' 2 (160 + 12 * S + j) = f j
theorem smR_set {ν ν' : fm_T} {S m j : Nat} {f : Nat → Int32} {v : Int32} (h : smR ν ν' S m f) (hS : S < 40) (mS : fI ν 2 131 = nI S) (hj : j < 12) (hm : j ≤ m) : smR ν (fm_i ν' 2 ((mkB ν + nI j).toNatClampNeg) v) S (max m (j + 1)) (fun i => if i = j then v else f i) ∧ vp_in (mkB ν + nI j) 2560 := by
  have e : mkB ν + nI j = nI (160 + 12 * S + j) := by
    unfold mkB gX12_tickets
    rw [mS]
    simp only [li_n, nI_mul, nI_add]
  obtain ⟨h1, h2, h3, h4, h6⟩ := h
  rw [e, nI_clamp (by omega)]
  refine ⟨⟨h1, h2, h3, fun k i z => ?_, fun i hi => ?_⟩, vp_in_nI (by omega) (by decide)⟩
  · rw [fI_i, if_neg (by omega)]; exact h4 k i z
  · rw [fI_i]
    by_cases e : i = j
    · rw [if_pos ⟨rfl, by omega⟩]; exact (if_pos e).symm
    · rw [if_neg (by omega)]; exact (h6 i (by omega)).trans (if_neg e).symm
theorem tkU_ok {μ : fm_T} {S T n c v p s : Nat} {k x2 x3 x4 x5 x6 z : Int32} (hS : S < 40) (hn : n ≤ 8) (hc : c < n) (hp : p ≤ 999) (hs : s ≤ 300) (cS : fI μ 9 5 = nI S) (cT : fI μ 8 4 = nI T) (cn : fI μ 26 2 = nI n) (cp : fI μ 30 c = nI p) (cs : fI μ 35 3 = nI s) (k1 : k / 3 = nI c) (k2 : k - k / 3 * 3 = nI v) (hz : z = 0 ∨ z = 1) : tkP μ k x2 x3 x4 x5 x6 z ∧ stR μ (tkU μ k x2 x3 x4 x5 x6 z) S 14 (fun i => if i = 8 then (if z = 0 then nI p else nI (p * s / 100)) else if i = 10 then z else if i = 7 then x6 else if i = 6 then nI T else if i = 5 then x5 else if i = 4 then x4 else if i = 3 then x3 else if i = 2 then x2 else if i = 1 then nI v else if i = 0 then nI c else 0) := by
  obtain ⟨a1, a2, a3⟩ := ae_ok hS cS
  unfold tkP tkU tk9 tk6
  rw [a3, k2, k1]
  obtain ⟨b0, p0⟩ := stR_set (j := 0) (v := nI c) a1 hS (by omega) (by omega)
  have b0 : stR μ (uX8_set (uX8_addEmpty μ) (nI S) 0 (nI c)) S 14 _ := b0
  have p0 : pX8_set (uX8_addEmpty μ) (nI S) 0 (nI c) := p0
  generalize uX8_set (uX8_addEmpty μ) (nI S) 0 (nI c) = m0 at b0 ⊢
  obtain ⟨b1, p1⟩ := stR_set (j := 1) (v := nI v) b0 hS (by omega) (by omega)
  have b1 : stR μ (uX8_set m0 (nI S) 1 (nI v)) S 14 _ := b1
  have p1 : pX8_set m0 (nI S) 1 (nI v) := p1
  generalize uX8_set m0 (nI S) 1 (nI v) = m1 at b1 ⊢
  obtain ⟨b2, p2⟩ := stR_set (j := 2) (v := x2) b1 hS (by omega) (by omega)
  have b2 : stR μ (uX8_set m1 (nI S) 2 x2) S 14 _ := b2
  have p2 : pX8_set m1 (nI S) 2 x2 := p2
  generalize uX8_set m1 (nI S) 2 x2 = m2 at b2 ⊢
  obtain ⟨b3, p3⟩ := stR_set (j := 3) (v := x3) b2 hS (by omega) (by omega)
  have b3 : stR μ (uX8_set m2 (nI S) 3 x3) S 14 _ := b3
  have p3 : pX8_set m2 (nI S) 3 x3 := p3
  generalize uX8_set m2 (nI S) 3 x3 = m3 at b3 ⊢
  obtain ⟨b4, p4⟩ := stR_set (j := 4) (v := x4) b3 hS (by omega) (by omega)
  have b4 : stR μ (uX8_set m3 (nI S) 4 x4) S 14 _ := b4
  have p4 : pX8_set m3 (nI S) 4 x4 := p4
  generalize uX8_set m3 (nI S) 4 x4 = m4 at b4 ⊢
  obtain ⟨b5, p5⟩ := stR_set (j := 5) (v := x5) b4 hS (by omega) (by omega)
  have b5 : stR μ (uX8_set m4 (nI S) 5 x5) S 14 _ := b5
  have p5 : pX8_set m4 (nI S) 5 x5 := p5
  generalize uX8_set m4 (nI S) 5 x5 = m5 at b5 ⊢
  have t5 : fI m5 8 4 = nI T := (b5.2.2.2.1 8 4 (by omega) (by omega)).trans cT
  rw [t5]
  obtain ⟨b6, p6⟩ := stR_set (j := 6) (v := nI T) b5 hS (by omega) (by omega)
  have b6 : stR μ (uX8_set m5 (nI S) 6 (nI T)) S 14 _ := b6
  have p6 : pX8_set m5 (nI S) 6 (nI T) := p6
  generalize uX8_set m5 (nI S) 6 (nI T) = m6 at b6 ⊢
  obtain ⟨b7, p7⟩ := stR_set (j := 7) (v := x6) b6 hS (by omega) (by omega)
  have b7 : stR μ (uX8_set m6 (nI S) 7 x6) S 14 _ := b7
  have p7 : pX8_set m6 (nI S) 7 x6 := p7
  generalize uX8_set m6 (nI S) 7 x6 = m7 at b7 ⊢
  obtain ⟨b8, p8⟩ := stR_set (j := 10) (v := z) b7 hS (by omega) (by omega)
  have b8 : stR μ (uX8_set m7 (nI S) 10 z) S 14 _ := b8
  have p8 : pX8_set m7 (nI S) 10 z := p8
  generalize uX8_set m7 (nI S) 10 z = m8 at b8 ⊢
  obtain ⟨q1, q2, q3⟩ := co_ok (μ := m8) hn hc hp hs ((b8.2.2.2.1 26 2 (by omega) (by omega)).trans cn) ((b8.2.2.2.1 30 c (by omega) (by omega)).trans cp) ((b8.2.2.2.1 35 3 (by omega) (by omega)).trans cs)
  have q4 : gX2_costOf m8 (nI c) z = if z = 0 then nI p else nI (p * s / 100) := by
    rcases hz with rfl | rfl
    · exact q1
    · exact q2
  rw [q4]
  obtain ⟨b9, p9⟩ := stR_set (j := 8) (v := if z = 0 then nI p else nI (p * s / 100)) b8 hS (by omega) (by omega)
  have b9 : stR μ (uX8_set m8 (nI S) 8 (if z = 0 then nI p else nI (p * s / 100))) S 14 _ := b9
  exact ⟨⟨a2, p0, p1, p2, p3, p4, p5, p6, p7, p8, q3 z, p9⟩, b9⟩
