section
variable {σ σ' : sg_T} {c c' : Nat → Nat → Int32} {cn : Nat → Int64} {a a' : Nat → Int32} {nm : Nat → Int64}
theorem WR_news (w : WR σ c cn a nm) {t v d : Nat} (ht : t < σ 0 0) (hN : σ 0 1 < 240) (hv1 : 1 ≤ v) (hv2 : v ≤ 5) (hd1 : σ 1 (14 * t + 6) ≤ d) (hd2 : d ≤ σ 0 3)
  (s0 : ∀ k, k ≠ 1 → σ' 0 k = σ 0 k) (s2 : σ' 0 1 = σ 0 1 + 1) (s1 : ∀ j, j ≠ 14 * t + 12 → j ≠ 14 * t + 13 → σ' 1 j = σ 1 j) (s12 : σ' 1 (14 * t + 12) = (stN σ' t (σ 0 1 + 1)).1) (s13 : σ' 1 (14 * t + 13) = (stN σ' t (σ 0 1 + 1)).2) (sn : ∀ r n, 2 ≤ r → r ≤ 5 → n ≠ σ 0 1 → σ' r n = σ r n) (n2 : σ' 2 (σ 0 1) = t) (n3 : σ' 3 (σ 0 1) = v) (n4 : σ' 4 (σ 0 1) = d) (n5 : σ' 5 (σ 0 1) = σ 0 3) (sr : ∀ r, 6 ≤ r → σ' r = σ r)
  (hc : ∀ k j, k < 32 → (k = 2 → j ≠ 14 * t + 12 ∧ j ≠ 14 * t + 13) → (k = 1 → j ≠ 6) → (3 ≤ k ∧ k ≤ 6 → j ≠ σ 0 1) → c' k j = c k j) (hc12 : c' 2 (14 * t + 12) = nI (σ' 1 (14 * t + 12))) (hc13 : c' 2 (14 * t + 13) = nI (σ' 1 (14 * t + 13))) (hc2 : c' 1 6 = nI (σ 0 1 + 1)) (hn : c' 3 (σ 0 1) = nI t ∧ c' 4 (σ 0 1) = nI v ∧ c' 5 (σ 0 1) = nI d ∧ c' 6 (σ 0 1) = nI (σ 0 3)) (ha : ∀ j, (j < 640 + 3 * σ 0 1 ∨ 642 + 3 * σ 0 1 < j) → j ≠ 132 → a' j = a j) (ha1 : a' (640 + 3 * σ 0 1) = nI (8 * t + v) ∧ a' (641 + 3 * σ 0 1) = nI d ∧ a' (642 + 3 * σ 0 1) = nI (σ 0 3)) (ha2 : a' 132 = nI (σ 0 1 + 1)) : WR σ' c' cn a' nm := by
  obtain ⟨⟨⟨p1, p2, p3, p4, p5⟩, c2, c3, c4, c5, c6, -⟩, ⟨⟨m1, m2, m3, m4, m5⟩, b2, b3, b4, b5, b6, b7, -⟩, ⟨⟨f11, f12, f13, f14, f15⟩, f2, f3, f4, f5, f6, f7, f8, -⟩, -⟩ := id w
  have hst : ∀ z, stN σ' z (σ 0 1) = stN σ z (σ 0 1) := fun z => stN_cg _ (fun i hi => by rw [sn 2 i (by decide) (by decide) (by omega), sn 3 i (by decide) (by decide) (by omega), sn 4 i (by decide) (by decide) (by omega)]; exact ⟨rfl, rfl, rfl⟩)
  refine WR_mk w (fun k _ _ => s0 k (by omega)) (fun r j _ _ => by rw [sr r (by omega)]) (fun k j _ h => hc k j h (by omega) (by omega) (by omega)) (fun j hj => ha j (by omega) (by omega)) ?_ ?_ ?_ ?_ ?_ ?_ ?_ ?_ ?_ ?_ ?_ ?_ ?_ ?_ ?_ ?_ ?_ ?_
  · rw [s0 0 (by decide), s2, s0 2 (by decide), s0 3 (by decide), s0 4 (by decide), hc 1 5 (by decide) (by omega) (by omega) (by omega), hc 1 7 (by decide) (by omega) (by omega) (by omega), hc 0 4 (by decide) (by omega) (by omega) (by omega), hc 7 8 (by decide) (by omega) (by omega) (by omega)]
    exact ⟨p1, hc2, p3, p4, p5⟩
  · intro z j hz hj
    rw [s0 0 (by decide)] at hz
    by_cases e : 14 * z + j = 14 * t + 12
    · rw [e, hc12]
    · by_cases e' : 14 * z + j = 14 * t + 13
      · rw [e', hc13]
      · rw [s1 _ e e', hc 2 _ (by decide) (fun _ => ⟨e, e'⟩) (by omega) (by omega)]
        exact c2 z j hz hj
  · intro n hn'
    rw [s2] at hn'
    by_cases e : n = σ 0 1
    · rw [e, n2, n3, n4, n5]
      exact hn
    · rw [sn 2 n (by decide) (by decide) e, sn 3 n (by decide) (by decide) e, sn 4 n (by decide) (by decide) e, sn 5 n (by decide) (by decide) e, hc 3 _ (by decide) (by omega) (by omega) (by omega), hc 4 _ (by decide) (by omega) (by omega) (by omega), hc 5 _ (by decide) (by omega) (by omega) (by omega), hc 6 _ (by decide) (by omega) (by omega) (by omega)]
      exact c3 n (by omega)
  · intro n hn
    rw [s0 4 (by decide)] at hn
    rw [sr 6 (by decide), sr 7 (by decide), sr 8 (by decide), hc 8 _ (by decide) (by omega) (by omega) (by omega), hc 9 _ (by decide) (by omega) (by omega) (by omega), hc 10 _ (by decide) (by omega) (by omega) (by omega)]
    exact c4 n hn
  · intro n hn
    rw [sr 9 (by decide), hc 11 _ (by decide) (by omega) (by omega) (by omega)]
    exact c5 n hn
  · intro n hn
    rw [sr 10 (by decide), sr 11 (by decide), sr 12 (by decide), sr 13 (by decide), hc 12 _ (by decide) (by omega) (by omega) (by omega), hc 13 _ (by decide) (by omega) (by omega) (by omega), hc 14 _ (by decide) (by omega) (by omega) (by omega), hc 15 _ (by decide) (by omega) (by omega) (by omega)]
    exact c6 n hn
  · rw [s0 0 (by decide), s2, s0 2 (by decide), s0 3 (by decide), s0 4 (by decide), ha 131 (by omega) (by omega), ha 133 (by omega) (by omega), ha 130 (by omega) (by omega), ha 134 (by omega) (by omega)]
    exact ⟨m1, ha2, m3, m4, m5⟩
  · intro z j hz hj
    rw [s0 0 (by decide)] at hz
    rw [s1 _ (by omega) (by omega), ha _ (by omega) (by omega)]
    exact b2 z j hz hj
  · intro n hn
    rw [s2] at hn
    by_cases e : n = σ 0 1
    · rw [e, n2, n3, n4, n5]
      exact ha1
    · rw [sn 2 n (by decide) (by decide) e, sn 3 n (by decide) (by decide) e, sn 4 n (by decide) (by decide) e, sn 5 n (by decide) (by decide) e, ha (640 + 3 * n) (by omega) (by omega), ha (641 + 3 * n) (by omega) (by omega), ha (642 + 3 * n) (by omega) (by omega)]
      exact b3 n (by omega)
  · intro n hn
    rw [s0 4 (by decide)] at hn
    rw [sr 6 (by decide), sr 7 (by decide), sr 8 (by decide), ha _ (by omega) (by omega), ha _ (by omega) (by omega), ha _ (by omega) (by omega)]
    exact b4 n hn
  · intro n hn
    rw [sr 9 (by decide), ha _ (by omega) (by omega)]
    exact b5 n hn
  · intro n hn
    rw [sr 10 (by decide), sr 11 (by decide), sr 12 (by decide), sr 13 (by decide), ha _ (by omega) (by omega), ha (2440 + 2 * n) (by omega) (by omega), ha (2441 + 2 * n) (by omega) (by omega)]
    exact b6 n hn
  · intro k hk
    rw [s0 2 (by decide)] at hk
    rw [sr 23 (by decide), ha _ (by omega) (by omega)]
    exact b7 k hk
  · rw [s0 0 (by decide), s2, s0 2 (by decide), s0 3 (by decide), s0 4 (by decide)]
    exact ⟨f11, by omega, f13, f14, f15⟩
  · intro z hz
    rw [s0 0 (by decide)] at hz
    obtain ⟨x1, y1, y2, y3⟩ := f2 z hz
    rw [s2, s0 7 (by decide), s0 3 (by decide), s0 2 (by decide), sr 23 (by decide), s1 (14 * z + 0) (by omega) (by omega), s1 (14 * z + 1) (by omega) (by omega), s1 (14 * z + 2) (by omega) (by omega), s1 (14 * z + 3) (by omega) (by omega), s1 (14 * z + 4) (by omega) (by omega), s1 (14 * z + 5) (by omega) (by omega), s1 (14 * z + 6) (by omega) (by omega), s1 (14 * z + 7) (by omega) (by omega), s1 (14 * z + 8) (by omega) (by omega), s1 (14 * z + 9) (by omega) (by omega), s1 (14 * z + 10) (by omega) (by omega), s1 (14 * z + 11) (by omega) (by omega)]
    refine ⟨x1, y1, ?_⟩
    by_cases e : z = t
    · rw [e]
      exact ⟨s12, s13⟩
    · rw [s1 (14 * z + 12) (by omega) (by omega), s1 (14 * z + 13) (by omega) (by omega), show stN σ' z (σ 0 1 + 1) = stN σ' z (σ 0 1) from if_neg (fun q => e (by rw [n2] at q; exact q.1.symm)), hst z]
      exact ⟨y2, y3⟩
  · intro n hn
    rw [s2] at hn
    by_cases e : n = σ 0 1
    · rw [e, n2, n3, n4, n5, s0 0 (by decide), s0 3 (by decide), s1 _ (by omega) (by omega)]
      exact ⟨ht, hv1, hv2, hd1, hd2, Nat.le_refl _⟩
    · rw [sn 2 n (by decide) (by decide) e, sn 3 n (by decide) (by decide) e, sn 4 n (by decide) (by decide) e, sn 5 n (by decide) (by decide) e, s0 0 (by decide), s0 3 (by decide), s1 _ (by omega) (by omega)]
      exact f3 n (by omega)
  · rw [s0 4 (by decide), s0 8 (by decide), sr 6 (by decide), sr 7 (by decide), sr 8 (by decide), sr 9 (by decide), sr 10 (by decide), sr 11 (by decide), sr 12 (by decide), sr 13 (by decide)]
    exact ⟨f4, f5, f6⟩
  · rw [s0 2 (by decide), s0 0 (by decide), sr 23 (by decide)]
    exact ⟨f7, f8⟩
theorem stN_0 {σ : sg_T} {t : Nat} : ∀ (n : Nat), (∀ i, i < n → σ 2 i ≠ t) → stN σ t n = (0, 0)
  | 0, _ => rfl
  | n + 1, h => (if_neg (fun q => h n (by omega) q.1)).trans (stN_0 n (fun i hi => h i (by omega)))
theorem WR_ticket (w : WR σ c cn a nm) (hS : σ 0 0 < 40)
  (s0 : ∀ k, k ≠ 0 → σ' 0 k = σ 0 k) (s2 : σ' 0 0 = σ 0 0 + 1) (s1 : ∀ j, j < 14 * σ 0 0 → σ' 1 j = σ 1 j)
  (sB : (σ' 1 (14 * σ 0 0 + 0) < σ 0 7 ∧ σ' 1 (14 * σ 0 0 + 1) ≤ 2 ∧ 1 ≤ σ' 1 (14 * σ 0 0 + 2) ∧ σ' 1 (14 * σ 0 0 + 2) ≤ 200 ∧ σ' 1 (14 * σ 0 0 + 3) ≤ 9 ∧ σ' 1 (14 * σ 0 0 + 4) ≤ 255 ∧ σ' 1 (14 * σ 0 0 + 5) < 40 ∧ σ' 1 (14 * σ 0 0 + 6) ≤ σ 0 3 ∧ σ' 1 (14 * σ 0 0 + 6) ≤ σ' 1 (14 * σ 0 0 + 7) ∧ σ' 1 (14 * σ 0 0 + 7) ≤ 199 ∧ σ' 1 (14 * σ 0 0 + 8) ≤ 2997 ∧ σ' 1 (14 * σ 0 0 + 9) ≤ 99 ∧ σ' 1 (14 * σ 0 0 + 10) ≤ 1)) (s11 : σ' 1 (14 * σ 0 0 + 11) = 0) (s12 : σ' 1 (14 * σ 0 0 + 12) = 0) (s13 : σ' 1 (14 * σ 0 0 + 13) = 0) (sr : ∀ r, 2 ≤ r → σ' r = σ r)
  (hc : ∀ k j, k < 32 → (k = 2 → j < 14 * σ 0 0) → (k = 1 → j ≠ 5) → c' k j = c k j) (hcN : ∀ j, j < 14 → c' 2 (14 * σ 0 0 + j) = nI (σ' 1 (14 * σ 0 0 + j))) (hc2 : c' 1 5 = nI (σ 0 0 + 1)) (ha : ∀ j, (j < 160 + 12 * σ 0 0 ∨ 172 + 12 * σ 0 0 ≤ j) → j ≠ 131 → a' j = a j) (haN : ∀ j, j < 11 → a' (160 + 12 * σ 0 0 + j) = nI (σ' 1 (14 * σ 0 0 + j))) (ha2 : a' 131 = nI (σ 0 0 + 1)) : WR σ' c' cn a' nm := by
  obtain ⟨⟨⟨p1, p2, p3, p4, p5⟩, c2, c3, c4, c5, c6, -⟩, ⟨⟨m1, m2, m3, m4, m5⟩, b2, b3, b4, b5, b6, b7, -⟩, ⟨⟨f11, f12, f13, f14, f15⟩, f2, f3, f4, f5, f6, f7, f8, -⟩, -⟩ := id w
  have hst : ∀ z, stN σ' z (σ 0 1) = stN σ z (σ 0 1) := fun z => stN_cg _ (fun i hi => by rw [sr 2 (by decide), sr 3 (by decide), sr 4 (by decide)]; exact ⟨rfl, rfl, rfl⟩)
  refine WR_mk w (fun k _ _ => s0 k (by omega)) (fun r j _ _ => by rw [sr r (by omega)]) (fun k j _ h => hc k j h (by omega) (by omega)) (fun j hj => ha j (by omega) (by omega)) ?_ ?_ ?_ ?_ ?_ ?_ ?_ ?_ ?_ ?_ ?_ ?_ ?_ ?_ ?_ ?_ ?_ ?_
  · rw [s2, s0 1 (by decide), s0 2 (by decide), s0 3 (by decide), s0 4 (by decide), hc 1 6 (by decide) (by omega) (by omega), hc 1 7 (by decide) (by omega) (by omega), hc 0 4 (by decide) (by omega) (by omega), hc 7 8 (by decide) (by omega) (by omega)]
    exact ⟨hc2, p2, p3, p4, p5⟩
  · intro z j hz hj
    rw [s2] at hz
    by_cases e : z = σ 0 0
    · rw [e]; exact hcN j hj
    · rw [s1 _ (by omega), hc 2 _ (by decide) (by omega) (by omega)]
      exact c2 z j (by omega) hj
  · intro n hn
    rw [s0 1 (by decide)] at hn
    rw [sr 2 (by decide), sr 3 (by decide), sr 4 (by decide), sr 5 (by decide), hc 3 _ (by decide) (by omega) (by omega), hc 4 _ (by decide) (by omega) (by omega), hc 5 _ (by decide) (by omega) (by omega), hc 6 _ (by decide) (by omega) (by omega)]
    exact c3 n hn
  · intro n hn
    rw [s0 4 (by decide)] at hn
    rw [sr 6 (by decide), sr 7 (by decide), sr 8 (by decide), hc 8 _ (by decide) (by omega) (by omega), hc 9 _ (by decide) (by omega) (by omega), hc 10 _ (by decide) (by omega) (by omega)]
    exact c4 n hn
  · intro n hn
    rw [sr 9 (by decide), hc 11 _ (by decide) (by omega) (by omega)]
    exact c5 n hn
  · intro n hn
    rw [sr 10 (by decide), sr 11 (by decide), sr 12 (by decide), sr 13 (by decide), hc 12 _ (by decide) (by omega) (by omega), hc 13 _ (by decide) (by omega) (by omega), hc 14 _ (by decide) (by omega) (by omega), hc 15 _ (by decide) (by omega) (by omega)]
    exact c6 n hn
  · rw [s2, s0 1 (by decide), s0 2 (by decide), s0 3 (by decide), s0 4 (by decide), ha 132 (by omega) (by omega), ha 133 (by omega) (by omega), ha 130 (by omega) (by omega), ha 134 (by omega) (by omega)]
    exact ⟨ha2, m2, m3, m4, m5⟩
  · intro z j hz hj
    rw [s2] at hz
    by_cases e : z = σ 0 0
    · rw [e]; exact haN j hj
    · rw [s1 _ (by omega), ha _ (by omega) (by omega)]
      exact b2 z j (by omega) hj
  · intro n hn
    rw [s0 1 (by decide)] at hn
    rw [sr 2 (by decide), sr 3 (by decide), sr 4 (by decide), sr 5 (by decide), ha (640 + 3 * n) (by omega) (by omega), ha (641 + 3 * n) (by omega) (by omega), ha (642 + 3 * n) (by omega) (by omega)]
    exact b3 n hn
  · intro n hn
    rw [s0 4 (by decide)] at hn
    rw [sr 6 (by decide), sr 7 (by decide), sr 8 (by decide), ha _ (by omega) (by omega), ha _ (by omega) (by omega), ha _ (by omega) (by omega)]
    exact b4 n hn
  · intro n hn
    rw [sr 9 (by decide), ha _ (by omega) (by omega)]
    exact b5 n hn
  · intro n hn
    rw [sr 10 (by decide), sr 11 (by decide), sr 12 (by decide), sr 13 (by decide), ha _ (by omega) (by omega), ha (2440 + 2 * n) (by omega) (by omega), ha (2441 + 2 * n) (by omega) (by omega)]
    exact b6 n hn
  · intro k hk
    rw [s0 2 (by decide)] at hk
    rw [sr 23 (by decide), ha _ (by omega) (by omega)]
    exact b7 k hk
  · rw [s2, s0 1 (by decide), s0 2 (by decide), s0 3 (by decide), s0 4 (by decide)]
    exact ⟨by omega, f12, f13, f14, f15⟩
  · intro z hz
    rw [s2] at hz
    rw [s0 1 (by decide), s0 7 (by decide), s0 3 (by decide), s0 2 (by decide), sr 23 (by decide), hst z]
    by_cases e : z = σ 0 0
    · rw [e, stN_0 (σ 0 1) (fun i hi q => by have := (f3 i hi).1; omega)]
      exact ⟨sB, Or.inr ⟨s11, fun k hk q => by have := f7 k hk; omega⟩, s12, s13⟩
    · rw [s1 (14 * z + 0) (by omega), s1 (14 * z + 1) (by omega), s1 (14 * z + 2) (by omega), s1 (14 * z + 3) (by omega), s1 (14 * z + 4) (by omega), s1 (14 * z + 5) (by omega), s1 (14 * z + 6) (by omega), s1 (14 * z + 7) (by omega), s1 (14 * z + 8) (by omega), s1 (14 * z + 9) (by omega), s1 (14 * z + 10) (by omega), s1 (14 * z + 11) (by omega), s1 (14 * z + 12) (by omega), s1 (14 * z + 13) (by omega)]
      exact f2 z (by omega)
  · intro n hn
    rw [s0 1 (by decide)] at hn
    obtain ⟨x1, x2⟩ := f3 n hn
    rw [sr 2 (by decide), sr 3 (by decide), sr 4 (by decide), sr 5 (by decide), s2, s0 3 (by decide), s1 _ (by omega)]
    exact ⟨by omega, x2⟩
  · rw [s0 4 (by decide), s0 8 (by decide), sr 6 (by decide), sr 7 (by decide), sr 8 (by decide), sr 9 (by decide), sr 10 (by decide), sr 11 (by decide), sr 12 (by decide), sr 13 (by decide)]
    exact ⟨f4, f5, f6⟩
  · rw [s0 2 (by decide), s2, sr 23 (by decide)]
    exact ⟨fun k hk => by have := f7 k hk; omega, f8⟩
end
