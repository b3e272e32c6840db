section
variable {σ σ' : sg_T} {c c' : Nat → Nat → Int32} {cn : Nat → Int64} {a a' : Nat → Int32} {nm : Nat → Int64}
theorem WR_mk (w : WR σ c cn a nm) (e0 : ∀ k, 5 ≤ k → k < 13 → σ' 0 k = σ 0 k) (er : ∀ r j, 14 ≤ r → r < 23 → σ' r j = σ r j) (hcH : ∀ k j, 16 ≤ k → k < 32 → c' k j = c k j) (haH : ∀ j, j < 130 ∨ j = 135 ∨ j = 136 ∨ (2000 ≤ j ∧ j < 2240) → a' j = a j)
  (C1 : c' 1 5 = nI (σ' 0 0) ∧ c' 1 6 = nI (σ' 0 1) ∧ c' 1 7 = nI (σ' 0 2) ∧ c' 0 4 = nI (σ' 0 3) ∧ c' 7 8 = nI (σ' 0 4))
  (C2 : ∀ t j, t < σ' 0 0 → j < 14 → c' 2 (14 * t + j) = nI (σ' 1 (14 * t + j)))
  (C3 : ∀ n, n < σ' 0 1 → c' 3 n = nI (σ' 2 n) ∧ c' 4 n = nI (σ' 3 n) ∧ c' 5 n = nI (σ' 4 n) ∧ c' 6 n = nI (σ' 5 n))
  (C4 : ∀ d, d < σ' 0 4 → c' 8 d = nI (σ' 6 d) ∧ c' 9 d = nI (σ' 7 d) ∧ c' 10 d = nI (σ' 8 d))
  (C5 : ∀ l, l < 100 → c' 11 l = nI (σ' 9 l) - 1)
  (C6 : ∀ q, q < 40 → c' 12 q = nI (σ' 10 q) - 1 ∧ (σ' 10 q ≠ 0 → c' 13 q = nI (σ' 11 q)) ∧ c' 14 q = nI (σ' 12 q) ∧ c' 15 q = nI (σ' 13 q))
  (M1 : a' 131 = nI (σ' 0 0) ∧ a' 132 = nI (σ' 0 1) ∧ a' 133 = nI (σ' 0 2) ∧ a' 130 = nI (σ' 0 3) ∧ a' 134 = nI (σ' 0 4))
  (M2 : ∀ t j, t < σ' 0 0 → j < 11 → a' (160 + 12 * t + j) = nI (σ' 1 (14 * t + j)))
  (M3 : ∀ n, n < σ' 0 1 → a' (640 + 3 * n) = nI (8 * σ' 2 n + σ' 3 n) ∧ a' (641 + 3 * n) = nI (σ' 4 n) ∧ a' (642 + 3 * n) = nI (σ' 5 n))
  (M4 : ∀ d, d < σ' 0 4 → a' (1400 + 3 * d) = nI (σ' 6 d) ∧ a' (1401 + 3 * d) = nI (σ' 7 d) ∧ a' (1402 + 3 * d) = nI (σ' 8 d))
  (M5 : ∀ l, l < 100 → a' (2240 + l) = nI (σ' 9 l) - 1)
  (M6 : ∀ q, q < 40 → a' (2340 + q) = (if σ' 10 q = 0 then -1 else nI (1000 * (σ' 10 q - 1) + σ' 11 q)) ∧ a' (2440 + 2 * q) = nI (σ' 12 q) ∧ a' (2441 + 2 * q) = nI (σ' 13 q))
  (M7 : ∀ k, k < σ' 0 2 → a' (140 + k) = nI (σ' 23 k))
  (F1 : σ' 0 0 ≤ 40 ∧ σ' 0 1 ≤ 240 ∧ σ' 0 2 ≤ 12 ∧ σ' 0 3 ≤ 199 ∧ σ' 0 4 ≤ 200)
  (F2 : ∀ t, t < σ' 0 0 → (σ' 1 (14 * t + 0) < σ' 0 7 ∧ σ' 1 (14 * t + 1) ≤ 2 ∧ 1 ≤ σ' 1 (14 * t + 2) ∧ σ' 1 (14 * t + 2) ≤ 200 ∧ σ' 1 (14 * t + 3) ≤ 9 ∧ σ' 1 (14 * t + 4) ≤ 255 ∧ σ' 1 (14 * t + 5) < 40 ∧ σ' 1 (14 * t + 6) ≤ σ' 0 3 ∧ σ' 1 (14 * t + 6) ≤ σ' 1 (14 * t + 7) ∧ σ' 1 (14 * t + 7) ≤ 199 ∧ σ' 1 (14 * t + 8) ≤ 2997 ∧ σ' 1 (14 * t + 9) ≤ 99 ∧ σ' 1 (14 * t + 10) ≤ 1) ∧
    ((σ' 1 (14 * t + 11) = 1 ∧ ∃ k, k < σ' 0 2 ∧ σ' 23 k = t) ∨ (σ' 1 (14 * t + 11) = 0 ∧ ∀ k, k < σ' 0 2 → σ' 23 k ≠ t)) ∧ σ' 1 (14 * t + 12) = (stN σ' t (σ' 0 1)).1 ∧ σ' 1 (14 * t + 13) = (stN σ' t (σ' 0 1)).2)
  (F3 : ∀ n, n < σ' 0 1 → σ' 2 n < σ' 0 0 ∧ 1 ≤ σ' 3 n ∧ σ' 3 n ≤ 5 ∧ σ' 1 (14 * σ' 2 n + 6) ≤ σ' 4 n ∧ σ' 4 n ≤ σ' 5 n ∧ σ' 5 n ≤ σ' 0 3)
  (F4 : (∀ d, d < σ' 0 4 → σ' 6 d ≤ 30000 ∧ σ' 7 d ≤ 30000 ∧ σ' 8 d ≤ 30000) ∧ (∀ l, l < 100 → σ' 9 l ≤ σ' 0 8) ∧ (∀ q, q < 40 → σ' 10 q ≤ 31 ∧ σ' 11 q ≤ 999 ∧ σ' 12 q ≤ 99 ∧ σ' 13 q ≤ 99))
  (F5 : (∀ k, k < σ' 0 2 → σ' 23 k < σ' 0 0) ∧ (∀ j k, j < k → k < σ' 0 2 → σ' 23 j ≠ σ' 23 k)) : WR σ' c' cn a' nm := by
  refine ⟨⟨C1, C2, C3, C4, C5, C6, HC_s e0 er (fun k j hk => hcH (16 + k) j (by omega) (by omega)) (fun _ => rfl) w.1.2.2.2.2.2.2⟩, ⟨M1, M2, M3, M4, M5, M6, M7, HM_s e0 er w.2.2.1.2.2.2.2.2.2.2.2 (fun j hj => haH j (by omega)) (fun _ => rfl) w.2.1.2.2.2.2.2.2.2⟩, ⟨F1, F2, F3, F4.1, F4.2.1, F4.2.2, F5.1, F5.2, HW_s e0 er w.2.2.1.2.2.2.2.2.2.2.2⟩, ?_⟩
  rw [e0 7 (by omega) (by omega)]
  exact RU_cg (fun k j hk => hcH (28 + k) j (by omega) (by omega)) (fun j hj => haH j (by omega)) w.2.2.2
theorem WR_claim (w : WR σ c cn a nm) {t : Nat} (ht : t < σ 0 0) (hK : σ 0 2 < 12) (h0 : σ 1 (14 * t + 11) = 0)
  (s0 : ∀ k, k ≠ 2 → σ' 0 k = σ 0 k) (s2 : σ' 0 2 = σ 0 2 + 1) (s1 : ∀ j, j ≠ 14 * t + 11 → σ' 1 j = σ 1 j) (s11 : σ' 1 (14 * t + 11) = 1) (s23 : ∀ k, k ≠ σ 0 2 → σ' 23 k = σ 23 k) (s23' : σ' 23 (σ 0 2) = t) (sr : ∀ r, r ≠ 0 → r ≠ 1 → r ≠ 23 → σ' r = σ r)
  (hc : ∀ k j, k < 32 → (k = 2 → j ≠ 14 * t + 11) → (k = 1 → j ≠ 7) → c' k j = c k j) (hc1 : c' 2 (14 * t + 11) = 1) (hc2 : c' 1 7 = nI (σ 0 2 + 1)) (ha : ∀ j, j ≠ 140 + σ 0 2 → j ≠ 133 → a' j = a j) (ha1 : a' (140 + σ 0 2) = nI t) (ha2 : a' 133 = nI (σ 0 2 + 1)) : WR σ' c' cn a' nm := by
  obtain ⟨⟨⟨p1, p2, p3, p4, p5⟩, c2, c3, c4, c5, c6, -⟩, ⟨⟨m1, m2, m3, m4, m5⟩, b2, b3, b4, b5, b6, b7, -⟩, ⟨⟨f11, f12, f13, f14, f15⟩, f2, f3, f4, f5, f6, f7, f8, -⟩, -⟩ := id w
  have hst : ∀ z, stN σ' z (σ 0 1) = stN σ z (σ 0 1) := fun z => stN_cg _ (fun i _ => by rw [sr 2 (by decide) (by decide) (by decide), sr 3 (by decide) (by decide) (by decide), sr 4 (by decide) (by decide) (by decide)]; exact ⟨rfl, rfl, rfl⟩)
  refine WR_mk w (fun k _ _ => s0 k (by omega)) (fun r j _ _ => by rw [sr r (by omega) (by omega) (by omega)]) (fun k j _ h => hc k j h (by omega) (by omega)) (fun j hj => ha j (by omega) (by omega)) ?_ ?_ ?_ ?_ ?_ ?_ ?_ ?_ ?_ ?_ ?_ ?_ ?_ ?_ ?_ ?_ ?_ ?_
  · rw [s0 0 (by decide), s0 1 (by decide), s2, s0 3 (by decide), s0 4 (by decide), hc 1 5 (by decide) (by omega) (by omega), hc 1 6 (by decide) (by omega) (by omega), hc 0 4 (by decide) (by omega) (by omega), hc 7 8 (by decide) (by omega) (by omega)]
    exact ⟨p1, p2, hc2, p4, p5⟩
  · intro z j hz hj
    rw [s0 0 (by decide)] at hz
    by_cases e : 14 * z + j = 14 * t + 11
    · rw [e, hc1, s11]; rfl
    · rw [s1 _ e, hc 2 _ (by decide) (fun _ => e) (by omega)]
      exact c2 z j hz hj
  · intro n hn
    rw [s0 1 (by decide)] at hn
    rw [sr 2 (by decide) (by decide) (by decide), sr 3 (by decide) (by decide) (by decide), sr 4 (by decide) (by decide) (by decide), sr 5 (by decide) (by decide) (by decide), hc 3 _ (by decide) (by omega) (by omega), hc 4 _ (by decide) (by omega) (by omega), hc 5 _ (by decide) (by omega) (by omega), hc 6 _ (by decide) (by omega) (by omega)]
    exact c3 n hn
  · intro n hn
    rw [s0 4 (by decide)] at hn
    rw [sr 6 (by decide) (by decide) (by decide), sr 7 (by decide) (by decide) (by decide), sr 8 (by decide) (by decide) (by decide), hc 8 _ (by decide) (by omega) (by omega), hc 9 _ (by decide) (by omega) (by omega), hc 10 _ (by decide) (by omega) (by omega)]
    exact c4 n hn
  · intro n hn
    rw [sr 9 (by decide) (by decide) (by decide), hc 11 _ (by decide) (by omega) (by omega)]
    exact c5 n hn
  · intro n hn
    rw [sr 10 (by decide) (by decide) (by decide), sr 11 (by decide) (by decide) (by decide), sr 12 (by decide) (by decide) (by decide), sr 13 (by decide) (by decide) (by decide), hc 12 _ (by decide) (by omega) (by omega), hc 13 _ (by decide) (by omega) (by omega), hc 14 _ (by decide) (by omega) (by omega), hc 15 _ (by decide) (by omega) (by omega)]
    exact c6 n hn
  · rw [s0 0 (by decide), s0 1 (by decide), s2, s0 3 (by decide), s0 4 (by decide), ha 131 (by omega) (by omega), ha 132 (by omega) (by omega), ha 130 (by omega) (by omega), ha 134 (by omega) (by omega)]
    exact ⟨m1, m2, ha2, m4, m5⟩
  · intro z j hz hj
    rw [s0 0 (by decide)] at hz
    rw [s1 _ (by omega), ha _ (by omega) (by omega)]
    exact b2 z j hz hj
  · intro n hn
    rw [s0 1 (by decide)] at hn
    rw [sr 2 (by decide) (by decide) (by decide), sr 3 (by decide) (by decide) (by decide), sr 4 (by decide) (by decide) (by decide), sr 5 (by decide) (by decide) (by decide), ha _ (by omega) (by omega), ha _ (by omega) (by omega), ha _ (by omega) (by omega)]
    exact b3 n hn
  · intro n hn
    rw [s0 4 (by decide)] at hn
    rw [sr 6 (by decide) (by decide) (by decide), sr 7 (by decide) (by decide) (by decide), sr 8 (by decide) (by decide) (by decide), ha _ (by omega) (by omega), ha _ (by omega) (by omega), ha _ (by omega) (by omega)]
    exact b4 n hn
  · intro n hn
    rw [sr 9 (by decide) (by decide) (by decide), ha _ (by omega) (by omega)]
    exact b5 n hn
  · intro n hn
    rw [sr 10 (by decide) (by decide) (by decide), sr 11 (by decide) (by decide) (by decide), sr 12 (by decide) (by decide) (by decide), sr 13 (by decide) (by decide) (by decide), ha _ (by omega) (by omega), ha (2440 + 2 * n) (by omega) (by omega), ha (2441 + 2 * n) (by omega) (by omega)]
    exact b6 n hn
  · intro k hk
    rw [s2] at hk
    by_cases e : k = σ 0 2
    · rw [e, ha1, s23']
    · rw [s23 k e, ha _ (by omega) (by omega)]
      exact b7 k (by omega)
  · rw [s0 0 (by decide), s0 1 (by decide), s2, s0 3 (by decide), s0 4 (by decide)]
    exact ⟨f11, f12, by omega, f14, f15⟩
  · intro z hz
    rw [s0 0 (by decide)] at hz
    obtain ⟨x1, y1, y2, y3⟩ := f2 z hz
    rw [s0 1 (by decide), s0 7 (by decide), s0 3 (by decide), hst z, s1 (14 * z + 0) (by omega), s1 (14 * z + 1) (by omega), s1 (14 * z + 2) (by omega), s1 (14 * z + 3) (by omega), s1 (14 * z + 4) (by omega), s1 (14 * z + 5) (by omega), s1 (14 * z + 6) (by omega), s1 (14 * z + 7) (by omega), s1 (14 * z + 8) (by omega), s1 (14 * z + 9) (by omega), s1 (14 * z + 10) (by omega), s1 (14 * z + 12) (by omega), s1 (14 * z + 13) (by omega)]
    refine ⟨x1, ?_, y2, y3⟩
    by_cases e : z = t
    · subst e
      exact Or.inl ⟨s11, σ 0 2, by omega, s23'⟩
    · rw [s1 (14 * z + 11) (by omega)]
      rcases y1 with ⟨y, k, k1, k2⟩ | ⟨y, k⟩
      · exact Or.inl ⟨y, k, by omega, by rw [s23 k (by omega)]; exact k2⟩
      · refine Or.inr ⟨y, fun j hj => ?_⟩
        by_cases ej : j = σ 0 2
        · rw [ej, s23']
          exact fun z => e z.symm
        · rw [s23 j ej]
          exact k j (by omega)
  · intro n hn
    rw [s0 1 (by decide)] at hn
    rw [sr 2 (by decide) (by decide) (by decide), sr 3 (by decide) (by decide) (by decide), sr 4 (by decide) (by decide) (by decide), sr 5 (by decide) (by decide) (by decide), s0 0 (by decide), s0 3 (by decide), s1 _ (by omega)]
    exact f3 n hn
  · rw [s0 4 (by decide), s0 8 (by decide), sr 6 (by decide) (by decide) (by decide), sr 7 (by decide) (by decide) (by decide), sr 8 (by decide) (by decide) (by decide), sr 9 (by decide) (by decide) (by decide), sr 10 (by decide) (by decide) (by decide), sr 11 (by decide) (by decide) (by decide), sr 12 (by decide) (by decide) (by decide), sr 13 (by decide) (by decide) (by decide)]
    exact ⟨f4, f5, f6⟩
  · have nt : ∀ k, k < σ 0 2 → σ 23 k ≠ t := by
      rcases (f2 t ht).2.1 with ⟨y, -⟩ | ⟨-, y⟩
      · omega
      · exact y
    rw [s2, s0 0 (by decide)]
    refine ⟨fun k hk => ?_, fun j k hj hk => ?_⟩
    · by_cases e : k = σ 0 2
      · rw [e, s23']; exact ht
      · rw [s23 k e]; exact f7 k (by omega)
    · rw [s23 j (by omega)]
      by_cases e : k = σ 0 2
      · rw [e, s23']; exact nt j (by omega)
      · rw [s23 k e]; exact f8 j k hj (by omega)
end
