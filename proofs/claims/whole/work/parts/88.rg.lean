theorem TG_rg {r r' : Nat → Nat → Int32} {a a' : Nat → Int32} (e1 : ∀ k j, 1 ≤ k → k < 4 → j < 40 → r' k j = r k j) (e2 : ∀ j, 2000 ≤ j → j < 2240 → a' j = a j) {n2 : Nat} : ∀ (f i j k : Nat), j ≤ 40 → TG f r a i j k n2 → TG f r' a' i j k n2
  | 0, i, j, k, _, h => h
  | f + 1, i, j, k, hj, h => by
    obtain ⟨h1, h2, h3⟩ := h
    have q0 : a' (2000 + 4 * k) = a (2000 + 4 * k) := e2 _ (by omega) (by omega)
    have q1 : a' (2001 + 4 * k) = a (2001 + 4 * k) := e2 _ (by omega) (by omega)
    have q2 : a' (2002 + 4 * k) = a (2002 + 4 * k) := e2 _ (by omega) (by omega)
    have q3 : a' (2003 + 4 * k) = a (2003 + 4 * k) := e2 _ (by omega) (by omega)
    refine ⟨h1, h2, ?_⟩
    rw [q0, q1, q2, q3, e1 1 i (by decide) (by decide) (by omega), e1 2 i (by decide) (by decide) (by omega), e1 3 i (by decide) (by decide) (by omega), e1 1 (j - 1) (by decide) (by decide) (by omega)]
    rcases h3 with h | h | h | h | h | ⟨k1, g1, g2, g3, g4, g5⟩ | ⟨k1, k2, m, g1, g2, g3, g4, g5, g6, g7, g8⟩ | ⟨k1, k2, m, g1, g2, g3, g4, g5, g6, g7, g8⟩
    · exact Or.inl h
    · exact Or.inr (Or.inl h)
    · exact Or.inr (Or.inr (Or.inl h))
    · exact Or.inr (Or.inr (Or.inr (Or.inl h)))
    · exact Or.inr (Or.inr (Or.inr (Or.inr (Or.inl h))))
    · exact Or.inr (Or.inr (Or.inr (Or.inr (Or.inr (Or.inl ⟨k1, g1, g2, g3, g4, TG_rg e1 e2 f _ _ _ (by omega) g5⟩)))))
    · have hm : m ≤ 40 := by
        cases f with
        | zero => exact absurd g8 (fun z => z)
        | succ f => have := g8.2.1; omega
      exact Or.inr (Or.inr (Or.inr (Or.inr (Or.inr (Or.inr (Or.inl ⟨k1, k2, m, g1, g2, g3, g4, g5, g6, TG_rg e1 e2 f _ _ _ hm g7, TG_rg e1 e2 f _ _ _ (by omega) g8⟩))))))
    · have hm : m ≤ 40 := by
        cases f with
        | zero => exact absurd g8 (fun z => z)
        | succ f => have := g8.2.1; omega
      exact Or.inr (Or.inr (Or.inr (Or.inr (Or.inr (Or.inr (Or.inr ⟨k1, k2, m, g1, g2, g3, g4, g5, g6, TG_rg e1 e2 f _ _ _ hm g7, TG_rg e1 e2 f _ _ _ (by omega) g8⟩))))))
theorem WR_rg {σ : sg_T} {c c' : Nat → Nat → Int32} {cn cn' : Nat → Int64} {a a' : Nat → Int32} {nm nm' : Nat → Int64} (w : WR σ c cn a nm) (e1 : ∀ k j, inR k j → c' k j = c k j) (e2 : ∀ j, j < 32 → cn' j = cn j) (e3 : ∀ j, j < 2560 → a' j = a j) (e4 : ∀ j, j < 24 → nm' j = nm j) : WR σ c' cn' a' nm' := by
  obtain ⟨⟨p1, c2, c3, c4, c5, c6, a1, a2, a3, a4, a5, a6⟩, ⟨m1, b2, b3, b4, b5, b6, b7, d1, d2, d3, d4, d5, d6⟩, wf, so, st, tp, h1, h2, h3, h4, h5⟩ := w
  obtain ⟨⟨f11, f12, f13, f14, f15⟩, -, -, -, -, -, -, -, ⟨n0, n1, n2, n3⟩, -⟩ := id wf
  have nn : ∀ s, s < 4 → σ 0 (5 + s) ≤ 8 ∧ (s = 0 → σ 0 (5 + s) ≤ 6) ∧ (s = 1 → σ 0 (5 + s) ≤ 6) ∧ (s = 3 → σ 0 (5 + s) ≤ 4) := fun s hs => by
    have : s = 0 ∨ s = 1 ∨ s = 2 ∨ s = 3 := by omega
    rcases this with rfl | rfl | rfl | rfl
    · exact ⟨by show σ 0 5 ≤ 8; omega, fun _ => n0, fun z => by omega, fun z => by omega⟩
    · exact ⟨by show σ 0 6 ≤ 8; omega, fun z => by omega, fun _ => n1, fun z => by omega⟩
    · exact ⟨n2, fun z => by omega, fun z => by omega, fun z => by omega⟩
    · exact ⟨by show σ 0 8 ≤ 8; omega, fun z => by omega, fun z => by omega, fun _ => n3⟩
  refine ⟨⟨?_, fun t j ht hj => ?_, fun n hn => ?_, fun d hd => ?_, fun l hl => ?_, fun q hq => ?_, fun s hs => ?_, fun i hi => ?_, fun i hi => ⟨?_, fun s hs => ?_⟩, fun i hi => ?_, fun i hi => ?_, fun s i hs hi => ?_⟩, ⟨?_, fun t j ht hj => ?_, fun n hn => ?_, fun d hd => ?_, fun l hl => ?_, fun q hq => ?_, fun k hk => ?_, fun s hs => ?_, fun i hi => ?_, fun i hi => ⟨?_, fun s hs => ?_⟩, fun i hi => ?_, fun i hi => ?_, fun s i hs hi => ?_⟩, wf, so, st, tp, ?_, ?_, h3, h4, ?_⟩
  · rw [e1 1 5 (by simp [inR, csA]), e1 1 6 (by simp [inR, csA]), e1 1 7 (by simp [inR, csA]), e1 0 4 (by simp [inR]), e1 7 8 (by simp [inR, csB])]; exact p1
  · have : 14 * t + j < 560 := by omega
    rw [e1 2 _ (by simp [inR, csA, this])]; exact c2 t j ht hj
  · have : n < 240 := by omega
    rw [e1 3 n (by simp [inR, csA, this]), e1 4 n (by simp [inR, csA, this]), e1 5 n (by simp [inR, csA, this]), e1 6 n (by simp [inR, csA, this])]; exact c3 n hn
  · have : d < 200 := by omega
    rw [e1 8 d (by simp [inR, csB, this]), e1 9 d (by simp [inR, csB, this]), e1 10 d (by simp [inR, csB, this])]; exact c4 d hd
  · rw [e1 11 l (by simp [inR, csB, hl])]; exact c5 l hl
  · rw [e1 12 q (by simp [inR, csB, hq]), e1 13 q (by simp [inR, csB, hq]), e1 14 q (by simp [inR, csB, hq]), e1 15 q (by simp [inR, csB, hq])]; exact c6 q hq
  · exact (e1 (16 + 2) s (by simp [inR, csC, hs])).trans (a1 s hs)
  · exact (e1 (16 + 11) i (by simp [inR, csC, hi])).trans (a2 i hi)
  · have : i < 6 := by omega
    exact (e1 (16 + 3) i (by simp [inR, csC, this])).trans (a3 i hi).1
  · have : 6 * i + s < 36 := by omega
    exact (e1 (16 + 4) _ (by simp [inR, csC, this])).trans ((a3 i hi).2 s hs)
  · have : i < 8 := by omega
    exact ⟨(e1 (16 + 5) i (by simp [inR, csC, this])).trans (a4 i hi).1, (e1 (16 + 6) i (by simp [inR, csC, this])).trans (a4 i hi).2.1, (e1 (16 + 7) i (by simp [inR, csC, this])).trans (a4 i hi).2.2.1, (e1 (16 + 8) i (by simp [inR, csC, this])).trans (a4 i hi).2.2.2⟩
  · have : i < 4 := by omega
    exact ⟨(e1 (16 + 9) i (by simp [inR, csC, this])).trans (a5 i hi).1, (e1 (16 + 10) i (by simp [inR, csC, this])).trans (a5 i hi).2⟩
  · have := nn s hs
    rw [e2 _ (by omega)]; exact a6 s i hs hi
  · rw [e3 131 (by omega), e3 132 (by omega), e3 133 (by omega), e3 130 (by omega), e3 134 (by omega)]; exact m1
  · rw [e3 _ (by omega)]; exact b2 t j ht hj
  · rw [e3 (640 + 3 * n) (by omega), e3 (641 + 3 * n) (by omega), e3 (642 + 3 * n) (by omega)]; exact b3 n hn
  · rw [e3 (1400 + 3 * d) (by omega), e3 (1401 + 3 * d) (by omega), e3 (1402 + 3 * d) (by omega)]; exact b4 d hd
  · rw [e3 _ (by omega)]; exact b5 l hl
  · rw [e3 (2340 + q) (by omega), e3 (2440 + 2 * q) (by omega), e3 (2441 + 2 * q) (by omega)]; exact b6 q hq
  · rw [e3 _ (by omega)]; exact b7 k hk
  · rw [e3 _ (by omega)]; exact d1 s hs
  · rw [e3 _ (by omega)]; exact d2 i hi
  · rw [e3 _ (by omega)]; exact (d3 i hi).1
  · rw [e3 _ (by omega)]; exact (d3 i hi).2 s hs
  · rw [e3 (60 + 4 * i) (by omega), e3 (61 + 4 * i) (by omega), e3 (62 + 4 * i) (by omega), e3 (63 + 4 * i) (by omega)]; exact d4 i hi
  · rw [e3 (110 + 2 * i) (by omega), e3 (111 + 2 * i) (by omega)]; exact d5 i hi
  · have q := nn s hs
    have hb : bsn s + i < 24 := by
      unfold bsn
      have : s = 0 ∨ s = 1 ∨ s = 2 ∨ s = 3 := by omega
      rcases this with rfl | rfl | rfl | rfl
      · have := q.2.1 rfl; simp; omega
      · have := q.2.2.1 rfl; simp; omega
      · have := q.1; simp; omega
      · have := q.2.2.2 rfl; simp; omega
    rw [e4 _ hb]; exact d6 s i hs hi
  · exact (e1 (28 + 0) 4 (by simp [inR, csE])).trans h1
  · exact (e1 (28 + 0) 3 (by simp [inR, csE])).trans h2
  · rw [e3 135 (by omega), e3 136 (by omega)]
    rcases h5 with h | ⟨g1, g2, g3, g4⟩
    · exact Or.inl h
    · refine Or.inr ⟨g1, g2, g3, TG_rg (fun k j q1 q2 q3 => ?_) (fun j q1 q2 => e3 j (by omega)) _ _ _ _ h4 g4⟩
      have : k = 1 ∨ k = 2 ∨ k = 3 := by omega
      rcases this with rfl | rfl | rfl
      · exact e1 (28 + 1) j (by simp [inR, csE, q3])
      · exact e1 (28 + 2) j (by simp [inR, csE, q3])
      · exact e1 (28 + 3) j (by simp [inR, csE, q3])
