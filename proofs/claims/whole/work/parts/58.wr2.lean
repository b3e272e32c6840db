theorem WR_loaded {σ : sg_T} {c c' : Nat → Nat → Int32} {cn : Nat → Int64} {a a' : Nat → Int32} {nm : Nat → Int64} {t l : Nat} (w : WR σ c cn a nm) (ht0 : t < σ 0 0) (hl : l ≤ 99) (h1 : c' 2 (14 * t + 9) = nI l) (hc : ∀ k j, k < 32 → (k = 2 → j ≠ 14 * t + 9) → c' k j = c k j) (h3 : a' (160 + 12 * t + 9) = nI l) (ha : ∀ j, j ≠ 160 + 12 * t + 9 → a' j = a j) : WR (up2 σ 1 (14 * t + 9) l) c' cn a' nm := by
  obtain ⟨⟨⟨s1, s2, s3, s4, s5⟩, c2, c3, c4, c5, c6, c7⟩, ⟨⟨m1, m2, m3, m4, m5⟩, b2, b3, b4, b5, b6, b7, b8⟩, ⟨f1, f2, f3, f4, f5, f6, f7, f8, f9⟩, ru⟩ := w
  have E0 : ∀ k, 5 ≤ k → k < 13 → (up2 σ 1 (14 * t + 9) l) 0 k = σ 0 k := fun _ _ _ => rfl
  have ER : ∀ r j, 14 ≤ r → r < 23 → (up2 σ 1 (14 * t + 9) l) r j = σ r j := up2_r (by decide)
  refine ⟨⟨⟨(hc 1 5 (by decide) (by omega)).trans s1, (hc 1 6 (by decide) (by omega)).trans s2, (hc 1 7 (by decide) (by omega)).trans s3, (hc 0 4 (by decide) (by omega)).trans s4, (hc 7 8 (by decide) (by omega)).trans s5⟩, fun z j hz hj => ?_, fun n hn => ⟨(hc 3 _ (by decide) (by omega)).trans (c3 n hn).1, (hc 4 _ (by decide) (by omega)).trans (c3 n hn).2.1, (hc 5 _ (by decide) (by omega)).trans (c3 n hn).2.2.1, (hc 6 _ (by decide) (by omega)).trans (c3 n hn).2.2.2⟩, fun d hd => ⟨(hc 8 _ (by decide) (by omega)).trans (c4 d hd).1, (hc 9 _ (by decide) (by omega)).trans (c4 d hd).2.1, (hc 10 _ (by decide) (by omega)).trans (c4 d hd).2.2⟩, fun l hl => (hc 11 _ (by decide) (by omega)).trans (c5 l hl), fun q hq => ⟨(hc 12 _ (by decide) (by omega)).trans (c6 q hq).1, fun z => (hc 13 _ (by decide) (by omega)).trans ((c6 q hq).2.1 z), (hc 14 _ (by decide) (by omega)).trans (c6 q hq).2.2.1, (hc 15 _ (by decide) (by omega)).trans (c6 q hq).2.2.2⟩, HC_s E0 ER (fun k j hk => hc (16 + k) j (by omega) (by omega)) (fun _ => rfl) c7⟩, ⟨⟨(ha (131) (by have := f1.1; omega)).trans m1, (ha (132) (by have := f1.1; omega)).trans m2, (ha (133) (by have := f1.1; omega)).trans m3, (ha (130) (by have := f1.1; omega)).trans m4, (ha (134) (by have := f1.1; omega)).trans m5⟩, fun z j hz hj => ?_, fun n hn => ⟨(ha (640 + 3 * n) (by have := f1.2.1; have : n < σ 0 1 := hn; have := f1.1; omega)).trans (b3 n hn).1, (ha (641 + 3 * n) (by have := f1.2.1; have : n < σ 0 1 := hn; have := f1.1; omega)).trans (b3 n hn).2.1, (ha (642 + 3 * n) (by have := f1.2.1; have : n < σ 0 1 := hn; have := f1.1; omega)).trans (b3 n hn).2.2⟩, fun d hd => ⟨(ha (1400 + 3 * d) (by have := f1.2.2.2.2; have : d < σ 0 4 := hd; have := f1.1; omega)).trans (b4 d hd).1, (ha (1401 + 3 * d) (by have := f1.2.2.2.2; have : d < σ 0 4 := hd; have := f1.1; omega)).trans (b4 d hd).2.1, (ha (1402 + 3 * d) (by have := f1.2.2.2.2; have : d < σ 0 4 := hd; have := f1.1; omega)).trans (b4 d hd).2.2⟩, fun l hl => (ha (2240 + l) (by have := f1.1; omega)).trans (b5 l hl), fun q hq => ⟨(ha (2340 + q) (by have := f1.1; omega)).trans (b6 q hq).1, (ha (2440 + 2 * q) (by have := f1.1; omega)).trans (b6 q hq).2.1, (ha (2441 + 2 * q) (by have := f1.1; omega)).trans (b6 q hq).2.2⟩, fun k hk => (ha (140 + k) (by have := f1.2.2.1; have : k < σ 0 2 := hk; have := f1.1; omega)).trans (b7 k hk), HM_s E0 ER f9 (fun j hj => ha j (by have := f1.1; omega)) (fun _ => rfl) b8⟩, ⟨f1, fun z hz => ?_, fun n hn => ?_, f4, f5, f6, f7, f8, HW_s E0 ER f9⟩, RU_cg (fun k j hk => hc (28 + k) j (by omega) (by omega)) (fun j hj => ha j (by have := f1.1; omega)) ru⟩
  · by_cases e : 14 * z + j = 14 * t + 9
    · rw [e, h1, show up2 σ 1 (14 * t + 9) l 1 (14 * t + 9) = l by simp [up2]]
    · rw [show up2 σ 1 (14 * t + 9) l 1 (14 * z + j) = σ 1 (14 * z + j) by simp [up2, e]]
      exact (hc 2 _ (by decide) (by omega)).trans (c2 z j hz hj)
  · by_cases e : 14 * z + j = 14 * t + 9
    · have e1 : z = t := by omega
      have e2 : j = 9 := by omega
      subst e1 e2
      rw [h3, show up2 σ 1 (14 * z + 9) l 1 (14 * z + 9) = l by simp [up2]]
    · rw [show up2 σ 1 (14 * t + 9) l 1 (14 * z + j) = σ 1 (14 * z + j) by simp [up2, e]]
      exact (ha _ (by omega)).trans (b2 z j hz hj)
  · have e : ∀ j, j < 14 → j ≠ 9 → up2 σ 1 (14 * t + 9) l 1 (14 * z + j) = σ 1 (14 * z + j) := fun j q1 q2 => if_neg (by omega)
    obtain ⟨⟨x1, x2, x3, x4, x5, x6, x7, x8, x9, x10, x11, x12, x13⟩, y1, y2, y3⟩ := f2 z hz
    rw [e 0 (by omega) (by omega), e 1 (by omega) (by omega), e 2 (by omega) (by omega), e 3 (by omega) (by omega), e 4 (by omega) (by omega), e 5 (by omega) (by omega), e 6 (by omega) (by omega), e 7 (by omega) (by omega), e 8 (by omega) (by omega), e 10 (by omega) (by omega), e 11 (by omega) (by omega), e 12 (by omega) (by omega), e 13 (by omega) (by omega)]
    refine ⟨⟨x1, x2, x3, x4, x5, x6, x7, x8, x9, x10, x11, ?_, x13⟩, y1, y2.trans (congrArg Prod.fst (stN_cg (σ := σ) (σ' := up2 σ 1 (14 * t + 9) l) (σ 0 1) (fun i hi => ⟨rfl, rfl, rfl⟩)).symm), y3.trans (congrArg Prod.snd (stN_cg (σ := σ) (σ' := up2 σ 1 (14 * t + 9) l) (σ 0 1) (fun i hi => ⟨rfl, rfl, rfl⟩)).symm)⟩
    by_cases q : z = t
    · subst q
      rw [show up2 σ 1 (14 * z + 9) l 1 (14 * z + 9) = l by simp [up2]]
      exact hl
    · rw [show up2 σ 1 (14 * t + 9) l 1 (14 * z + 9) = σ 1 (14 * z + 9) from if_neg (by omega)]
      exact x12
  · obtain ⟨x1, x2, x3, x4, x5, x6⟩ := f3 n hn
    refine ⟨x1, x2, x3, ?_, x5, x6⟩
    rw [show up2 σ 1 (14 * t + 9) l 1 (14 * up2 σ 1 (14 * t + 9) l 2 n + 6) = σ 1 (14 * σ 2 n + 6) from if_neg (by show ¬ (1 = 1 ∧ 14 * σ 2 n + 6 = 14 * t + 9); omega)]
    exact x4
theorem WR_solvent {σ : sg_T} {c c' : Nat → Nat → Int32} {cn : Nat → Int64} {a a' : Nat → Int32} {nm : Nat → Int64} {x y z : Nat} (w : WR σ c cn a nm) (hB : σ 0 4 < 200) (hx : x ≤ 30000) (hy : y ≤ 30000) (hz : z ≤ 30000) (h1 : c' 8 (σ 0 4) = nI x) (h2 : c' 9 (σ 0 4) = nI y) (h3 : c' 10 (σ 0 4) = nI z) (h4 : c' 7 8 = nI (σ 0 4 + 1)) (hc : ∀ k j, k < 32 → (k = 8 ∨ k = 9 ∨ k = 10 → j ≠ σ 0 4) → (k = 7 → j ≠ 8) → c' k j = c k j) (k1 : a' (1400 + 3 * σ 0 4) = nI x) (k2 : a' (1401 + 3 * σ 0 4) = nI y) (k3 : a' (1402 + 3 * σ 0 4) = nI z) (h5 : a' 134 = nI (σ 0 4 + 1)) (ha : ∀ j, (j < 1400 + 3 * σ 0 4 ∨ 1402 + 3 * σ 0 4 < j) ∧ j ≠ 134 → a' j = a j) : WR (up2 (up2 (up2 (up2 σ 6 (σ 0 4) x) 7 (σ 0 4) y) 8 (σ 0 4) z) 0 4 (σ 0 4 + 1)) c' cn a' nm := by
  obtain ⟨⟨⟨s1, s2, s3, s4, s5⟩, c2, c3, c4, c5, c6, c7⟩, ⟨⟨m1, m2, m3, m4, m5⟩, b2, b3, b4, b5, b6, b7, b8⟩, ⟨f1, f2, f3, f4, f5, f6, f7, f8, f9⟩, ru⟩ := w
  have E0 : ∀ k, 5 ≤ k → k < 13 → (up2 (up2 (up2 (up2 σ 6 (σ 0 4) x) 7 (σ 0 4) y) 8 (σ 0 4) z) 0 4 (σ 0 4 + 1)) 0 k = σ 0 k := fun k h1 h2 => if_neg (by omega)
  have ER : ∀ r j, 14 ≤ r → r < 23 → (up2 (up2 (up2 (up2 σ 6 (σ 0 4) x) 7 (σ 0 4) y) 8 (σ 0 4) z) 0 4 (σ 0 4 + 1)) r j = σ r j := fun r j h1 h2 => (up2_r (by decide) r j h1 h2).trans ((up2_r (by decide) r j h1 h2).trans ((up2_r (by decide) r j h1 h2).trans (up2_r (by decide) r j h1 h2)))
  refine ⟨⟨⟨(hc 1 5 (by decide) (by omega) (by omega)).trans s1, (hc 1 6 (by decide) (by omega) (by omega)).trans s2, (hc 1 7 (by decide) (by omega) (by omega)).trans s3, (hc 0 4 (by decide) (by omega) (by omega)).trans s4, h4⟩, fun t j ht hj => (hc 2 _ (by decide) (by omega) (by omega)).trans (c2 t j ht hj), fun n hn => ⟨(hc 3 _ (by decide) (by omega) (by omega)).trans (c3 n hn).1, (hc 4 _ (by decide) (by omega) (by omega)).trans (c3 n hn).2.1, (hc 5 _ (by decide) (by omega) (by omega)).trans (c3 n hn).2.2.1, (hc 6 _ (by decide) (by omega) (by omega)).trans (c3 n hn).2.2.2⟩, fun d hd => ?_, fun l hl => (hc 11 _ (by decide) (by omega) (by omega)).trans (c5 l hl), fun q hq => ⟨(hc 12 _ (by decide) (by omega) (by omega)).trans (c6 q hq).1, fun z => (hc 13 _ (by decide) (by omega) (by omega)).trans ((c6 q hq).2.1 z), (hc 14 _ (by decide) (by omega) (by omega)).trans (c6 q hq).2.2.1, (hc 15 _ (by decide) (by omega) (by omega)).trans (c6 q hq).2.2.2⟩, HC_s E0 ER (fun k j hk => hc (16 + k) j (by omega) (by omega) (by omega)) (fun _ => rfl) c7⟩, ⟨⟨(ha 131 (by omega)).trans m1, (ha 132 (by omega)).trans m2, (ha 133 (by omega)).trans m3, (ha 130 (by omega)).trans m4, h5⟩, fun t j ht hj => (ha (160 + 12 * t + j) (by have := f1.1; have : t < σ 0 0 := ht; omega)).trans (b2 t j ht hj), fun n hn => ⟨(ha (640 + 3 * n) (by have := f1.2.1; have : n < σ 0 1 := hn; omega)).trans (b3 n hn).1, (ha (641 + 3 * n) (by have := f1.2.1; have : n < σ 0 1 := hn; omega)).trans (b3 n hn).2.1, (ha (642 + 3 * n) (by have := f1.2.1; have : n < σ 0 1 := hn; omega)).trans (b3 n hn).2.2⟩, fun d hd => ?_, fun l hl => (ha (2240 + l) (by omega)).trans (b5 l hl), fun q hq => ⟨(ha (2340 + q) (by omega)).trans (b6 q hq).1, (ha (2440 + 2 * q) (by omega)).trans (b6 q hq).2.1, (ha (2441 + 2 * q) (by omega)).trans (b6 q hq).2.2⟩, fun k hk => (ha (140 + k) (by have := f1.2.2.1; have : k < σ 0 2 := hk; omega)).trans (b7 k hk), HM_s E0 ER f9 (fun j hj => ha j (by omega)) (fun _ => rfl) b8⟩, ⟨⟨f1.1, f1.2.1, f1.2.2.1, f1.2.2.2.1, hB⟩, fun t ht => ⟨(f2 t ht).1, (f2 t ht).2.1, (f2 t ht).2.2.1.trans (congrArg Prod.fst (stN_cg (σ := σ) (σ' := up2 (up2 (up2 (up2 σ 6 (σ 0 4) x) 7 (σ 0 4) y) 8 (σ 0 4) z) 0 4 (σ 0 4 + 1)) (σ 0 1) (fun i hi => ⟨rfl, rfl, rfl⟩)).symm), (f2 t ht).2.2.2.trans (congrArg Prod.snd (stN_cg (σ := σ) (σ' := up2 (up2 (up2 (up2 σ 6 (σ 0 4) x) 7 (σ 0 4) y) 8 (σ 0 4) z) 0 4 (σ 0 4 + 1)) (σ 0 1) (fun i hi => ⟨rfl, rfl, rfl⟩)).symm)⟩, f3, fun d hd => ?_, f5, f6, f7, f8, HW_s E0 ER f9⟩, RU_cg (fun k j hk => hc (28 + k) j (by omega) (by omega) (by omega)) (fun j hj => ha j (by omega)) ru⟩
  · have hd : d < σ 0 4 + 1 := hd
    by_cases e : d = σ 0 4
    · rw [e, h1, h2, h3]
      simp [up2]
    · have q : d < σ 0 4 := by omega
      rw [show (up2 (up2 (up2 (up2 σ 6 (σ 0 4) x) 7 (σ 0 4) y) 8 (σ 0 4) z) 0 4 (σ 0 4 + 1)) 6 d = σ 6 d by simp [up2, e], show (up2 (up2 (up2 (up2 σ 6 (σ 0 4) x) 7 (σ 0 4) y) 8 (σ 0 4) z) 0 4 (σ 0 4 + 1)) 7 d = σ 7 d by simp [up2, e], show (up2 (up2 (up2 (up2 σ 6 (σ 0 4) x) 7 (σ 0 4) y) 8 (σ 0 4) z) 0 4 (σ 0 4 + 1)) 8 d = σ 8 d by simp [up2, e]]
      exact ⟨(hc 8 _ (by decide) (by omega) (by omega)).trans (c4 d q).1, (hc 9 _ (by decide) (by omega) (by omega)).trans (c4 d q).2.1, (hc 10 _ (by decide) (by omega) (by omega)).trans (c4 d q).2.2⟩
  · have hd : d < σ 0 4 + 1 := hd
    by_cases e : d = σ 0 4
    · rw [e, k1, k2, k3]
      simp [up2]
    · have q : d < σ 0 4 := by omega
      rw [show (up2 (up2 (up2 (up2 σ 6 (σ 0 4) x) 7 (σ 0 4) y) 8 (σ 0 4) z) 0 4 (σ 0 4 + 1)) 6 d = σ 6 d by simp [up2, e], show (up2 (up2 (up2 (up2 σ 6 (σ 0 4) x) 7 (σ 0 4) y) 8 (σ 0 4) z) 0 4 (σ 0 4 + 1)) 7 d = σ 7 d by simp [up2, e], show (up2 (up2 (up2 (up2 σ 6 (σ 0 4) x) 7 (σ 0 4) y) 8 (σ 0 4) z) 0 4 (σ 0 4 + 1)) 8 d = σ 8 d by simp [up2, e]]
      exact ⟨(ha (1400 + 3 * d) (by omega)).trans (b4 d q).1, (ha (1401 + 3 * d) (by omega)).trans (b4 d q).2.1, (ha (1402 + 3 * d) (by omega)).trans (b4 d q).2.2⟩
  · have hd : d < σ 0 4 + 1 := hd
    by_cases e : d = σ 0 4
    · rw [e]
      simp [up2]
      exact ⟨hx, hy, hz⟩
    · have q : d < σ 0 4 := by omega
      rw [show (up2 (up2 (up2 (up2 σ 6 (σ 0 4) x) 7 (σ 0 4) y) 8 (σ 0 4) z) 0 4 (σ 0 4 + 1)) 6 d = σ 6 d by simp [up2, e], show (up2 (up2 (up2 (up2 σ 6 (σ 0 4) x) 7 (σ 0 4) y) 8 (σ 0 4) z) 0 4 (σ 0 4 + 1)) 7 d = σ 7 d by simp [up2, e], show (up2 (up2 (up2 (up2 σ 6 (σ 0 4) x) 7 (σ 0 4) y) 8 (σ 0 4) z) 0 4 (σ 0 4 + 1)) 8 d = σ 8 d by simp [up2, e]]
      exact f4 d q
