theorem WR_contract {σ : sg_T} {c c' : Nat → Nat → Int32} {cn : Nat → Int64} {a a' : Nat → Int32} {nm : Nat → Int64} {q d p : Nat} (w : WR σ c cn a nm) (hq : q < 40) (hd : d ≤ 30) (hp : p ≤ 999) (h1 : c' 12 q = nI d) (h2 : c' 13 q = nI p) (hc : ∀ k j, k < 32 → (k = 12 ∨ k = 13 → j ≠ q) → c' k j = c k j) (h3 : a' (2340 + q) = nI (1000 * d + p)) (ha : ∀ j, j ≠ 2340 + q → a' j = a j) : WR (up2 (up2 σ 10 q (d + 1)) 11 q p) c' cn a' nm := by
  obtain ⟨⟨⟨s1, s2, s3, s4, s5⟩, c2, c3, c4, c5, c6, c7⟩, ⟨⟨m1, m2, m3, m4, m5⟩, b2, b3, b4, b5, b6, b7, b8⟩, ⟨f1, f2, f3, f4, f5, f6, f7, f8, f9⟩, ru⟩ := w
  have E0 : ∀ k, 5 ≤ k → k < 13 → (up2 (up2 σ 10 q (d + 1)) 11 q p) 0 k = σ 0 k := fun _ _ _ => rfl
  have ER : ∀ r j, 14 ≤ r → r < 23 → (up2 (up2 σ 10 q (d + 1)) 11 q p) r j = σ r j := fun r j h1 h2 => (up2_r (by decide) r j h1 h2).trans (up2_r (by decide) r j h1 h2)
  refine ⟨⟨⟨(hc 1 5 (by decide) (by omega)).trans s1, (hc 1 6 (by decide) (by omega)).trans s2, (hc 1 7 (by decide) (by omega)).trans s3, (hc 0 4 (by decide) (by omega)).trans s4, (hc 7 8 (by decide) (by omega)).trans s5⟩, fun t j ht hj => (hc 2 _ (by decide) (by omega)).trans (c2 t j ht hj), fun n hn => ⟨(hc 3 _ (by decide) (by omega)).trans (c3 n hn).1, (hc 4 _ (by decide) (by omega)).trans (c3 n hn).2.1, (hc 5 _ (by decide) (by omega)).trans (c3 n hn).2.2.1, (hc 6 _ (by decide) (by omega)).trans (c3 n hn).2.2.2⟩, fun d hd => ⟨(hc 8 _ (by decide) (by omega)).trans (c4 d hd).1, (hc 9 _ (by decide) (by omega)).trans (c4 d hd).2.1, (hc 10 _ (by decide) (by omega)).trans (c4 d hd).2.2⟩, fun l hl => (hc 11 _ (by decide) (by omega)).trans (c5 l hl), fun z hz => ?_, HC_s E0 ER (fun k j hk => hc (16 + k) j (by omega) (by omega)) (fun _ => rfl) c7⟩, ⟨⟨(ha (131) (by omega)).trans m1, (ha (132) (by omega)).trans m2, (ha (133) (by omega)).trans m3, (ha (130) (by omega)).trans m4, (ha (134) (by omega)).trans m5⟩, fun t j ht hj => (ha (160 + 12 * t + j) (by have := f1.1; have : t < σ 0 0 := ht; omega)).trans (b2 t j ht hj), fun n hn => ⟨(ha (640 + 3 * n) (by have := f1.2.1; have : n < σ 0 1 := hn; omega)).trans (b3 n hn).1, (ha (641 + 3 * n) (by have := f1.2.1; have : n < σ 0 1 := hn; omega)).trans (b3 n hn).2.1, (ha (642 + 3 * n) (by have := f1.2.1; have : n < σ 0 1 := hn; omega)).trans (b3 n hn).2.2⟩, fun d hd => ⟨(ha (1400 + 3 * d) (by have := f1.2.2.2.2; have : d < σ 0 4 := hd; omega)).trans (b4 d hd).1, (ha (1401 + 3 * d) (by have := f1.2.2.2.2; have : d < σ 0 4 := hd; omega)).trans (b4 d hd).2.1, (ha (1402 + 3 * d) (by have := f1.2.2.2.2; have : d < σ 0 4 := hd; omega)).trans (b4 d hd).2.2⟩, fun l hl => (ha (2240 + l) (by omega)).trans (b5 l hl), fun z hz => ?_, fun k hk => (ha (140 + k) (by have := f1.2.2.1; have : k < σ 0 2 := hk; omega)).trans (b7 k hk), HM_s E0 ER f9 (fun j hj => ha j (by omega)) (fun _ => rfl) b8⟩, ⟨f1, fun t ht => ⟨(f2 t ht).1, (f2 t ht).2.1, (f2 t ht).2.2.1.trans (congrArg Prod.fst (stN_cg (σ := σ) (σ' := up2 (up2 σ 10 q (d + 1)) 11 q p) (σ 0 1) (fun i hi => ⟨rfl, rfl, rfl⟩)).symm), (f2 t ht).2.2.2.trans (congrArg Prod.snd (stN_cg (σ := σ) (σ' := up2 (up2 σ 10 q (d + 1)) 11 q p) (σ 0 1) (fun i hi => ⟨rfl, rfl, rfl⟩)).symm)⟩, f3, f4, f5, fun z hz => ?_, f7, f8, HW_s E0 ER f9⟩, RU_cg (fun k j hk => hc (28 + k) j (by omega) (by omega)) (fun j hj => ha j (by omega)) ru⟩
  · by_cases e : z = q
    · subst e
      refine ⟨?_, fun _ => ?_, (hc 14 _ (by decide) (by omega)).trans (c6 z hz).2.2.1, (hc 15 _ (by decide) (by omega)).trans (c6 z hz).2.2.2⟩
      · rw [h1, show up2 (up2 σ 10 z (d + 1)) 11 z p 10 z = d + 1 by simp [up2], show (1 : Int32) = nI 1 from rfl, nI_sub (by omega)]
        rfl
      · rw [h2, show up2 (up2 σ 10 z (d + 1)) 11 z p 11 z = p by simp [up2]]
    · have e10 : up2 (up2 σ 10 q (d + 1)) 11 q p 10 z = σ 10 z := by simp [up2, e]
      have e11 : up2 (up2 σ 10 q (d + 1)) 11 q p 11 z = σ 11 z := by simp [up2, e]
      rw [e10, e11]
      exact ⟨(hc 12 _ (by decide) (by omega)).trans (c6 z hz).1, fun y => (hc 13 _ (by decide) (by omega)).trans ((c6 z hz).2.1 y), (hc 14 _ (by decide) (by omega)).trans (c6 z hz).2.2.1, (hc 15 _ (by decide) (by omega)).trans (c6 z hz).2.2.2⟩
  · by_cases e : z = q
    · subst e
      refine ⟨?_, (ha (2440 + 2 * z) (by omega)).trans (b6 z hz).2.1, (ha (2441 + 2 * z) (by omega)).trans (b6 z hz).2.2⟩
      have e10 : up2 (up2 σ 10 z (d + 1)) 11 z p 10 z = d + 1 := by simp [up2]
      have e11 : up2 (up2 σ 10 z (d + 1)) 11 z p 11 z = p := by simp [up2]
      rw [h3, e10, e11, if_neg (by omega)]
      rfl
    · have e10 : up2 (up2 σ 10 q (d + 1)) 11 q p 10 z = σ 10 z := by simp [up2, e]
      have e11 : up2 (up2 σ 10 q (d + 1)) 11 q p 11 z = σ 11 z := by simp [up2, e]
      rw [e10, e11]
      exact ⟨(ha (2340 + z) (by omega)).trans (b6 z hz).1, (ha (2440 + 2 * z) (by omega)).trans (b6 z hz).2.1, (ha (2441 + 2 * z) (by omega)).trans (b6 z hz).2.2⟩
  · by_cases e : z = q
    · subst e
      have e10 : up2 (up2 σ 10 z (d + 1)) 11 z p 10 z = d + 1 := by simp [up2]
      have e11 : up2 (up2 σ 10 z (d + 1)) 11 z p 11 z = p := by simp [up2]
      rw [e10, e11]
      exact ⟨by omega, hp, (f6 z hz).2.2.1, (f6 z hz).2.2.2⟩
    · have e10 : up2 (up2 σ 10 q (d + 1)) 11 q p 10 z = σ 10 z := by simp [up2, e]
      have e11 : up2 (up2 σ 10 q (d + 1)) 11 q p 11 z = σ 11 z := by simp [up2, e]
      rw [e10, e11]
      exact f6 z hz
theorem WR_place {σ : sg_T} {c c' : Nat → Nat → Int32} {cn : Nat → Int64} {a a' : Nat → Int32} {nm : Nat → Int64} {q x y : Nat} (w : WR σ c cn a nm) (hq : q < 40) (hx : x ≤ 99) (hy : y ≤ 99) (h1 : c' 14 q = nI x) (h2 : c' 15 q = nI y) (hc : ∀ k j, k < 32 → (k = 14 ∨ k = 15 → j ≠ q) → c' k j = c k j) (h3 : a' (2440 + 2 * q) = nI x) (h4 : a' (2441 + 2 * q) = nI y) (ha : ∀ j, j ≠ 2440 + 2 * q → j ≠ 2441 + 2 * q → a' j = a j) : WR (up2 (up2 σ 12 q x) 13 q y) c' cn a' nm := by
  obtain ⟨⟨⟨s1, s2, s3, s4, s5⟩, c2, c3, c4, c5, c6, c7⟩, ⟨⟨m1, m2, m3, m4, m5⟩, b2, b3, b4, b5, b6, b7, b8⟩, ⟨f1, f2, f3, f4, f5, f6, f7, f8, f9⟩, ru⟩ := w
  have E0 : ∀ k, 5 ≤ k → k < 13 → (up2 (up2 σ 12 q x) 13 q y) 0 k = σ 0 k := fun _ _ _ => rfl
  have ER : ∀ r j, 14 ≤ r → r < 23 → (up2 (up2 σ 12 q x) 13 q y) r j = σ r j := fun r j h1 h2 => (up2_r (by decide) r j h1 h2).trans (up2_r (by decide) r j h1 h2)
  refine ⟨⟨⟨(hc 1 5 (by decide) (by omega)).trans s1, (hc 1 6 (by decide) (by omega)).trans s2, (hc 1 7 (by decide) (by omega)).trans s3, (hc 0 4 (by decide) (by omega)).trans s4, (hc 7 8 (by decide) (by omega)).trans s5⟩, fun t j ht hj => (hc 2 _ (by decide) (by omega)).trans (c2 t j ht hj), fun n hn => ⟨(hc 3 _ (by decide) (by omega)).trans (c3 n hn).1, (hc 4 _ (by decide) (by omega)).trans (c3 n hn).2.1, (hc 5 _ (by decide) (by omega)).trans (c3 n hn).2.2.1, (hc 6 _ (by decide) (by omega)).trans (c3 n hn).2.2.2⟩, fun d hd => ⟨(hc 8 _ (by decide) (by omega)).trans (c4 d hd).1, (hc 9 _ (by decide) (by omega)).trans (c4 d hd).2.1, (hc 10 _ (by decide) (by omega)).trans (c4 d hd).2.2⟩, fun l hl => (hc 11 _ (by decide) (by omega)).trans (c5 l hl), fun z hz => ?_, HC_s E0 ER (fun k j hk => hc (16 + k) j (by omega) (by omega)) (fun _ => rfl) c7⟩, ⟨⟨(ha (131) (by omega) (by omega)).trans m1, (ha (132) (by omega) (by omega)).trans m2, (ha (133) (by omega) (by omega)).trans m3, (ha (130) (by omega) (by omega)).trans m4, (ha (134) (by omega) (by omega)).trans m5⟩, fun t j ht hj => (ha (160 + 12 * t + j) (by have := f1.1; have : t < σ 0 0 := ht; omega) (by first | omega | (have := f1.1; have : t < σ 0 0 := ht; omega) | (have := f1.2.1; have : n < σ 0 1 := hn; omega) | (have := f1.2.2.2.2; have : d < σ 0 4 := hd; omega) | (have := f1.2.2.1; have : k < σ 0 2 := hk; omega))).trans (b2 t j ht hj), fun n hn => ⟨(ha (640 + 3 * n) (by have := f1.2.1; have : n < σ 0 1 := hn; omega) (by first | omega | (have := f1.1; have : t < σ 0 0 := ht; omega) | (have := f1.2.1; have : n < σ 0 1 := hn; omega) | (have := f1.2.2.2.2; have : d < σ 0 4 := hd; omega) | (have := f1.2.2.1; have : k < σ 0 2 := hk; omega))).trans (b3 n hn).1, (ha (641 + 3 * n) (by have := f1.2.1; have : n < σ 0 1 := hn; omega) (by first | omega | (have := f1.1; have : t < σ 0 0 := ht; omega) | (have := f1.2.1; have : n < σ 0 1 := hn; omega) | (have := f1.2.2.2.2; have : d < σ 0 4 := hd; omega) | (have := f1.2.2.1; have : k < σ 0 2 := hk; omega))).trans (b3 n hn).2.1, (ha (642 + 3 * n) (by have := f1.2.1; have : n < σ 0 1 := hn; omega) (by first | omega | (have := f1.1; have : t < σ 0 0 := ht; omega) | (have := f1.2.1; have : n < σ 0 1 := hn; omega) | (have := f1.2.2.2.2; have : d < σ 0 4 := hd; omega) | (have := f1.2.2.1; have : k < σ 0 2 := hk; omega))).trans (b3 n hn).2.2⟩, fun d hd => ⟨(ha (1400 + 3 * d) (by have := f1.2.2.2.2; have : d < σ 0 4 := hd; omega) (by first | omega | (have := f1.1; have : t < σ 0 0 := ht; omega) | (have := f1.2.1; have : n < σ 0 1 := hn; omega) | (have := f1.2.2.2.2; have : d < σ 0 4 := hd; omega) | (have := f1.2.2.1; have : k < σ 0 2 := hk; omega))).trans (b4 d hd).1, (ha (1401 + 3 * d) (by have := f1.2.2.2.2; have : d < σ 0 4 := hd; omega) (by first | omega | (have := f1.1; have : t < σ 0 0 := ht; omega) | (have := f1.2.1; have : n < σ 0 1 := hn; omega) | (have := f1.2.2.2.2; have : d < σ 0 4 := hd; omega) | (have := f1.2.2.1; have : k < σ 0 2 := hk; omega))).trans (b4 d hd).2.1, (ha (1402 + 3 * d) (by have := f1.2.2.2.2; have : d < σ 0 4 := hd; omega) (by first | omega | (have := f1.1; have : t < σ 0 0 := ht; omega) | (have := f1.2.1; have : n < σ 0 1 := hn; omega) | (have := f1.2.2.2.2; have : d < σ 0 4 := hd; omega) | (have := f1.2.2.1; have : k < σ 0 2 := hk; omega))).trans (b4 d hd).2.2⟩, fun l hl => (ha (2240 + l) (by omega) (by omega)).trans (b5 l hl), fun z hz => ?_, fun k hk => (ha (140 + k) (by have := f1.2.2.1; have : k < σ 0 2 := hk; omega) (by first | omega | (have := f1.1; have : t < σ 0 0 := ht; omega) | (have := f1.2.1; have : n < σ 0 1 := hn; omega) | (have := f1.2.2.2.2; have : d < σ 0 4 := hd; omega) | (have := f1.2.2.1; have : k < σ 0 2 := hk; omega))).trans (b7 k hk), HM_s E0 ER f9 (fun j hj => ha j (by omega) (by omega)) (fun _ => rfl) b8⟩, ⟨f1, fun t ht => ⟨(f2 t ht).1, (f2 t ht).2.1, (f2 t ht).2.2.1.trans (congrArg Prod.fst (stN_cg (σ := σ) (σ' := up2 (up2 σ 12 q x) 13 q y) (σ 0 1) (fun i hi => ⟨rfl, rfl, rfl⟩)).symm), (f2 t ht).2.2.2.trans (congrArg Prod.snd (stN_cg (σ := σ) (σ' := up2 (up2 σ 12 q x) 13 q y) (σ 0 1) (fun i hi => ⟨rfl, rfl, rfl⟩)).symm)⟩, f3, f4, f5, fun z hz => ?_, f7, f8, HW_s E0 ER f9⟩, RU_cg (fun k j hk => hc (28 + k) j (by omega) (by omega)) (fun j hj => ha j (by omega) (by omega)) ru⟩
  · by_cases e : z = q
    · subst e
      refine ⟨(hc 12 _ (by decide) (by omega)).trans (c6 z hz).1, fun y => (hc 13 _ (by decide) (by omega)).trans ((c6 z hz).2.1 y), ?_, ?_⟩
      · rw [h1]; simp [up2]
      · rw [h2]; simp [up2]
    · have e12 : up2 (up2 σ 12 q x) 13 q y 12 z = σ 12 z := by simp [up2, e]
      have e13 : up2 (up2 σ 12 q x) 13 q y 13 z = σ 13 z := by simp [up2, e]
      rw [e12, e13]
      exact ⟨(hc 12 _ (by decide) (by omega)).trans (c6 z hz).1, fun y => (hc 13 _ (by decide) (by omega)).trans ((c6 z hz).2.1 y), (hc 14 _ (by decide) (by omega)).trans (c6 z hz).2.2.1, (hc 15 _ (by decide) (by omega)).trans (c6 z hz).2.2.2⟩
  · by_cases e : z = q
    · subst e
      refine ⟨(ha (2340 + z) (by omega) (by omega)).trans (b6 z hz).1, ?_, ?_⟩
      · rw [h3]; simp [up2]
      · rw [h4]; simp [up2]
    · have e12 : up2 (up2 σ 12 q x) 13 q y 12 z = σ 12 z := by simp [up2, e]
      have e13 : up2 (up2 σ 12 q x) 13 q y 13 z = σ 13 z := by simp [up2, e]
      rw [e12, e13]
      exact ⟨(ha (2340 + z) (by omega) (by omega)).trans (b6 z hz).1, (ha (2440 + 2 * z) (by omega) (by omega)).trans (b6 z hz).2.1, (ha (2441 + 2 * z) (by omega) (by omega)).trans (b6 z hz).2.2⟩
  · by_cases e : z = q
    · subst e
      have e12 : up2 (up2 σ 12 z x) 13 z y 12 z = x := by simp [up2]
      have e13 : up2 (up2 σ 12 z x) 13 z y 13 z = y := by simp [up2]
      rw [e12, e13]
      exact ⟨(f6 z hz).1, (f6 z hz).2.1, hx, hy⟩
    · have e12 : up2 (up2 σ 12 q x) 13 q y 12 z = σ 12 z := by simp [up2, e]
      have e13 : up2 (up2 σ 12 q x) 13 q y 13 z = σ 13 z := by simp [up2, e]
      rw [e12, e13]
      exact f6 z hz
theorem WR_drum {σ : sg_T} {c c' : Nat → Nat → Int32} {cn : Nat → Int64} {a a' : Nat → Int32} {nm : Nat → Int64} {l d : Nat} (w : WR σ c cn a nm) (hl : l < 100) (hd : d < σ 0 8) (h1 : c' 11 l = nI d) (hc : ∀ k j, k < 32 → (k = 11 → j ≠ l) → c' k j = c k j) (h3 : a' (2240 + l) = nI d) (ha : ∀ j, j ≠ 2240 + l → a' j = a j) : WR (up2 σ 9 l (d + 1)) c' cn a' nm := by
  obtain ⟨⟨⟨s1, s2, s3, s4, s5⟩, c2, c3, c4, c5, c6, c7⟩, ⟨⟨m1, m2, m3, m4, m5⟩, b2, b3, b4, b5, b6, b7, b8⟩, ⟨f1, f2, f3, f4, f5, f6, f7, f8, f9⟩, ru⟩ := w
  have E0 : ∀ k, 5 ≤ k → k < 13 → (up2 σ 9 l (d + 1)) 0 k = σ 0 k := fun _ _ _ => rfl
  have ER : ∀ r j, 14 ≤ r → r < 23 → (up2 σ 9 l (d + 1)) r j = σ r j := up2_r (by decide)
  refine ⟨⟨⟨(hc 1 5 (by decide) (by omega)).trans s1, (hc 1 6 (by decide) (by omega)).trans s2, (hc 1 7 (by decide) (by omega)).trans s3, (hc 0 4 (by decide) (by omega)).trans s4, (hc 7 8 (by decide) (by omega)).trans s5⟩, fun t j ht hj => (hc 2 _ (by decide) (by omega)).trans (c2 t j ht hj), fun n hn => ⟨(hc 3 _ (by decide) (by omega)).trans (c3 n hn).1, (hc 4 _ (by decide) (by omega)).trans (c3 n hn).2.1, (hc 5 _ (by decide) (by omega)).trans (c3 n hn).2.2.1, (hc 6 _ (by decide) (by omega)).trans (c3 n hn).2.2.2⟩, fun d hd => ⟨(hc 8 _ (by decide) (by omega)).trans (c4 d hd).1, (hc 9 _ (by decide) (by omega)).trans (c4 d hd).2.1, (hc 10 _ (by decide) (by omega)).trans (c4 d hd).2.2⟩, fun z hz => ?_, fun q hq => ⟨(hc 12 _ (by decide) (by omega)).trans (c6 q hq).1, fun z => (hc 13 _ (by decide) (by omega)).trans ((c6 q hq).2.1 z), (hc 14 _ (by decide) (by omega)).trans (c6 q hq).2.2.1, (hc 15 _ (by decide) (by omega)).trans (c6 q hq).2.2.2⟩, HC_s E0 ER (fun k j hk => hc (16 + k) j (by omega) (by omega)) (fun _ => rfl) c7⟩, ⟨⟨(ha (131) (by omega)).trans m1, (ha (132) (by omega)).trans m2, (ha (133) (by omega)).trans m3, (ha (130) (by omega)).trans m4, (ha (134) (by omega)).trans m5⟩, fun t j ht hj => (ha (160 + 12 * t + j) (by have := f1.1; have : t < σ 0 0 := ht; omega)).trans (b2 t j ht hj), fun n hn => ⟨(ha (640 + 3 * n) (by have := f1.2.1; have : n < σ 0 1 := hn; omega)).trans (b3 n hn).1, (ha (641 + 3 * n) (by have := f1.2.1; have : n < σ 0 1 := hn; omega)).trans (b3 n hn).2.1, (ha (642 + 3 * n) (by have := f1.2.1; have : n < σ 0 1 := hn; omega)).trans (b3 n hn).2.2⟩, fun d hd => ⟨(ha (1400 + 3 * d) (by have := f1.2.2.2.2; have : d < σ 0 4 := hd; omega)).trans (b4 d hd).1, (ha (1401 + 3 * d) (by have := f1.2.2.2.2; have : d < σ 0 4 := hd; omega)).trans (b4 d hd).2.1, (ha (1402 + 3 * d) (by have := f1.2.2.2.2; have : d < σ 0 4 := hd; omega)).trans (b4 d hd).2.2⟩, fun z hz => ?_, fun q hq => ⟨(ha (2340 + q) (by omega)).trans (b6 q hq).1, (ha (2440 + 2 * q) (by omega)).trans (b6 q hq).2.1, (ha (2441 + 2 * q) (by omega)).trans (b6 q hq).2.2⟩, fun k hk => (ha (140 + k) (by have := f1.2.2.1; have : k < σ 0 2 := hk; omega)).trans (b7 k hk), HM_s E0 ER f9 (fun j hj => ha j (by omega)) (fun _ => rfl) b8⟩, ⟨f1, fun t ht => ⟨(f2 t ht).1, (f2 t ht).2.1, (f2 t ht).2.2.1.trans (congrArg Prod.fst (stN_cg (σ := σ) (σ' := up2 σ 9 l (d + 1)) (σ 0 1) (fun i hi => ⟨rfl, rfl, rfl⟩)).symm), (f2 t ht).2.2.2.trans (congrArg Prod.snd (stN_cg (σ := σ) (σ' := up2 σ 9 l (d + 1)) (σ 0 1) (fun i hi => ⟨rfl, rfl, rfl⟩)).symm)⟩, f3, f4, fun z hz => ?_, f6, f7, f8, HW_s E0 ER f9⟩, RU_cg (fun k j hk => hc (28 + k) j (by omega) (by omega)) (fun j hj => ha j (by omega)) ru⟩
  · by_cases e : z = l
    · subst e
      rw [h1, show up2 σ 9 z (d + 1) 9 z = d + 1 by simp [up2], show (1 : Int32) = nI 1 from rfl, nI_sub (by omega)]
      rfl
    · rw [show up2 σ 9 l (d + 1) 9 z = σ 9 z by simp [up2, e]]
      exact (hc 11 _ (by decide) (by omega)).trans (c5 z hz)
  · by_cases e : z = l
    · subst e
      rw [h3, show up2 σ 9 z (d + 1) 9 z = d + 1 by simp [up2], show (1 : Int32) = nI 1 from rfl, nI_sub (by omega)]
      rfl
    · rw [show up2 σ 9 l (d + 1) 9 z = σ 9 z by simp [up2, e]]
      exact (ha (2240 + z) (by omega)).trans (b5 z hz)
  · show up2 σ 9 l (d + 1) 9 z ≤ σ 0 8
    by_cases e : z = l
    · subst e
      rw [show up2 σ 9 z (d + 1) 9 z = d + 1 by simp [up2]]
      omega
    · rw [show up2 σ 9 l (d + 1) 9 z = σ 9 z by simp [up2, e]]
      exact f5 z hz
