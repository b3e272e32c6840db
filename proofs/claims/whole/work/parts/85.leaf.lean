section
variable {σ : sg_T} {μ ν : fm_T}
theorem wl_lp (w : WR σ (blk μ 8) (fL μ 25) (fI ν 2) (fL ν 5)) {t : Nat} (ht : t < σ 0 0) (y : Int32) : ∀ (c i n n' : Nat) (x : Int32), i + c = σ 0 0 → c < n → c < n' → lX8_withLoad_h4 n μ (nI (σ 1 (14 * t + 9))) x (nI i) = lX12_valueOf_h112 n' ν y (nI t) x (nI i) ∧ qX8_withLoad_h4 n μ (nI (σ 1 (14 * t + 9))) x (nI i) ∧ qX12_valueOf_h112 n' ν y (nI t) x (nI i) := by
  obtain ⟨cN, mN, hN⟩ := wr_S w
  intro c
  induction c with
  | zero =>
    intro i n n' x h1 h2 h3
    obtain ⟨n, rfl⟩ : ∃ m, n = m + 1 := ⟨n - 1, by omega⟩
    obtain ⟨n', rfl⟩ : ∃ m, n' = m + 1 := ⟨n' - 1, by omega⟩
    have e : nI (σ 0 0) ≤ nI i := (nI_leI (by omega) (by omega)).mpr (by omega)
    simp only [lX8_withLoad_h4, lX12_valueOf_h112, qX8_withLoad_h4, qX12_valueOf_h112, gX12_tickets, cN, mN, if_pos e]
    exact ⟨trivial, fun z => absurd e z, fun z => absurd e z⟩
  | succ c ih =>
    intro i n n' x h1 h2 h3
    obtain ⟨n, rfl⟩ : ∃ m, n = m + 1 := ⟨n - 1, by omega⟩
    obtain ⟨n', rfl⟩ : ∃ m, n' = m + 1 := ⟨n' - 1, by omega⟩
    have hi : i < σ 0 0 := by omega
    have e : ¬ nI (σ 0 0) ≤ nI i := fun z => by have := (nI_leI (by omega) (by omega)).mp z; omega
    have o9 : gX8_of μ (nI i) 9 = nI (σ 1 (14 * i + 9)) ∧ pX8_of μ (nI i) 9 := of_c w (j := 9) hi (by omega)
    have m9 : gX12_of ν (nI i) 9 = nI (σ 1 (14 * i + 9)) ∧ pX12_of ν (nI i) 9 := of_m w (j := 9) hi (by omega)
    have t9 : gX12_of ν (nI t) 9 = nI (σ 1 (14 * t + 9)) ∧ pX12_of ν (nI t) 9 := of_m w (j := 9) ht (by omega)
    have bt : σ 1 (14 * t + 9) ≤ 99 := (w.2.2.1.2.1 t ht).1.2.2.2.2.2.2.2.2.2.2.2.1
    have k0 : nI (σ 1 (14 * t + 9)) = 0 ↔ σ 1 (14 * t + 9) = 0 := nI_eq (b := 0) (by omega) (by omega)
    have k1 : nI (σ 1 (14 * t + 9)) ≤ 0 ↔ σ 1 (14 * t + 9) = 0 := (nI_leI (b := 0) (by omega) (by omega)).trans (by omega)
    obtain ⟨i1, i2, i3⟩ := ih (i + 1) n n' x (by omega) (by omega) (by omega)
    obtain ⟨j1, j2, j3⟩ := ih (i + 1) n n' (x + 1) (by omega) (by omega) (by omega)
    simp only [lX8_withLoad_h4, lX12_valueOf_h112, qX8_withLoad_h4, qX12_valueOf_h112, gX12_tickets, cN, mN, if_neg e, nI_1, o9.1, m9.1, t9.1, k0, k1, Int32.add_zero, i1, j1]
    exact ⟨trivial, fun _ _ => ⟨o9.2, fun _ => i2, fun _ => j2⟩, fun _ => ⟨t9.2, fun _ => ⟨m9.2, t9.2, fun _ => i3, fun _ => j3⟩⟩⟩
theorem ms_ok (w : WR σ (blk μ 8) (fL μ 25) (fI ν 2) (fL ν 5)) {t v : Nat} (ht : t < σ 0 0) (hv : v < 8) : gX5_measure μ (nI (17 + v)) (nI t) (nI (σ 0 3)) = gX12_valueOf ν (nI v) (nI t) ∧ pX5_measure μ (nI (17 + v)) (nI t) (nI (σ 0 3)) ∧ pX12_valueOf ν (nI v) (nI t) := by
  have hS := (wr_S w).2.2
  have mT := (wr_T w).2.1
  have C : ∀ j, j < 11 → (gX8_of μ (nI t) (nI j) = gX12_of ν (nI t) (nI j) ∧ pX8_of μ (nI t) (nI j) ∧ pX12_of ν (nI t) (nI j)) := fun j hj => ⟨(of_c w ht (by omega)).1.trans (of_m w ht hj).1.symm, (of_c w ht (by omega)).2, (of_m w ht hj).2⟩
  have c6 : (gX8_of μ (nI t) 6 = gX12_of ν (nI t) 6 ∧ pX8_of μ (nI t) 6 ∧ pX12_of ν (nI t) 6) := C 6 (by omega)
  have c7 : (gX8_of μ (nI t) 7 = gX12_of ν (nI t) 7 ∧ pX8_of μ (nI t) 7 ∧ pX12_of ν (nI t) 7) := C 7 (by omega)
  have c8 : (gX8_of μ (nI t) 8 = gX12_of ν (nI t) 8 ∧ pX8_of μ (nI t) 8 ∧ pX12_of ν (nI t) 8) := C 8 (by omega)
  have c2 : (gX8_of μ (nI t) 2 = gX12_of ν (nI t) 2 ∧ pX8_of μ (nI t) 2 ∧ pX12_of ν (nI t) 2) := C 2 (by omega)
  have c3 : (gX8_of μ (nI t) 3 = gX12_of ν (nI t) 3 ∧ pX8_of μ (nI t) 3 ∧ pX12_of ν (nI t) 3) := C 3 (by omega)
  have c5 : (gX8_of μ (nI t) 5 = gX12_of ν (nI t) 5 ∧ pX8_of μ (nI t) 5 ∧ pX12_of ν (nI t) 5) := C 5 (by omega)
  have c9 : (gX8_of μ (nI t) 9 = gX12_of ν (nI t) 9 ∧ pX8_of μ (nI t) 9 ∧ pX12_of ν (nI t) 9) := C 9 (by omega)
  have o9 : gX8_of μ (nI t) 9 = nI (σ 1 (14 * t + 9)) := (of_c w (j := 9) ht (by omega)).1
  obtain ⟨l1, l2, l3⟩ := wl_lp w ht (nI v) (σ 0 0) 0 fF fF 0 (by omega) (fF_gt (by omega)) (fF_gt (by omega))
  have l1 : gX8_withLoad μ (gX8_of μ (nI t) 9) = lX12_valueOf_h112 fF ν (nI v) (nI t) 0 0 := by rw [o9]; exact l1
  have l2 : pX8_withLoad μ (gX8_of μ (nI t) 9) := by rw [o9]; exact l2
  refine ⟨?_, ⟨fun _ => c6.2.1, fun _ => c7.2.1, fun _ => c8.2.1, fun _ => c2.2.1, fun _ => c3.2.1, fun _ => c5.2.1, fun _ => c9.2.1, fun _ => ⟨c9.2.1, l2⟩⟩, ⟨fun _ => c6.2.2, fun _ => c7.2.2, fun _ => c8.2.2, fun _ => c2.2.2, fun _ => c3.2.2, fun _ => c5.2.2, fun _ => c9.2.2, fun _ => l3⟩⟩
  unfold gX5_measure gX12_valueOf gX12_today
  rw [mT, l1, c6.1, c7.1, c8.1, c2.1, c3.1, c5.1, c9.1, ti_nI (by omega), ti_nI (by omega)]
  have : v = 0 ∨ v = 1 ∨ v = 2 ∨ v = 3 ∨ v = 4 ∨ v = 5 ∨ v = 6 ∨ v = 7 := by omega
  rcases this with rfl | rfl | rfl | rfl | rfl | rfl | rfl | rfl <;> rfl
theorem nd_e {k : Nat} : (2000 : Int32) + (4 : Int32) * nI k = nI (2000 + 4 * k) ∧ nI (2000 + 4 * k) + 1 = nI (2001 + 4 * k) ∧ nI (2000 + 4 * k) + 2 = nI (2002 + 4 * k) ∧ nI (2000 + 4 * k) + 3 = nI (2003 + 4 * k) := by
  refine ⟨by simp only [li_n, nI_mul, nI_add], ?_, ?_, ?_⟩
  · rw [show (1 : Int32) = nI 1 from rfl, nI_add]; congr 1; omega
  · rw [show (2 : Int32) = nI 2 from rfl, nI_add]; congr 1; omega
  · rw [show (3 : Int32) = nI 3 from rfl, nI_add]; congr 1; omega
theorem b01 {P : Prop} [Decidable P] : ∃ b : Nat, b ≤ 1 ∧ (if P then (1 : Int32) else 0) = nI b ∧ (if P then (1 : Int32) else 0) = nI b := by
  by_cases h : P
  · exact ⟨1, by omega, by rw [if_pos h]; rfl, by rw [if_pos h]; rfl⟩
  · exact ⟨0, by omega, by rw [if_neg h]; rfl, by rw [if_neg h]; rfl⟩
theorem b10 {P : Prop} [Decidable P] : ∃ b : Nat, b ≤ 1 ∧ (if P then (0 : Int32) else 1) = nI b ∧ (if P then (0 : Int32) else 1) = nI b := by
  by_cases h : P
  · exact ⟨0, by omega, by rw [if_pos h]; rfl, by rw [if_pos h]; rfl⟩
  · exact ⟨1, by omega, by rw [if_neg h]; rfl, by rw [if_neg h]; rfl⟩
def lfR (μ ν : fm_T) (i k : Nat) : Prop :=
  (∃ w v q : Nat, fI μ 37 i = nI (17 + w) ∧ w < 8 ∧ fI μ 38 i = nI q ∧ (q = 60 ∨ q = 61 ∨ q = 62) ∧ fI μ 39 i = nI v ∧ v ≤ 999 ∧ fI ν 2 (2000 + 4 * k) = 4 ∧ fI ν 2 (2001 + 4 * k) = nI w ∧ fI ν 2 (2002 + 4 * k) = nI v ∧ fI ν 2 (2003 + 4 * k) = nI q) ∨
  (∃ v : Nat, fI μ 37 i = 13 ∧ fI μ 39 i = nI v ∧ v < 8 ∧ fI ν 2 (2000 + 4 * k) = 5 ∧ fI ν 2 (2001 + 4 * k) = nI v) ∨
  (∃ v : Nat, fI μ 37 i = 14 ∧ fI μ 39 i = nI v ∧ v ≤ 5 ∧ fI ν 2 (2000 + 4 * k) = 6 ∧ fI ν 2 (2001 + 4 * k) = nI v) ∨
  (fI μ 37 i = 15 ∧ fI ν 2 (2000 + 4 * k) = 7) ∨ (fI μ 37 i = 16 ∧ fI ν 2 (2000 + 4 * k) = 8)
theorem lf_ok (w : WR σ (blk μ 8) (fL μ 25) (fI ν 2) (fL ν 5)) {t i k f d : Nat} (ht : t < σ 0 0) (hi : i < 40) (hk : k < 60) (h : lfR μ ν i k) : ((fI μ 37 i).toInt < 10 ∨ 12 < (fI μ 37 i).toInt) ∧ ∃ b : Nat, b ≤ 1 ∧ gX5_isTrue μ (nI i) (nI t) (nI (σ 0 3)) = nI b ∧ guX12_isSo (f + 1) d ν (nI k) (nI t) = nI b ∧ pX5_isTrue μ (nI i) (nI t) (nI (σ 0 3)) ∧ puX12_isSo (f + 1) d ν (nI k) (nI t) := by
  have hS := (wr_S w).2.2
  obtain ⟨e1, e2, e3, e4⟩ := nd_e (k := k)
  have vi : vp_in (nI i) 40 := vp_in_nI hi (by decide)
  have v0 : vp_in (nI (2000 + 4 * k)) 2560 := vp_in_nI (by omega) (by decide)
  have v1 : vp_in (nI (2001 + 4 * k)) 2560 := vp_in_nI (by omega) (by decide)
  have v2 : vp_in (nI (2002 + 4 * k)) 2560 := vp_in_nI (by omega) (by decide)
  have v3 : vp_in (nI (2003 + 4 * k)) 2560 := vp_in_nI (by omega) (by decide)
  have o0 : gX8_of μ (nI t) 0 = nI (σ 1 (14 * t + 0)) ∧ pX8_of μ (nI t) 0 := of_c w (j := 0) ht (by omega)
  have o12 : gX8_of μ (nI t) 12 = nI (σ 1 (14 * t + 12)) ∧ pX8_of μ (nI t) 12 := of_c w (j := 12) ht (by omega)
  have o10 : gX8_of μ (nI t) 10 = nI (σ 1 (14 * t + 10)) ∧ pX8_of μ (nI t) 10 := of_c w (j := 10) ht (by omega)
  have o11 : gX8_of μ (nI t) 11 = nI (σ 1 (14 * t + 11)) ∧ pX8_of μ (nI t) 11 := of_c w (j := 11) ht (by omega)
  have m0 : gX12_of ν (nI t) 0 = nI (σ 1 (14 * t + 0)) ∧ pX12_of ν (nI t) 0 := of_m w (j := 0) ht (by omega)
  have m10 : gX12_of ν (nI t) 10 = nI (σ 1 (14 * t + 10)) ∧ pX12_of ν (nI t) 10 := of_m w (j := 10) ht (by omega)
  have b10' : σ 1 (14 * t + 10) ≤ 1 := (w.2.2.1.2.1 t ht).1.2.2.2.2.2.2.2.2.2.2.2.2
  obtain ⟨s1, s2, s3⟩ := st_now w ht
  obtain ⟨d1, d2, d3⟩ := cm_ok w ht
  simp only [guX12_isSo, puX12_isSo]
  unfold gX5_isTrue pX5_isTrue gX12_isSo pX12_isSo
  rw [nI_clamp (by omega), e1, e2, e3, e4, nI_clamp (by omega), nI_clamp (by omega), nI_clamp (by omega), nI_clamp (by omega), o0.1, o12.1, o10.1, o11.1, m0.1, m10.1, s1, d1]
  rcases h with ⟨u, v, q, h1, h2, h3, h4, h5, h6, h7, h8, h9, h10⟩ | ⟨v, h1, h2, h3, h4, h5⟩ | ⟨v, h1, h2, h3, h4, h5⟩ | ⟨h1, h4⟩ | ⟨h1, h4⟩
  · obtain ⟨z1, z2, z3⟩ := ms_ok w ht h2
    rw [h1, h3, h5, h7, h8, h9, h10, z1, ti_nI (by omega), show (4 : Int32).toInt = 4 from rfl]
    refine ⟨by omega, ?_⟩
    have a13 : ¬ ((17 + u : Nat) : Int) = 13 := by omega
    have a14 : ¬ ((17 + u : Nat) : Int) = 14 := by omega
    have a15 : ¬ ((17 + u : Nat) : Int) = 15 := by omega
    have a16 : ¬ ((17 + u : Nat) : Int) = 16 := by omega
    simp only [if_neg a13, if_neg a14, if_neg a15, if_neg a16, show ¬ (4 : Int) = 1 by decide, show ¬ (4 : Int) = 2 by decide, show ¬ (4 : Int) = 3 by decide, if_false, if_true]
    rcases h4 with rfl | rfl | rfl
    · simp only [show nI 60 = 60 from rfl, if_true]
      obtain ⟨b, hb, hb1, hb2⟩ := b10 (P := nI v ≤ gX12_valueOf ν (nI u) (nI t))
      exact ⟨b, hb, hb1, hb2, ⟨vi, fun z => absurd z a13, fun z => absurd z a14, fun z => absurd z a15, fun z => absurd z a16, fun _ => ⟨vi, z2, vi, fun _ => ⟨vi, fun _ => vi, fun _ => vi⟩, fun _ => vi⟩⟩, ⟨v0, fun z => absurd z (by decide), fun z => absurd z (by decide), fun z => absurd z (by decide), fun _ => ⟨v1, z3, v3, fun _ => ⟨v3, fun _ => v2, fun _ => v2⟩, fun _ => v2⟩, fun z => absurd z (by decide), fun z => absurd z (by decide), fun z => absurd z (by decide), fun z => absurd z (by decide), fun z => absurd z (by decide)⟩⟩
    · simp only [show ¬ nI 61 = 60 by decide, show ¬ nI 61 = 62 by decide, show nI 61 = 61 from rfl, if_false, if_true]
      obtain ⟨b, hb, hb1, hb2⟩ := b01 (P := gX12_valueOf ν (nI u) (nI t) = nI v)
      exact ⟨b, hb, hb1, hb2, ⟨vi, fun z => absurd z a13, fun z => absurd z a14, fun z => absurd z a15, fun z => absurd z a16, fun _ => ⟨vi, z2, vi, fun _ => ⟨vi, fun _ => vi, fun _ => vi⟩, fun _ => vi⟩⟩, ⟨v0, fun z => absurd z (by decide), fun z => absurd z (by decide), fun z => absurd z (by decide), fun _ => ⟨v1, z3, v3, fun _ => ⟨v3, fun _ => v2, fun _ => v2⟩, fun _ => v2⟩, fun z => absurd z (by decide), fun z => absurd z (by decide), fun z => absurd z (by decide), fun z => absurd z (by decide), fun z => absurd z (by decide)⟩⟩
    · simp only [show ¬ nI 62 = 60 by decide, show ¬ nI 62 = 61 by decide, show nI 62 = 62 from rfl, if_false, if_true]
      obtain ⟨b, hb, hb1, hb2⟩ := b10 (P := gX12_valueOf ν (nI u) (nI t) ≤ nI v)
      exact ⟨b, hb, hb1, hb2, ⟨vi, fun z => absurd z a13, fun z => absurd z a14, fun z => absurd z a15, fun z => absurd z a16, fun _ => ⟨vi, z2, vi, fun _ => ⟨vi, fun _ => vi, fun _ => vi⟩, fun _ => vi⟩⟩, ⟨v0, fun z => absurd z (by decide), fun z => absurd z (by decide), fun z => absurd z (by decide), fun _ => ⟨v1, z3, v3, fun _ => ⟨v3, fun _ => v2, fun _ => v2⟩, fun _ => v2⟩, fun z => absurd z (by decide), fun z => absurd z (by decide), fun z => absurd z (by decide), fun z => absurd z (by decide), fun z => absurd z (by decide)⟩⟩
  · rw [h1, h2, h4, h5, show (13 : Int32).toInt = 13 from rfl, show (5 : Int32).toInt = 5 from rfl]
    refine ⟨Or.inr (by decide), ?_⟩
    simp only [show ¬ (5 : Int) = 1 by decide, show ¬ (5 : Int) = 2 by decide, show ¬ (5 : Int) = 3 by decide, show ¬ (5 : Int) = 4 by decide, if_false, if_true]
    obtain ⟨b, hb, hb1, hb2⟩ := b01 (P := nI (σ 1 (14 * t + 0)) = nI v)
    exact ⟨b, hb, hb1, hb2, ⟨vi, fun _ => ⟨o0.2, vi⟩, fun z => absurd z (by decide), fun z => absurd z (by decide), fun z => absurd z (by decide), fun z => absurd z (by decide)⟩, ⟨v0, fun z => absurd z (by decide), fun z => absurd z (by decide), fun z => absurd z (by decide), fun z => absurd z (by decide), fun _ => ⟨m0.2, v1⟩, fun z => absurd z (by decide), fun z => absurd z (by decide), fun z => absurd z (by decide), fun z => absurd z (by decide)⟩⟩
  · rw [h1, h2, h4, h5, show (14 : Int32).toInt = 14 from rfl, show (6 : Int32).toInt = 6 from rfl]
    refine ⟨Or.inr (by decide), ?_⟩
    simp only [show ¬ (14 : Int) = 13 by decide, show ¬ (6 : Int) = 1 by decide, show ¬ (6 : Int) = 2 by decide, show ¬ (6 : Int) = 3 by decide, show ¬ (6 : Int) = 4 by decide, show ¬ (6 : Int) = 5 by decide, if_false, if_true]
    obtain ⟨b, hb, hb1, hb2⟩ := b01 (P := nI (σ 1 (14 * t + 12)) = nI v)
    exact ⟨b, hb, hb1, hb2, ⟨vi, fun z => absurd z (by decide), fun _ => ⟨o12.2, vi⟩, fun z => absurd z (by decide), fun z => absurd z (by decide), fun z => absurd z (by decide)⟩, ⟨v0, fun z => absurd z (by decide), fun z => absurd z (by decide), fun z => absurd z (by decide), fun z => absurd z (by decide), fun z => absurd z (by decide), fun _ => ⟨s2, v1⟩, fun z => absurd z (by decide), fun z => absurd z (by decide), fun z => absurd z (by decide)⟩⟩
  · rw [h1, h4, show (15 : Int32).toInt = 15 from rfl, show (7 : Int32).toInt = 7 from rfl]
    refine ⟨Or.inr (by decide), ?_⟩
    simp only [show ¬ (15 : Int) = 13 by decide, show ¬ (15 : Int) = 14 by decide, show ¬ (7 : Int) = 1 by decide, show ¬ (7 : Int) = 2 by decide, show ¬ (7 : Int) = 3 by decide, show ¬ (7 : Int) = 4 by decide, show ¬ (7 : Int) = 5 by decide, show ¬ (7 : Int) = 6 by decide, if_false, if_true]
    refine ⟨σ 1 (14 * t + 10), b10', ?_, ?_, ⟨vi, fun z => absurd z (by decide), fun z => absurd z (by decide), fun _ => o10.2, fun z => absurd z (by decide), fun z => absurd z (by decide)⟩, ⟨v0, fun z => absurd z (by decide), fun z => absurd z (by decide), fun z => absurd z (by decide), fun z => absurd z (by decide), fun z => absurd z (by decide), fun z => absurd z (by decide), fun _ => m10.2, fun z => absurd z (by decide), fun z => absurd z (by decide)⟩⟩
    · have : σ 1 (14 * t + 10) = 0 ∨ σ 1 (14 * t + 10) = 1 := by omega
      rcases this with q | q <;> rw [q] <;> rfl
    · have : σ 1 (14 * t + 10) = 0 ∨ σ 1 (14 * t + 10) = 1 := by omega
      rcases this with q | q <;> rw [q] <;> rfl
  · rw [h1, h4, show (16 : Int32).toInt = 16 from rfl, show (8 : Int32).toInt = 8 from rfl]
    refine ⟨Or.inr (by decide), ?_⟩
    simp only [show ¬ (16 : Int) = 13 by decide, show ¬ (16 : Int) = 14 by decide, show ¬ (16 : Int) = 15 by decide, show ¬ (8 : Int) = 1 by decide, show ¬ (8 : Int) = 2 by decide, show ¬ (8 : Int) = 3 by decide, show ¬ (8 : Int) = 4 by decide, show ¬ (8 : Int) = 5 by decide, show ¬ (8 : Int) = 6 by decide, show ¬ (8 : Int) = 7 by decide, if_false, if_true]
    have q01 : σ 1 (14 * t + 11) = 0 ∨ σ 1 (14 * t + 11) = 1 := by omega
    refine ⟨σ 1 (14 * t + 11), d3, ?_, rfl, ⟨vi, fun z => absurd z (by decide), fun z => absurd z (by decide), fun z => absurd z (by decide), fun _ => o11.2, fun z => absurd z (by decide)⟩, ⟨v0, fun z => absurd z (by decide), fun z => absurd z (by decide), fun z => absurd z (by decide), fun z => absurd z (by decide), fun z => absurd z (by decide), fun z => absurd z (by decide), fun z => absurd z (by decide), fun _ => ⟨d2, ?_⟩, fun z => absurd z (by decide)⟩⟩
    · rcases q01 with q | q <;> rw [q] <;> rfl
    · rcases q01 with q | q <;> rw [q]
      · exact Or.inl rfl
      · exact Or.inr rfl
end
