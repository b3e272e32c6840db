section
variable {b : Nat → Nat} {z l last : Nat} {K A V W P : Nat → Nat} {τ : sg_T} {μ ν : fm_T} {n m : Nat}
theorem fNc_L {s p : Nat} {X M : fm_T} (h : frL (fNc s) (fNcl p) X M) : frL fLc fLcl X M := h.mo (fun a j y => y.elim Or.inl (fun y => Or.inr ⟨by omega, by omega⟩)) (fun a j y => y.elim Or.inl (fun y => Or.inr y.1))
theorem fNm_L {p : Nat} {X M : fm_T} (h : frL fGm (fNml p) X M) : frL fLm fLml X M := h.mo (fun a j y => Or.inl y) (fun a j y => y.elim Or.inl (fun y => Or.inr y.1))
theorem LR_o {n : Nat} {gC gM : Int32} {U T : fm_T} (h : LR b z l last K A V W P n μ ν gC gM U T) : gM = 0 ∨ gM = 1 := by
  rcases h.2.2 with y | y
  · exact Or.inl y.2.1
  · exact Or.inr y.2.1
theorem thg_0 (lx : LXs b z l last K A V W P) (lk : LK b z l last K A V W P n μ ν) (hr : HDR τ m μ ν) (k2 : K n = 2) : pX2_readThing μ 0 ∧ bqM ν 0 ∧ (¬ gX2_readThing μ 0 = 0 → ¬ gX7_isSign (uX2_readThing μ 0) 59 = 0 → pX7_advance (uX2_readThing μ 0)) ∧ LR b z l last K A V W P n μ ν (if gX2_readThing μ 0 = 0 then 0 else if gX7_isSign (uX2_readThing μ 0) 59 = 0 then gX7_fail (uX2_readThing μ 0) 1 else 1) (bgM ν 0) (if gX2_readThing μ 0 = 0 then uX2_readThing μ 0 else if gX7_isSign (uX2_readThing μ 0) 59 = 0 then uX7_fail (uX2_readThing μ 0) 1 else uX7_advance (uX2_readThing μ 0)) (buM ν 0) := by
  obtain ⟨q, hq⟩ : ∃ q, τ 0 (5 + 0) = q := ⟨_, rfl⟩
  have hm : q ≤ 6 := by rw [← hq]; exact HDR_m (s := 0) hr (by omega)
  have e75 : fI μ 75 0 = nI q := by rw [← hq]; exact (hr.1 0 (by omega)).1.1
  have e3 : fI ν 3 0 = nI q := by rw [← hq]; exact (hr.1 0 (by omega)).1.2
  have wi : ¬ gX11_within μ 0 0 3 = 0 := by unfold gX11_within; decide
  have cs : (0 : Int32).toNatClampNeg = 0 := rfl
  have l1 : ([6, 6, 8, 4] : List Int32).getD 0 0 = nI 6 := rfl
  have l2 : gX12_most ν 0 = nI 6 := rfl
  have vs : vp_in (0 : Int32) 4 := vp_in_nI (n := 0) (by omega) (by decide)
  have vs3 : vp_in (0 : Int32) 130 := vp_in_nI (n := 0) (by omega) (by decide)
  have n10 : ¬ (1 : Int32) = 0 := by decide
  have gb : ∀ (x : fm_T) (k : Int32), (gX7_fail x k = 0) = True := fun _ _ => eq_true rfl
  have q8 : ¬ (0 : Int32) = 8 := by decide
  have q3 : (0 : Int32) ≤ 3 := by decide
  have ti1 : ¬ (0 : Int32).toInt = 1 := by decide
  have ti2 : ¬ (0 : Int32).toInt = 2 := by decide
  have ti3 : ¬ (0 : Int32).toInt = 3 := by decide
  unfold pX2_readThing gX2_readThing uX2_readThing bqM bgM buM
  by_cases y : q = 6
  · rw [y] at e75 e3
    have c1 : ¬ nI 6 < nI 6 := by decide
    simp only [e75, e3, cs, l1, l2, if_neg wi, wi, if_neg c1, c1, if_neg q8, if_neg ti1, if_neg ti2, if_neg ti3, if_pos q3, q8, ti1, ti2, ti3, q3, if_true, gbad, gb, false_implies, true_implies, not_false_eq_true, not_true_eq_false, true_and, and_true, implies_true, true_or, or_true, if_false]
    obtain ⟨f1, f2, f3⟩ := pfa lx lk 4 (fun y => by omega)
    exact ⟨⟨vs, vs⟩, vs3, fAc_L (fN_A f1), fGm_L (fN_G f2), Or.inl ⟨rfl, rfl, f3⟩⟩
  · have hq6 : q < 6 := by omega
    have c1 : nI q < nI 6 := (nI_ltI (by omega) (by omega)).mpr hq6
    have c2 : ¬ nI q = nI 6 := fun h => by have := (nI_eq (by omega) (by omega)).mp h; omega
    obtain ⟨w1, w2, w3, w4⟩ := nw_ok (s := 0) (q := q) lx lk hr (by omega) k2 hq hq6
    obtain ⟨-, -, a3, a4, -⟩ := pad lx lk (by omega) (by omega)
    have e75' : fI (uX7_advance μ) 75 0 = nI q := by rw [a3.2.2.2 75 0 (by unfold fA1; omega)]; exact e75
    have ix : (0 : Int32) * (8 : Int32) + nI q = nI (8 * 0 + q) := by rw [show (0 : Int32) * (8 : Int32) = nI (8 * 0) from rfl, nI_add]
    have cx : (nI (8 * 0 + q)).toNatClampNeg = 8 * 0 + q := nI_clamp (by omega)
    have vx : vp_in (nI (8 * 0 + q)) 32 := vp_in_nI (by omega) (by decide)
    have ys : nI 0 = (0 : Int32) := rfl
    unfold NwR at w4
    rw [ys] at w3 w4
    simp only [e75, e75', e3, cs, l1, l2, ix, cx, nI_1, if_neg wi, wi, if_pos c1, c1, if_neg c2, c2, if_neg q8, if_neg ti1, if_neg ti2, if_neg ti3, if_pos q3, q8, ti1, ti2, ti3, q3, if_true, gbad, gb, false_implies, true_implies, not_false_eq_true, not_true_eq_false, true_and, and_true, implies_true, true_or, or_true, if_false]
    rcases w4 with ⟨d1, d2, d3, d4, d5⟩ | ⟨d1, d2, d3, d4, d5, d6, d7⟩ | ⟨d1, d2, d3, d4, d5, w, U, T, d6, d7, hv, hw, fr, lk2, u74, u6, u75, f1, f2⟩
    · simp only [if_neg d1, d1, d2, if_true, gbad, gb, false_implies, true_implies, not_false_eq_true, not_true_eq_false, true_and, and_true, implies_true, true_or, or_true, if_false]
      exact ⟨⟨vs, vs, w1⟩, ⟨vs3, w2, w3⟩, fAc_L d4, fGm_L d5, Or.inl ⟨rfl, rfl, d3⟩⟩
    · simp only [if_pos d1, d1, d3, d4, if_neg n10, n10, if_true, gbad, gb, false_implies, true_implies, not_false_eq_true, not_true_eq_false, true_and, and_true, implies_true, true_or, or_true, if_false]
      exact ⟨⟨vs, vs, w1, d2⟩, ⟨vs3, w2, w3⟩, fAc_L d6, fGm_L d7, Or.inl ⟨rfl, rfl, d5⟩⟩
    · rw [d6, d7]
      have t3 : fI T 3 0 = nI q := by rw [f2.2.2.2 3 0 (by unfold fGm; omega)]; exact e3
      have hR := HDR_0 (q := q) (w := w) (S := fm_i T 3 0 (nI (q + 1))) hr hq hq6 hv hw f1 ((f2.mo (A' := fun a j => fGm a j ∨ (a = 3 ∧ j = 0)) (fun a j y => Or.inl y) (fun _ _ y => y)).i (Or.inr ⟨rfl, rfl⟩)) u75 u74 (by rw [fI_i, if_pos ⟨rfl, rfl⟩]) u6
      obtain ⟨r1, r2, r3⟩ := th_end (n0 := n) lx (LK_m lk2) hR (by omega) (fNc_L f1) ((fNm_L f2).i (k := 3) (j := 0) (v := nI (q + 1)) (Or.inr (Or.inl rfl)))
      have ro := LR_o r3
      simp only [if_pos d1, d1, d3, d4, if_neg n10, n10, t3, nI_1, if_true, gbad, gb, false_implies, true_implies, not_false_eq_true, not_true_eq_false, true_and, and_true, implies_true, true_or, or_true, if_false]
      exact ⟨⟨vs, vs, w1, d2, vx, vs, vs, d5⟩, ⟨vs3, w2, w3, vs3, vs3, r2, ro⟩, r1, r3⟩
theorem thg_3 (lx : LXs b z l last K A V W P) (lk : LK b z l last K A V W P n μ ν) (hr : HDR τ m μ ν) (k2 : K n = 2) : pX2_readThing μ 3 ∧ bqM ν 3 ∧ (¬ gX2_readThing μ 3 = 0 → ¬ gX7_isSign (uX2_readThing μ 3) 59 = 0 → pX7_advance (uX2_readThing μ 3)) ∧ LR b z l last K A V W P n μ ν (if gX2_readThing μ 3 = 0 then 0 else if gX7_isSign (uX2_readThing μ 3) 59 = 0 then gX7_fail (uX2_readThing μ 3) 1 else 1) (bgM ν 3) (if gX2_readThing μ 3 = 0 then uX2_readThing μ 3 else if gX7_isSign (uX2_readThing μ 3) 59 = 0 then uX7_fail (uX2_readThing μ 3) 1 else uX7_advance (uX2_readThing μ 3)) (buM ν 3) := by
  obtain ⟨q, hq⟩ : ∃ q, τ 0 (5 + 3) = q := ⟨_, rfl⟩
  have hm : q ≤ 4 := by rw [← hq]; exact HDR_m (s := 3) hr (by omega)
  have e75 : fI μ 75 3 = nI q := by rw [← hq]; exact (hr.1 3 (by omega)).1.1
  have e3 : fI ν 3 3 = nI q := by rw [← hq]; exact (hr.1 3 (by omega)).1.2
  have wi : ¬ gX11_within μ 3 0 3 = 0 := by unfold gX11_within; decide
  have cs : (3 : Int32).toNatClampNeg = 3 := rfl
  have l1 : ([6, 6, 8, 4] : List Int32).getD 3 0 = nI 4 := rfl
  have l2 : gX12_most ν 3 = nI 4 := rfl
  have vs : vp_in (3 : Int32) 4 := vp_in_nI (n := 3) (by omega) (by decide)
  have vs3 : vp_in (3 : Int32) 130 := vp_in_nI (n := 3) (by omega) (by decide)
  have n10 : ¬ (1 : Int32) = 0 := by decide
  have gb : ∀ (x : fm_T) (k : Int32), (gX7_fail x k = 0) = True := fun _ _ => eq_true rfl
  have q8 : ¬ (3 : Int32) = 8 := by decide
  have q0 : ¬ (3 : Int32) = 0 := by decide
  have q1 : ¬ (3 : Int32) = 1 := by decide
  have q2 : ¬ (3 : Int32) = 2 := by decide
  have q3 : (3 : Int32) ≤ 3 := by decide
  have ti1 : ¬ (3 : Int) = 1 := by decide
  have ti2 : ¬ (3 : Int) = 2 := by decide
  have ti3 : (3 : Int32).toInt = 3 := by decide
  unfold pX2_readThing gX2_readThing uX2_readThing bqM bgM buM
  by_cases y : q = 4
  · rw [y] at e75 e3
    have c1 : ¬ nI 4 < nI 4 := by decide
    simp only [e75, e3, cs, l1, l2, if_neg wi, wi, if_neg c1, c1, if_neg q8, if_neg q0, if_neg q1, if_neg q2, if_neg ti1, if_neg ti2, if_pos q3, if_pos ti3, q8, q0, q1, q2, ti1, ti2, q3, ti3, if_true, gbad, gb, false_implies, true_implies, not_false_eq_true, not_true_eq_false, true_and, and_true, implies_true, true_or, or_true, if_false]
    obtain ⟨f1, f2, f3⟩ := pfa lx lk 4 (fun y => by omega)
    exact ⟨⟨vs, vs⟩, vs3, fAc_L (fN_A f1), fGm_L (fN_G f2), Or.inl ⟨rfl, rfl, f3⟩⟩
  · have hq6 : q < 4 := by omega
    have c1 : nI q < nI 4 := (nI_ltI (by omega) (by omega)).mpr hq6
    have c2 : ¬ nI q = nI 4 := fun h => by have := (nI_eq (by omega) (by omega)).mp h; omega
    obtain ⟨w1, w2, w3, w4⟩ := nw_ok (s := 3) (q := q) lx lk hr (by omega) k2 hq hq6
    obtain ⟨-, -, a3, a4, -⟩ := pad lx lk (by omega) (by omega)
    have e75' : fI (uX7_advance μ) 75 3 = nI q := by rw [a3.2.2.2 75 3 (by unfold fA1; omega)]; exact e75
    have ix : (3 : Int32) * (8 : Int32) + nI q = nI (8 * 3 + q) := by rw [show (3 : Int32) * (8 : Int32) = nI (8 * 3) from rfl, nI_add]
    have cx : (nI (8 * 3 + q)).toNatClampNeg = 8 * 3 + q := nI_clamp (by omega)
    have vx : vp_in (nI (8 * 3 + q)) 32 := vp_in_nI (by omega) (by decide)
    have ys : nI 3 = (3 : Int32) := rfl
    unfold NwR at w4
    rw [ys] at w3 w4
    simp only [e75, e75', e3, cs, l1, l2, ix, cx, nI_1, if_neg wi, wi, if_pos c1, c1, if_neg c2, c2, if_neg q8, if_neg q0, if_neg q1, if_neg q2, if_neg ti1, if_neg ti2, if_pos q3, if_pos ti3, q8, q0, q1, q2, ti1, ti2, q3, ti3, if_true, gbad, gb, false_implies, true_implies, not_false_eq_true, not_true_eq_false, true_and, and_true, implies_true, true_or, or_true, if_false]
    rcases w4 with ⟨d1, d2, d3, d4, d5⟩ | ⟨d1, d2, d3, d4, d5, d6, d7⟩ | ⟨d1, d2, d3, d4, d5, w, U, T, d6, d7, hv, hw, fr, lk2, u74, u6, u75, f1, f2⟩
    · simp only [if_neg d1, d1, d2, if_true, gbad, gb, false_implies, true_implies, not_false_eq_true, not_true_eq_false, true_and, and_true, implies_true, true_or, or_true, if_false]
      exact ⟨⟨vs, vs, w1⟩, ⟨vs3, w2, w3⟩, fAc_L d4, fGm_L d5, Or.inl ⟨rfl, rfl, d3⟩⟩
    · simp only [if_pos d1, d1, d3, d4, if_neg n10, n10, if_true, gbad, gb, false_implies, true_implies, not_false_eq_true, not_true_eq_false, true_and, and_true, implies_true, true_or, or_true, if_false]
      exact ⟨⟨vs, vs, w1, d2⟩, ⟨vs3, w2, w3⟩, fAc_L d6, fGm_L d7, Or.inl ⟨rfl, rfl, d5⟩⟩
    · rw [d6, d7]
      have t3 : fI T 3 3 = nI q := by rw [f2.2.2.2 3 3 (by unfold fGm; omega)]; exact e3
      obtain ⟨g1, g2, g3, g4, g5⟩ := dr_ok (k := q) lx lk2 hq6 t3
      simp only [if_pos d1, d1, d3, d4, if_neg n10, n10, if_true, gbad, gb, false_implies, true_implies, not_false_eq_true, not_true_eq_false, true_and, and_true, implies_true, true_or, or_true, if_false]
      have s3 : fI (uX12_readDrum T) 3 3 = nI q := by rw [g4.2.2.2 3 3 (by unfold fDm fGm; omega)]; exact t3
      have x75 : fI (uX2_readDrum U (nI q)) 75 3 = nI (q + 1) := by rw [g3.2.2.2 75 3 (by unfold fDc fAc; omega)]; exact u75
      have x74 : fL (uX2_readDrum U (nI q)) 74 (8 * 3 + q) = lN w := by rw [g3.2.2.1 74 _ (by unfold fA1l; omega)]; exact u74
      have x6 : fL (uX12_readDrum T) 6 (bsn 3 + q) = lN (conv 7 w) := by rw [g4.2.2.1 6 _ (by unfold fGl; omega)]; exact u6
      have hX := (f1.mo (A' := fun a j => fNc 3 a j ∨ (82 ≤ a ∧ a ≤ 83 ∧ j = q)) (fun a j y => Or.inl y) (fun _ _ y => y)).tr (g3.mo (A' := fun a j => fNc 3 a j ∨ (82 ≤ a ∧ a ≤ 83 ∧ j = q)) (B' := fNcl (8 * 3 + q)) (fun a j y => y.elim (fun y => Or.inl (Or.inl y)) Or.inr) (fun _ _ y => Or.inl y))
      have hS := (f2.mo (A' := fun a j => fGm a j ∨ (a = 3 ∧ (j = 3 ∨ (110 + 2 * q ≤ j ∧ j ≤ 111 + 2 * q)))) (B' := fNml (bsn 3 + q)) (fun a j y => Or.inl y) (fun _ _ y => y)).tr (g4.mo (fun a j y => y.elim Or.inl (fun y => Or.inr ⟨y.1, Or.inr ⟨y.2.1, y.2.2⟩⟩)) (fun _ _ y => Or.inl y))
      have LX : frL fLc fLcl μ (uX2_readDrum U (nI q)) := (fNc_L f1).tr (g3.mo (fun a j y => by exact y.elim Or.inl (fun y => Or.inr ⟨by omega, by omega⟩)) (fun _ _ y => Or.inl y))
      have LS : frL fLm fLml ν (uX12_readDrum T) := (fNm_L f2).tr (g4.mo (fun a j y => y.elim Or.inl (fun y => Or.inr (Or.inl y.1))) (fun _ _ y => Or.inl y))
      generalize uX2_readDrum U (nI q) = X at g3 g5 x75 x74 hX LX ⊢
      generalize uX12_readDrum T = S at g4 g5 s3 x6 hS LS ⊢
      rw [s3, nI_1]
      have LS1 := LS.i (k := 3) (j := 3) (v := nI (q + 1)) (Or.inr (Or.inl rfl))
      have hS1 := hS.i (k := 3) (j := 3) (v := nI (q + 1)) (Or.inr ⟨rfl, Or.inl rfl⟩)
      have s31 : fI (fm_i S 3 3 (nI (q + 1))) 3 3 = nI (q + 1) := by rw [fI_i, if_pos ⟨rfl, rfl⟩]
      rcases g5 with ⟨k1, k2', k3⟩ | ⟨k1, k2', n', v1, v2, k3, k4, k5, k6, k7, k8, k9, k10, k11⟩
      · simp only [k1, k2', n10, if_neg n10, if_true, gbad, gb, false_implies, true_implies, not_false_eq_true, not_true_eq_false, true_and, and_true, implies_true, true_or, or_true, if_false]
        exact ⟨⟨vs, vs, w1, d2, vx, vs, vs, d5, g1⟩, ⟨vs3, w2, w3, g2⟩, LX, LS, Or.inl ⟨rfl, rfl, k3⟩⟩
      · obtain ⟨τ', hR⟩ := HDR_3 (v1 := v1) (v2 := v2) (S := fm_i S 3 3 (nI (q + 1))) hr hq hq6 hv hw hX hS1 x75 x74 s31 x6 ⟨k5, k6, k7⟩ ⟨k8, k9⟩ ⟨by rw [fI_i, if_neg (by omega)]; exact k10, by rw [fI_i, if_neg (by omega)]; exact k11⟩
        obtain ⟨r1, r2, r3⟩ := th_end (n0 := n) lx (LK_m (p := 3) (w := nI (q + 1)) k4) hR (by omega) LX LS1
        have ro := LR_o r3
        simp only [k1, k2', n10, if_neg n10, if_true, gbad, gb, false_implies, true_implies, not_false_eq_true, not_true_eq_false, true_and, and_true, implies_true, true_or, or_true, if_false]
        exact ⟨⟨vs, vs, w1, d2, vx, vs, vs, d5, g1⟩, ⟨vs3, w2, w3, g2, vs3, vs3, r2, ro⟩, r1, r3⟩
theorem thg_2 (lx : LXs b z l last K A V W P) (lk : LK b z l last K A V W P n μ ν) (hr : HDR τ m μ ν) (k2 : K n = 2) : pX2_readThing μ 2 ∧ bqM ν 2 ∧ (¬ gX2_readThing μ 2 = 0 → ¬ gX7_isSign (uX2_readThing μ 2) 59 = 0 → pX7_advance (uX2_readThing μ 2)) ∧ LR b z l last K A V W P n μ ν (if gX2_readThing μ 2 = 0 then 0 else if gX7_isSign (uX2_readThing μ 2) 59 = 0 then gX7_fail (uX2_readThing μ 2) 1 else 1) (bgM ν 2) (if gX2_readThing μ 2 = 0 then uX2_readThing μ 2 else if gX7_isSign (uX2_readThing μ 2) 59 = 0 then uX7_fail (uX2_readThing μ 2) 1 else uX7_advance (uX2_readThing μ 2)) (buM ν 2) := by
  obtain ⟨q, hq⟩ : ∃ q, τ 0 (5 + 2) = q := ⟨_, rfl⟩
  have hm : q ≤ 8 := by rw [← hq]; exact HDR_m (s := 2) hr (by omega)
  have e75 : fI μ 75 2 = nI q := by rw [← hq]; exact (hr.1 2 (by omega)).1.1
  have e3 : fI ν 3 2 = nI q := by rw [← hq]; exact (hr.1 2 (by omega)).1.2
  have wi : ¬ gX11_within μ 2 0 3 = 0 := by unfold gX11_within; decide
  have cs : (2 : Int32).toNatClampNeg = 2 := rfl
  have l1 : ([6, 6, 8, 4] : List Int32).getD 2 0 = nI 8 := rfl
  have l2 : gX12_most ν 2 = nI 8 := rfl
  have vs : vp_in (2 : Int32) 4 := vp_in_nI (n := 2) (by omega) (by decide)
  have vs3 : vp_in (2 : Int32) 130 := vp_in_nI (n := 2) (by omega) (by decide)
  have n10 : ¬ (1 : Int32) = 0 := by decide
  have gb : ∀ (x : fm_T) (k : Int32), (gX7_fail x k = 0) = True := fun _ _ => eq_true rfl
  have q8 : ¬ (2 : Int32) = 8 := by decide
  have q0 : ¬ (2 : Int32) = 0 := by decide
  have q1 : ¬ (2 : Int32) = 1 := by decide
  have q3 : (2 : Int32) ≤ 3 := by decide
  have ti1 : ¬ (2 : Int) = 1 := by decide
  have ti2 : (2 : Int32).toInt = 2 := by decide
  have ti3 : ¬ (2 : Int) = 3 := by decide
  unfold pX2_readThing gX2_readThing uX2_readThing bqM bgM buM
  by_cases y : q = 8
  · rw [y] at e75 e3
    have c1 : ¬ nI 8 < nI 8 := by decide
    simp only [e75, e3, cs, l1, l2, if_neg wi, wi, if_neg c1, c1, if_neg q8, if_neg q0, if_neg q1, if_neg ti1, if_neg ti3, if_pos q3, if_pos ti2, q8, q0, q1, ti1, ti3, q3, ti2, if_true, gbad, gb, false_implies, true_implies, not_false_eq_true, not_true_eq_false, true_and, and_true, implies_true, true_or, or_true, if_false]
    obtain ⟨f1, f2, f3⟩ := pfa lx lk 4 (fun y => by omega)
    exact ⟨⟨vs, vs⟩, vs3, fAc_L (fN_A f1), fGm_L (fN_G f2), Or.inl ⟨rfl, rfl, f3⟩⟩
  · have hq6 : q < 8 := by omega
    have c1 : nI q < nI 8 := (nI_ltI (by omega) (by omega)).mpr hq6
    have c2 : ¬ nI q = nI 8 := fun h => by have := (nI_eq (by omega) (by omega)).mp h; omega
    obtain ⟨w1, w2, w3, w4⟩ := nw_ok (s := 2) (q := q) lx lk hr (by omega) k2 hq hq6
    obtain ⟨-, -, a3, a4, -⟩ := pad lx lk (by omega) (by omega)
    have e75' : fI (uX7_advance μ) 75 2 = nI q := by rw [a3.2.2.2 75 2 (by unfold fA1; omega)]; exact e75
    have ix : (2 : Int32) * (8 : Int32) + nI q = nI (8 * 2 + q) := by rw [show (2 : Int32) * (8 : Int32) = nI (8 * 2) from rfl, nI_add]
    have cx : (nI (8 * 2 + q)).toNatClampNeg = 8 * 2 + q := nI_clamp (by omega)
    have vx : vp_in (nI (8 * 2 + q)) 32 := vp_in_nI (by omega) (by decide)
    have ys : nI 2 = (2 : Int32) := rfl
    unfold NwR at w4
    rw [ys] at w3 w4
    simp only [e75, e75', e3, cs, l1, l2, ix, cx, nI_1, if_neg wi, wi, if_pos c1, c1, if_neg c2, c2, if_neg q8, if_neg q0, if_neg q1, if_neg ti1, if_neg ti3, if_pos q3, if_pos ti2, q8, q0, q1, ti1, ti3, q3, ti2, if_true, gbad, gb, false_implies, true_implies, not_false_eq_true, not_true_eq_false, true_and, and_true, implies_true, true_or, or_true, if_false]
    rcases w4 with ⟨d1, d2, d3, d4, d5⟩ | ⟨d1, d2, d3, d4, d5, d6, d7⟩ | ⟨d1, d2, d3, d4, d5, w, U, T, d6, d7, hv, hw, fr, lk2, u74, u6, u75, f1, f2⟩
    · simp only [if_neg d1, d1, d2, if_true, gbad, gb, false_implies, true_implies, not_false_eq_true, not_true_eq_false, true_and, and_true, implies_true, true_or, or_true, if_false]
      exact ⟨⟨vs, vs, w1⟩, ⟨vs3, w2, w3⟩, fAc_L d4, fGm_L d5, Or.inl ⟨rfl, rfl, d3⟩⟩
    · simp only [if_pos d1, d1, d3, d4, if_neg n10, n10, if_true, gbad, gb, false_implies, true_implies, not_false_eq_true, not_true_eq_false, true_and, and_true, implies_true, true_or, or_true, if_false]
      exact ⟨⟨vs, vs, w1, d2⟩, ⟨vs3, w2, w3⟩, fAc_L d6, fGm_L d7, Or.inl ⟨rfl, rfl, d5⟩⟩
    · rw [d6, d7]
      have t3 : fI T 3 2 = nI q := by rw [f2.2.2.2 3 2 (by unfold fGm; omega)]; exact e3
      have zz := hr.2.2.1.2.1 q (Nat.le_of_eq hq) hq6
      have z80 : fI U 80 q = 0 := by rw [f1.2.2.2 80 _ (by unfold fNc fAc; omega)]; exact zz.1
      have z81 : fI U 81 q = 0 := by rw [f1.2.2.2 81 _ (by unfold fNc fAc; omega)]; exact zz.2
      have hd : HDs τ 1 U T := HDs_f (hr.1 1 (by omega)) (f1.2.2.2 75 1 (by unfold fNc fAc; omega)) (f2.2.2.2 3 1 (by unfold fGm; omega)) (fun i hi => f1.2.2.1 74 _ (by have := hr.2.1.2.2; have e : τ 0 (5 + 1) = τ 0 6 := rfl; unfold fNcl fA1l; omega)) (fun i hi => f2.2.2.1 6 _ (by have := hr.2.1.2.2; have e : τ 0 (5 + 1) = τ 0 6 := rfl; have e0 : bsn 1 = 6 := rfl; have e1 : bsn 2 = 12 := rfl; unfold fNml fGl; omega)) rfl (fun _ _ => rfl)
      obtain ⟨g1, g2, g3, g4, g5⟩ := cl_ok (k := q) lx lk2 hq6 hr.2.1.2.2 t3 hd z80 z81
      simp only [if_pos d1, d1, d3, d4, if_neg n10, n10, if_true, gbad, gb, false_implies, true_implies, not_false_eq_true, not_true_eq_false, true_and, and_true, implies_true, true_or, or_true, if_false]
      have s3 : fI (uX12_readCloth T) 3 2 = nI q := by rw [g4.2.2.2 3 2 (by unfold fDm fGm; omega)]; exact t3
      have x75 : fI (uX2_readCloth U (nI q)) 75 2 = nI (q + 1) := by rw [g3.2.2.2 75 2 (by unfold fDc fAc; omega)]; exact u75
      have x74 : fL (uX2_readCloth U (nI q)) 74 (8 * 2 + q) = lN w := by rw [g3.2.2.1 74 _ (by unfold fA1l; omega)]; exact u74
      have x6 : fL (uX12_readCloth T) 6 (bsn 2 + q) = lN (conv 7 w) := by rw [g4.2.2.1 6 _ (by unfold fGl; omega)]; exact u6
      have hX := (f1.mo (A' := fun a j => fNc 2 a j ∨ (78 ≤ a ∧ a ≤ 81 ∧ j = q)) (fun a j y => Or.inl y) (fun _ _ y => y)).tr (g3.mo (A' := fun a j => fNc 2 a j ∨ (78 ≤ a ∧ a ≤ 81 ∧ j = q)) (B' := fNcl (8 * 2 + q)) (fun a j y => y.elim (fun y => Or.inl (Or.inl y)) Or.inr) (fun _ _ y => Or.inl y))
      have hS := (f2.mo (A' := fun a j => fGm a j ∨ (a = 3 ∧ (j = 2 ∨ (60 + 4 * q ≤ j ∧ j ≤ 63 + 4 * q)))) (B' := fNml (bsn 2 + q)) (fun a j y => Or.inl y) (fun _ _ y => y)).tr (g4.mo (fun a j y => y.elim Or.inl (fun y => Or.inr ⟨y.1, Or.inr ⟨y.2.1, y.2.2⟩⟩)) (fun _ _ y => Or.inl y))
      have LX : frL fLc fLcl μ (uX2_readCloth U (nI q)) := (fNc_L f1).tr (g3.mo (fun a j y => by exact y.elim Or.inl (fun y => Or.inr ⟨by omega, by omega⟩)) (fun _ _ y => Or.inl y))
      have LS : frL fLm fLml ν (uX12_readCloth T) := (fNm_L f2).tr (g4.mo (fun a j y => y.elim Or.inl (fun y => Or.inr (Or.inl y.1))) (fun _ _ y => Or.inl y))
      generalize uX2_readCloth U (nI q) = X at g3 g5 x75 x74 hX LX ⊢
      generalize uX12_readCloth T = S at g4 g5 s3 x6 hS LS ⊢
      rw [s3, nI_1]
      have LS1 := LS.i (k := 3) (j := 2) (v := nI (q + 1)) (Or.inr (Or.inl rfl))
      have hS1 := hS.i (k := 3) (j := 2) (v := nI (q + 1)) (Or.inr ⟨rfl, Or.inl rfl⟩)
      have s31 : fI (fm_i S 3 2 (nI (q + 1))) 3 2 = nI (q + 1) := by rw [fI_i, if_pos ⟨rfl, rfl⟩]
      rcases g5 with ⟨k1, k2', k3⟩ | ⟨k1, k2', n', v1, v2, v3, v4, k3, k4, k5, k6, k7, k8, k9, k10⟩
      · simp only [k1, k2', n10, if_neg n10, if_true, gbad, gb, false_implies, true_implies, not_false_eq_true, not_true_eq_false, true_and, and_true, implies_true, true_or, or_true, if_false]
        exact ⟨⟨vs, vs, w1, d2, vx, vs, vs, d5, g1⟩, ⟨vs3, w2, w3, g2⟩, LX, LS, Or.inl ⟨rfl, rfl, k3⟩⟩
      · obtain ⟨τ', hR⟩ := HDR_2 (v1 := v1) (v2 := v2) (v3 := v3) (v4 := v4) (S := fm_i S 3 2 (nI (q + 1))) hr hq hq6 hv hw (fun i hi => fr 2 (by omega) i (by omega)) hX hS1 x75 x74 s31 x6 k5 k6 ⟨by rw [fI_i, if_neg (by omega)]; exact k7, by rw [fI_i, if_neg (by omega)]; exact k8, by rw [fI_i, if_neg (by omega)]; exact k9, by rw [fI_i, if_neg (by omega)]; exact k10⟩
        obtain ⟨r1, r2, r3⟩ := th_end (n0 := n) lx (LK_m (p := 2) (w := nI (q + 1)) k4) hR (by omega) LX LS1
        have ro := LR_o r3
        simp only [k1, k2', n10, if_neg n10, if_true, gbad, gb, false_implies, true_implies, not_false_eq_true, not_true_eq_false, true_and, and_true, implies_true, true_or, or_true, if_false]
        exact ⟨⟨vs, vs, w1, d2, vx, vs, vs, d5, g1⟩, ⟨vs3, w2, w3, g2, vs3, vs3, r2, ro⟩, r1, r3⟩
theorem thg_1 (lx : LXs b z l last K A V W P) (lk : LK b z l last K A V W P n μ ν) (hr : HDR τ m μ ν) (k2 : K n = 2) : pX2_readThing μ 1 ∧ bqM ν 1 ∧ (¬ gX2_readThing μ 1 = 0 → ¬ gX7_isSign (uX2_readThing μ 1) 59 = 0 → pX7_advance (uX2_readThing μ 1)) ∧ LR b z l last K A V W P n μ ν (if gX2_readThing μ 1 = 0 then 0 else if gX7_isSign (uX2_readThing μ 1) 59 = 0 then gX7_fail (uX2_readThing μ 1) 1 else 1) (bgM ν 1) (if gX2_readThing μ 1 = 0 then uX2_readThing μ 1 else if gX7_isSign (uX2_readThing μ 1) 59 = 0 then uX7_fail (uX2_readThing μ 1) 1 else uX7_advance (uX2_readThing μ 1)) (buM ν 1) := by
  obtain ⟨q, hq⟩ : ∃ q, τ 0 (5 + 1) = q := ⟨_, rfl⟩
  have hm : q ≤ 6 := by rw [← hq]; exact HDR_m (s := 1) hr (by omega)
  have e75 : fI μ 75 1 = nI q := by rw [← hq]; exact (hr.1 1 (by omega)).1.1
  have e3 : fI ν 3 1 = nI q := by rw [← hq]; exact (hr.1 1 (by omega)).1.2
  have wi : ¬ gX11_within μ 1 0 3 = 0 := by unfold gX11_within; decide
  have cs : (1 : Int32).toNatClampNeg = 1 := rfl
  have l1 : ([6, 6, 8, 4] : List Int32).getD 1 0 = nI 6 := rfl
  have l2 : gX12_most ν 1 = nI 6 := rfl
  have vs : vp_in (1 : Int32) 4 := vp_in_nI (n := 1) (by omega) (by decide)
  have vs3 : vp_in (1 : Int32) 130 := vp_in_nI (n := 1) (by omega) (by decide)
  have n10 : ¬ (1 : Int32) = 0 := by decide
  have gb : ∀ (x : fm_T) (k : Int32), (gX7_fail x k = 0) = True := fun _ _ => eq_true rfl
  have q8 : ¬ (1 : Int32) = 8 := by decide
  have q0 : ¬ (1 : Int32) = 0 := by decide
  have q3 : (1 : Int32) ≤ 3 := by decide
  have ti1 : (1 : Int32).toInt = 1 := by decide
  have ti2 : ¬ (1 : Int) = 2 := by decide
  have ti3 : ¬ (1 : Int) = 3 := by decide
  unfold pX2_readThing gX2_readThing uX2_readThing bqM bgM buM
  by_cases y : q = 6
  · rw [y] at e75 e3
    have c1 : ¬ nI 6 < nI 6 := by decide
    simp only [e75, e3, cs, l1, l2, if_neg wi, wi, if_neg c1, c1, if_neg q8, if_neg q0, if_neg ti2, if_neg ti3, if_pos q3, if_pos ti1, q8, q0, ti2, ti3, q3, ti1, if_true, gbad, gb, false_implies, true_implies, not_false_eq_true, not_true_eq_false, true_and, and_true, implies_true, true_or, or_true, if_false]
    obtain ⟨f1, f2, f3⟩ := pfa lx lk 4 (fun y => by omega)
    exact ⟨⟨vs, vs⟩, vs3, fAc_L (fN_A f1), fGm_L (fN_G f2), Or.inl ⟨rfl, rfl, f3⟩⟩
  · have hq6 : q < 6 := by omega
    have c1 : nI q < nI 6 := (nI_ltI (by omega) (by omega)).mpr hq6
    have c2 : ¬ nI q = nI 6 := fun h => by have := (nI_eq (by omega) (by omega)).mp h; omega
    obtain ⟨w1, w2, w3, w4⟩ := nw_ok (s := 1) (q := q) lx lk hr (by omega) k2 hq hq6
    obtain ⟨-, -, a3, a4, -⟩ := pad lx lk (by omega) (by omega)
    have e75' : fI (uX7_advance μ) 75 1 = nI q := by rw [a3.2.2.2 75 1 (by unfold fA1; omega)]; exact e75
    have ix : (1 : Int32) * (8 : Int32) + nI q = nI (8 * 1 + q) := by rw [show (1 : Int32) * (8 : Int32) = nI (8 * 1) from rfl, nI_add]
    have cx : (nI (8 * 1 + q)).toNatClampNeg = 8 * 1 + q := nI_clamp (by omega)
    have vx : vp_in (nI (8 * 1 + q)) 32 := vp_in_nI (by omega) (by decide)
    have ys : nI 1 = (1 : Int32) := rfl
    unfold NwR at w4
    rw [ys] at w3 w4
    simp only [e75, e75', e3, cs, l1, l2, ix, cx, nI_1, if_neg wi, wi, if_pos c1, c1, if_neg c2, c2, if_neg q8, if_neg q0, if_neg ti2, if_neg ti3, if_pos q3, if_pos ti1, q8, q0, ti2, ti3, q3, ti1, if_true, gbad, gb, false_implies, true_implies, not_false_eq_true, not_true_eq_false, true_and, and_true, implies_true, true_or, or_true, if_false]
    rcases w4 with ⟨d1, d2, d3, d4, d5⟩ | ⟨d1, d2, d3, d4, d5, d6, d7⟩ | ⟨d1, d2, d3, d4, d5, w, U, T, d6, d7, hv, hw, fr, lk2, u74, u6, u75, f1, f2⟩
    · simp only [if_neg d1, d1, d2, if_true, gbad, gb, false_implies, true_implies, not_false_eq_true, not_true_eq_false, true_and, and_true, implies_true, true_or, or_true, if_false]
      exact ⟨⟨vs, vs, w1⟩, ⟨vs3, w2, w3⟩, fAc_L d4, fGm_L d5, Or.inl ⟨rfl, rfl, d3⟩⟩
    · simp only [if_pos d1, d1, d3, d4, if_neg n10, n10, if_true, gbad, gb, false_implies, true_implies, not_false_eq_true, not_true_eq_false, true_and, and_true, implies_true, true_or, or_true, if_false]
      exact ⟨⟨vs, vs, w1, d2⟩, ⟨vs3, w2, w3⟩, fAc_L d6, fGm_L d7, Or.inl ⟨rfl, rfl, d5⟩⟩
    · rw [d6, d7]
      have t3 : fI T 3 1 = nI q := by rw [f2.2.2.2 3 1 (by unfold fGm; omega)]; exact e3
      have zz : ∀ s, s < 6 → fI U 77 (6 * q + s) = 0 := fun s hs => by rw [f1.2.2.2 77 _ (by unfold fNc fAc; omega)]; exact hr.2.1.2.1 q (Nat.le_of_eq hq) hq6 s hs
      have hd : HDs τ 0 U T := HDs_f (hr.1 0 (by omega)) (f1.2.2.2 75 0 (by unfold fNc fAc; omega)) (f2.2.2.2 3 0 (by unfold fGm; omega)) (fun i hi => f1.2.2.1 74 _ (by have := hr.2.2.2.2.2.2.2.2.2; have e : τ 0 (5 + 0) = τ 0 5 := rfl; unfold fNcl fA1l; omega)) (fun i hi => f2.2.2.1 6 _ (by have := hr.2.2.2.2.2.2.2.2.2; have e : τ 0 (5 + 0) = τ 0 5 := rfl; have e0 : bsn 0 = 0 := rfl; have e1 : bsn 1 = 6 := rfl; unfold fNml fGl; omega)) rfl (fun _ _ => rfl)
      obtain ⟨g1, g2, g3, g4, g5⟩ := agt_ok (k := q) lx lk2 hq6 hr.2.2.2.2.2.2.2.2.2 t3 hd zz
      simp only [if_pos d1, d1, d3, d4, if_neg n10, n10, if_true, gbad, gb, false_implies, true_implies, not_false_eq_true, not_true_eq_false, true_and, and_true, implies_true, true_or, or_true, if_false]
      have s3 : fI (uX12_readAgent T) 3 1 = nI q := by rw [g4.2.2.2 3 1 (by unfold fDm fGm; omega)]; exact t3
      have x75 : fI (uX2_readAgent U (nI q)) 75 1 = nI (q + 1) := by rw [g3.2.2.2 75 1 (by unfold fEa fEc fAc; omega)]; exact u75
      have x74 : fL (uX2_readAgent U (nI q)) 74 (8 * 1 + q) = lN w := by rw [g3.2.2.1 74 _ (by unfold fA1l; omega)]; exact u74
      have x6 : fL (uX12_readAgent T) 6 (bsn 1 + q) = lN (conv 7 w) := by rw [g4.2.2.1 6 _ (by unfold fGl; omega)]; exact u6
      have hX := (f1.mo (A' := fun a j => fNc 1 a j ∨ (a = 76 ∧ j = q) ∨ (a = 77 ∧ 6 * q ≤ j ∧ j < 6 * q + 6)) (fun a j y => Or.inl y) (fun _ _ y => y)).tr (g3.mo (A' := fun a j => fNc 1 a j ∨ (a = 76 ∧ j = q) ∨ (a = 77 ∧ 6 * q ≤ j ∧ j < 6 * q + 6)) (B' := fNcl (8 * 1 + q)) (fun a j y => by unfold fEa fEc at y; unfold fNc; rcases y with (y | y) | y; exact Or.inl (Or.inl y); exact Or.inr (Or.inr y); exact Or.inr (Or.inl y)) (fun _ _ y => Or.inl y))
      have hS := (f2.mo (A' := fun a j => fGm a j ∨ (a = 3 ∧ (j = 1 ∨ (10 + 8 * q ≤ j ∧ j ≤ 16 + 8 * q)))) (B' := fNml (bsn 1 + q)) (fun a j y => Or.inl y) (fun _ _ y => y)).tr (g4.mo (fun a j y => y.elim Or.inl (fun y => Or.inr ⟨y.1, Or.inr ⟨y.2.1, y.2.2⟩⟩)) (fun _ _ y => Or.inl y))
      have LX : frL fLc fLcl μ (uX2_readAgent U (nI q)) := (fNc_L f1).tr (g3.mo (fun a j y => by unfold fEa fEc at y; rcases y with (y | y) | y; exact Or.inl y; exact Or.inr ⟨by omega, by omega⟩; exact Or.inr ⟨by omega, by omega⟩) (fun _ _ y => Or.inl y))
      have LS : frL fLm fLml ν (uX12_readAgent T) := (fNm_L f2).tr (g4.mo (fun a j y => y.elim Or.inl (fun y => Or.inr (Or.inl y.1))) (fun _ _ y => Or.inl y))
      generalize uX2_readAgent U (nI q) = X at g3 g5 x75 x74 hX LX ⊢
      generalize uX12_readAgent T = S at g4 g5 s3 x6 hS LS ⊢
      rw [s3, nI_1]
      have LS1 := LS.i (k := 3) (j := 1) (v := nI (q + 1)) (Or.inr (Or.inl rfl))
      have hS1 := hS.i (k := 3) (j := 1) (v := nI (q + 1)) (Or.inr ⟨rfl, Or.inl rfl⟩)
      have s31 : fI (fm_i S 3 1 (nI (q + 1))) 3 1 = nI (q + 1) := by rw [fI_i, if_pos ⟨rfl, rfl⟩]
      rcases g5 with ⟨k1, k2', k3⟩ | ⟨k1, k2', n', c, v, k3, k4, k5, k6, k7, k8⟩ | ⟨k1, k2', n', X', k3, k4, k5⟩
      · simp only [k1, k2', n10, if_neg n10, if_true, gbad, gb, false_implies, true_implies, not_false_eq_true, not_true_eq_false, true_and, and_true, implies_true, true_or, or_true, if_false]
        exact ⟨⟨vs, vs, w1, d2, vx, vs, vs, d5, g1⟩, ⟨vs3, w2, w3, g2⟩, LX, LS, Or.inl ⟨rfl, rfl, k3⟩⟩
      · obtain ⟨τ', hR⟩ := HDR_1 (v := v) (c := c) (S := fm_i S 3 1 (nI (q + 1))) hr hq hq6 hv hw hX hS1 x75 x74 s31 x6 k6 k7 (by rw [fI_i, if_neg (by omega)]; exact k8) (fun s hs => by rw [fI_i (μ := S), if_neg (by omega)]; exact k5 s hs)
        obtain ⟨r1, r2, r3⟩ := th_end (n0 := n) lx (LK_m (p := 1) (w := nI (q + 1)) k4) hR (by omega) LX LS1
        have ro := LR_o r3
        simp only [k1, k2', n10, if_neg n10, if_true, gbad, gb, false_implies, true_implies, not_false_eq_true, not_true_eq_false, true_and, and_true, implies_true, true_or, or_true, if_false]
        exact ⟨⟨vs, vs, w1, d2, vx, vs, vs, d5, g1⟩, ⟨vs3, w2, w3, g2, vs3, vs3, r2, ro⟩, r1, r3⟩
      · have lk5 := LK_m (p := 1) (w := nI (q + 1)) k3
        obtain ⟨z1, z2, z3⟩ := pfa lx lk5 1 (fun _ => rfl)
        have sg : gX12_isSign (fm_i S 3 1 (nI (q + 1))) 59 = 0 := (psg lx lk5 (c := 59) (by omega)).2.mpr k4
        simp only [k1, k2', n10, if_neg n10, pX12_readEnd, gX12_readEnd, uX12_readEnd, sg, if_true, gbad, gb, false_implies, true_implies, not_false_eq_true, not_true_eq_false, true_and, and_true, implies_true, true_or, or_true, if_false]
        rw [k5] at LX ⊢
        exact ⟨⟨vs, vs, w1, d2, vx, vs, vs, d5, g1⟩, ⟨vs3, w2, w3, g2, vs3, vs3⟩, LX, LS1.tr (fGm_L (fN_G z2)), Or.inl ⟨rfl, rfl, z3⟩⟩
end
