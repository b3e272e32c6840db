def sTt (τ : sg_T) (s v : Nat) : sg_T := fun a i => if a = 0 ∧ i = 9 + s then v else τ a i
theorem ms_c : ∀ m, m < 16 → ∀ s, s < 4 → (nI m >>> (nI s &&& 31)) &&& (1 : Int32) = (if m.testBit s then 1 else 0) ∧ (nI (16 * m) >>> (nI (4 + s) &&& 31)) &&& (1 : Int32) = (if m.testBit s then 1 else 0) ∧ (m.testBit s = false → nI m ||| ((1 : Int32) <<< (nI s &&& 31)) = nI (m + 2 ^ s) ∧ nI (16 * m) ||| ((1 : Int32) <<< (nI (4 + s) &&& 31)) = nI (16 * (m + 2 ^ s)) ∧ m + 2 ^ s < 16) := by decide +kernel
section
variable {b : Nat → Nat} {z l last : Nat} {K A V W P : Nat → Nat} {τ : sg_T} {μ ν X T : fm_T} {n m s v : Nat}
theorem HDR_t {m' : Nat} (hr : HDR τ m μ ν) (hs : s < 4) (f1 : frL (fun a j => fAc a j ∨ (a = 73 ∧ j = 11) ∨ (a = 84 ∧ j = s)) fA1l μ X) (f2 : frL (fun a j => fGm a j ∨ (a = 0 ∧ j = 22) ∨ (a = 3 ∧ j = 4 + s)) fGl ν T) (hm : m' < 16) (e73 : fI X 73 11 = nI m') (e22 : fI T 0 22 = nI (16 * m')) (e84 : fI X 84 s = nI v) (e4 : fI T 3 (4 + s) = nI v) (bd : (s = 0 → 1 ≤ v ∧ v ≤ 4) ∧ (s = 1 → 1 ≤ v ∧ v ≤ 99) ∧ (s = 2 → v ≤ 99) ∧ (s = 3 → 100 ≤ v ∧ v ≤ 300)) : HDR (sTt τ s v) m' X T := by
  obtain ⟨a1, a2, a3, a4, a5⟩ := hr
  have t : ∀ a i, ¬ (a = 0 ∧ i = 9 + s) → sTt τ s v a i = τ a i := fun a i h => by unfold sTt; rw [if_neg h]
  have ts : sTt τ s v 0 (9 + s) = v := by unfold sTt; rw [if_pos ⟨rfl, rfl⟩]
  have c : ∀ a j, 75 ≤ a → a ≤ 83 → fI X a j = fI μ a j := fun a j h1 h2 => f1.2.2.2 a j (by unfold fAc; omega)
  have d : ∀ j, j ≠ 4 + s → fI T 3 j = fI ν 3 j := fun j h => f2.2.2.2 3 j (by unfold fGm; omega)
  refine ⟨fun s' hs' => HDs_f (a1 s' hs') (c 75 s' (by omega) (by omega)) (d s' (by omega)) (fun i _ => f1.2.2.1 74 _ (by unfold fA1l; omega)) (fun i _ => f2.2.2.1 6 _ (by unfold fGl; omega)) (t _ _ (by omega)) (fun i _ => t _ _ (by omega)), HDa_f a2 (fun k j y => c k j (by omega) (by omega)) (fun j h1 h2 => d j (by omega)) (t _ _ (by omega)) (fun i => ⟨t _ _ (by omega), t _ _ (by omega)⟩), HDc_f a3 (fun k j y1 y2 => c k j (by omega) (by omega)) (fun j h1 h2 => d j (by omega)) (t _ _ (by omega)) (fun a i h1 h2 => t _ _ (by omega)) (fun i hi => t _ _ (by omega)), HDd_f a4 (fun k j y => c k j (by omega) (by omega)) (fun j h1 h2 => d j (by omega)) (t _ _ (by omega)) (fun i => ⟨t _ _ (by omega), t _ _ (by omega)⟩), fun i hi => ?_, ?_, hm, e73, e22, by rw [t 0 5 (by omega)]; exact a5.2.2.2.2.2⟩
  · by_cases y : i = s
    · subst y
      rw [ts]
      exact ⟨e84, e4⟩
    · rw [t 0 (9 + i) (by omega), f1.2.2.2 84 i (by unfold fAc; omega), d _ (by omega)]
      exact a5.1 i hi
  · have h := a5.2.1
    have q : s = 0 ∨ s = 1 ∨ s = 2 ∨ s = 3 := by omega
    rcases q with rfl | rfl | rfl | rfl
    · have ts' : sTt τ 0 v 0 9 = v := ts
      rw [ts', t 0 10 (by omega), t 0 11 (by omega), t 0 12 (by omega)]
      have := bd.1 rfl
      omega
    · have ts' : sTt τ 1 v 0 10 = v := ts
      rw [ts', t 0 9 (by omega), t 0 11 (by omega), t 0 12 (by omega)]
      have := bd.2.1 rfl
      omega
    · have ts' : sTt τ 2 v 0 11 = v := ts
      rw [ts', t 0 9 (by omega), t 0 10 (by omega), t 0 12 (by omega)]
      have := bd.2.2.1 rfl
      omega
    · have ts' : sTt τ 3 v 0 12 = v := ts
      rw [ts', t 0 9 (by omega), t 0 10 (by omega), t 0 11 (by omega)]
      have := bd.2.2.2 rfl
      omega
theorem se_0 (lx : LXs b z l last K A V W P) (lk : LK b z l last K A V W P n μ ν) (hr : HDR τ m μ ν) (k2 : K n = 2) : pX2_readSetting μ 0 ∧ bqM ν 4 ∧ (¬ gX2_readSetting μ 0 = 0 → ¬ gX7_isSign (uX2_readSetting μ 0) 59 = 0 → pX7_advance (uX2_readSetting μ 0)) ∧ LR b z l last K A V W P n μ ν (if gX2_readSetting μ 0 = 0 then 0 else if gX7_isSign (uX2_readSetting μ 0) 59 = 0 then gX7_fail (uX2_readSetting μ 0) 1 else 1) (bgM ν 4) (if gX2_readSetting μ 0 = 0 then uX2_readSetting μ 0 else if gX7_isSign (uX2_readSetting μ 0) 59 = 0 then uX7_fail (uX2_readSetting μ 0) 1 else uX7_advance (uX2_readSetting μ 0)) (buM ν 4) := by
  obtain ⟨-, -, -, -, a5⟩ := id hr
  obtain ⟨-, -, hm, e1, e2, -⟩ := a5
  obtain ⟨g1, g2, g3⟩ := ms_c m hm 0 (by omega)
  have ys : nI 0 = (0 : Int32) := rfl
  have yt : nI (4 + 0) = (4 : Int32) := rfl
  have yl : nI 1 = (1 : Int32) := rfl
  have yh : nI 4 = (4 : Int32) := rfl
  rw [ys] at g1 g3
  rw [yt] at g2 g3
  have wi : ¬ gX11_within μ 0 0 3 = 0 := by unfold gX11_within; decide
  have cs : (0 : Int32).toNatClampNeg = 0 := rfl
  have l1 : ([1, 1, 0, 100] : List Int32).getD 0 0 = 1 := rfl
  have l2 : ([4, 99, 99, 300] : List Int32).getD 0 0 = 4 := rfl
  have vs : vp_in (0 : Int32) 4 := vp_in_nI (n := 0) (by omega) (by decide)
  have ct : (((4 : Int32) + 4) - 4).toNatClampNeg = 4 := rfl
  have vt : vp_in (((4 : Int32) + 4) - 4) 130 := vp_in_nI (n := 4) (by omega) (by decide)
  have n10 : ¬ (1 : Int32) = 0 := by decide
  have n01 : ¬ (0 : Int32) = 1 := by decide
  have gb : ∀ (x : fm_T) (k : Int32), (gX7_fail x k = 0) = True := fun _ _ => eq_true rfl
  have q8 : ¬ (4 : Int32) = 8 := by decide
  have q3 : ¬ (4 : Int32) ≤ 3 := by decide
  unfold pX2_readSetting gX2_readSetting uX2_readSetting bqM bgM buM gX12_has
  by_cases tb : m.testBit 0 = true
  · rw [if_pos tb] at g1 g2
    simp only [e1, e2, g1, g2, if_neg wi, if_neg n10, if_neg q8, if_neg q3, q8, q3, if_true, gbad, gb, false_implies, true_implies, not_false_eq_true, not_true_eq_false, true_and, and_true, implies_true, true_or, wi, n10, if_false]
    obtain ⟨f1, f2, f3⟩ := pfa lx lk 3 (fun y => by omega)
    exact ⟨fAc_L (fN_A f1), fGm_L (fN_G f2), Or.inl ⟨rfl, rfl, f3⟩⟩
  · have tb' : m.testBit 0 = false := by simpa using tb
    obtain ⟨g4, g5, g6⟩ := g3 tb'
    rw [if_neg tb] at g1 g2
    simp only [e1, e2, g1, g2, g4, g5, cs, ct, l1, l2, if_neg wi, if_neg n01, if_neg q8, if_neg q3, q8, q3, if_true, gbad, gb, false_implies, true_implies, not_false_eq_true, not_true_eq_false, true_and, and_true, implies_true, true_or, wi, n01, if_false]
    have h1 : frL (fun a j => fAc a j ∨ (a = 73 ∧ j = 11) ∨ (a = 84 ∧ j = 0)) fA1l μ (fm_i μ 73 11 (nI (m + 2 ^ 0))) := (frL.rf _ _ _).i (Or.inr (Or.inl ⟨rfl, rfl⟩))
    have h2 : frL (fun a j => fGm a j ∨ (a = 0 ∧ j = 22) ∨ (a = 3 ∧ j = 4 + 0)) fGl ν (fm_i ν 0 22 (nI (16 * (m + 2 ^ 0)))) := (frL.rf _ _ _).i (Or.inr (Or.inl ⟨rfl, rfl⟩))
    have lk1 : LK b z l last K A V W P n (fm_i μ 73 11 (nI (m + 2 ^ 0))) (fm_i ν 0 22 (nI (16 * (m + 2 ^ 0)))) := LK_f lk ((frL.rf (fun a _ => a = 73) fN μ).i rfl) ((frL.rf (fun a j => a = 0 ∧ j = 22) fN ν).i ⟨rfl, rfl⟩) (fun k j y => by omega) (fun _ _ q => by unfold fN at q; exact q.elim) (fun k j y => by omega) (fun _ _ q => by unfold fN at q; exact q.elim)
    have u73 : fI (fm_i μ 73 11 (nI (m + 2 ^ 0))) 73 11 = nI (m + 2 ^ 0) := by rw [fI_i, if_pos ⟨rfl, rfl⟩]
    have u22 : fI (fm_i ν 0 22 (nI (16 * (m + 2 ^ 0)))) 0 22 = nI (16 * (m + 2 ^ 0)) := by rw [fI_i, if_pos ⟨rfl, rfl⟩]
    generalize fm_i μ 73 11 (nI (m + 2 ^ 0)) = X1 at h1 lk1 u73 ⊢
    generalize fm_i ν 0 22 (nI (16 * (m + 2 ^ 0))) = Y1 at h2 lk1 u22 ⊢
    obtain ⟨p1, p2, p3, p4, p5⟩ := pad lx lk1 (by omega) (by omega)
    obtain ⟨t1, t2, t3, t4, t5⟩ := ptn lx p5 (lo := 1) (hi := 4) (by omega) (by omega)
    rw [yl, yh] at t1 t2 t3 t4 t5
    have h3 := h1.tr (((fA1_A p3).tr t3).mo (fun _ _ y => Or.inl y) (fun _ _ y => y))
    have h4 := h2.tr (((fG_G p4).tr t4).mo (fun _ _ y => Or.inl y) (fun _ _ y => y))
    have w73 : fI (uX7_takeNumber (uX7_advance X1) 1 4) 73 11 = nI (m + 2 ^ 0) := by rw [t3.2.2.2 73 11 (by unfold fAc; omega), p3.2.2.2 73 11 (by unfold fA1; omega)]; exact u73
    have w22 : fI (uX12_readNumber (uX12_go Y1) 1 4) 0 22 = nI (16 * (m + 2 ^ 0)) := by rw [t4.2.2.2 0 22 (by unfold fGm; omega), p4.2.2.2 0 22 (by unfold fG; omega)]; exact u22
    generalize uX7_takeNumber (uX7_advance X1) 1 4 = X2 at t3 t5 h3 w73 ⊢
    generalize uX12_readNumber (uX12_go Y1) 1 4 = Y2 at t4 t5 h4 w22 ⊢
    rcases t5 with ⟨a1, a2, a3⟩ | ⟨d1, d2, d3, d4, d5, d6, d7⟩
    · simp only [a1, a2, if_true, not_true_eq_false, false_implies, and_true]
      exact ⟨⟨p1, vs, vs, t1, vs⟩, ⟨p2, t2⟩, trivial, (h3.i (Or.inr (Or.inr ⟨rfl, rfl⟩))).mo (fun a j y => by unfold fLc; unfold fAc at *; omega) (fun _ _ y => Or.inl y), h4.mo (fun a j y => by unfold fLm; unfold fGm at *; omega) (fun _ _ y => Or.inl y), Or.inl ⟨rfl, rfl, FQ_c a3 (by omega)⟩⟩
    · have ne : ¬ nI (V (n + 1)) = -1 := nI_m1 (by omega)
      simp only [d4, d5, d6, if_neg ne, if_neg n10, ne, n10, if_false, not_false_eq_true, true_implies, and_true]
      have h5 := h3.i (k := 84) (j := 0) (v := nI (V (n + 1))) (Or.inr (Or.inr ⟨rfl, rfl⟩))
      have h6 := h4.i (k := 3) (j := 4) (v := nI (V (n + 1))) (Or.inr (Or.inr ⟨rfl, rfl⟩))
      have hR := HDR_t (s := 0) (v := V (n + 1)) hr (by omega) h5 h6 g6 (by rw [fI_i, if_neg (by omega)]; exact w73) (by rw [fI_i, if_neg (by omega)]; exact w22) (by rw [fI_i, if_pos ⟨rfl, rfl⟩]) (by rw [fI_i, if_pos ⟨rfl, rfl⟩]) ⟨fun _ => ⟨d2, d3⟩, fun y => by omega, fun y => by omega, fun y => by omega⟩
      obtain ⟨r1, r2, r3⟩ := th_end (n0 := n) lx (LK_c (a := 84) (j := 0) (v := nI (V (n + 1))) (p := 4) (w := nI (V (n + 1))) d7 (by omega)) hR (by omega) (h5.mo (fun a j y => by unfold fLc; unfold fAc at *; omega) (fun _ _ y => Or.inl y)) (h6.mo (fun a j y => by unfold fLm; unfold fGm at *; omega) (fun _ _ y => Or.inl y))
      have ro : gX12_readEnd (fm_i Y2 3 4 (nI (V (n + 1)))) = 0 ∨ gX12_readEnd (fm_i Y2 3 4 (nI (V (n + 1)))) = 1 := by
        rcases r3.2.2 with y | y
        · exact Or.inl y.2.1
        · exact Or.inr y.2.1
      exact ⟨⟨p1, vs, vs, t1, vs⟩, ⟨p2, t2, vt, r2, ro⟩, r1, r3⟩
theorem se_1 (lx : LXs b z l last K A V W P) (lk : LK b z l last K A V W P n μ ν) (hr : HDR τ m μ ν) (k2 : K n = 2) : pX2_readSetting μ 1 ∧ bqM ν 5 ∧ (¬ gX2_readSetting μ 1 = 0 → ¬ gX7_isSign (uX2_readSetting μ 1) 59 = 0 → pX7_advance (uX2_readSetting μ 1)) ∧ LR b z l last K A V W P n μ ν (if gX2_readSetting μ 1 = 0 then 0 else if gX7_isSign (uX2_readSetting μ 1) 59 = 0 then gX7_fail (uX2_readSetting μ 1) 1 else 1) (bgM ν 5) (if gX2_readSetting μ 1 = 0 then uX2_readSetting μ 1 else if gX7_isSign (uX2_readSetting μ 1) 59 = 0 then uX7_fail (uX2_readSetting μ 1) 1 else uX7_advance (uX2_readSetting μ 1)) (buM ν 5) := by
  obtain ⟨-, -, -, -, a5⟩ := id hr
  obtain ⟨-, -, hm, e1, e2, -⟩ := a5
  obtain ⟨g1, g2, g3⟩ := ms_c m hm 1 (by omega)
  have ys : nI 1 = (1 : Int32) := rfl
  have yt : nI (4 + 1) = (5 : Int32) := rfl
  have yl : nI 1 = (1 : Int32) := rfl
  have yh : nI 99 = (99 : Int32) := rfl
  rw [ys] at g1 g3
  rw [yt] at g2 g3
  have wi : ¬ gX11_within μ 1 0 3 = 0 := by unfold gX11_within; decide
  have cs : (1 : Int32).toNatClampNeg = 1 := rfl
  have l1 : ([1, 1, 0, 100] : List Int32).getD 1 0 = 1 := rfl
  have l2 : ([4, 99, 99, 300] : List Int32).getD 1 0 = 99 := rfl
  have vs : vp_in (1 : Int32) 4 := vp_in_nI (n := 1) (by omega) (by decide)
  have ct : (((4 : Int32) + 5) - 4).toNatClampNeg = 5 := rfl
  have vt : vp_in (((4 : Int32) + 5) - 4) 130 := vp_in_nI (n := 5) (by omega) (by decide)
  have n10 : ¬ (1 : Int32) = 0 := by decide
  have n01 : ¬ (0 : Int32) = 1 := by decide
  have gb : ∀ (x : fm_T) (k : Int32), (gX7_fail x k = 0) = True := fun _ _ => eq_true rfl
  have q8 : ¬ (5 : Int32) = 8 := by decide
  have q4 : ¬ (5 : Int32) = 4 := by decide
  have q3 : ¬ (5 : Int32) ≤ 3 := by decide
  unfold pX2_readSetting gX2_readSetting uX2_readSetting bqM bgM buM gX12_has
  by_cases tb : m.testBit 1 = true
  · rw [if_pos tb] at g1 g2
    simp only [e1, e2, g1, g2, if_neg wi, if_neg n10, if_neg q8, if_neg q4, if_neg q3, q8, q4, q3, if_true, gbad, gb, false_implies, true_implies, not_false_eq_true, not_true_eq_false, true_and, and_true, implies_true, true_or, wi, n10, if_false]
    obtain ⟨f1, f2, f3⟩ := pfa lx lk 3 (fun y => by omega)
    exact ⟨fAc_L (fN_A f1), fGm_L (fN_G f2), Or.inl ⟨rfl, rfl, f3⟩⟩
  · have tb' : m.testBit 1 = false := by simpa using tb
    obtain ⟨g4, g5, g6⟩ := g3 tb'
    rw [if_neg tb] at g1 g2
    simp only [e1, e2, g1, g2, g4, g5, cs, ct, l1, l2, if_neg wi, if_neg n01, if_neg q8, if_neg q4, if_neg q3, q8, q4, q3, if_true, gbad, gb, false_implies, true_implies, not_false_eq_true, not_true_eq_false, true_and, and_true, implies_true, true_or, wi, n01, if_false]
    have h1 : frL (fun a j => fAc a j ∨ (a = 73 ∧ j = 11) ∨ (a = 84 ∧ j = 1)) fA1l μ (fm_i μ 73 11 (nI (m + 2 ^ 1))) := (frL.rf _ _ _).i (Or.inr (Or.inl ⟨rfl, rfl⟩))
    have h2 : frL (fun a j => fGm a j ∨ (a = 0 ∧ j = 22) ∨ (a = 3 ∧ j = 4 + 1)) fGl ν (fm_i ν 0 22 (nI (16 * (m + 2 ^ 1)))) := (frL.rf _ _ _).i (Or.inr (Or.inl ⟨rfl, rfl⟩))
    have lk1 : LK b z l last K A V W P n (fm_i μ 73 11 (nI (m + 2 ^ 1))) (fm_i ν 0 22 (nI (16 * (m + 2 ^ 1)))) := LK_f lk ((frL.rf (fun a _ => a = 73) fN μ).i rfl) ((frL.rf (fun a j => a = 0 ∧ j = 22) fN ν).i ⟨rfl, rfl⟩) (fun k j y => by omega) (fun _ _ q => by unfold fN at q; exact q.elim) (fun k j y => by omega) (fun _ _ q => by unfold fN at q; exact q.elim)
    have u73 : fI (fm_i μ 73 11 (nI (m + 2 ^ 1))) 73 11 = nI (m + 2 ^ 1) := by rw [fI_i, if_pos ⟨rfl, rfl⟩]
    have u22 : fI (fm_i ν 0 22 (nI (16 * (m + 2 ^ 1)))) 0 22 = nI (16 * (m + 2 ^ 1)) := by rw [fI_i, if_pos ⟨rfl, rfl⟩]
    generalize fm_i μ 73 11 (nI (m + 2 ^ 1)) = X1 at h1 lk1 u73 ⊢
    generalize fm_i ν 0 22 (nI (16 * (m + 2 ^ 1))) = Y1 at h2 lk1 u22 ⊢
    obtain ⟨p1, p2, p3, p4, p5⟩ := pad lx lk1 (by omega) (by omega)
    obtain ⟨t1, t2, t3, t4, t5⟩ := ptn lx p5 (lo := 1) (hi := 99) (by omega) (by omega)
    rw [yl, yh] at t1 t2 t3 t4 t5
    have h3 := h1.tr (((fA1_A p3).tr t3).mo (fun _ _ y => Or.inl y) (fun _ _ y => y))
    have h4 := h2.tr (((fG_G p4).tr t4).mo (fun _ _ y => Or.inl y) (fun _ _ y => y))
    have w73 : fI (uX7_takeNumber (uX7_advance X1) 1 99) 73 11 = nI (m + 2 ^ 1) := by rw [t3.2.2.2 73 11 (by unfold fAc; omega), p3.2.2.2 73 11 (by unfold fA1; omega)]; exact u73
    have w22 : fI (uX12_readNumber (uX12_go Y1) 1 99) 0 22 = nI (16 * (m + 2 ^ 1)) := by rw [t4.2.2.2 0 22 (by unfold fGm; omega), p4.2.2.2 0 22 (by unfold fG; omega)]; exact u22
    generalize uX7_takeNumber (uX7_advance X1) 1 99 = X2 at t3 t5 h3 w73 ⊢
    generalize uX12_readNumber (uX12_go Y1) 1 99 = Y2 at t4 t5 h4 w22 ⊢
    rcases t5 with ⟨a1, a2, a3⟩ | ⟨d1, d2, d3, d4, d5, d6, d7⟩
    · simp only [a1, a2, if_true, not_true_eq_false, false_implies, and_true]
      exact ⟨⟨p1, vs, vs, t1, vs⟩, ⟨p2, t2⟩, trivial, (h3.i (Or.inr (Or.inr ⟨rfl, rfl⟩))).mo (fun a j y => by unfold fLc; unfold fAc at *; omega) (fun _ _ y => Or.inl y), h4.mo (fun a j y => by unfold fLm; unfold fGm at *; omega) (fun _ _ y => Or.inl y), Or.inl ⟨rfl, rfl, FQ_c a3 (by omega)⟩⟩
    · have ne : ¬ nI (V (n + 1)) = -1 := nI_m1 (by omega)
      simp only [d4, d5, d6, if_neg ne, if_neg n10, ne, n10, if_false, not_false_eq_true, true_implies, and_true]
      have h5 := h3.i (k := 84) (j := 1) (v := nI (V (n + 1))) (Or.inr (Or.inr ⟨rfl, rfl⟩))
      have h6 := h4.i (k := 3) (j := 5) (v := nI (V (n + 1))) (Or.inr (Or.inr ⟨rfl, rfl⟩))
      have hR := HDR_t (s := 1) (v := V (n + 1)) hr (by omega) h5 h6 g6 (by rw [fI_i, if_neg (by omega)]; exact w73) (by rw [fI_i, if_neg (by omega)]; exact w22) (by rw [fI_i, if_pos ⟨rfl, rfl⟩]) (by rw [fI_i, if_pos ⟨rfl, rfl⟩]) ⟨fun y => by omega, fun _ => ⟨d2, d3⟩, fun y => by omega, fun y => by omega⟩
      obtain ⟨r1, r2, r3⟩ := th_end (n0 := n) lx (LK_c (a := 84) (j := 1) (v := nI (V (n + 1))) (p := 5) (w := nI (V (n + 1))) d7 (by omega)) hR (by omega) (h5.mo (fun a j y => by unfold fLc; unfold fAc at *; omega) (fun _ _ y => Or.inl y)) (h6.mo (fun a j y => by unfold fLm; unfold fGm at *; omega) (fun _ _ y => Or.inl y))
      have ro : gX12_readEnd (fm_i Y2 3 5 (nI (V (n + 1)))) = 0 ∨ gX12_readEnd (fm_i Y2 3 5 (nI (V (n + 1)))) = 1 := by
        rcases r3.2.2 with y | y
        · exact Or.inl y.2.1
        · exact Or.inr y.2.1
      exact ⟨⟨p1, vs, vs, t1, vs⟩, ⟨p2, t2, vt, r2, ro⟩, r1, r3⟩
theorem se_2 (lx : LXs b z l last K A V W P) (lk : LK b z l last K A V W P n μ ν) (hr : HDR τ m μ ν) (k2 : K n = 2) : pX2_readSetting μ 2 ∧ bqM ν 6 ∧ (¬ gX2_readSetting μ 2 = 0 → ¬ gX7_isSign (uX2_readSetting μ 2) 59 = 0 → pX7_advance (uX2_readSetting μ 2)) ∧ LR b z l last K A V W P n μ ν (if gX2_readSetting μ 2 = 0 then 0 else if gX7_isSign (uX2_readSetting μ 2) 59 = 0 then gX7_fail (uX2_readSetting μ 2) 1 else 1) (bgM ν 6) (if gX2_readSetting μ 2 = 0 then uX2_readSetting μ 2 else if gX7_isSign (uX2_readSetting μ 2) 59 = 0 then uX7_fail (uX2_readSetting μ 2) 1 else uX7_advance (uX2_readSetting μ 2)) (buM ν 6) := by
  obtain ⟨-, -, -, -, a5⟩ := id hr
  obtain ⟨-, -, hm, e1, e2, -⟩ := a5
  obtain ⟨g1, g2, g3⟩ := ms_c m hm 2 (by omega)
  have ys : nI 2 = (2 : Int32) := rfl
  have yt : nI (4 + 2) = (6 : Int32) := rfl
  have yl : nI 0 = (0 : Int32) := rfl
  have yh : nI 99 = (99 : Int32) := rfl
  rw [ys] at g1 g3
  rw [yt] at g2 g3
  have wi : ¬ gX11_within μ 2 0 3 = 0 := by unfold gX11_within; decide
  have cs : (2 : Int32).toNatClampNeg = 2 := rfl
  have l1 : ([1, 1, 0, 100] : List Int32).getD 2 0 = 0 := rfl
  have l2 : ([4, 99, 99, 300] : List Int32).getD 2 0 = 99 := rfl
  have vs : vp_in (2 : Int32) 4 := vp_in_nI (n := 2) (by omega) (by decide)
  have ct : (((4 : Int32) + 6) - 4).toNatClampNeg = 6 := rfl
  have vt : vp_in (((4 : Int32) + 6) - 4) 130 := vp_in_nI (n := 6) (by omega) (by decide)
  have n10 : ¬ (1 : Int32) = 0 := by decide
  have n01 : ¬ (0 : Int32) = 1 := by decide
  have gb : ∀ (x : fm_T) (k : Int32), (gX7_fail x k = 0) = True := fun _ _ => eq_true rfl
  have q8 : ¬ (6 : Int32) = 8 := by decide
  have q4 : ¬ (6 : Int32) = 4 := by decide
  have q5 : ¬ (6 : Int32) = 5 := by decide
  have q3 : ¬ (6 : Int32) ≤ 3 := by decide
  unfold pX2_readSetting gX2_readSetting uX2_readSetting bqM bgM buM gX12_has
  by_cases tb : m.testBit 2 = true
  · rw [if_pos tb] at g1 g2
    simp only [e1, e2, g1, g2, if_neg wi, if_neg n10, if_neg q8, if_neg q4, if_neg q5, if_neg q3, q8, q4, q5, q3, if_true, gbad, gb, false_implies, true_implies, not_false_eq_true, not_true_eq_false, true_and, and_true, implies_true, true_or, wi, n10, if_false]
    obtain ⟨f1, f2, f3⟩ := pfa lx lk 3 (fun y => by omega)
    exact ⟨fAc_L (fN_A f1), fGm_L (fN_G f2), Or.inl ⟨rfl, rfl, f3⟩⟩
  · have tb' : m.testBit 2 = false := by simpa using tb
    obtain ⟨g4, g5, g6⟩ := g3 tb'
    rw [if_neg tb] at g1 g2
    simp only [e1, e2, g1, g2, g4, g5, cs, ct, l1, l2, if_neg wi, if_neg n01, if_neg q8, if_neg q4, if_neg q5, if_neg q3, q8, q4, q5, q3, if_true, gbad, gb, false_implies, true_implies, not_false_eq_true, not_true_eq_false, true_and, and_true, implies_true, true_or, wi, n01, if_false]
    have h1 : frL (fun a j => fAc a j ∨ (a = 73 ∧ j = 11) ∨ (a = 84 ∧ j = 2)) fA1l μ (fm_i μ 73 11 (nI (m + 2 ^ 2))) := (frL.rf _ _ _).i (Or.inr (Or.inl ⟨rfl, rfl⟩))
    have h2 : frL (fun a j => fGm a j ∨ (a = 0 ∧ j = 22) ∨ (a = 3 ∧ j = 4 + 2)) fGl ν (fm_i ν 0 22 (nI (16 * (m + 2 ^ 2)))) := (frL.rf _ _ _).i (Or.inr (Or.inl ⟨rfl, rfl⟩))
    have lk1 : LK b z l last K A V W P n (fm_i μ 73 11 (nI (m + 2 ^ 2))) (fm_i ν 0 22 (nI (16 * (m + 2 ^ 2)))) := LK_f lk ((frL.rf (fun a _ => a = 73) fN μ).i rfl) ((frL.rf (fun a j => a = 0 ∧ j = 22) fN ν).i ⟨rfl, rfl⟩) (fun k j y => by omega) (fun _ _ q => by unfold fN at q; exact q.elim) (fun k j y => by omega) (fun _ _ q => by unfold fN at q; exact q.elim)
    have u73 : fI (fm_i μ 73 11 (nI (m + 2 ^ 2))) 73 11 = nI (m + 2 ^ 2) := by rw [fI_i, if_pos ⟨rfl, rfl⟩]
    have u22 : fI (fm_i ν 0 22 (nI (16 * (m + 2 ^ 2)))) 0 22 = nI (16 * (m + 2 ^ 2)) := by rw [fI_i, if_pos ⟨rfl, rfl⟩]
    generalize fm_i μ 73 11 (nI (m + 2 ^ 2)) = X1 at h1 lk1 u73 ⊢
    generalize fm_i ν 0 22 (nI (16 * (m + 2 ^ 2))) = Y1 at h2 lk1 u22 ⊢
    obtain ⟨p1, p2, p3, p4, p5⟩ := pad lx lk1 (by omega) (by omega)
    obtain ⟨t1, t2, t3, t4, t5⟩ := ptn lx p5 (lo := 0) (hi := 99) (by omega) (by omega)
    rw [yl, yh] at t1 t2 t3 t4 t5
    have h3 := h1.tr (((fA1_A p3).tr t3).mo (fun _ _ y => Or.inl y) (fun _ _ y => y))
    have h4 := h2.tr (((fG_G p4).tr t4).mo (fun _ _ y => Or.inl y) (fun _ _ y => y))
    have w73 : fI (uX7_takeNumber (uX7_advance X1) 0 99) 73 11 = nI (m + 2 ^ 2) := by rw [t3.2.2.2 73 11 (by unfold fAc; omega), p3.2.2.2 73 11 (by unfold fA1; omega)]; exact u73
    have w22 : fI (uX12_readNumber (uX12_go Y1) 0 99) 0 22 = nI (16 * (m + 2 ^ 2)) := by rw [t4.2.2.2 0 22 (by unfold fGm; omega), p4.2.2.2 0 22 (by unfold fG; omega)]; exact u22
    generalize uX7_takeNumber (uX7_advance X1) 0 99 = X2 at t3 t5 h3 w73 ⊢
    generalize uX12_readNumber (uX12_go Y1) 0 99 = Y2 at t4 t5 h4 w22 ⊢
    rcases t5 with ⟨a1, a2, a3⟩ | ⟨d1, d2, d3, d4, d5, d6, d7⟩
    · simp only [a1, a2, if_true, not_true_eq_false, false_implies, and_true]
      exact ⟨⟨p1, vs, vs, t1, vs⟩, ⟨p2, t2⟩, trivial, (h3.i (Or.inr (Or.inr ⟨rfl, rfl⟩))).mo (fun a j y => by unfold fLc; unfold fAc at *; omega) (fun _ _ y => Or.inl y), h4.mo (fun a j y => by unfold fLm; unfold fGm at *; omega) (fun _ _ y => Or.inl y), Or.inl ⟨rfl, rfl, FQ_c a3 (by omega)⟩⟩
    · have ne : ¬ nI (V (n + 1)) = -1 := nI_m1 (by omega)
      simp only [d4, d5, d6, if_neg ne, if_neg n10, ne, n10, if_false, not_false_eq_true, true_implies, and_true]
      have h5 := h3.i (k := 84) (j := 2) (v := nI (V (n + 1))) (Or.inr (Or.inr ⟨rfl, rfl⟩))
      have h6 := h4.i (k := 3) (j := 6) (v := nI (V (n + 1))) (Or.inr (Or.inr ⟨rfl, rfl⟩))
      have hR := HDR_t (s := 2) (v := V (n + 1)) hr (by omega) h5 h6 g6 (by rw [fI_i, if_neg (by omega)]; exact w73) (by rw [fI_i, if_neg (by omega)]; exact w22) (by rw [fI_i, if_pos ⟨rfl, rfl⟩]) (by rw [fI_i, if_pos ⟨rfl, rfl⟩]) ⟨fun y => by omega, fun y => by omega, fun _ => d3, fun y => by omega⟩
      obtain ⟨r1, r2, r3⟩ := th_end (n0 := n) lx (LK_c (a := 84) (j := 2) (v := nI (V (n + 1))) (p := 6) (w := nI (V (n + 1))) d7 (by omega)) hR (by omega) (h5.mo (fun a j y => by unfold fLc; unfold fAc at *; omega) (fun _ _ y => Or.inl y)) (h6.mo (fun a j y => by unfold fLm; unfold fGm at *; omega) (fun _ _ y => Or.inl y))
      have ro : gX12_readEnd (fm_i Y2 3 6 (nI (V (n + 1)))) = 0 ∨ gX12_readEnd (fm_i Y2 3 6 (nI (V (n + 1)))) = 1 := by
        rcases r3.2.2 with y | y
        · exact Or.inl y.2.1
        · exact Or.inr y.2.1
      exact ⟨⟨p1, vs, vs, t1, vs⟩, ⟨p2, t2, vt, r2, ro⟩, r1, r3⟩
theorem se_3 (lx : LXs b z l last K A V W P) (lk : LK b z l last K A V W P n μ ν) (hr : HDR τ m μ ν) (k2 : K n = 2) : pX2_readSetting μ 3 ∧ bqM ν 7 ∧ (¬ gX2_readSetting μ 3 = 0 → ¬ gX7_isSign (uX2_readSetting μ 3) 59 = 0 → pX7_advance (uX2_readSetting μ 3)) ∧ LR b z l last K A V W P n μ ν (if gX2_readSetting μ 3 = 0 then 0 else if gX7_isSign (uX2_readSetting μ 3) 59 = 0 then gX7_fail (uX2_readSetting μ 3) 1 else 1) (bgM ν 7) (if gX2_readSetting μ 3 = 0 then uX2_readSetting μ 3 else if gX7_isSign (uX2_readSetting μ 3) 59 = 0 then uX7_fail (uX2_readSetting μ 3) 1 else uX7_advance (uX2_readSetting μ 3)) (buM ν 7) := by
  obtain ⟨-, -, -, -, a5⟩ := id hr
  obtain ⟨-, -, hm, e1, e2, -⟩ := a5
  obtain ⟨g1, g2, g3⟩ := ms_c m hm 3 (by omega)
  have ys : nI 3 = (3 : Int32) := rfl
  have yt : nI (4 + 3) = (7 : Int32) := rfl
  have yl : nI 100 = (100 : Int32) := rfl
  have yh : nI 300 = (300 : Int32) := rfl
  rw [ys] at g1 g3
  rw [yt] at g2 g3
  have wi : ¬ gX11_within μ 3 0 3 = 0 := by unfold gX11_within; decide
  have cs : (3 : Int32).toNatClampNeg = 3 := rfl
  have l1 : ([1, 1, 0, 100] : List Int32).getD 3 0 = 100 := rfl
  have l2 : ([4, 99, 99, 300] : List Int32).getD 3 0 = 300 := rfl
  have vs : vp_in (3 : Int32) 4 := vp_in_nI (n := 3) (by omega) (by decide)
  have ct : (((4 : Int32) + 7) - 4).toNatClampNeg = 7 := rfl
  have vt : vp_in (((4 : Int32) + 7) - 4) 130 := vp_in_nI (n := 7) (by omega) (by decide)
  have n10 : ¬ (1 : Int32) = 0 := by decide
  have n01 : ¬ (0 : Int32) = 1 := by decide
  have gb : ∀ (x : fm_T) (k : Int32), (gX7_fail x k = 0) = True := fun _ _ => eq_true rfl
  have q8 : ¬ (7 : Int32) = 8 := by decide
  have q4 : ¬ (7 : Int32) = 4 := by decide
  have q5 : ¬ (7 : Int32) = 5 := by decide
  have q6 : ¬ (7 : Int32) = 6 := by decide
  have q3 : ¬ (7 : Int32) ≤ 3 := by decide
  unfold pX2_readSetting gX2_readSetting uX2_readSetting bqM bgM buM gX12_has
  by_cases tb : m.testBit 3 = true
  · rw [if_pos tb] at g1 g2
    simp only [e1, e2, g1, g2, if_neg wi, if_neg n10, if_neg q8, if_neg q4, if_neg q5, if_neg q6, if_neg q3, q8, q4, q5, q6, q3, if_true, gbad, gb, false_implies, true_implies, not_false_eq_true, not_true_eq_false, true_and, and_true, implies_true, true_or, wi, n10, if_false]
    obtain ⟨f1, f2, f3⟩ := pfa lx lk 3 (fun y => by omega)
    exact ⟨fAc_L (fN_A f1), fGm_L (fN_G f2), Or.inl ⟨rfl, rfl, f3⟩⟩
  · have tb' : m.testBit 3 = false := by simpa using tb
    obtain ⟨g4, g5, g6⟩ := g3 tb'
    rw [if_neg tb] at g1 g2
    simp only [e1, e2, g1, g2, g4, g5, cs, ct, l1, l2, if_neg wi, if_neg n01, if_neg q8, if_neg q4, if_neg q5, if_neg q6, if_neg q3, q8, q4, q5, q6, q3, if_true, gbad, gb, false_implies, true_implies, not_false_eq_true, not_true_eq_false, true_and, and_true, implies_true, true_or, wi, n01, if_false]
    have h1 : frL (fun a j => fAc a j ∨ (a = 73 ∧ j = 11) ∨ (a = 84 ∧ j = 3)) fA1l μ (fm_i μ 73 11 (nI (m + 2 ^ 3))) := (frL.rf _ _ _).i (Or.inr (Or.inl ⟨rfl, rfl⟩))
    have h2 : frL (fun a j => fGm a j ∨ (a = 0 ∧ j = 22) ∨ (a = 3 ∧ j = 4 + 3)) fGl ν (fm_i ν 0 22 (nI (16 * (m + 2 ^ 3)))) := (frL.rf _ _ _).i (Or.inr (Or.inl ⟨rfl, rfl⟩))
    have lk1 : LK b z l last K A V W P n (fm_i μ 73 11 (nI (m + 2 ^ 3))) (fm_i ν 0 22 (nI (16 * (m + 2 ^ 3)))) := LK_f lk ((frL.rf (fun a _ => a = 73) fN μ).i rfl) ((frL.rf (fun a j => a = 0 ∧ j = 22) fN ν).i ⟨rfl, rfl⟩) (fun k j y => by omega) (fun _ _ q => by unfold fN at q; exact q.elim) (fun k j y => by omega) (fun _ _ q => by unfold fN at q; exact q.elim)
    have u73 : fI (fm_i μ 73 11 (nI (m + 2 ^ 3))) 73 11 = nI (m + 2 ^ 3) := by rw [fI_i, if_pos ⟨rfl, rfl⟩]
    have u22 : fI (fm_i ν 0 22 (nI (16 * (m + 2 ^ 3)))) 0 22 = nI (16 * (m + 2 ^ 3)) := by rw [fI_i, if_pos ⟨rfl, rfl⟩]
    generalize fm_i μ 73 11 (nI (m + 2 ^ 3)) = X1 at h1 lk1 u73 ⊢
    generalize fm_i ν 0 22 (nI (16 * (m + 2 ^ 3))) = Y1 at h2 lk1 u22 ⊢
    obtain ⟨p1, p2, p3, p4, p5⟩ := pad lx lk1 (by omega) (by omega)
    obtain ⟨t1, t2, t3, t4, t5⟩ := ptn lx p5 (lo := 100) (hi := 300) (by omega) (by omega)
    rw [yl, yh] at t1 t2 t3 t4 t5
    have h3 := h1.tr (((fA1_A p3).tr t3).mo (fun _ _ y => Or.inl y) (fun _ _ y => y))
    have h4 := h2.tr (((fG_G p4).tr t4).mo (fun _ _ y => Or.inl y) (fun _ _ y => y))
    have w73 : fI (uX7_takeNumber (uX7_advance X1) 100 300) 73 11 = nI (m + 2 ^ 3) := by rw [t3.2.2.2 73 11 (by unfold fAc; omega), p3.2.2.2 73 11 (by unfold fA1; omega)]; exact u73
    have w22 : fI (uX12_readNumber (uX12_go Y1) 100 300) 0 22 = nI (16 * (m + 2 ^ 3)) := by rw [t4.2.2.2 0 22 (by unfold fGm; omega), p4.2.2.2 0 22 (by unfold fG; omega)]; exact u22
    generalize uX7_takeNumber (uX7_advance X1) 100 300 = X2 at t3 t5 h3 w73 ⊢
    generalize uX12_readNumber (uX12_go Y1) 100 300 = Y2 at t4 t5 h4 w22 ⊢
    rcases t5 with ⟨a1, a2, a3⟩ | ⟨d1, d2, d3, d4, d5, d6, d7⟩
    · simp only [a1, a2, if_true, not_true_eq_false, false_implies, and_true]
      exact ⟨⟨p1, vs, vs, t1, vs⟩, ⟨p2, t2⟩, trivial, (h3.i (Or.inr (Or.inr ⟨rfl, rfl⟩))).mo (fun a j y => by unfold fLc; unfold fAc at *; omega) (fun _ _ y => Or.inl y), h4.mo (fun a j y => by unfold fLm; unfold fGm at *; omega) (fun _ _ y => Or.inl y), Or.inl ⟨rfl, rfl, FQ_c a3 (by omega)⟩⟩
    · have ne : ¬ nI (V (n + 1)) = -1 := nI_m1 (by omega)
      simp only [d4, d5, d6, if_neg ne, if_neg n10, ne, n10, if_false, not_false_eq_true, true_implies, and_true]
      have h5 := h3.i (k := 84) (j := 3) (v := nI (V (n + 1))) (Or.inr (Or.inr ⟨rfl, rfl⟩))
      have h6 := h4.i (k := 3) (j := 7) (v := nI (V (n + 1))) (Or.inr (Or.inr ⟨rfl, rfl⟩))
      have hR := HDR_t (s := 3) (v := V (n + 1)) hr (by omega) h5 h6 g6 (by rw [fI_i, if_neg (by omega)]; exact w73) (by rw [fI_i, if_neg (by omega)]; exact w22) (by rw [fI_i, if_pos ⟨rfl, rfl⟩]) (by rw [fI_i, if_pos ⟨rfl, rfl⟩]) ⟨fun y => by omega, fun y => by omega, fun y => by omega, fun _ => ⟨d2, d3⟩⟩
      obtain ⟨r1, r2, r3⟩ := th_end (n0 := n) lx (LK_c (a := 84) (j := 3) (v := nI (V (n + 1))) (p := 7) (w := nI (V (n + 1))) d7 (by omega)) hR (by omega) (h5.mo (fun a j y => by unfold fLc; unfold fAc at *; omega) (fun _ _ y => Or.inl y)) (h6.mo (fun a j y => by unfold fLm; unfold fGm at *; omega) (fun _ _ y => Or.inl y))
      have ro : gX12_readEnd (fm_i Y2 3 7 (nI (V (n + 1)))) = 0 ∨ gX12_readEnd (fm_i Y2 3 7 (nI (V (n + 1)))) = 1 := by
        rcases r3.2.2 with y | y
        · exact Or.inl y.2.1
        · exact Or.inr y.2.1
      exact ⟨⟨p1, vs, vs, t1, vs⟩, ⟨p2, t2, vt, r2, ro⟩, r1, r3⟩
end
