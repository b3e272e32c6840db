def stR (μ μ' : fm_T) (S m : Nat) (f : Nat → Int32) : Prop := μ'.1 = μ.1 ∧ μ'.2.1 = μ.2.1 ∧ (∀ k j, fL μ' k j = fL μ k j) ∧ (∀ k j, (k = 9 → j ≠ 5) → (k = 10 → j < 14 * S ∨ 14 * S + 14 ≤ j) → fI μ' k j = fI μ k j) ∧ fI μ' 9 5 = nI (S + 1) ∧ ∀ j, j < m → fI μ' 10 (14 * S + j) = f j
theorem stR_set {μ μ' : fm_T} {S m j : Nat} {f : Nat → Int32} {v : Int32} (h : stR μ μ' S m f) (hS : S < 40) (hj : j < 14) (hm : j ≤ m) : stR μ (uX8_set μ' (nI S) (nI j) v) S (max m (j + 1)) (fun i => if i = j then v else f i) ∧ pX8_set μ' (nI S) (nI j) v := by
  obtain ⟨h1, h2, h3, h4, h5, h6⟩ := h
  have se := set_eq (μ := μ') (t := S) (j := j) (v := v) (S := S + 1) (by omega) h5 (by omega) hj
  rw [se.1]
  refine ⟨⟨h1, h2, h3, fun k i z1 z2 => ?_, ?_, fun i hi => ?_⟩, se.2⟩
  · rw [fI_i, if_neg (by omega)]; exact h4 k i z1 z2
  · rw [fI_i, if_neg (by omega)]; exact h5
  · rw [fI_i]
    by_cases e : i = j
    · rw [if_pos ⟨rfl, by omega⟩]; exact (if_pos e).symm
    · rw [if_neg (by omega)]; exact (h6 i (by omega)).trans (if_neg e).symm
theorem ae_lp {μ : fm_T} {S : Nat} (hS : S < 40) : ∀ (c i n : Nat) (μ' : fm_T), i + c = 14 → c < n → stR μ μ' S i (fun _ => 0) → stR μ (mX8_addEmpty_h23 n μ' (nI i)) S 14 (fun _ => 0) ∧ qX8_addEmpty_h23 n μ' (nI i) ∧ lX8_addEmpty_h23 n μ' (nI i) = nI S := by
  intro c
  induction c with
  | zero =>
    intro i n μ' h1 h2 h
    obtain ⟨n, rfl⟩ : ∃ m, n = m + 1 := ⟨n - 1, by omega⟩
    obtain rfl : i = 14 := by omega
    have e : (14 : Int32) ≤ nI 14 := by decide
    have e2 : fI μ' 9 5 - 1 = nI S := by rw [h.2.2.2.2.1]; exact nI_sub (a := S + 1) (b := 1) (by omega)
    simp only [mX8_addEmpty_h23, qX8_addEmpty_h23, lX8_addEmpty_h23, if_pos e]
    exact ⟨h, fun z => absurd e z, e2⟩
  | succ c ih =>
    intro i n μ' h1 h2 h
    obtain ⟨n, rfl⟩ : ∃ m, n = m + 1 := ⟨n - 1, by omega⟩
    have e : ¬ (14 : Int32) ≤ nI i := fun z => by have := (nI_leI (a := 14) (by omega) (by omega)).mp z; omega
    have e2 : fI μ' 9 5 - 1 = nI S := by rw [h.2.2.2.2.1]; exact nI_sub (a := S + 1) (b := 1) (by omega)
    obtain ⟨s1, s2⟩ := stR_set (j := i) (v := 0) h hS (by omega) (by omega)
    have s1 : stR μ (uX8_set μ' (nI S) (nI i) 0) S (i + 1) (fun _ => 0) := by
      have e3 : max i (i + 1) = i + 1 := by omega
      rw [e3] at s1
      obtain ⟨q1, q2, q3, q4, q5, q6⟩ := s1
      exact ⟨q1, q2, q3, q4, q5, fun j hj => by rw [q6 j hj]; simp⟩
    obtain ⟨i1, i2, i3⟩ := ih (i + 1) n _ (by omega) (by omega) s1
    simp only [mX8_addEmpty_h23, qX8_addEmpty_h23, lX8_addEmpty_h23, if_neg e, e2, nI_1]
    exact ⟨i1, fun _ => ⟨s2, i2⟩, i3⟩
theorem ae_ok {μ : fm_T} {S : Nat} (hS : S < 40) (h : fI μ 9 5 = nI S) : stR μ (uX8_addEmpty μ) S 14 (fun _ => 0) ∧ pX8_addEmpty μ ∧ gX8_addEmpty μ = nI S := by
  have e : nI S < 40 := nI_lt (b := 40) hS (by decide)
  unfold uX8_addEmpty pX8_addEmpty gX8_addEmpty
  rw [h, if_pos e, if_pos e, nI_1]
  obtain ⟨i1, i2, i3⟩ := ae_lp (μ := μ) hS 14 0 fF (fm_i μ 9 5 (nI (S + 1))) (by omega) (fF_gt (by omega)) ⟨rfl, rfl, fun _ _ => rfl, fun k j z1 z2 => by rw [fI_i, if_neg (by omega)], by rw [fI_i, if_pos ⟨rfl, rfl⟩], fun j hj => by omega⟩
  exact ⟨i1, fun _ => i2, i3⟩
theorem co_ok {μ : fm_T} {n c p s : Nat} (hn : n ≤ 8) (hc : c < n) (hp : p ≤ 999) (hs : s ≤ 300) (h1 : fI μ 26 2 = nI n) (h2 : fI μ 30 c = nI p) (h3 : fI μ 35 3 = nI s) : gX2_costOf μ (nI c) 0 = nI p ∧ gX2_costOf μ (nI c) 1 = nI (p * s / 100) ∧ ∀ z, pX2_costOf μ (nI c) z := by
  have e : ¬ gX2_isCloth μ (nI c) = 0 := by
    unfold gX2_isCloth
    rw [h1]
    exact wi_b (by omega) hc
  have hps : p * s ≤ 999 * 300 := Nat.mul_le_mul hp hs
  unfold gX2_costOf pX2_costOf
  rw [if_neg e, if_neg e, nI_clamp (by omega), h2, h3, nI_mul, show (100 : Int32) = nI 100 from rfl, nI_div (by omega) (by omega) (by omega)]
  exact ⟨rfl, rfl, fun _ => ⟨wi_01 _ _ _ _, fun _ => vp_in_nI (by omega) (by decide)⟩⟩
