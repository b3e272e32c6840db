def prS (g : Nat → Int64) (s : Nat) : Nat → Int64
  | 0 => 1
  | k + 1 => prS g s k * (if s.testBit k then g k else 20)
def fsm (B : Nat → Int64) (g : Nat → Nat → Int64) (s : Nat) : Nat → Int64
  | 0 => 0
  | x + 1 => fsm B g s x + B x * prS (g x) s 6
theorem ff_49 {μ : fm_T} {s x : Nat} {g : Nat → Int64} (x3 : Int32) (hs : s < 64) (hx : x < 6) (hg : ∀ a, a < 6 → s.testBit a = true → ((20 : Int32) - fI μ 28 (6 * a + x)).toInt64 = g a) (y5 y0 : Int64) : ∀ (c a n : Nat), a + c = 6 → c < n → l5X6_findFailures_h49 n μ x3 (nI s) y5 (nI x) (y0 * prS g s a) (nI a) = y5 + y0 * prS g s 6 ∧ l7X6_findFailures_h49 n μ x3 (nI s) y5 (nI x) (y0 * prS g s a) (nI a) = nI (x + 1) ∧ qX6_findFailures_h49 n μ x3 (nI s) y5 (nI x) (y0 * prS g s a) (nI a) := by
  intro c
  induction c with
  | zero =>
    intro a n h1 h2
    obtain ⟨n, rfl⟩ : ∃ m, n = m + 1 := ⟨n - 1, by omega⟩
    obtain rfl : a = 6 := by omega
    have e : (6 : Int32) ≤ nI 6 := by decide
    simp only [l5X6_findFailures_h49, l7X6_findFailures_h49, qX6_findFailures_h49, if_pos e, nI_1]
    exact ⟨trivial, trivial, fun z => absurd e z⟩
  | succ c ih =>
    intro a n h1 h2
    obtain ⟨n, rfl⟩ : ∃ m, n = m + 1 := ⟨n - 1, by omega⟩
    have e : ¬ (6 : Int32) ≤ nI a := fun z => by have := (nI_leI (a := 6) (by omega) (by omega)).mp z; omega
    have e1 : nI a * (6 : Int32) + nI x = nI (6 * a + x) := by
      simp only [li_n, nI_mul, nI_add]
      congr 1
      omega
    have ihx := ih (a + 1) n (by omega) (by omega)
    rw [prS, ← Int64.mul_assoc] at ihx
    simp only [l5X6_findFailures_h49, l7X6_findFailures_h49, qX6_findFailures_h49, if_neg e, e1, nI_1, hs_64 s hs a (by omega)]
    rw [nI_clamp (by omega)]
    by_cases b : s.testBit a = true
    · have n1 : ¬ (1 : Int32) = 0 := by decide
      rw [hg a (by omega) b]
      simp only [b, if_true, if_neg n1] at ihx ⊢
      exact ⟨ihx.1, ihx.2.1, fun _ => ⟨fun z => absurd z n1, fun _ => ⟨vp_in_nI (by omega) (by decide), ihx.2.2⟩⟩⟩
    · have e20 : ((20 : Int32) - 0).toInt64 = 20 := by decide
      have b : s.testBit a = false := by simpa using b
      simp only [b, Bool.false_eq_true, if_false, if_true, e20] at ihx ⊢
      exact ⟨ihx.1, ihx.2.1, fun _ => ⟨fun _ => ihx.2.2, fun z => absurd trivial z⟩⟩
theorem ff_26 {μ : fm_T} {s N : Nat} {B : Nat → Int64} {g : Nat → Nat → Int64} (x3 : Int32) (hs : s < 64) (hN : N ≤ 6) (c0 : fI μ 26 0 = nI N) (hB : ∀ x, x < N → (fI μ 3 x).toInt64 = B x) (hg : ∀ x, x < N → ∀ a, a < 6 → s.testBit a = true → ((20 : Int32) - fI μ 28 (6 * a + x)).toInt64 = g x a) : ∀ (c x n : Nat), x + c = N → c < n → mX6_findFailures_h26 n μ x3 (nI s) (fsm B g s x) (nI x) = fm_l μ 58 s (fsm B g s N) ∧ l4X6_findFailures_h26 n μ x3 (nI s) (fsm B g s x) (nI x) = nI (s + 1) ∧ qX6_findFailures_h26 n μ x3 (nI s) (fsm B g s x) (nI x) := by
  intro c
  induction c with
  | zero =>
    intro x n h1 h2
    obtain ⟨n, rfl⟩ : ∃ m, n = m + 1 := ⟨n - 1, by omega⟩
    obtain rfl : x = N := by omega
    have e : nI x ≤ nI x := (nI_leI (by omega) (by omega)).mpr (by omega)
    simp only [mX6_findFailures_h26, l4X6_findFailures_h26, qX6_findFailures_h26, c0, if_pos e, nI_1]
    rw [nI_clamp (by omega)]
    exact ⟨rfl, trivial, fun _ => vp_in_nI (by omega) (by decide), fun z => absurd e z⟩
  | succ c ih =>
    intro x n h1 h2
    obtain ⟨n, rfl⟩ : ∃ m, n = m + 1 := ⟨n - 1, by omega⟩
    have e : ¬ nI N ≤ nI x := fun z => by have := (nI_leI (by omega) (by omega)).mp z; omega
    have hb : gX7_byteAt μ (nI x) = fI μ 3 x ∧ pX7_byteAt μ (nI x) := by
      have q1 : ¬ nI x < 0 := nI_pos (by omega)
      have q2 : ¬ (940 : Int32) ≤ nI x := fun z => by have := (nI_leI (a := 940) (by omega) (by omega)).mp z; omega
      unfold gX7_byteAt pX7_byteAt
      rw [if_neg q1, if_neg q2, nI_clamp (by omega)]
      exact ⟨rfl, fun _ _ => vp_in_nI (by omega) (by decide)⟩
    obtain ⟨k1, k2, k3⟩ := ff_49 (μ := μ) (g := g x) x3 hs (by omega) (hg x (by omega)) (fsm B g s x) (B x) 6 0 fF (by omega) (fF_gt (by omega))
    have e1 : B x * prS (g x) s 0 = B x := Int64.mul_one _
    rw [e1] at k1 k2 k3
    have k1 : l5X6_findFailures_h49 fF μ x3 (nI s) (fsm B g s x) (nI x) (B x) 0 = fsm B g s (x + 1) := k1
    have k2 : l7X6_findFailures_h49 fF μ x3 (nI s) (fsm B g s x) (nI x) (B x) 0 = nI (x + 1) := k2
    have ihx := ih (x + 1) n (by omega) (by omega)
    simp only [mX6_findFailures_h26, l4X6_findFailures_h26, qX6_findFailures_h26, c0, if_neg e, hb.1, hB x (by omega), k1, k2]
    exact ⟨ihx.1, ihx.2.1, fun z => absurd z e, fun _ => ⟨hb.2, k3, ihx.2.2⟩⟩
theorem ff_11 {μ : fm_T} {M N : Nat} {B : Nat → Int64} {g : Nat → Nat → Int64} (x3 : Int32) (hM : M < 64) (hN : N ≤ 6) (c3 : fI μ 57 3 = nI M) (c0 : fI μ 26 0 = nI N) (hB : ∀ x, x < N → (fI μ 3 x).toInt64 = B x) (hg : ∀ s, s ≤ M → ∀ x, x < N → ∀ a, a < 6 → s.testBit a = true → ((20 : Int32) - fI μ 28 (6 * a + x)).toInt64 = g x a) : ∀ (c s n : Nat) (μ' : fm_T), s + c = M + 1 → c < n → ((μ'.1 = μ.1 ∧ μ'.2.1 = μ.2.1) ∧ (∀ k j, fI μ' k j = fI μ k j) ∧ (∀ k j, k ≠ 58 → fL μ' k j = fL μ k j) ∧ ∀ i, i < s → fL μ' 58 i = fsm B g i N) → ∃ μ2, mX6_findFailures_h11 n μ' x3 (nI s) = μ2 ∧ ((μ2.1 = μ.1 ∧ μ2.2.1 = μ.2.1) ∧ (∀ k j, fI μ2 k j = fI μ k j) ∧ (∀ k j, k ≠ 58 → fL μ2 k j = fL μ k j) ∧ ∀ i, i ≤ M → fL μ2 58 i = fsm B g i N) ∧ qX6_findFailures_h11 n μ' x3 (nI s) := by
  intro c
  induction c with
  | zero =>
    intro s n μ' h1 h2 ⟨f0, f1, f2, f3⟩
    obtain ⟨n, rfl⟩ : ∃ m, n = m + 1 := ⟨n - 1, by omega⟩
    have e : nI M < nI s := (nI_ltI (by omega) (by omega)).mpr (by omega)
    refine ⟨μ', ?_, ⟨f0, f1, f2, fun i hi => f3 i (by omega)⟩, ?_⟩
    · simp only [mX6_findFailures_h11, f1 57 3, c3, if_pos e]
    · simp only [qX6_findFailures_h11, f1 57 3, c3]
      exact fun z => absurd e z
  | succ c ih =>
    intro s n μ' h1 h2 ⟨f0, f1, f2, f3⟩
    obtain ⟨n, rfl⟩ : ∃ m, n = m + 1 := ⟨n - 1, by omega⟩
    have e : ¬ nI M < nI s := fun z => by have := (nI_ltI (by omega) (by omega)).mp z; omega
    obtain ⟨k1, k2, k3⟩ := ff_26 (μ := μ') (s := s) (N := N) (B := B) (g := g) x3 (by omega) hN ((f1 26 0).trans c0) (fun x hx => by rw [f1]; exact hB x hx) (fun x hx a ha hb => by rw [f1]; exact hg s (by omega) x hx a ha hb) N 0 fF (by omega) (fF_gt (by omega))
    have k1 : mX6_findFailures_h26 fF μ' x3 (nI s) 0 0 = fm_l μ' 58 s (fsm B g s N) := k1
    have k2 : l4X6_findFailures_h26 fF μ' x3 (nI s) 0 0 = nI (s + 1) := k2
    obtain ⟨μ2, i1, i2, i3⟩ := ih (s + 1) n (fm_l μ' 58 s (fsm B g s N)) (by omega) (by omega) ⟨f0, f1, fun k j q => by rw [fL_l, if_neg (by omega)]; exact f2 k j q, fun i hi => by
      rw [fL_l]
      by_cases ei : i = s
      · rw [if_pos ⟨rfl, ei⟩, ei]
      · rw [if_neg (by omega)]; exact f3 i (by omega)⟩
    refine ⟨μ2, ?_, i2, ?_⟩
    · simp only [mX6_findFailures_h11, f1 57 3, c3, if_neg e, k1, k2]
      exact i1
    · simp only [qX6_findFailures_h11, f1 57 3, c3, k1, k2]
      exact fun _ => ⟨k3, i3⟩
