theorem prS_c {g : Nat → Int64} {M t s : Nat} (hb : ∀ a, a < 6 → s.testBit a = (M.testBit a && t.testBit (rk M a))) : ∀ k, k ≤ 6 → prS g s k = pr_c g M t k
  | 0, _ => rfl
  | k + 1, h => by rw [prS, pr_c, prS_c hb k (by omega), hb k (by omega)]
theorem pr_20 {h : Nat → Int64} {m : Nat} (h20 : ∀ i, m ≤ i → i < 6 → h i = 20) : ∀ k, m + k ≤ 6 → pr_m h (m + k) = pr_m h m * p20 k
  | 0, _ => (Int64.mul_one _).symm
  | k + 1, hk => by
    rw [show m + (k + 1) = m + k + 1 by omega, pr_m, pr_20 h20 k (by omega), h20 (m + k) (by omega) (by omega), p20]
    grind
theorem fl_29 {ν : fm_T} {t x m : Nat} {h : Nat → Int64} (ht : t < 64) (hx : x < 6) (hm : m ≤ 6) (c46 : fI ν 0 46 = nI m) (hh : ∀ i, i < 6 → h i = if i < m ∧ t.testBit i = true then ((20 : Int32) - gX12_chanceOf ν (fI ν 24 i) (nI x)).toInt64 else 20) (hp : ∀ i, i < m → pX12_chanceOf ν (fI ν 24 i) (nI x)) (y2 y0 : Int64) : ∀ (c i n : Nat), i + c = 6 → c < n → l2X12_fails_h29 n ν (nI t) y2 (nI x) (y0 * pr_m h i) (nI i) = y2 + y0 * pr_m h 6 ∧ l4X12_fails_h29 n ν (nI t) y2 (nI x) (y0 * pr_m h i) (nI i) = nI (x + 1) ∧ qX12_fails_h29 n ν (nI t) y2 (nI x) (y0 * pr_m h i) (nI i) := by
  intro c
  induction c with
  | zero =>
    intro i n h1 h2
    obtain ⟨n, rfl⟩ : ∃ m, n = m + 1 := ⟨n - 1, by omega⟩
    obtain rfl : i = 6 := by omega
    have e : (6 : Int32) ≤ nI 6 := by decide
    simp only [l2X12_fails_h29, l4X12_fails_h29, qX12_fails_h29, if_pos e, nI_1]
    exact ⟨trivial, trivial, fun z => absurd e z⟩
  | succ c ih =>
    intro i n h1 h2
    obtain ⟨n, rfl⟩ : ∃ m, n = m + 1 := ⟨n - 1, by omega⟩
    have e : ¬ (6 : Int32) ≤ nI i := fun z => by have := (nI_leI (a := 6) (by omega) (by omega)).mp z; omega
    have ihx := ih (i + 1) n (by omega) (by omega)
    rw [pr_m, ← Int64.mul_assoc, hh i (by omega)] at ihx
    have hs := hs_64 t ht i (by omega)
    have km : nI m ≤ nI i ↔ m ≤ i := nI_leI (by omega) (by omega)
    simp only [l2X12_fails_h29, l4X12_fails_h29, qX12_fails_h29, gX12_has, if_neg e, nI_1, hs, c46, km]
    rw [nI_clamp (by omega)]
    by_cases a1 : m ≤ i
    · rw [if_neg (fun z => by omega)] at ihx
      simp only [if_pos a1]
      exact ⟨ihx.1, ihx.2.1, fun _ => ⟨fun _ => ihx.2.2, fun z => absurd a1 z⟩⟩
    · simp only [if_neg a1]
      by_cases b : t.testBit i = true
      · rw [if_pos ⟨by omega, b⟩] at ihx
        have n1 : ¬ (1 : Int32) = 0 := by decide
        simp only [b, if_true, if_neg n1]
        exact ⟨ihx.1, ihx.2.1, fun _ => ⟨fun z => absurd z a1, fun _ => ⟨fun z => absurd z n1, fun _ => ⟨vp_in_nI (by omega) (by decide), hp i (by omega), ihx.2.2⟩⟩⟩⟩
      · rw [if_neg (fun z => b z.2)] at ihx
        have n1 : ¬ (0 : Int32) = 1 := by decide
        have b : t.testBit i = false := by simpa using b
        simp only [b, Bool.false_eq_true, if_false, if_neg n1, if_true]
        exact ⟨ihx.1, ihx.2.1, fun _ => ⟨fun z => absurd z a1, fun _ => ⟨fun _ => ihx.2.2, fun z => absurd trivial z⟩⟩⟩
theorem fl_5 {ν : fm_T} {M t N m : Nat} {B : Nat → Int64} {g : Nat → Nat → Int64} (hM : M < 64) (ht : t < 2 ^ rk M 6) (hN : N ≤ 6) (hm : m = rk M 6) (c46 : fI ν 0 46 = nI m) (c0 : fI ν 2 0 = nI N) (hB : ∀ x, x < N → (fI ν 1 x).toInt64 = B x) (hL : ∀ a, a < 6 → M.testBit a = true → fI ν 24 (rk M a) = nI a) (hg : ∀ x, x < N → ∀ a, a < 6 → M.testBit a = true → ((20 : Int32) - gX12_chanceOf ν (nI a) (nI x)).toInt64 = g x a ∧ pX12_chanceOf ν (nI a) (nI x)) (hS : ∀ i, i < rk M 6 → ∃ a, a < 6 ∧ M.testBit a = true ∧ rk M a = i) : ∀ (c x n : Nat), x + c = N → c < n → lX12_fails_h5 n ν (nI t) (fsm B g (pdp M t) x) (nI x) = fsm B g (pdp M t) N ∧ qX12_fails_h5 n ν (nI t) (fsm B g (pdp M t) x) (nI x) := by
  have t64 : t < 64 := (pd_pc M hM t ht).2.2
  have m6 : m ≤ 6 := by rw [hm]; exact rk_le M 6
  intro c
  induction c with
  | zero =>
    intro x n h1 h2
    obtain ⟨n, rfl⟩ : ∃ m, n = m + 1 := ⟨n - 1, by omega⟩
    obtain rfl : x = N := by omega
    have e : nI x ≤ nI x := (nI_leI (by omega) (by omega)).mpr (by omega)
    simp only [lX12_fails_h5, qX12_fails_h5, c0, if_pos e]
    exact ⟨trivial, fun z => absurd e z⟩
  | succ c ih =>
    intro x n h1 h2
    obtain ⟨n, rfl⟩ : ∃ m, n = m + 1 := ⟨n - 1, by omega⟩
    have e : ¬ nI N ≤ nI x := fun z => by have := (nI_leI (by omega) (by omega)).mp z; omega
    have hx : x < N := by omega
    obtain ⟨k1, k2, k3⟩ := fl_29 (ν := ν) (t := t) (x := x) (m := m) (h := fun i => if i < m ∧ t.testBit i = true then ((20 : Int32) - gX12_chanceOf ν (fI ν 24 i) (nI x)).toInt64 else 20) t64 (by omega) m6 c46 (fun _ _ => rfl) (fun i hi => by
      obtain ⟨a, a1, a2, a3⟩ := hS i (by omega)
      rw [← a3, hL a a1 a2]
      exact (hg x hx a a1 a2).2) (fsm B g (pdp M t) x) (B x) 6 0 fF (by omega) (fF_gt (by omega))
    have pe : pr_m (fun i => if i < m ∧ t.testBit i = true then ((20 : Int32) - gX12_chanceOf ν (fI ν 24 i) (nI x)).toInt64 else 20) 6 = prS (g x) (pdp M t) 6 := by
      rw [prS_c (M := M) (t := t) (pd_bit M hM t ht) 6 (by omega)]
      rw [pr_eq (h := fun i => if i < m ∧ t.testBit i = true then ((20 : Int32) - gX12_chanceOf ν (fI ν 24 i) (nI x)).toInt64 else 20) (fun k hk hb => ?_) 6 (by omega)]
      · have := pr_20 (h := fun i => if i < m ∧ t.testBit i = true then ((20 : Int32) - gX12_chanceOf ν (fI ν 24 i) (nI x)).toInt64 else 20) (m := m) (fun i hi _ => if_neg (fun z => by omega)) (6 - m) (by omega)
        rw [show m + (6 - m) = 6 by omega] at this
        rw [this, hm]
      · have hr : rk M k < m := by
          rw [hm]
          have e1 := rk_s M k
          rw [if_pos hb] at e1
          have mono : ∀ d, rk M (k + 1) ≤ rk M (k + 1 + d) := fun d => by
            induction d with
            | zero => exact Nat.le_refl _
            | succ d ihd =>
              have := rk_s M (k + 1 + d)
              rw [show k + 1 + (d + 1) = k + 1 + d + 1 by omega]
              split at this <;> omega
          have := mono (5 - k)
          rw [show k + 1 + (5 - k) = 6 by omega] at this
          omega
        by_cases hb2 : t.testBit (rk M k) = true
        · simp only [hb2, hr, and_self, if_true]
          rw [hL k hk hb]
          exact (hg x hx k hk hb).1
        · simp only [hb2, and_false, if_false]
          simp
    have e1 : B x * pr_m (fun i => if i < m ∧ t.testBit i = true then ((20 : Int32) - gX12_chanceOf ν (fI ν 24 i) (nI x)).toInt64 else 20) 0 = B x := Int64.mul_one _
    rw [e1, pe] at k1
    rw [e1] at k2 k3
    have k1 : l2X12_fails_h29 fF ν (nI t) (fsm B g (pdp M t) x) (nI x) (B x) 0 = fsm B g (pdp M t) (x + 1) := k1
    have k2 : l4X12_fails_h29 fF ν (nI t) (fsm B g (pdp M t) x) (nI x) (B x) 0 = nI (x + 1) := k2
    have ihx := ih (x + 1) n (by omega) (by omega)
    simp only [lX12_fails_h5, qX12_fails_h5, c0, if_neg e]
    rw [nI_clamp (by omega), hB x hx, k1, k2]
    exact ⟨ihx.1, fun _ => ⟨vp_in_nI (by omega) (by decide), k3, ihx.2⟩⟩
theorem rk_inv : ∀ M, M < 64 → ∀ i, i < rk M 6 → ∃ a, a < 6 ∧ M.testBit a = true ∧ rk M a = i := by decide +kernel
