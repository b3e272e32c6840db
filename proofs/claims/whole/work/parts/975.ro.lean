theorem hs_512 : ∀ M, M < 512 → ∀ a, a < 9 → (nI M >>> (nI a &&& 31)) &&& (1 : Int32) = if M.testBit a then 1 else 0 := by decide +kernel
theorem cl_512 : ∀ M, M < 512 → ∀ a, a < 9 → M.testBit a = true → nI M &&& (((1 : Int32) <<< (nI a &&& 31)) ^^^ (-1 : Int32)) = nI (M - 2 ^ a) ∧ M - 2 ^ a < M ∧ (M - 2 ^ a).testBit a = false := by decide +kernel
theorem st_512 : ∀ M, M < 512 → ∀ a, a < 9 → M.testBit a = false → nI M ||| ((1 : Int32) <<< (nI a &&& 31)) = nI (M + 2 ^ a) ∧ M + 2 ^ a < 512 ∧ (M + 2 ^ a).testBit a = true := by decide +kernel
def mnF (v : Nat → Nat) (M : Nat) : Nat → Nat
  | 0 => 1000000
  | k + 1 => if M.testBit k then (if mnF v M k ≤ v k then mnF v M k else v k) else mnF v M k
theorem mnF_le {v : Nat → Nat} {M : Nat} : ∀ k, mnF v M k ≤ 1000000
  | 0 => Nat.le_refl _
  | k + 1 => by
    have := mnF_le (v := v) (M := M) k
    unfold mnF
    split
    · split <;> omega
    · omega
theorem of_lp {ν : fm_T} {P M : Nat} {v : Nat → Nat} (x1 : Int32) (hP : P ≤ 9) (hM : M < 512) (c58 : fI ν 0 58 = nI P) (hv : ∀ a, a < P → M.testBit a = true → gX12_way ν x1 (nI a) + fI ν 30 (9 * (M - 2 ^ a) + a) = nI (v a) ∧ pX12_way ν x1 (nI a) ∧ v a ≤ 1000000) : ∀ (c a n : Nat), a + c = P → c < n → lX12_onFrom_h18 n ν x1 (nI M) (nI (mnF v M a)) (nI a) = nI (mnF v M P) ∧ qX12_onFrom_h18 n ν x1 (nI M) (nI (mnF v M a)) (nI a) := by
  intro c
  induction c with
  | zero =>
    intro a n h1 h2
    obtain ⟨n, rfl⟩ : ∃ m, n = m + 1 := ⟨n - 1, by omega⟩
    obtain rfl : a = P := by omega
    have e : nI a ≤ nI a := (nI_leI (by omega) (by omega)).mpr (by omega)
    simp only [lX12_onFrom_h18, qX12_onFrom_h18, c58, if_pos e]
    exact ⟨trivial, fun z => absurd e z⟩
  | succ c ih =>
    intro a n h1 h2
    obtain ⟨n, rfl⟩ : ∃ m, n = m + 1 := ⟨n - 1, by omega⟩
    have e : ¬ nI P ≤ nI a := fun z => by have := (nI_leI (by omega) (by omega)).mp z; omega
    have hs := hs_512 M hM a (by omega)
    have ihx := ih (a + 1) n (by omega) (by omega)
    have ml := mnF_le (v := v) (M := M) a
    simp only [lX12_onFrom_h18, qX12_onFrom_h18, c58, if_neg e, gX12_has, hs, nI_1]
    by_cases t : M.testBit a = true
    · obtain ⟨c1, c2, -⟩ := cl_512 M hM a (by omega) t
      obtain ⟨v1, v2, v3⟩ := hv a (by omega) t
      have e1 : (9 : Int32) * nI (M - 2 ^ a) + nI a = nI (9 * (M - 2 ^ a) + a) := by simp only [li_n, nI_mul, nI_add]
      have hc : 9 * (M - 2 ^ a) + a < 2 ^ 31 := by omega
      have n1 : ¬ (1 : Int32) = 0 := by decide
      have vt : vp_in (nI (9 * (M - 2 ^ a) + a)) 4608 := vp_in_nI (by omega) (by decide)
      have km : nI (mnF v M a) ≤ nI (v a) ↔ mnF v M a ≤ v a := nI_leI (by omega) (by omega)
      simp only [t, if_true, if_neg n1, c1, e1, nI_clamp hc, v1, km]
      rw [mnF, if_pos t] at ihx
      by_cases q : mnF v M a ≤ v a
      · rw [if_pos q] at ihx
        simp only [if_pos q]
        exact ⟨ihx.1, fun _ => ⟨fun _ => ⟨v2, vt, fun _ => ihx.2, fun z => absurd q z⟩, fun z => absurd z n1⟩⟩
      · rw [if_neg q] at ihx
        simp only [if_neg q]
        exact ⟨ihx.1, fun _ => ⟨fun _ => ⟨v2, vt, fun z => absurd z q, fun _ => ihx.2⟩, fun z => absurd z n1⟩⟩
    · have tf : M.testBit a = false := by simpa using t
      have n1 : ¬ (0 : Int32) = 1 := by decide
      rw [mnF, if_neg t] at ihx
      simp only [tf, Bool.false_eq_true, if_false, if_neg n1, if_true]
      exact ⟨ihx.1, fun _ => ⟨fun z => absurd trivial z, fun _ => ihx.2⟩⟩
