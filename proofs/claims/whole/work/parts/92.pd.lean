def rk (M k : Nat) : Nat := ((List.range k).filter (fun a => M.testBit a)).length
def pdp (M t : Nat) : Nat := (List.range 6).foldl (fun s a => s + (if M.testBit a && t.testBit (rk M a) then 2 ^ a else 0)) 0
def bsub (M : Nat) : List Nat := (List.range (M + 1)).filter (fun x => x &&& (63 - M) == 0)
def pcn (x : Nat) : Nat := rk x 6
theorem pd_list : ∀ M, M < 64 → bsub M = (List.range (2 ^ rk M 6)).map (pdp M) := by decide +kernel
theorem pd_pc : ∀ M, M < 64 → ∀ t, t < 2 ^ rk M 6 → pcn (pdp M t) = pcn t ∧ pdp M t ≤ M ∧ t < 64 := by decide +kernel
theorem pd_bit : ∀ M, M < 64 → ∀ t, t < 2 ^ rk M 6 → ∀ a, a < 6 → (pdp M t).testBit a = (M.testBit a && t.testBit (rk M a)) := by decide +kernel
theorem rk_s (M k : Nat) : rk M (k + 1) = rk M k + (if M.testBit k then 1 else 0) := by
  unfold rk
  rw [List.range_succ, List.filter_append, List.length_append]
  congr 1
  by_cases h : M.testBit k = true
  · simp [h]
  · simp [h]
theorem rk_le (M : Nat) : ∀ k, rk M k ≤ k
  | 0 => Nat.le_refl _
  | k + 1 => by
    rw [rk_s]
    have := rk_le M k
    split
    · omega
    · omega
theorem pc_0 : ∀ x, x < 64 → 0 < x → pcn x = pcn (x &&& (x - 1)) + 1 ∧ (x &&& (x - 1)) < x := by decide +kernel
theorem pc_i : ∀ x, x < 64 → 0 < x → nI x &&& (nI x - 1) = nI (x &&& (x - 1)) := by decide +kernel
theorem pc_c : ∀ x, x < 64 → gJ6_bitCount_0f7a4 nu0 (nI x) = nI (pcn x) := by decide +kernel
theorem bc_c (μ : fm_T) {x : Nat} (hx : x < 64) : gJ6_bitCount_0f7a4 μ (nI x) = nI (pcn x) := pc_c x hx
theorem bt_lp {ν : fm_T} (y : Int32) : ∀ (x n c : Nat), x < 64 → x < n → lX12_bits_h4 n ν y (nI c) (nI x) = nI (c + pcn x) ∧ qX12_bits_h4 n ν y (nI c) (nI x) := by
  intro x
  induction x using Nat.strongRecOn with
  | ind x ih =>
    intro n c hx hn
    obtain ⟨n, rfl⟩ : ∃ m, n = m + 1 := ⟨n - 1, by omega⟩
    by_cases h0 : x = 0
    · subst h0
      have e : nI 0 = 0 := rfl
      simp only [lX12_bits_h4, qX12_bits_h4, if_pos e]
      exact ⟨rfl, fun z => absurd e z⟩
    · have e : ¬ nI x = 0 := fun z => h0 (nI_inj (b := 0) (by omega) (by decide) z)
      obtain ⟨p1, p2⟩ := pc_0 x hx (by omega)
      obtain ⟨i1, i2⟩ := ih (x &&& (x - 1)) p2 n (c + 1) (by omega) (by omega)
      simp only [lX12_bits_h4, qX12_bits_h4, if_neg e, pc_i x hx (by omega), nI_1]
      rw [i1, p1]
      exact ⟨by congr 1; omega, fun _ => i2⟩
theorem bt_m (ν : fm_T) {x : Nat} (hx : x < 64) : gX12_bits ν (nI x) = nI (pcn x) ∧ pX12_bits ν (nI x) := by
  obtain ⟨a, b⟩ := bt_lp (ν := ν) (nI x) x fF 0 hx (fF_gt (by omega))
  rw [Nat.zero_add] at a
  exact ⟨a, b⟩
theorem hs_64 : ∀ M, M < 64 → ∀ a, a < 6 → (nI M >>> (nI a &&& 31)) &&& (1 : Int32) = if M.testBit a then 1 else 0 := by decide +kernel
theorem sb_64 : ∀ M, M < 64 → ∀ x, x ≤ M → (nI x &&& (nI M ^^^ (-1 : Int32)) = 0 ↔ (x &&& (63 - M) == 0) = true) := by decide +kernel
def pr_c (g : Nat → Int64) (M t : Nat) : Nat → Int64
  | 0 => 1
  | k + 1 => pr_c g M t k * (if M.testBit k && t.testBit (rk M k) then g k else 20)
def pr_m (h : Nat → Int64) : Nat → Int64
  | 0 => 1
  | k + 1 => pr_m h k * h k
def p20 : Nat → Int64
  | 0 => 1
  | k + 1 => p20 k * 20
theorem pr_eq {g h : Nat → Int64} {M t : Nat} (hh : ∀ k, k < 6 → M.testBit k = true → h (rk M k) = if t.testBit (rk M k) then g k else 20) : ∀ k, k ≤ 6 → pr_c g M t k = pr_m h (rk M k) * p20 (k - rk M k)
  | 0, _ => rfl
  | k + 1, hk => by
    have ih := pr_eq hh k (by omega)
    have hr := rk_le M k
    rw [pr_c, ih, rk_s]
    by_cases hM : M.testBit k = true
    · rw [if_pos hM, show k + 1 - (rk M k + 1) = k - rk M k by omega, pr_m, hh k (by omega) hM, hM, Bool.true_and]
      grind
    · have hf : M.testBit k = false := by simpa using hM
      rw [if_neg hM, hf, Bool.false_and, show k + 1 - (rk M k + 0) = k - rk M k + 1 by omega, p20]
      simp only [Nat.add_zero, Bool.false_eq_true, if_false]
      grind
