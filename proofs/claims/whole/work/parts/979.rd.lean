def MT (X Y b : Nat → Nat) (P m : Nat) (ν : fm_T) : Prop := fI ν 0 58 = nI P ∧ (∀ j, j < P → fI ν 31 j = nI (b j) ∧ b j < 40 ∧ fI ν 2 (2440 + 2 * b j) = nI (X j) ∧ fI ν 2 (2441 + 2 * b j) = nI (Y j)) ∧ ∀ R p, R < m → p < P → R.testBit p = false → fI ν 30 (9 * R + p) = nI (tW X Y P R p)
def CT (X Y b : Nat → Nat) (P m : Nat) (μ : fm_T) : Prop := fI μ 66 5 = nI P ∧ (∀ j, j < P → fI μ 67 j = nI (b j) ∧ fI μ 68 j = nI (X j) ∧ fI μ 69 j = nI (Y j)) ∧ ∀ V p, m < V → V < 2 ^ P → p < P → V.testBit p = true → fI μ 71 (9 * V + p) = nI (tW X Y P (2 ^ P - 1 - V) p)
def a30 (k j : Nat) : Prop := k = 30
def a71 (k j : Nat) : Prop := k = 71
section
variable {X Y b : Nat → Nat} {P : Nat}
theorem on_m {ν : fm_T} {M m p : Nat} (hX : ∀ j, X j ≤ 99 ∧ Y j ≤ 99) (hP : P ≤ 9) (h : MT X Y b P m ν) (hM : M ≤ m) (hM2 : M < 2 ^ P) (hp : p < P ∨ p = 9) : gX12_onFrom ν (stI p) (nI M) = nI (tW X Y P M p) ∧ pX12_onFrom ν (stI p) (nI M) := by
  obtain ⟨h1, h2, h3⟩ := h
  have h9 := p2_512 hP
  unfold gX12_onFrom pX12_onFrom
  by_cases e : M = 0
  · subst e
    have w := wy_m (q := 9) hp (Or.inr rfl) hP hX h2
    rw [if_pos (show nI 0 = 0 from rfl), tW_0]
    exact ⟨w.1, fun z => absurd rfl z, fun _ => w.2⟩
  · have n0 : ¬ nI M = 0 := fun z => e (nI_inj (b := 0) (by omega) (by decide) z)
    have g := of_lp (ν := ν) (P := P) (M := M) (v := tv X Y P M p) (stI p) hP (by omega) h1 (fun a ha t => by
      have w := wy_m (q := a) hp (Or.inl ha) hP hX h2
      have sa : stI a = nI a := by unfold stI; rw [if_neg (by omega)]
      rw [sa] at w
      have := tv_le hX hP hM2 p a
      obtain ⟨-, c2, c3⟩ := cl_512 M (by omega) a (by omega) t
      rw [w.1, h3 (M - 2 ^ a) a (by omega) ha c3, nI_add]
      exact ⟨rfl, w.2, by omega⟩) P 0 fF (by omega) (fF_gt (by omega))
    rw [if_neg n0, tW_s e]
    exact ⟨g.1, fun _ => g.2, fun z => absurd z n0⟩
theorem mt_i {ν : fm_T} {M a : Nat} {v : Int32} (hP : P ≤ 9) (ha : a < P) (h : MT X Y b P M ν) : MT X Y b P M (fm_i ν 30 (9 * M + a) v) := by
  obtain ⟨h1, h2, h3⟩ := h
  refine ⟨by rw [fI_i, if_neg (by omega)]; exact h1, fun j hj => ?_, fun R p hR hp t => ?_⟩
  · rw [fI_i, if_neg (by omega), fI_i, if_neg (by omega), fI_i, if_neg (by omega)]; exact h2 j hj
  · rw [fI_i, if_neg (by omega)]; exact h3 R p hR hp t
theorem mi_lp (hX : ∀ j, X j ≤ 99 ∧ Y j ≤ 99) (hP : P ≤ 9) {M : Nat} (hM : M < 2 ^ P) (y : Int64) (x4 : Int32) : ∀ (c a n : Nat) (ν : fm_T), a + c = P → c < n → MT X Y b P M ν → (∀ p, p < a → M.testBit p = false → fI ν 30 (9 * M + p) = nI (tW X Y P M p)) → l5X12_round_h139 n ν (nI P) y x4 (nI M) (nI a) = nI (M + 1) ∧ qX12_round_h139 n ν (nI P) y x4 (nI M) (nI a) ∧ MT X Y b P (M + 1) (mX12_round_h139 n ν (nI P) y x4 (nI M) (nI a)) ∧ frI a30 ν (mX12_round_h139 n ν (nI P) y x4 (nI M) (nI a)) := by
  have h9 := p2_512 hP
  intro c
  induction c with
  | zero =>
    intro a n ν h1 h2 h3 h4
    obtain ⟨n, rfl⟩ : ∃ m, n = m + 1 := ⟨n - 1, by omega⟩
    obtain rfl : a = P := by omega
    have e : nI a ≤ nI a := (nI_leI (by omega) (by omega)).mpr (by omega)
    simp only [l5X12_round_h139, qX12_round_h139, mX12_round_h139, if_pos e, nI_1]
    refine ⟨trivial, fun z => absurd e z, ⟨h3.1, h3.2.1, fun R p hR hp t => ?_⟩, frI.rf _ _⟩
    by_cases q : R = M
    · subst q; exact h4 p hp t
    · exact h3.2.2 R p (by omega) hp t
  | succ c ih =>
    intro a n ν h1 h2 h3 h4
    obtain ⟨n, rfl⟩ : ∃ m, n = m + 1 := ⟨n - 1, by omega⟩
    have e : ¬ nI P ≤ nI a := fun z => by have := (nI_leI (by omega) (by omega)).mp z; omega
    have hs := hs_512 M (by omega) a (by omega)
    have e1 : (9 : Int32) * nI M + nI a = nI (9 * M + a) := by simp only [li_n, nI_mul, nI_add]
    have hc : 9 * M + a < 2 ^ 31 := by omega
    have vt : vp_in (nI (9 * M + a)) 4608 := vp_in_nI (by omega) (by decide)
    have n1 : ¬ (1 : Int32) = 0 := by decide
    simp only [l5X12_round_h139, qX12_round_h139, mX12_round_h139, if_neg e, gX12_has, hs, nI_1, e1, nI_clamp hc]
    by_cases t : M.testBit a = true
    · obtain ⟨i1, i2, i3, i4⟩ := ih (a + 1) n (fm_i ν 30 (9 * M + a) 1000000) (by omega) (by omega) (mt_i hP (by omega) h3) (fun p hp tp => by
        by_cases q : p = a
        · subst q; rw [t] at tp; exact absurd tp (by decide)
        · rw [fI_i, if_neg (by omega)]; exact h4 p (by omega) tp)
      simp only [t, if_true, if_neg n1]
      exact ⟨i1, fun _ => ⟨fun z => absurd z n1, fun _ => ⟨vt, i2⟩⟩, i3, (frI.i (frI.rf _ ν) (k := 30) (j := 9 * M + a) (v := 1000000) rfl).tr i4⟩
    · have tf : M.testBit a = false := by simpa using t
      have n2 : ¬ (0 : Int32) = 1 := by decide
      obtain ⟨o1, o2⟩ := on_m (p := a) hX hP h3 (Nat.le_refl M) hM (Or.inl (by omega))
      have sa : stI a = nI a := by unfold stI; rw [if_neg (by omega)]
      rw [sa] at o1 o2
      obtain ⟨i1, i2, i3, i4⟩ := ih (a + 1) n (fm_i ν 30 (9 * M + a) (nI (tW X Y P M a))) (by omega) (by omega) (mt_i hP (by omega) h3) (fun p hp tp => by
        by_cases q : p = a
        · subst q; rw [fI_i, if_pos ⟨rfl, rfl⟩]
        · rw [fI_i, if_neg (by omega)]; exact h4 p (by omega) tp)
      simp only [tf, Bool.false_eq_true, if_false, if_neg n2, if_true, o1]
      exact ⟨i1, fun _ => ⟨fun _ => ⟨o2, vt, i2⟩, fun z => absurd trivial z⟩, i3, (frI.i (frI.rf _ ν) (k := 30) (j := 9 * M + a) (v := nI (tW X Y P M a)) rfl).tr i4⟩
theorem mo_fl (hX : ∀ j, X j ≤ 99 ∧ Y j ≤ 99) (hP : P ≤ 9) (y : Int64) : ∀ (c M n : Nat) (ν : fm_T), M + c = 2 ^ P → c < n → MT X Y b P M ν → ∃ ν2, MT X Y b P (2 ^ P) ν2 ∧ frI a30 ν ν2 ∧ lX12_round_h129 n ν (nI P) y (nI (2 ^ P - 1)) (nI M) = lX12_round_h213 fF ν2 (nI P) y (nI (2 ^ P - 1)) (gX12_onFrom ν2 (-1) (nI (2 ^ P - 1))) (-1) (nI (2 ^ P - 1)) 0 ∧ mX12_round_h129 n ν (nI P) y (nI (2 ^ P - 1)) (nI M) = mX12_round_h213 fF ν2 (nI P) y (nI (2 ^ P - 1)) (gX12_onFrom ν2 (-1) (nI (2 ^ P - 1))) (-1) (nI (2 ^ P - 1)) 0 ∧ (pX12_onFrom ν2 (-1) (nI (2 ^ P - 1)) → qX12_round_h213 fF ν2 (nI P) y (nI (2 ^ P - 1)) (gX12_onFrom ν2 (-1) (nI (2 ^ P - 1))) (-1) (nI (2 ^ P - 1)) 0 → qX12_round_h129 n ν (nI P) y (nI (2 ^ P - 1)) (nI M)) := by
  have h9 := p2_512 hP
  have hp := Nat.two_pow_pos P
  intro c
  induction c with
  | zero =>
    intro M n ν h1 h2 h3
    obtain ⟨n, rfl⟩ : ∃ m, n = m + 1 := ⟨n - 1, by omega⟩
    have e : nI (2 ^ P - 1) < nI M := (nI_ltI (by omega) (by omega)).mpr (by omega)
    obtain rfl : M = 2 ^ P := by omega
    refine ⟨ν, h3, frI.rf _ _, ?_⟩
    simp only [lX12_round_h129, mX12_round_h129, qX12_round_h129, if_pos e]
    exact ⟨trivial, trivial, fun a b => ⟨fun _ => ⟨a, b⟩, fun z => absurd e z⟩⟩
  | succ c ih =>
    intro M n ν h1 h2 h3
    obtain ⟨n, rfl⟩ : ∃ m, n = m + 1 := ⟨n - 1, by omega⟩
    have e : ¬ nI (2 ^ P - 1) < nI M := fun z => by have := (nI_ltI (by omega) (by omega)).mp z; omega
    obtain ⟨i1, i2, i3, i4⟩ := mi_lp hX hP (M := M) (by omega) y (nI (2 ^ P - 1)) P 0 fF ν (by omega) (fF_gt (by omega)) h3 (fun p hp => by omega)
    rw [show nI 0 = 0 from rfl] at i1 i2 i3 i4
    obtain ⟨ν2, k1, k2, k3, k4, k5⟩ := ih (M + 1) n _ (by omega) (by omega) i3
    refine ⟨ν2, k1, i4.tr k2, ?_⟩
    simp only [lX12_round_h129, mX12_round_h129, qX12_round_h129, if_neg e, i1]
    exact ⟨k3, k4, fun a b => ⟨fun z => absurd z e, fun _ => ⟨i2, k5 a b⟩⟩⟩
end
