def rsA (k j : Nat) : Prop := k = 67 ∨ k = 68 ∨ k = 69 ∨ (k = 66 ∧ j = 5)
def rsB (k j : Nat) : Prop := k = 31
theorem ro_cs {μ : fm_T} {P : Nat} {b X Y : Nat → Nat} (hP : P ≤ 9) (hb : ∀ i, i < P → fI μ 3 i = nI (b i) ∧ b i < 40 ∧ fI μ 22 (b i) = nI (X i) ∧ fI μ 23 (b i) = nI (Y i)) (y : Int64) : ∀ (c i n : Nat) (μ' : fm_T), i + c = P → c < n → frI rsA μ μ' → fI μ' 66 5 = nI i → (∀ j, j < i → fI μ' 67 j = nI (b j) ∧ fI μ' 68 j = nI (X j) ∧ fI μ' 69 j = nI (Y j)) → ∃ μ2, (frI rsA μ μ2 ∧ fI μ2 66 5 = nI P ∧ ∀ j, j < P → fI μ2 67 j = nI (b j) ∧ fI μ2 68 j = nI (X j) ∧ fI μ2 69 j = nI (Y j)) ∧ lX11_round_h86 n μ' (nI P) y (nI i) = gX9_findRound μ2 ∧ mX11_round_h86 n μ' (nI P) y (nI i) = uX9_findRound μ2 ∧ (pX9_findRound μ2 → qX11_round_h86 n μ' (nI P) y (nI i)) := by
  intro c
  induction c with
  | zero =>
    intro i n μ' h1 h2 f1 f2 f3
    obtain ⟨n, rfl⟩ : ∃ m, n = m + 1 := ⟨n - 1, by omega⟩
    obtain rfl : i = P := by omega
    have e : nI i ≤ nI i := (nI_leI (by omega) (by omega)).mpr (by omega)
    refine ⟨μ', ⟨f1, f2, f3⟩, ?_⟩
    simp only [lX11_round_h86, mX11_round_h86, qX11_round_h86, if_pos e]
    exact ⟨trivial, trivial, fun q => ⟨fun _ => q, fun z => absurd e z⟩⟩
  | succ c ih =>
    intro i n μ' h1 h2 f1 f2 f3
    obtain ⟨n, rfl⟩ : ∃ m, n = m + 1 := ⟨n - 1, by omega⟩
    have e : ¬ nI P ≤ nI i := fun z => by have := (nI_leI (by omega) (by omega)).mp z; omega
    obtain ⟨b1, b2, b3, b4⟩ := hb i (by omega)
    have hy : gX7_byteAt μ' (nI i) = nI (b i) ∧ pX7_byteAt μ' (nI i) := by
      have q1 : ¬ nI i < 0 := nI_pos (by omega)
      have q2 : ¬ (940 : Int32) ≤ nI i := fun z => by have := (nI_leI (a := 940) (by omega) (by omega)).mp z; omega
      unfold gX7_byteAt pX7_byteAt
      rw [if_neg q1, if_neg q2, nI_clamp (by omega)]
      exact ⟨(f1.2.2.2 3 i (by unfold rsA; omega)).trans b1, fun _ _ => vp_in_nI (by omega) (by decide)⟩
    have g1 : fI μ' 22 (b i) = nI (X i) := (f1.2.2.2 22 (b i) (by unfold rsA; omega)).trans b3
    have g2 : fI μ' 23 (b i) = nI (Y i) := (f1.2.2.2 23 (b i) (by unfold rsA; omega)).trans b4
    have n9 : ¬ (9 : Int32) ≤ nI i := fun z => by have := (nI_leI (a := 9) (by omega) (by omega)).mp z; omega
    have hi : i < 2 ^ 31 := by omega
    have hbi : b i < 2 ^ 31 := by omega
    obtain ⟨μ2, k1, k2, k3, k4⟩ := ih (i + 1) n (fm_i (fm_i (fm_i (fm_i μ' 67 i (nI (b i))) 68 i (nI (X i))) 69 i (nI (Y i))) 66 5 (nI (i + 1))) (by omega) (by omega) ((((f1.i (Or.inl rfl)).i (Or.inr (Or.inl rfl))).i (Or.inr (Or.inr (Or.inl rfl)))).i (Or.inr (Or.inr (Or.inr ⟨rfl, rfl⟩)))) (by rw [fI_i, if_pos ⟨rfl, rfl⟩]) (fun j hj => by
      by_cases ej : j = i
      · subst ej
        simp [fI_i]
      · obtain ⟨c1, c2, c3⟩ := f3 j (by omega)
        refine ⟨?_, ?_, ?_⟩
        · rw [fI_i, if_neg (by omega), fI_i, if_neg (by omega), fI_i, if_neg (by omega), fI_i, if_neg (by omega)]; exact c1
        · rw [fI_i, if_neg (by omega), fI_i, if_neg (by omega), fI_i, if_neg (by omega), fI_i, if_neg (by omega)]; exact c2
        · rw [fI_i, if_neg (by omega), fI_i, if_neg (by omega), fI_i, if_neg (by omega), fI_i, if_neg (by omega)]; exact c3)
    have vi : vp_in (nI i) 9 := vp_in_nI (by omega) (by decide)
    have vb : vp_in (nI (b i)) 40 := vp_in_nI (by omega) (by decide)
    refine ⟨μ2, k1, ?_⟩
    simp only [lX11_round_h86, mX11_round_h86, qX11_round_h86, if_neg e, hy.1, uX9_addStop, pX9_addStop, f2, if_neg n9, nI_clamp hi, nI_clamp hbi, g1, g2, nI_1]
    exact ⟨k2, k3, fun q => ⟨fun z => absurd z e, fun _ => ⟨hy.2, vb, vb, fun _ => ⟨vi, vi, vi⟩, k4 q⟩⟩⟩
theorem ro_ms {ν : fm_T} {P : Nat} {b : Nat → Nat} (hP : P ≤ 9) (hb : ∀ i, i < P → fI ν 1 i = nI (b i)) (y : Int64) : ∀ (c i n : Nat) (ν' : fm_T), i + c = P → c < n → frI rsB ν ν' → (∀ j, j < i → fI ν' 31 j = nI (b j)) → ∃ ν2, (frI rsB ν ν2 ∧ ∀ j, j < P → fI ν2 31 j = nI (b j)) ∧ lX12_round_h93 n ν' (nI P) y (nI i) = lX12_round_h129 fF ν2 (nI P) y (((1 : Int32) <<< (nI P &&& 31)) - 1) 0 ∧ mX12_round_h93 n ν' (nI P) y (nI i) = mX12_round_h129 fF ν2 (nI P) y (((1 : Int32) <<< (nI P &&& 31)) - 1) 0 ∧ (qX12_round_h129 fF ν2 (nI P) y (((1 : Int32) <<< (nI P &&& 31)) - 1) 0 → qX12_round_h93 n ν' (nI P) y (nI i)) := by
  intro c
  induction c with
  | zero =>
    intro i n ν' h1 h2 f1 f3
    obtain ⟨n, rfl⟩ : ∃ m, n = m + 1 := ⟨n - 1, by omega⟩
    obtain rfl : i = P := by omega
    have e : nI i ≤ nI i := (nI_leI (by omega) (by omega)).mpr (by omega)
    refine ⟨ν', ⟨f1, f3⟩, ?_⟩
    simp only [lX12_round_h93, mX12_round_h93, qX12_round_h93, if_pos e]
    exact ⟨trivial, trivial, fun q => ⟨fun _ => q, fun z => absurd e z⟩⟩
  | succ c ih =>
    intro i n ν' h1 h2 f1 f3
    obtain ⟨n, rfl⟩ : ∃ m, n = m + 1 := ⟨n - 1, by omega⟩
    have e : ¬ nI P ≤ nI i := fun z => by have := (nI_leI (by omega) (by omega)).mp z; omega
    have g1 : fI ν' 1 i = nI (b i) := (f1.2.2.2 1 i (by unfold rsB; omega)).trans (hb i (by omega))
    have hi : i < 2 ^ 31 := by omega
    obtain ⟨ν2, k1, k2, k3, k4⟩ := ih (i + 1) n (fm_i ν' 31 i (nI (b i))) (by omega) (by omega) (f1.i rfl) (fun j hj => by
      rw [fI_i]
      by_cases ej : j = i
      · rw [if_pos ⟨rfl, ej⟩, ej]
      · rw [if_neg (by omega)]; exact f3 j (by omega))
    refine ⟨ν2, k1, ?_⟩
    simp only [lX12_round_h93, mX12_round_h93, qX12_round_h93, if_neg e, nI_clamp hi, g1, nI_1]
    exact ⟨k2, k3, fun q => ⟨fun z => absurd z e, fun _ => ⟨vp_in_nI (by omega) (by decide), vp_in_nI (by omega) (by decide), k4 q⟩⟩⟩
