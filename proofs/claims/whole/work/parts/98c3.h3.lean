def HDa (τ : sg_T) (μ ν : fm_T) : Prop := (∀ i, i < τ 0 6 → (fI μ 76 i = nI (τ 14 i) ∧ fI ν 3 (10 + 8 * i) = nI (τ 14 i) ∧ τ 14 i ≤ 99) ∧ ∀ s, s < 6 → fI μ 77 (6 * i + s) = nI (τ 15 (6 * i + s)) ∧ fI ν 3 (11 + 8 * i + s) = nI (τ 15 (6 * i + s)) ∧ τ 15 (6 * i + s) ≤ 20) ∧ (∀ i, τ 0 6 ≤ i → i < 6 → ∀ s, s < 6 → fI μ 77 (6 * i + s) = 0) ∧ τ 0 6 ≤ 6
def HDc (τ : sg_T) (μ ν : fm_T) : Prop := (∀ i, i < τ 0 7 → (fI μ 78 i = nI (τ 16 i) ∧ fI ν 3 (60 + 4 * i) = nI (τ 16 i) ∧ τ 16 i ≤ 9) ∧ (fI μ 79 i = nI (τ 17 i) ∧ fI ν 3 (61 + 4 * i) = nI (τ 17 i) ∧ τ 17 i ≤ 999) ∧ (fI μ 80 i = nI (τ 18 i) ∧ fI ν 3 (62 + 4 * i) = nI (τ 18 i) ∧ τ 18 i ≤ 1) ∧ fI μ 81 i = nI (τ 19 i) ∧ fI ν 3 (63 + 4 * i) = nI (τ 19 i) ∧ τ 19 i < 64) ∧ (∀ i, τ 0 7 ≤ i → i < 8 → fI μ 80 i = 0 ∧ fI μ 81 i = 0) ∧ τ 0 7 ≤ 8 ∧ ∀ i j, i < j → j < τ 0 7 → τ 22 (16 + i) ≠ τ 22 (16 + j)
def HDd (τ : sg_T) (μ ν : fm_T) : Prop := (∀ i, i < τ 0 8 → (fI μ 82 i = nI (τ 20 i) ∧ fI ν 3 (110 + 2 * i) = nI (τ 20 i) ∧ 1 ≤ τ 20 i ∧ τ 20 i ≤ 99) ∧ fI μ 83 i = nI (τ 21 i) ∧ fI ν 3 (111 + 2 * i) = nI (τ 21 i) ∧ τ 21 i ≤ 9) ∧ τ 0 8 ≤ 4
def HDt (τ : sg_T) (m : Nat) (μ ν : fm_T) : Prop := (∀ i, i < 4 → fI μ 84 i = nI (τ 0 (9 + i)) ∧ fI ν 3 (4 + i) = nI (τ 0 (9 + i))) ∧ (1 ≤ τ 0 9 ∧ τ 0 9 ≤ 4 ∧ 1 ≤ τ 0 10 ∧ τ 0 10 ≤ 99 ∧ τ 0 11 ≤ 99 ∧ 100 ≤ τ 0 12 ∧ τ 0 12 ≤ 300) ∧ m < 16 ∧ fI μ 73 11 = nI m ∧ fI ν 0 22 = nI (16 * m) ∧ τ 0 5 ≤ 6
def HDR (τ : sg_T) (m : Nat) (μ ν : fm_T) : Prop := (∀ s, s < 4 → HDs τ s μ ν) ∧ HDa τ μ ν ∧ HDc τ μ ν ∧ HDd τ μ ν ∧ HDt τ m μ ν
section
variable {τ τ' : sg_T} {μ ν μ' ν' : fm_T} {m : Nat}
theorem HDs_f {s : Nat} (h : HDs τ s μ ν) (e1 : fI μ' 75 s = fI μ 75 s) (e2 : fI ν' 3 s = fI ν 3 s) (e3 : ∀ i, i < τ 0 (5 + s) → fL μ' 74 (8 * s + i) = fL μ 74 (8 * s + i)) (e4 : ∀ i, i < τ 0 (5 + s) → fL ν' 6 (bsn s + i) = fL ν 6 (bsn s + i)) (t1 : τ' 0 (5 + s) = τ 0 (5 + s)) (t2 : ∀ i, i < τ 0 (5 + s) → τ' 22 (8 * s + i) = τ 22 (8 * s + i)) : HDs τ' s μ' ν' := by
  unfold HDs
  rw [t1, e1, e2]
  exact ⟨h.1, fun i hi => by rw [e3 i hi, e4 i hi, t2 i hi]; exact h.2.1 i hi, h.2.2⟩
theorem HDa_f (h : HDa τ μ ν) (e1 : ∀ k j, k = 76 ∨ k = 77 → fI μ' k j = fI μ k j) (e2 : ∀ j, 10 ≤ j → j < 60 → fI ν' 3 j = fI ν 3 j) (t0 : τ' 0 6 = τ 0 6) (t1 : ∀ i, τ' 14 i = τ 14 i ∧ τ' 15 i = τ 15 i) : HDa τ' μ' ν' := by
  obtain ⟨h1, h2, h3⟩ := h
  unfold HDa
  rw [t0]
  refine ⟨fun i hi => ⟨?_, fun s hs => ?_⟩, fun i q1 q2 s hs => ?_, h3⟩
  · rw [e1 76 i (by omega), e2 _ (by omega) (by omega), (t1 i).1]; exact (h1 i hi).1
  · rw [e1 77 _ (by omega), e2 _ (by omega) (by omega), (t1 _).2]; exact (h1 i hi).2 s hs
  · rw [e1 77 _ (by omega)]; exact h2 i q1 q2 s hs
theorem HDc_f (h : HDc τ μ ν) (e1 : ∀ k j, 78 ≤ k → k ≤ 81 → fI μ' k j = fI μ k j) (e2 : ∀ j, 60 ≤ j → j < 100 → fI ν' 3 j = fI ν 3 j) (t0 : τ' 0 7 = τ 0 7) (t1 : ∀ a i, 16 ≤ a → a ≤ 19 → τ' a i = τ a i) (t2 : ∀ i, i < τ 0 7 → τ' 22 (16 + i) = τ 22 (16 + i)) : HDc τ' μ' ν' := by
  obtain ⟨h1, h2, h3, h4⟩ := h
  unfold HDc
  rw [t0]
  refine ⟨fun i hi => ⟨?_, ?_, ?_, ?_⟩, fun i q1 q2 => ?_, h3, fun i j q1 q2 => by rw [t2 i (by omega), t2 j q2]; exact h4 i j q1 q2⟩
  · rw [e1 78 i (by omega) (by omega), e2 _ (by omega) (by omega), t1 16 i (by omega) (by omega)]; exact (h1 i hi).1
  · rw [e1 79 i (by omega) (by omega), e2 _ (by omega) (by omega), t1 17 i (by omega) (by omega)]; exact (h1 i hi).2.1
  · rw [e1 80 i (by omega) (by omega), e2 _ (by omega) (by omega), t1 18 i (by omega) (by omega)]; exact (h1 i hi).2.2.1
  · rw [e1 81 i (by omega) (by omega), e2 _ (by omega) (by omega), t1 19 i (by omega) (by omega)]; exact (h1 i hi).2.2.2
  · rw [e1 80 i (by omega) (by omega), e1 81 i (by omega) (by omega)]; exact h2 i q1 q2
theorem HDd_f (h : HDd τ μ ν) (e1 : ∀ k j, k = 82 ∨ k = 83 → fI μ' k j = fI μ k j) (e2 : ∀ j, 110 ≤ j → j < 130 → fI ν' 3 j = fI ν 3 j) (t0 : τ' 0 8 = τ 0 8) (t1 : ∀ i, τ' 20 i = τ 20 i ∧ τ' 21 i = τ 21 i) : HDd τ' μ' ν' := by
  obtain ⟨h1, h3⟩ := h
  unfold HDd
  rw [t0]
  refine ⟨fun i hi => ⟨?_, ?_⟩, h3⟩
  · rw [e1 82 i (by omega), e2 _ (by omega) (by omega), (t1 i).1]; exact (h1 i hi).1
  · rw [e1 83 i (by omega), e2 _ (by omega) (by omega), (t1 i).2]; exact (h1 i hi).2
theorem HDt_f (h : HDt τ m μ ν) (e1 : ∀ j, fI μ' 84 j = fI μ 84 j) (e2 : ∀ j, 4 ≤ j → j < 8 → fI ν' 3 j = fI ν 3 j) (e3 : fI μ' 73 11 = fI μ 73 11) (e4 : fI ν' 0 22 = fI ν 0 22) (t0 : ∀ i, 9 ≤ i → i < 13 → τ' 0 i = τ 0 i) (t1 : τ' 0 5 ≤ 6) : HDt τ' m μ' ν' := by
  obtain ⟨h1, h2, h3, h4, h5, h6⟩ := h
  refine ⟨fun i hi => ?_, ?_, h3, by rw [e3]; exact h4, by rw [e4]; exact h5, t1⟩
  · rw [e1 i, e2 _ (by omega) (by omega), t0 (9 + i) (by omega) (by omega)]; exact h1 i hi
  · rw [t0 9 (by omega) (by omega), t0 10 (by omega) (by omega), t0 11 (by omega) (by omega), t0 12 (by omega) (by omega)]; exact h2
end
