theorem fI_c (μ : fm_T) (kd ks n k j : Nat) : fI (fm_c μ kd ks 0 0 n) k j = if k = kd ∧ j < n then fI μ ks j else fI μ k j := by
  show (va_up μ.2.2.1 kd (va_cpy (μ.2.2.1 ks) (μ.2.2.1 kd) 0 0 n)) k j = _
  unfold va_up va_cpy
  by_cases h1 : k = kd
  · subst h1
    by_cases h2 : j < n
    · simp [h2]
    · simp [h2]
  · simp [h1]
theorem fL_d (μ : fm_T) (kd ks n k j : Nat) : fL (fm_d μ kd ks 0 0 n) k j = if k = kd ∧ j < n then fL μ ks j else fL μ k j := by
  show (va_up μ.2.2.2 kd (va_cpy (μ.2.2.2 ks) (μ.2.2.2 kd) 0 0 n)) k j = _
  unfold va_up va_cpy
  by_cases h1 : k = kd
  · subst h1
    by_cases h2 : j < n
    · simp [h2]
    · simp [h2]
  · simp [h1]
def CP (d s : Nat) (K : Nat → Nat → Prop) (L : Prop) (μ μ' : fm_T) : Prop := (μ'.1 = μ.1 ∧ μ'.2.1 = μ.2.1) ∧ (∀ k j, k < d ∨ d + 32 ≤ k → fI μ' k j = fI μ k j ∧ fL μ' k j = fL μ k j) ∧ (∀ k j, K k j → k < 32 → fI μ' (d + k) j = fI μ (s + k) j) ∧ (L → ∀ j, j < 32 → fL μ' (d + 17) j = fL μ (s + 17) j)
section
variable {d s : Nat} {K : Nat → Nat → Prop} {L : Prop} {μ μ' : fm_T}
theorem CP.rf (d s : Nat) (μ : fm_T) : CP d s (fun _ _ => False) False μ μ := ⟨⟨rfl, rfl⟩, fun _ _ _ => ⟨rfl, rfl⟩, fun _ _ h => h.elim, fun h => h.elim⟩
theorem CP.c (h : CP d s K L μ μ') (r n : Nat) (hr : r < 32) (hd : s + 32 ≤ d ∨ d + 32 ≤ s) : CP d s (fun k j => K k j ∨ (k = r ∧ j < n)) L μ (fm_c μ' (d + r) (s + r) 0 0 n) := by
  obtain ⟨h1, h2, h3, h4⟩ := h
  refine ⟨h1, fun k j q => ⟨?_, (h2 k j q).2⟩, fun k j q hk => ?_, h4⟩
  · rw [fI_c, if_neg (by omega)]; exact (h2 k j q).1
  · rw [fI_c]
    by_cases e : k = r ∧ j < n
    · rw [if_pos ⟨by omega, e.2⟩, (h2 (s + r) j (by omega)).1, e.1]
    · rw [if_neg (by omega)]
      exact h3 k j (q.elim id (fun z => absurd z e)) hk
theorem CP.i (h : CP d s K L μ μ') (r q : Nat) (v : Int32) (hr : r < 32) (hv : v = fI μ (s + r) q) : CP d s (fun k j => K k j ∨ (k = r ∧ j = q)) L μ (fm_i μ' (d + r) q v) := by
  obtain ⟨h1, h2, h3, h4⟩ := h
  refine ⟨h1, fun k j z => ⟨?_, (h2 k j z).2⟩, fun k j z hk => ?_, h4⟩
  · rw [fI_i, if_neg (by omega)]; exact (h2 k j z).1
  · rw [fI_i]
    by_cases e : k = r ∧ j = q
    · rw [if_pos ⟨by omega, e.2⟩, hv, e.1, e.2]
    · rw [if_neg (by omega)]
      exact h3 k j (z.elim id (fun z => absurd z e)) hk
theorem CP.dl (h : CP d s K L μ μ') (hd : s + 32 ≤ d ∨ d + 32 ≤ s) : CP d s K True μ (fm_d μ' (d + 17) (s + 17) 0 0 32) := by
  obtain ⟨h1, h2, h3, h4⟩ := h
  refine ⟨h1, fun k j z => ⟨(h2 k j z).1, ?_⟩, h3, fun _ j hj => ?_⟩
  · rw [fL_d, if_neg (by omega)]; exact (h2 k j z).2
  · rw [fL_d, if_pos ⟨rfl, hj⟩]; exact (h2 (s + 17) j (by omega)).2
theorem CP.mo {K' : Nat → Nat → Prop} (h : CP d s K L μ μ') (hk : ∀ k j, K' k j → K k j) : CP d s K' L μ μ' := ⟨h.1, h.2.1, fun k j q hq => h.2.2.1 k j (hk k j q) hq, h.2.2.2⟩
theorem CP.v (h : CP d s K L μ μ') (hd : s + 32 ≤ d ∨ d + 32 ≤ s) (r q : Nat) (hr : r < 32) : fI μ' (s + r) q = fI μ (s + r) q := (h.2.1 (s + r) q (by omega)).1
end
def csA (k j : Nat) : Prop := (k = 2 ∧ j < 560) ∨ (k = 3 ∧ j < 240) ∨ (k = 4 ∧ j < 240) ∨ (k = 5 ∧ j < 240) ∨ (k = 6 ∧ j < 240) ∨ (k = 1 ∧ j = 5) ∨ (k = 1 ∧ j = 6) ∨ (k = 1 ∧ j = 7)
def csB (k j : Nat) : Prop := (k = 8 ∧ j < 200) ∨ (k = 9 ∧ j < 200) ∨ (k = 10 ∧ j < 200) ∨ (k = 11 ∧ j < 100) ∨ (k = 12 ∧ j < 40) ∨ (k = 13 ∧ j < 40) ∨ (k = 14 ∧ j < 40) ∨ (k = 15 ∧ j < 40) ∨ (k = 7 ∧ j = 8)
def csC (k j : Nat) : Prop := (k = 18 ∧ j < 4) ∨ (k = 19 ∧ j < 6) ∨ (k = 20 ∧ j < 36) ∨ (k = 21 ∧ j < 8) ∨ (k = 22 ∧ j < 8) ∨ (k = 23 ∧ j < 8) ∨ (k = 24 ∧ j < 8) ∨ (k = 25 ∧ j < 4) ∨ (k = 26 ∧ j < 4) ∨ (k = 27 ∧ j < 4)
def csE (k j : Nat) : Prop := (k = 29 ∧ j < 40) ∨ (k = 30 ∧ j < 40) ∨ (k = 31 ∧ j < 40) ∨ (k = 28 ∧ j = 3) ∨ (k = 28 ∧ j = 4)
def inR (k j : Nat) : Prop := csA k j ∨ csB k j ∨ csC k j ∨ csE k j ∨ (k = 0 ∧ j = 4)
