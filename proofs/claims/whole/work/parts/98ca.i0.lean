def mst (s : Nat) : Nat := if s = 0 then 6 else if s = 1 then 6 else if s = 2 then 8 else 4
section
variable {τ τ' : sg_T} {μ ν X T : fm_T} {m s q w : Nat}
theorem HDR_m (h : HDR τ m μ ν) (hs : s < 4) : τ 0 (5 + s) ≤ mst s := by
  obtain ⟨-, a2, a3, a4, a5⟩ := h
  have : s = 0 ∨ s = 1 ∨ s = 2 ∨ s = 3 := by omega
  rcases this with rfl | rfl | rfl | rfl
  · exact a5.2.2.2.2.2
  · exact a2.2.2
  · exact a3.2.2.1
  · exact a4.2
theorem mst_b (hs : s < 4) : mst s ≤ 8 ∧ bsn s + mst s ≤ 24 := by
  have : s = 0 ∨ s = 1 ∨ s = 2 ∨ s = 3 := by omega
  rcases this with rfl | rfl | rfl | rfl <;> decide
theorem bsn_d {s' i : Nat} (hs : s < 4) (hs' : s' < 4) (hn : s' ≠ s) (hi : i < mst s') (hq : q < mst s) : bsn s' + i ≠ bsn s + q := by
  have b0 : bsn 0 = 0 := rfl
  have b1 : bsn 1 = 6 := rfl
  have b2 : bsn 2 = 12 := rfl
  have b3 : bsn 3 = 20 := rfl
  have m0 : mst 0 = 6 := rfl
  have m1 : mst 1 = 6 := rfl
  have m2 : mst 2 = 8 := rfl
  have m3 : mst 3 = 4 := rfl
  have h1 : s = 0 ∨ s = 1 ∨ s = 2 ∨ s = 3 := by omega
  have h2 : s' = 0 ∨ s' = 1 ∨ s' = 2 ∨ s' = 3 := by omega
  rcases h1 with rfl | rfl | rfl | rfl <;> rcases h2 with rfl | rfl | rfl | rfl <;> omega
theorem HDs_n (h : HDR τ m μ ν) (hs : s < 4) (hq : τ 0 (5 + s) = q) (hm : q < mst s) (hv : vcode 7 w) (hw : w ≠ 0) (t0 : τ' 0 (5 + s) = q + 1) (t0' : ∀ i, i < 4 → i ≠ s → τ' 0 (5 + i) = τ 0 (5 + i)) (t22 : τ' 22 (8 * s + q) = w) (t22' : ∀ i, i ≠ 8 * s + q → τ' 22 i = τ 22 i) (e75 : fI X 75 s = nI (q + 1)) (e75' : ∀ j, j ≠ s → fI X 75 j = fI μ 75 j) (e74 : fL X 74 (8 * s + q) = lN w) (e74' : ∀ j, j ≠ 8 * s + q → fL X 74 j = fL μ 74 j) (e3 : fI T 3 s = nI (q + 1)) (e3' : ∀ j, j < 4 → j ≠ s → fI T 3 j = fI ν 3 j) (e6 : fL T 6 (bsn s + q) = lN (conv 7 w)) (e6' : ∀ j, j ≠ bsn s + q → fL T 6 j = fL ν 6 j) : ∀ s', s' < 4 → HDs τ' s' X T := by
  intro s' hs'
  have mb := mst_b hs
  by_cases e : s' = s
  · subst e
    have h1 := h.1 s' hs'
    refine ⟨⟨by rw [t0]; exact e75, by rw [t0]; exact e3⟩, fun i hi => ?_, by omega, by omega⟩
    rw [t0] at hi
    by_cases y : i = q
    · subst y
      rw [t22]
      exact ⟨e74, e6, hv, hw⟩
    · rw [e74' _ (by omega), e6' _ (by omega), t22' _ (by omega)]
      exact h1.2.1 i (by omega)
  · have h1 := h.1 s' hs'
    have hm' := HDR_m h hs'
    have mb' := mst_b hs'
    exact HDs_f h1 (e75' s' e) (e3' s' hs' e) (fun i hi => e74' _ (by omega)) (fun i hi => e6' _ (bsn_d hs hs' e (by omega) hm)) (t0' s' hs' e) (fun i hi => t22' _ (by omega))
theorem HDa_n {v : Nat} {c : Nat → Nat} (h : HDa τ μ ν) (hq : τ 0 6 = q) (hm : q < 6) (t0 : τ' 0 6 = q + 1) (t1 : τ' 14 q = v ∧ ∀ i, i ≠ q → τ' 14 i = τ 14 i) (t2 : (∀ s, s < 6 → τ' 15 (6 * q + s) = c s) ∧ ∀ i, ¬ (6 * q ≤ i ∧ i < 6 * q + 6) → τ' 15 i = τ 15 i) (hv : v ≤ 99) (e76 : fI X 76 q = nI v) (e76' : ∀ i, i ≠ q → fI X 76 i = fI μ 76 i) (e77' : ∀ i, ¬ (6 * q ≤ i ∧ i < 6 * q + 6) → fI X 77 i = fI μ 77 i) (e10 : fI T 3 (10 + 8 * q) = nI v) (ch : ChN q c X T) (e3' : ∀ j, 10 ≤ j → j < 60 → ¬ (10 + 8 * q ≤ j ∧ j ≤ 16 + 8 * q) → fI T 3 j = fI ν 3 j) : HDa τ' X T := by
  obtain ⟨h1, h2, h3⟩ := h
  refine ⟨fun i hi => ?_, fun i q1 q2 s hs => ?_, by omega⟩
  · rw [t0] at hi
    by_cases y : i = q
    · subst y
      rw [t1.1]
      refine ⟨⟨e76, e10, hv⟩, fun s hs => ?_⟩
      rw [t2.1 s hs]
      exact ch s hs
    · refine ⟨?_, fun s hs => ?_⟩
      · rw [e76' i y, e3' _ (by omega) (by omega) (by omega), t1.2 i y]
        exact (h1 i (by omega)).1
      · rw [e77' _ (by omega), e3' _ (by omega) (by omega) (by omega), t2.2 _ (by omega)]
        exact (h1 i (by omega)).2 s hs
  · rw [t0] at q1
    rw [e77' _ (by omega)]
    exact h2 i (by omega) q2 s hs
theorem HDc_n {v1 v2 v3 v4 : Nat} (h : HDc τ μ ν) (hq : τ 0 7 = q) (hm : q < 8) (t0 : τ' 0 7 = q + 1) (t1 : τ' 16 q = v1 ∧ τ' 17 q = v2 ∧ τ' 18 q = v3 ∧ τ' 19 q = v4) (t2 : ∀ a i, 16 ≤ a → a ≤ 19 → i ≠ q → τ' a i = τ a i) (t22 : τ' 22 (16 + q) = w) (t22' : ∀ i, i < q → τ' 22 (16 + i) = τ 22 (16 + i)) (fr : ∀ i, i < q → τ 22 (16 + i) ≠ w) (hv : v1 ≤ 9 ∧ v2 ≤ 999 ∧ v3 ≤ 1 ∧ v4 < 64) (ec : fI X 78 q = nI v1 ∧ fI X 79 q = nI v2 ∧ fI X 80 q = nI v3 ∧ fI X 81 q = nI v4) (ec' : ∀ a i, 78 ≤ a → a ≤ 81 → i ≠ q → fI X a i = fI μ a i) (em : fI T 3 (60 + 4 * q) = nI v1 ∧ fI T 3 (61 + 4 * q) = nI v2 ∧ fI T 3 (62 + 4 * q) = nI v3 ∧ fI T 3 (63 + 4 * q) = nI v4) (em' : ∀ j, 60 ≤ j → j < 100 → ¬ (60 + 4 * q ≤ j ∧ j ≤ 63 + 4 * q) → fI T 3 j = fI ν 3 j) : HDc τ' X T := by
  obtain ⟨h1, h2, h3, h4⟩ := h
  refine ⟨fun i hi => ?_, fun i q1 q2 => ?_, by omega, fun i j q1 q2 => ?_⟩
  · rw [t0] at hi
    by_cases y : i = q
    · subst y
      rw [t1.1, t1.2.1, t1.2.2.1, t1.2.2.2]
      exact ⟨⟨ec.1, em.1, hv.1⟩, ⟨ec.2.1, em.2.1, hv.2.1⟩, ⟨ec.2.2.1, em.2.2.1, hv.2.2.1⟩, ec.2.2.2, em.2.2.2, hv.2.2.2⟩
    · rw [t2 16 i (by omega) (by omega) y, t2 17 i (by omega) (by omega) y, t2 18 i (by omega) (by omega) y, t2 19 i (by omega) (by omega) y, ec' 78 i (by omega) (by omega) y, ec' 79 i (by omega) (by omega) y, ec' 80 i (by omega) (by omega) y, ec' 81 i (by omega) (by omega) y, em' _ (by omega) (by omega) (by omega), em' _ (by omega) (by omega) (by omega), em' _ (by omega) (by omega) (by omega), em' _ (by omega) (by omega) (by omega)]
      exact h1 i (by omega)
  · rw [t0] at q1
    rw [ec' 80 i (by omega) (by omega) (by omega), ec' 81 i (by omega) (by omega) (by omega)]
    exact h2 i (by omega) q2
  · rw [t0] at q2
    by_cases y : j = q
    · subst y
      rw [t22, t22' i q1]
      exact fr i q1
    · rw [t22' i (by omega), t22' j (by omega)]
      exact h4 i j q1 (by omega)
theorem HDd_n {v1 v2 : Nat} (h : HDd τ μ ν) (hq : τ 0 8 = q) (hm : q < 4) (t0 : τ' 0 8 = q + 1) (t1 : τ' 20 q = v1 ∧ τ' 21 q = v2) (t2 : ∀ a i, 20 ≤ a → a ≤ 21 → i ≠ q → τ' a i = τ a i) (hv : 1 ≤ v1 ∧ v1 ≤ 99 ∧ v2 ≤ 9) (ec : fI X 82 q = nI v1 ∧ fI X 83 q = nI v2) (ec' : ∀ a i, 82 ≤ a → a ≤ 83 → i ≠ q → fI X a i = fI μ a i) (em : fI T 3 (110 + 2 * q) = nI v1 ∧ fI T 3 (111 + 2 * q) = nI v2) (em' : ∀ j, 110 ≤ j → j < 130 → ¬ (110 + 2 * q ≤ j ∧ j ≤ 111 + 2 * q) → fI T 3 j = fI ν 3 j) : HDd τ' X T := by
  obtain ⟨h1, h3⟩ := h
  refine ⟨fun i hi => ?_, by omega⟩
  rw [t0] at hi
  by_cases y : i = q
  · subst y
    rw [t1.1, t1.2]
    exact ⟨⟨ec.1, em.1, hv.1, hv.2.1⟩, ec.2, em.2, hv.2.2⟩
  · rw [t2 20 i (by omega) (by omega) y, t2 21 i (by omega) (by omega) y, ec' 82 i (by omega) (by omega) y, ec' 83 i (by omega) (by omega) y, em' _ (by omega) (by omega) (by omega), em' _ (by omega) (by omega) (by omega)]
    exact h1 i (by omega)
end
