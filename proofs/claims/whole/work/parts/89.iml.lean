theorem fL_l (μ : fm_T) (k j : Nat) (v : Int64) (k' j' : Nat) : fL (fm_l μ k j v) k' j' = if k' = k ∧ j' = j then v else fL μ k' j' := by
  show (va_up μ.2.2.2 k (vp_updL (μ.2.2.2 k) j v)) k' j' = _
  unfold va_up vp_updL
  by_cases h1 : k' = k
  · subst h1
    by_cases h2 : j' = j
    · simp [h2]
    · simp [h2]
  · simp [h1]
def CI (ks kd o : Nat) (u i : Nat) (ν ν' : fm_T) : Prop := (ν'.1 = ν.1 ∧ ν'.2.1 = ν.2.1) ∧ (∀ k j, fL ν' k j = fL ν k j) ∧ (∀ k j, (k ≠ kd ∨ j < o ∨ o + i ≤ j) → fI ν' k j = fI ν k j) ∧ ∀ j, j < i → fI ν' kd (o + j) = fI ν ks (u + j)
theorem CI.st {ks kd o u i : Nat} {ν ν' : fm_T} (h : CI ks kd o u i ν ν') (hk : ks ≠ kd) : CI ks kd o u (i + 1) ν (fm_i ν' kd (o + i) (fI ν' ks (u + i))) := by
  obtain ⟨h1, h2, h3, h4⟩ := h
  refine ⟨h1, h2, fun k j q => ?_, fun j hj => ?_⟩
  · rw [fI_i, if_neg (by omega)]; exact h3 k j (by omega)
  · rw [fI_i]
    by_cases e : j = i
    · rw [if_pos ⟨rfl, by omega⟩, h3 ks (u + i) (Or.inl hk), e]
    · rw [if_neg (by omega)]; exact h4 j (by omega)
def CL (ks kd o : Nat) (u i : Nat) (ν ν' : fm_T) : Prop := (ν'.1 = ν.1 ∧ ν'.2.1 = ν.2.1) ∧ (∀ k j, fI ν' k j = fI ν k j) ∧ (∀ k j, (k ≠ kd ∨ j < o ∨ o + i ≤ j) → fL ν' k j = fL ν k j) ∧ ∀ j, j < i → fL ν' kd (o + j) = fL ν ks (u + j)
theorem CL.st {ks kd o u i : Nat} {ν ν' : fm_T} (h : CL ks kd o u i ν ν') (hk : ks ≠ kd) : CL ks kd o u (i + 1) ν (fm_l ν' kd (o + i) (fL ν' ks (u + i))) := by
  obtain ⟨h1, h2, h3, h4⟩ := h
  refine ⟨h1, h2, fun k j q => ?_, fun j hj => ?_⟩
  · rw [fL_l, if_neg (by omega)]; exact h3 k j (by omega)
  · rw [fL_l]
    by_cases e : j = i
    · rw [if_pos ⟨rfl, by omega⟩, h3 ks (u + i) (Or.inl hk), e]
    · rw [if_neg (by omega)]; exact h4 j (by omega)
theorem im1 {b : Nat} (hb : b ≤ 1) {ν : fm_T} : ∀ (c i n : Nat) (ν' : fm_T), i + c = 2560 → c < n → CI 2 4 (2560 * b) 0 i ν ν' → ∃ ν'', CI 2 4 (2560 * b) 0 2560 ν ν'' ∧ mX12_image_h22 n ν' (nI b) (nI i) = mX12_image_h55 fF ν'' (nI b) 0 ∧ lX12_image_h22 n ν' (nI b) (nI i) = lX12_image_h55 fF ν'' (nI b) 0 ∧ (qX12_image_h55 fF ν'' (nI b) 0 → qX12_image_h22 n ν' (nI b) (nI i)) := by
  intro c
  induction c with
  | zero =>
    intro i n ν' h1 h2 h
    obtain ⟨n, rfl⟩ : ∃ m, n = m + 1 := ⟨n - 1, by omega⟩
    obtain rfl : i = 2560 := by omega
    have e : (2560 : Int32) ≤ nI 2560 := by decide
    refine ⟨ν', h, ?_, ?_, fun q => ?_⟩
    · simp only [mX12_image_h22, if_pos e]
    · simp only [lX12_image_h22, if_pos e]
    · simp only [qX12_image_h22]
      exact ⟨fun _ => q, fun z => absurd e z⟩
  | succ c ih =>
    intro i n ν' h1 h2 h
    obtain ⟨n, rfl⟩ : ∃ m, n = m + 1 := ⟨n - 1, by omega⟩
    have e : ¬ (2560 : Int32) ≤ nI i := fun z => by have := (nI_leI (a := 2560) (by omega) (by omega)).mp z; omega
    have e1 : (2560 : Int32) * nI b + nI i = nI (2560 * b + i) := by simp only [li_n, nI_mul, nI_add]
    have st := h.st (by decide)
    rw [Nat.zero_add] at st
    obtain ⟨ν'', k1, k2, k3, k4⟩ := ih (i + 1) n _ (by omega) (by omega) st
    refine ⟨ν'', k1, ?_, ?_, fun q => ?_⟩
    · simp only [mX12_image_h22, if_neg e, e1, nI_1]
      rw [nI_clamp (by omega), nI_clamp (by omega)]
      exact k2
    · simp only [lX12_image_h22, if_neg e, e1, nI_1]
      rw [nI_clamp (by omega), nI_clamp (by omega)]
      exact k3
    · simp only [qX12_image_h22, e1, nI_1]
      rw [nI_clamp (by omega), nI_clamp (by omega)]
      exact ⟨fun z => absurd z e, fun _ => ⟨vp_in_nI (by omega) (by decide), vp_in_nI (by omega) (by decide), k4 q⟩⟩
theorem im2 {b : Nat} (hb : b ≤ 1) {ν : fm_T} : ∀ (c i n : Nat) (ν' : fm_T), i + c = 24 → c < n → CL 5 7 (24 * b) 0 i ν ν' → ∃ ν'', CL 5 7 (24 * b) 0 24 ν ν'' ∧ mX12_image_h55 n ν' (nI b) (nI i) = fm_i ν'' 8 b 1 ∧ lX12_image_h55 n ν' (nI b) (nI i) = 1 ∧ qX12_image_h55 n ν' (nI b) (nI i) := by
  intro c
  induction c with
  | zero =>
    intro i n ν' h1 h2 h
    obtain ⟨n, rfl⟩ : ∃ m, n = m + 1 := ⟨n - 1, by omega⟩
    obtain rfl : i = 24 := by omega
    have e : (24 : Int32) ≤ nI 24 := by decide
    refine ⟨ν', h, ?_, ?_, ?_⟩
    · simp only [mX12_image_h55, if_pos e]
      rw [nI_clamp (by omega)]
    · simp only [lX12_image_h55, if_pos e]
    · simp only [qX12_image_h55]
      exact ⟨fun _ => vp_in_nI (by omega) (by decide), fun z => absurd e z⟩
  | succ c ih =>
    intro i n ν' h1 h2 h
    obtain ⟨n, rfl⟩ : ∃ m, n = m + 1 := ⟨n - 1, by omega⟩
    have e : ¬ (24 : Int32) ≤ nI i := fun z => by have := (nI_leI (a := 24) (by omega) (by omega)).mp z; omega
    have e1 : (24 : Int32) * nI b + nI i = nI (24 * b + i) := by simp only [li_n, nI_mul, nI_add]
    have st := h.st (by decide)
    rw [Nat.zero_add] at st
    obtain ⟨ν'', k1, k2, k3, k4⟩ := ih (i + 1) n _ (by omega) (by omega) st
    refine ⟨ν'', k1, ?_, ?_, ?_⟩
    · simp only [mX12_image_h55, if_neg e, e1, nI_1]
      rw [nI_clamp (by omega), nI_clamp (by omega)]
      exact k2
    · simp only [lX12_image_h55, if_neg e, e1, nI_1]
      rw [nI_clamp (by omega), nI_clamp (by omega)]
      exact k3
    · simp only [qX12_image_h55, e1, nI_1]
      rw [nI_clamp (by omega), nI_clamp (by omega)]
      exact ⟨fun z => absurd z e, fun _ => ⟨vp_in_nI (by omega) (by decide), vp_in_nI (by omega) (by decide), k4⟩⟩
theorem re1 {b : Nat} (hb : b ≤ 1) {ν : fm_T} : ∀ (c i n : Nat) (ν' : fm_T), i + c = 2560 → c < n → CI 4 2 0 (2560 * b) i ν ν' → ∃ ν'', CI 4 2 0 (2560 * b) 2560 ν ν'' ∧ mX12_restore_h31 n ν' (nI b) (nI i) = mX12_restore_h64 fF ν'' (nI b) 0 ∧ lX12_restore_h31 n ν' (nI b) (nI i) = lX12_restore_h64 fF ν'' (nI b) 0 ∧ (qX12_restore_h64 fF ν'' (nI b) 0 → qX12_restore_h31 n ν' (nI b) (nI i)) := by
  intro c
  induction c with
  | zero =>
    intro i n ν' h1 h2 h
    obtain ⟨n, rfl⟩ : ∃ m, n = m + 1 := ⟨n - 1, by omega⟩
    obtain rfl : i = 2560 := by omega
    have e : (2560 : Int32) ≤ nI 2560 := by decide
    refine ⟨ν', h, ?_, ?_, fun q => ?_⟩
    · simp only [mX12_restore_h31, if_pos e]
    · simp only [lX12_restore_h31, if_pos e]
    · simp only [qX12_restore_h31]
      exact ⟨fun _ => q, fun z => absurd e z⟩
  | succ c ih =>
    intro i n ν' h1 h2 h
    obtain ⟨n, rfl⟩ : ∃ m, n = m + 1 := ⟨n - 1, by omega⟩
    have e : ¬ (2560 : Int32) ≤ nI i := fun z => by have := (nI_leI (a := 2560) (by omega) (by omega)).mp z; omega
    have e1 : (2560 : Int32) * nI b + nI i = nI (2560 * b + i) := by simp only [li_n, nI_mul, nI_add]
    have st := h.st (by decide)
    rw [Nat.zero_add] at st
    obtain ⟨ν'', k1, k2, k3, k4⟩ := ih (i + 1) n _ (by omega) (by omega) st
    refine ⟨ν'', k1, ?_, ?_, fun q => ?_⟩
    · simp only [mX12_restore_h31, if_neg e, e1, nI_1]
      rw [nI_clamp (by omega), nI_clamp (by omega)]
      exact k2
    · simp only [lX12_restore_h31, if_neg e, e1, nI_1]
      rw [nI_clamp (by omega), nI_clamp (by omega)]
      exact k3
    · simp only [qX12_restore_h31, e1, nI_1]
      rw [nI_clamp (by omega), nI_clamp (by omega)]
      exact ⟨fun z => absurd z e, fun _ => ⟨vp_in_nI (by omega) (by decide), vp_in_nI (by omega) (by decide), k4 q⟩⟩
theorem re2 {b : Nat} (hb : b ≤ 1) {ν : fm_T} : ∀ (c i n : Nat) (ν' : fm_T), i + c = 24 → c < n → CL 7 5 0 (24 * b) i ν ν' → CL 7 5 0 (24 * b) 24 ν (mX12_restore_h64 n ν' (nI b) (nI i)) ∧ lX12_restore_h64 n ν' (nI b) (nI i) = 1 ∧ qX12_restore_h64 n ν' (nI b) (nI i) := by
  intro c
  induction c with
  | zero =>
    intro i n ν' h1 h2 h
    obtain ⟨n, rfl⟩ : ∃ m, n = m + 1 := ⟨n - 1, by omega⟩
    obtain rfl : i = 24 := by omega
    have e : (24 : Int32) ≤ nI 24 := by decide
    simp only [mX12_restore_h64, lX12_restore_h64, qX12_restore_h64, if_pos e]
    exact ⟨h, trivial, fun z => absurd e z⟩
  | succ c ih =>
    intro i n ν' h1 h2 h
    obtain ⟨n, rfl⟩ : ∃ m, n = m + 1 := ⟨n - 1, by omega⟩
    have e : ¬ (24 : Int32) ≤ nI i := fun z => by have := (nI_leI (a := 24) (by omega) (by omega)).mp z; omega
    have e1 : (24 : Int32) * nI b + nI i = nI (24 * b + i) := by simp only [li_n, nI_mul, nI_add]
    have st := h.st (by decide)
    rw [Nat.zero_add] at st
    obtain ⟨k1, k3, k4⟩ := ih (i + 1) n _ (by omega) (by omega) st
    simp only [mX12_restore_h64, lX12_restore_h64, qX12_restore_h64, if_neg e, e1, nI_1]
    rw [nI_clamp (by omega), nI_clamp (by omega)]
    exact ⟨k1, k3, fun _ => ⟨vp_in_nI (by omega) (by decide), vp_in_nI (by omega) (by decide), k4⟩⟩
