theorem fl_75 (v : Int32) : ∀ (c i f : Nat) (μ : fm_T), i + c = 4 → c < f → qJ7_fill_53178_75_h5 f μ v (nI i) (nI 4) ∧ ∃ U, mJ7_fill_53178_75_h5 f μ v (nI i) (nI 4) = U ∧ frL (fun k j => k = 75 ∧ i ≤ j ∧ j < 4) fN μ U ∧ ∀ j, i ≤ j → j < 4 → fI U 75 j = v := by
  intro c
  induction c with
  | zero =>
    intro i f μ h1 h2
    obtain ⟨f, rfl⟩ : ∃ m, f = m + 1 := ⟨f - 1, by omega⟩
    have e1 : nI 4 ≤ nI i := (nI_leI (by omega) (by omega)).mpr (by omega)
    simp only [qJ7_fill_53178_75_h5, mJ7_fill_53178_75_h5, if_pos e1]
    exact ⟨fun q => absurd e1 q, μ, rfl, frL.rf _ _ _, fun j q1 q2 => by omega⟩
  | succ c ih =>
    intro i f μ h1 h2
    obtain ⟨f, rfl⟩ : ∃ m, f = m + 1 := ⟨f - 1, by omega⟩
    have e1 : ¬ nI 4 ≤ nI i := fun q => by have := (nI_leI (by omega) (by omega)).mp q; omega
    have ci : (nI i).toNatClampNeg = i := nI_clamp (by omega)
    simp only [qJ7_fill_53178_75_h5, mJ7_fill_53178_75_h5, if_neg e1, ci, nI_1]
    obtain ⟨k1, U, k3, k4, k5⟩ := ih (i + 1) f (fm_i μ 75 i v) (by omega) (by omega)
    refine ⟨fun _ => ⟨vp_in_nI (by omega) (by decide), k1⟩, U, k3, ((frL.rf _ _ _).i (by omega)).tr (k4.mo (fun k j y => by omega) (fun _ _ y => y)), fun j q1 q2 => ?_⟩
    by_cases y : j = i
    · subst y
      rw [k4.2.2.2 75 j (by omega), fI_i, if_pos ⟨rfl, rfl⟩]
    · exact k5 j (by omega) q2
theorem fl_77 (v : Int32) : ∀ (c i f : Nat) (μ : fm_T), i + c = 36 → c < f → qJ7_fill_53178_77_h5 f μ v (nI i) (nI 36) ∧ ∃ U, mJ7_fill_53178_77_h5 f μ v (nI i) (nI 36) = U ∧ frL (fun k j => k = 77 ∧ i ≤ j ∧ j < 36) fN μ U ∧ ∀ j, i ≤ j → j < 36 → fI U 77 j = v := by
  intro c
  induction c with
  | zero =>
    intro i f μ h1 h2
    obtain ⟨f, rfl⟩ : ∃ m, f = m + 1 := ⟨f - 1, by omega⟩
    have e1 : nI 36 ≤ nI i := (nI_leI (by omega) (by omega)).mpr (by omega)
    simp only [qJ7_fill_53178_77_h5, mJ7_fill_53178_77_h5, if_pos e1]
    exact ⟨fun q => absurd e1 q, μ, rfl, frL.rf _ _ _, fun j q1 q2 => by omega⟩
  | succ c ih =>
    intro i f μ h1 h2
    obtain ⟨f, rfl⟩ : ∃ m, f = m + 1 := ⟨f - 1, by omega⟩
    have e1 : ¬ nI 36 ≤ nI i := fun q => by have := (nI_leI (by omega) (by omega)).mp q; omega
    have ci : (nI i).toNatClampNeg = i := nI_clamp (by omega)
    simp only [qJ7_fill_53178_77_h5, mJ7_fill_53178_77_h5, if_neg e1, ci, nI_1]
    obtain ⟨k1, U, k3, k4, k5⟩ := ih (i + 1) f (fm_i μ 77 i v) (by omega) (by omega)
    refine ⟨fun _ => ⟨vp_in_nI (by omega) (by decide), k1⟩, U, k3, ((frL.rf _ _ _).i (by omega)).tr (k4.mo (fun k j y => by omega) (fun _ _ y => y)), fun j q1 q2 => ?_⟩
    by_cases y : j = i
    · subst y
      rw [k4.2.2.2 77 j (by omega), fI_i, if_pos ⟨rfl, rfl⟩]
    · exact k5 j (by omega) q2
theorem fl_80 (v : Int32) : ∀ (c i f : Nat) (μ : fm_T), i + c = 8 → c < f → qJ7_fill_53178_80_h5 f μ v (nI i) (nI 8) ∧ ∃ U, mJ7_fill_53178_80_h5 f μ v (nI i) (nI 8) = U ∧ frL (fun k j => k = 80 ∧ i ≤ j ∧ j < 8) fN μ U ∧ ∀ j, i ≤ j → j < 8 → fI U 80 j = v := by
  intro c
  induction c with
  | zero =>
    intro i f μ h1 h2
    obtain ⟨f, rfl⟩ : ∃ m, f = m + 1 := ⟨f - 1, by omega⟩
    have e1 : nI 8 ≤ nI i := (nI_leI (by omega) (by omega)).mpr (by omega)
    simp only [qJ7_fill_53178_80_h5, mJ7_fill_53178_80_h5, if_pos e1]
    exact ⟨fun q => absurd e1 q, μ, rfl, frL.rf _ _ _, fun j q1 q2 => by omega⟩
  | succ c ih =>
    intro i f μ h1 h2
    obtain ⟨f, rfl⟩ : ∃ m, f = m + 1 := ⟨f - 1, by omega⟩
    have e1 : ¬ nI 8 ≤ nI i := fun q => by have := (nI_leI (by omega) (by omega)).mp q; omega
    have ci : (nI i).toNatClampNeg = i := nI_clamp (by omega)
    simp only [qJ7_fill_53178_80_h5, mJ7_fill_53178_80_h5, if_neg e1, ci, nI_1]
    obtain ⟨k1, U, k3, k4, k5⟩ := ih (i + 1) f (fm_i μ 80 i v) (by omega) (by omega)
    refine ⟨fun _ => ⟨vp_in_nI (by omega) (by decide), k1⟩, U, k3, ((frL.rf _ _ _).i (by omega)).tr (k4.mo (fun k j y => by omega) (fun _ _ y => y)), fun j q1 q2 => ?_⟩
    by_cases y : j = i
    · subst y
      rw [k4.2.2.2 80 j (by omega), fI_i, if_pos ⟨rfl, rfl⟩]
    · exact k5 j (by omega) q2
theorem fl_81 (v : Int32) : ∀ (c i f : Nat) (μ : fm_T), i + c = 8 → c < f → qJ7_fill_53178_81_h5 f μ v (nI i) (nI 8) ∧ ∃ U, mJ7_fill_53178_81_h5 f μ v (nI i) (nI 8) = U ∧ frL (fun k j => k = 81 ∧ i ≤ j ∧ j < 8) fN μ U ∧ ∀ j, i ≤ j → j < 8 → fI U 81 j = v := by
  intro c
  induction c with
  | zero =>
    intro i f μ h1 h2
    obtain ⟨f, rfl⟩ : ∃ m, f = m + 1 := ⟨f - 1, by omega⟩
    have e1 : nI 8 ≤ nI i := (nI_leI (by omega) (by omega)).mpr (by omega)
    simp only [qJ7_fill_53178_81_h5, mJ7_fill_53178_81_h5, if_pos e1]
    exact ⟨fun q => absurd e1 q, μ, rfl, frL.rf _ _ _, fun j q1 q2 => by omega⟩
  | succ c ih =>
    intro i f μ h1 h2
    obtain ⟨f, rfl⟩ : ∃ m, f = m + 1 := ⟨f - 1, by omega⟩
    have e1 : ¬ nI 8 ≤ nI i := fun q => by have := (nI_leI (by omega) (by omega)).mp q; omega
    have ci : (nI i).toNatClampNeg = i := nI_clamp (by omega)
    simp only [qJ7_fill_53178_81_h5, mJ7_fill_53178_81_h5, if_neg e1, ci, nI_1]
    obtain ⟨k1, U, k3, k4, k5⟩ := ih (i + 1) f (fm_i μ 81 i v) (by omega) (by omega)
    refine ⟨fun _ => ⟨vp_in_nI (by omega) (by decide), k1⟩, U, k3, ((frL.rf _ _ _).i (by omega)).tr (k4.mo (fun k j y => by omega) (fun _ _ y => y)), fun j q1 q2 => ?_⟩
    by_cases y : j = i
    · subst y
      rw [k4.2.2.2 81 j (by omega), fI_i, if_pos ⟨rfl, rfl⟩]
    · exact k5 j (by omega) q2
theorem fl_19H (v : Int32) : ∀ (c i f : Nat) (μ : fm_T), i + c = 100 → c < f → qJ7_fill_53178_19H_h5 f μ v (nI i) (nI 100) ∧ ∃ U, mJ7_fill_53178_19H_h5 f μ v (nI i) (nI 100) = U ∧ frL (fun k j => k = 19 ∧ i ≤ j ∧ j < 100) fN μ U ∧ ∀ j, i ≤ j → j < 100 → fI U 19 j = v := by
  intro c
  induction c with
  | zero =>
    intro i f μ h1 h2
    obtain ⟨f, rfl⟩ : ∃ m, f = m + 1 := ⟨f - 1, by omega⟩
    have e1 : nI 100 ≤ nI i := (nI_leI (by omega) (by omega)).mpr (by omega)
    simp only [qJ7_fill_53178_19H_h5, mJ7_fill_53178_19H_h5, if_pos e1]
    exact ⟨fun q => absurd e1 q, μ, rfl, frL.rf _ _ _, fun j q1 q2 => by omega⟩
  | succ c ih =>
    intro i f μ h1 h2
    obtain ⟨f, rfl⟩ : ∃ m, f = m + 1 := ⟨f - 1, by omega⟩
    have e1 : ¬ nI 100 ≤ nI i := fun q => by have := (nI_leI (by omega) (by omega)).mp q; omega
    have ci : (nI i).toNatClampNeg = i := nI_clamp (by omega)
    simp only [qJ7_fill_53178_19H_h5, mJ7_fill_53178_19H_h5, if_neg e1, ci, nI_1]
    obtain ⟨k1, U, k3, k4, k5⟩ := ih (i + 1) f (fm_i μ 19 i v) (by omega) (by omega)
    refine ⟨fun _ => ⟨vp_in_nI (by omega) (by decide), k1⟩, U, k3, ((frL.rf _ _ _).i (by omega)).tr (k4.mo (fun k j y => by omega) (fun _ _ y => y)), fun j q1 q2 => ?_⟩
    by_cases y : j = i
    · subst y
      rw [k4.2.2.2 19 j (by omega), fI_i, if_pos ⟨rfl, rfl⟩]
    · exact k5 j (by omega) q2
theorem fl_20H (v : Int32) : ∀ (c i f : Nat) (μ : fm_T), i + c = 40 → c < f → qJ7_fill_53178_20H_h5 f μ v (nI i) (nI 40) ∧ ∃ U, mJ7_fill_53178_20H_h5 f μ v (nI i) (nI 40) = U ∧ frL (fun k j => k = 20 ∧ i ≤ j ∧ j < 40) fN μ U ∧ ∀ j, i ≤ j → j < 40 → fI U 20 j = v := by
  intro c
  induction c with
  | zero =>
    intro i f μ h1 h2
    obtain ⟨f, rfl⟩ : ∃ m, f = m + 1 := ⟨f - 1, by omega⟩
    have e1 : nI 40 ≤ nI i := (nI_leI (by omega) (by omega)).mpr (by omega)
    simp only [qJ7_fill_53178_20H_h5, mJ7_fill_53178_20H_h5, if_pos e1]
    exact ⟨fun q => absurd e1 q, μ, rfl, frL.rf _ _ _, fun j q1 q2 => by omega⟩
  | succ c ih =>
    intro i f μ h1 h2
    obtain ⟨f, rfl⟩ : ∃ m, f = m + 1 := ⟨f - 1, by omega⟩
    have e1 : ¬ nI 40 ≤ nI i := fun q => by have := (nI_leI (by omega) (by omega)).mp q; omega
    have ci : (nI i).toNatClampNeg = i := nI_clamp (by omega)
    simp only [qJ7_fill_53178_20H_h5, mJ7_fill_53178_20H_h5, if_neg e1, ci, nI_1]
    obtain ⟨k1, U, k3, k4, k5⟩ := ih (i + 1) f (fm_i μ 20 i v) (by omega) (by omega)
    refine ⟨fun _ => ⟨vp_in_nI (by omega) (by decide), k1⟩, U, k3, ((frL.rf _ _ _).i (by omega)).tr (k4.mo (fun k j y => by omega) (fun _ _ y => y)), fun j q1 q2 => ?_⟩
    by_cases y : j = i
    · subst y
      rw [k4.2.2.2 20 j (by omega), fI_i, if_pos ⟨rfl, rfl⟩]
    · exact k5 j (by omega) q2
theorem sd_3 : ∀ (c i f : Nat) (μ : fm_T), i + c = 130 → c < f → qX12_standard_3_h2 f μ (nI i) ∧ ∃ Z, mX12_standard_3_h2 f μ (nI i) = fm_i (fm_i (fm_i (fm_i Z 3 4 2) 3 5 30) 3 6 20) 3 7 150 ∧ frL (fun k j => k = 3 ∧ i ≤ j ∧ j < 130) fN μ Z ∧ ∀ j, i ≤ j → j < 130 → fI Z 3 j = 0 := by
  intro c
  induction c with
  | zero =>
    intro i f μ h1 h2
    obtain ⟨f, rfl⟩ : ∃ m, f = m + 1 := ⟨f - 1, by omega⟩
    have e1 : (130 : Int32) ≤ nI i := (nI_leI (a := 130) (by omega) (by omega)).mpr (by omega)
    simp only [qX12_standard_3_h2, mX12_standard_3_h2, if_pos e1]
    exact ⟨fun q => absurd e1 q, μ, rfl, frL.rf _ _ _, fun j q1 q2 => by omega⟩
  | succ c ih =>
    intro i f μ h1 h2
    obtain ⟨f, rfl⟩ : ∃ m, f = m + 1 := ⟨f - 1, by omega⟩
    have e1 : ¬ (130 : Int32) ≤ nI i := fun q => by have := (nI_leI (a := 130) (by omega) (by omega)).mp q; omega
    have ci : (nI i).toNatClampNeg = i := nI_clamp (by omega)
    simp only [qX12_standard_3_h2, mX12_standard_3_h2, if_neg e1, ci, nI_1]
    obtain ⟨k1, U, k3, k4, k5⟩ := ih (i + 1) f (fm_i μ 3 i 0) (by omega) (by omega)
    refine ⟨fun _ => ⟨vp_in_nI (by omega) (by decide), k1⟩, U, k3, ((frL.rf _ _ _).i (by omega)).tr (k4.mo (fun k j y => by omega) (fun _ _ y => y)), fun j q1 q2 => ?_⟩
    by_cases y : j = i
    · subst y
      rw [k4.2.2.2 3 j (by omega), fI_i, if_pos ⟨rfl, rfl⟩]
    · exact k5 j (by omega) q2
