theorem hc_54 (x1 : Int32) : ∀ (c i f : Nat) (T : fm_T), i + c = 130 → c < f → ∃ Z, frL (fun k j => k = 2 ∧ i ≤ j ∧ j < 130) fN T Z ∧ (∀ j, i ≤ j → j < 130 → fI Z 2 j = fI T 3 j) ∧ lX12_house_h54 f T x1 (nI i) = lX12_house_h81 fF Z x1 0 ∧ mX12_house_h54 f T x1 (nI i) = mX12_house_h81 fF Z x1 0 ∧ (qX12_house_h81 fF Z x1 0 → qX12_house_h54 f T x1 (nI i)) := by
  intro c
  induction c with
  | zero =>
    intro i f T h1 h2
    obtain ⟨f, rfl⟩ : ∃ m, f = m + 1 := ⟨f - 1, by omega⟩
    have e1 : (130 : Int32) ≤ nI i := (nI_leI (a := 130) (by omega) (by omega)).mpr (by omega)
    simp only [qX12_house_h54, lX12_house_h54, mX12_house_h54, if_pos e1]
    exact ⟨T, frL.rf _ _ _, fun j q1 q2 => by omega, rfl, rfl, fun q => ⟨fun _ => q, fun y => absurd e1 y⟩⟩
  | succ c ih =>
    intro i f T h1 h2
    obtain ⟨f, rfl⟩ : ∃ m, f = m + 1 := ⟨f - 1, by omega⟩
    have e1 : ¬ (130 : Int32) ≤ nI i := fun q => by have := (nI_leI (a := 130) (by omega) (by omega)).mp q; omega
    have ci : (nI i).toNatClampNeg = i := nI_clamp (by omega)
    simp only [qX12_house_h54, lX12_house_h54, mX12_house_h54, if_neg e1, ci, nI_1]
    obtain ⟨Z, k1, k2, k3, k4, k5⟩ := ih (i + 1) f (fm_i T 2 i (fI T 3 i)) (by omega) (by omega)
    refine ⟨Z, ((frL.rf _ _ _).i (by omega)).tr (k1.mo (fun k j y => by omega) (fun _ _ y => y)), fun j q1 q2 => ?_, k3, k4, fun q => ⟨fun y => absurd y e1, fun _ => ⟨vp_in_nI (by omega) (by decide), vp_in_nI (by omega) (by decide), k5 q⟩⟩⟩
    by_cases y : j = i
    · subst y
      rw [k1.2.2.2 2 j (by omega), fI_i, if_pos ⟨rfl, rfl⟩]
    · rw [k2 j (by omega) q2, fI_i, if_neg (by omega)]
theorem hc_81 (x1 : Int32) : ∀ (c i f : Nat) (T : fm_T), i + c = 24 → c < f → ∃ Z, frL fN (fun k j => k = 5 ∧ i ≤ j ∧ j < 24) T Z ∧ (∀ j, i ≤ j → j < 24 → fL Z 5 j = fL T 6 j) ∧ lX12_house_h81 f T x1 (nI i) = x1 ∧ mX12_house_h81 f T x1 (nI i) = uX12_empty Z ∧ (pX12_empty Z → qX12_house_h81 f T x1 (nI i)) := by
  intro c
  induction c with
  | zero =>
    intro i f T h1 h2
    obtain ⟨f, rfl⟩ : ∃ m, f = m + 1 := ⟨f - 1, by omega⟩
    have e1 : (24 : Int32) ≤ nI i := (nI_leI (a := 24) (by omega) (by omega)).mpr (by omega)
    simp only [qX12_house_h81, lX12_house_h81, mX12_house_h81, if_pos e1]
    exact ⟨T, frL.rf _ _ _, fun j q1 q2 => by omega, trivial, rfl, fun q => ⟨fun _ => q, fun y => absurd e1 y⟩⟩
  | succ c ih =>
    intro i f T h1 h2
    obtain ⟨f, rfl⟩ : ∃ m, f = m + 1 := ⟨f - 1, by omega⟩
    have e1 : ¬ (24 : Int32) ≤ nI i := fun q => by have := (nI_leI (a := 24) (by omega) (by omega)).mp q; omega
    have ci : (nI i).toNatClampNeg = i := nI_clamp (by omega)
    simp only [qX12_house_h81, lX12_house_h81, mX12_house_h81, if_neg e1, ci, nI_1]
    obtain ⟨Z, k1, k2, k3, k4, k5⟩ := ih (i + 1) f (fm_l T 5 i (fL T 6 i)) (by omega) (by omega)
    refine ⟨Z, ((frL.rf fN (fun k j => k = 5 ∧ i ≤ j ∧ j < 24) T).l ⟨rfl, by omega, by omega⟩).tr (k1.mo (fun _ _ y => y) (fun k j y => by omega)), fun j q1 q2 => ?_, k3, k4, fun q => ⟨fun y => absurd y e1, fun _ => ⟨vp_in_nI (by omega) (by decide), vp_in_nI (by omega) (by decide), k5 q⟩⟩⟩
    by_cases y : j = i
    · subst y
      rw [k1.2.2.1 5 j (by omega), fL_l, if_pos ⟨rfl, rfl⟩]
    · rw [k2 j (by omega) q2, fL_l, if_neg (by omega)]
