theorem ro_rd {μ ν : fm_T} {P : Nat} {b : Nat → Nat} (hP : P ≤ 9) (hb : ∀ i, i < P → fI μ 3 i = nI (b i) ∧ fI ν 1 i = nI (b i) ∧ b i ≤ 255) : ∀ (c i n n' : Nat) (y : Int64), i + c = P → c < n → c < n' →
    (lX11_round_h25 n μ (nI P) y (nI i) = -1 ∧ lX12_round_h31 n' ν (nI P) y (nI i) = -1 ∧ mX11_round_h25 n μ (nI P) y (nI i) = μ ∧ mX12_round_h31 n' ν (nI P) y (nI i) = ν ∧ qX11_round_h25 n μ (nI P) y (nI i) ∧ qX12_round_h31 n' ν (nI P) y (nI i)) ∨
    ∃ y' : Int64, (∀ j, i ≤ j → j < P → b j < 40) ∧ (lX11_round_h25 n μ (nI P) y (nI i) = lX11_round_h86 fF (uX9_start μ) (nI P) y' 0 ∧ mX11_round_h25 n μ (nI P) y (nI i) = mX11_round_h86 fF (uX9_start μ) (nI P) y' 0 ∧ (qX11_round_h86 fF (uX9_start μ) (nI P) y' 0 → qX11_round_h25 n μ (nI P) y (nI i))) ∧ (lX12_round_h31 n' ν (nI P) y (nI i) = lX12_round_h93 fF (fm_i ν 0 58 (nI P)) (nI P) y' 0 ∧ mX12_round_h31 n' ν (nI P) y (nI i) = mX12_round_h93 fF (fm_i ν 0 58 (nI P)) (nI P) y' 0 ∧ (qX12_round_h93 fF (fm_i ν 0 58 (nI P)) (nI P) y' 0 → qX12_round_h31 n' ν (nI P) y (nI i))) := by
  intro c
  induction c with
  | zero =>
    intro i n n' y h1 h2 h3
    obtain ⟨n, rfl⟩ : ∃ m, n = m + 1 := ⟨n - 1, by omega⟩
    obtain ⟨n', rfl⟩ : ∃ m, n' = m + 1 := ⟨n' - 1, by omega⟩
    have e : nI P ≤ nI i := (nI_leI (by omega) (by omega)).mpr (by omega)
    refine Or.inr ⟨y, fun j _ _ => by omega, ?_, ?_⟩
    · simp only [lX11_round_h25, mX11_round_h25, qX11_round_h25, if_pos e]
      exact ⟨trivial, trivial, fun q => ⟨fun _ => q, fun z => absurd e z⟩⟩
    · simp only [lX12_round_h31, mX12_round_h31, qX12_round_h31, if_pos e]
      exact ⟨trivial, trivial, fun q => ⟨fun _ => q, fun z => absurd e z⟩⟩
  | succ c ih =>
    intro i n n' y h1 h2 h3
    obtain ⟨n, rfl⟩ : ∃ m, n = m + 1 := ⟨n - 1, by omega⟩
    obtain ⟨n', rfl⟩ : ∃ m, n' = m + 1 := ⟨n' - 1, by omega⟩
    have e : ¬ nI P ≤ nI i := fun z => by have := (nI_leI (by omega) (by omega)).mp z; omega
    obtain ⟨b1, b2, b3⟩ := hb i (by omega)
    have hy : gX7_byteAt μ (nI i) = nI (b i) ∧ pX7_byteAt μ (nI i) := by
      have q1 : ¬ nI i < 0 := nI_pos (by omega)
      have q2 : ¬ (940 : Int32) ≤ nI i := fun z => by have := (nI_leI (a := 940) (by omega) (by omega)).mp z; omega
      unfold gX7_byteAt pX7_byteAt
      rw [if_neg q1, if_neg q2, nI_clamp (by omega)]
      exact ⟨b1, fun _ _ => vp_in_nI (by omega) (by decide)⟩
    have vi : vp_in (nI i) 940 := vp_in_nI (by omega) (by decide)
    have hi : i < 2 ^ 31 := by omega
    simp only [lX11_round_h25, mX11_round_h25, qX11_round_h25, lX12_round_h31, mX12_round_h31, qX12_round_h31, if_neg e, hy.1, nI_clamp hi, b2, nI_1]
    have kc : gX11_isCounter μ (nI (b i)) = 0 ↔ 40 ≤ b i := by
      unfold gX11_isCounter
      rw [wi_nI, show (39 : Int32) = nI 39 from rfl, nI_ltI (by omega) (by omega)]
      constructor
      · rintro (z | z)
        · exact absurd z (nI_pos (by omega))
        · omega
      · exact fun z => Or.inr (by omega)
    have km : (40 : Int32) ≤ nI (b i) ↔ 40 ≤ b i := nI_leI (a := 40) (by omega) (by omega)
    have l0 := lgc_0 (y >>> ((nI (b i)).toInt64 &&& 63))
    simp only [kc, km, l0]
    by_cases a1 : 40 ≤ b i
    · simp only [if_pos a1]
      refine Or.inl ⟨trivial, trivial, trivial, trivial, ⟨fun z => absurd z e, fun _ => ⟨hy.2, wi_01 _ _ _ _, fun z => absurd a1 z⟩⟩, ⟨fun z => absurd z e, fun _ => ?_⟩⟩
      exact ⟨vi, fun z => absurd a1 z⟩
    · simp only [if_neg a1]
      by_cases a2 : lg_cmp ((y >>> ((nI (b i)).toInt64 &&& 63)) &&& 1) 1 = 0
      · simp only [if_pos a2, if_neg (not_not_intro a2)]
        refine Or.inl ⟨trivial, trivial, trivial, trivial, ⟨fun z => absurd z e, fun _ => ⟨hy.2, wi_01 _ _ _ _, fun _ z => absurd a2 z⟩⟩, ⟨fun z => absurd z e, fun _ => ?_⟩⟩
        exact ⟨vi, fun _ => ⟨vi, fun z => absurd a2 z⟩⟩
      · simp only [if_neg a2, if_pos (show ¬ _ from a2)]
        rcases ih (i + 1) n n' (y ||| ((1 : Int64) <<< ((nI (b i)).toInt64 &&& 63))) (by omega) (by omega) (by omega) with ⟨i1, i2, i3, i4, i5, i6⟩ | ⟨y', i1, ⟨i2, i3, i4⟩, ⟨i5, i6, i7⟩⟩
        · refine Or.inl ⟨i1, i2, i3, i4, ⟨fun z => absurd z e, fun _ => ⟨hy.2, wi_01 _ _ _ _, fun _ _ => i5⟩⟩, ⟨fun z => absurd z e, fun _ => ?_⟩⟩
          exact ⟨vi, fun _ => ⟨vi, fun _ => ⟨vi, i6⟩⟩⟩
        · refine Or.inr ⟨y', fun j h4 h5 => ?_, ⟨i2, i3, fun q => ⟨fun z => absurd z e, fun _ => ⟨hy.2, wi_01 _ _ _ _, fun _ _ => i4 q⟩⟩⟩, ⟨i5, i6, fun q => ⟨fun z => absurd z e, fun _ => ?_⟩⟩⟩
          · rcases Nat.eq_or_lt_of_le h4 with rfl | h4
            · omega
            · exact i1 j h4 h5
          · exact ⟨vi, fun _ => ⟨vi, fun _ => ⟨vi, i7 q⟩⟩⟩
