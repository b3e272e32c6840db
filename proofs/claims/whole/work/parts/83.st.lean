theorem fL_mk (a : Nat) (b) (G : Nat → Nat → Int32) (F : Nat → Int64) (i : Nat) : fL (a, b, G, va_up (fun _ _ => 0) 2 F) 2 i = F i := rfl
theorem hd_ok : ∀ (μ ν : fm_T), RR μ ν → (∃ r0 r1, lz_r μ r0 r1) ∧ ν.2.1 = shM ∧ ν.1 = 34 := by
  rintro μ ν ⟨σ, σ0, σ1, ρ, r0, r1, h⟩
  exact ⟨⟨r0, r1, h.1⟩, h.2.1, h.2.2.1⟩
def sg0 : sg_T := fun r j => if r = 0 then (if j = 9 then 2 else if j = 10 then 30 else if j = 11 then 20 else if j = 12 then 150 else 0) else 0
theorem st_HW : HW sg0 := by
  refine ⟨by decide, by decide, fun i hi => ?_, fun i hi => ?_, fun i hi => ?_, fun s i hs hi => ?_, fun i j _ hj => ?_⟩
  · exact absurd hi (by show ¬ i < 0; omega)
  · exact absurd hi (by show ¬ i < 0; omega)
  · exact absurd hi (by show ¬ i < 0; omega)
  · have : sg0 0 (5 + s) = 0 := by
      have : s = 0 ∨ s = 1 ∨ s = 2 ∨ s = 3 := by omega
      rcases this with rfl | rfl | rfl | rfl <;> rfl
    omega
  · exact absurd hj (by show ¬ j < 0; omega)
theorem st_ok : RR mu0 nu0 := by
  have n0 : ∀ s, s < 4 → sg0 0 (5 + s) = 0 := fun s hs => by
    have : s = 0 ∨ s = 1 ∨ s = 2 ∨ s = 3 := by omega
    rcases this with rfl | rfl | rfl | rfl <;> rfl
  have i0 : ∀ j, fI mu0 26 j = 0 := fun _ => rfl
  have r0' : ∀ j, rowN nu0 j = row0 j := fun _ => rfl
  refine ⟨sg0, sg0, sg0, fun _ _ => 0, 2, 2, ⟨rfl, Or.inl ⟨rfl, rfl, rfl⟩⟩, rfl, rfl, ?_, Or.inr ⟨rfl, fun _ => rfl⟩, ⟨?_, ?_, ?_, ?_⟩, Or.inl ⟨rfl, rfl⟩, Or.inl ⟨rfl, rfl⟩⟩
  · refine ⟨⟨rfl, rfl, Nat.zero_le _, fun i _ => ⟨rfl, rfl, Nat.zero_le _⟩⟩, ⟨rfl, rfl, Nat.zero_le _, fun i hi => absurd hi (Nat.not_lt_zero _)⟩, ⟨rfl, rfl, Nat.zero_le _, fun i hi => absurd hi (Nat.not_lt_zero _)⟩, ⟨rfl, rfl, Nat.zero_le _, fun i hi => absurd hi (Nat.not_lt_zero _)⟩, ⟨rfl, rfl, Nat.zero_le _, fun i hi => absurd hi (Nat.not_lt_zero _)⟩, ⟨rfl, rfl, Nat.zero_le _, fun i hi => absurd hi (Nat.not_lt_zero _)⟩, rfl, fun i _ => ?_⟩
    unfold mu0
    exact fL_mk _ _ _ wcode i
  · refine ⟨⟨rfl, rfl, rfl, rfl, rfl⟩, fun t j ht _ => ?_, fun n hn => ?_, fun d hd => ?_, fun l hl => ?_, fun q hq => ⟨?_, fun z => absurd rfl z, rfl, rfl⟩, fun s hs => ?_, fun i hi => ?_, fun i hi => ?_, fun i hi => ?_, fun i hi => ?_, fun s i hs hi => ?_⟩
    · exact absurd ht (by show ¬ t < 0; omega)
    · exact absurd hn (by show ¬ n < 0; omega)
    · exact absurd hd (by show ¬ d < 0; omega)
    · show zfill 100 l = _
      unfold zfill
      simp [hl]
      rfl
    · show zfill 40 q = _
      unfold zfill
      simp [hq]
      rfl
    · rw [n0 s hs]; rfl
    · have : i = 0 ∨ i = 1 ∨ i = 2 ∨ i = 3 := by omega
      rcases this with rfl | rfl | rfl | rfl <;> rfl
    · exact absurd hi (by show ¬ i < 0; omega)
    · exact absurd hi (by show ¬ i < 0; omega)
    · exact absurd hi (by show ¬ i < 0; omega)
    · rw [n0 s hs] at hi; omega
  · refine ⟨⟨rfl, rfl, rfl, rfl, rfl⟩, fun t j ht _ => ?_, fun n hn => ?_, fun d hd => ?_, fun l hl => ?_, fun q hq => ⟨?_, ?_, ?_⟩, fun k hk => ?_, fun s hs => ?_, fun i hi => ?_, fun i hi => ?_, fun i hi => ?_, fun i hi => ?_, fun s i hs hi => ?_⟩
    · exact absurd ht (by show ¬ t < 0; omega)
    · exact absurd hn (by show ¬ n < 0; omega)
    · exact absurd hd (by show ¬ d < 0; omega)
    · rw [r0']
      unfold row0
      rw [if_neg (by omega), if_neg (by omega), if_neg (by omega), if_neg (by omega), if_pos (by omega)]
      rfl
    · rw [r0']
      unfold row0
      rw [if_neg (by omega), if_neg (by omega), if_neg (by omega), if_neg (by omega), if_pos (by omega)]
      rfl
    · rw [r0']
      unfold row0
      rw [if_neg (by omega), if_neg (by omega), if_neg (by omega), if_neg (by omega), if_neg (by omega)]
      rfl
    · rw [r0']
      unfold row0
      rw [if_neg (by omega), if_neg (by omega), if_neg (by omega), if_neg (by omega), if_neg (by omega)]
      rfl
    · exact absurd hk (by show ¬ k < 0; omega)
    · rw [n0 s hs, r0']
      unfold row0
      rw [if_neg (by omega), if_neg (by omega), if_neg (by omega), if_neg (by omega), if_neg (by omega)]
      rfl
    · have : i = 0 ∨ i = 1 ∨ i = 2 ∨ i = 3 := by omega
      rcases this with rfl | rfl | rfl | rfl <;> rfl
    · exact absurd hi (by show ¬ i < 0; omega)
    · exact absurd hi (by show ¬ i < 0; omega)
    · exact absurd hi (by show ¬ i < 0; omega)
    · rw [n0 s hs] at hi; omega
  · refine ⟨by decide, fun t ht => ?_, fun n hn => ?_, fun d hd => ?_, fun l hl => Nat.le_refl 0, fun q hq => ⟨by show 0 ≤ 31; omega, by show 0 ≤ 999; omega, by show 0 ≤ 99; omega, by show 0 ≤ 99; omega⟩, fun k hk => ?_, fun j k _ hk => ?_, st_HW⟩
    · exact absurd ht (by show ¬ t < 0; omega)
    · exact absurd hn (by show ¬ n < 0; omega)
    · exact absurd hd (by show ¬ d < 0; omega)
    · exact absurd hk (by show ¬ k < 0; omega)
    · exact absurd hk (by show ¬ k < 0; omega)
  · exact ⟨0, 0, 0, rfl, rfl, by omega, by omega, Or.inl ⟨rfl, rfl⟩⟩
