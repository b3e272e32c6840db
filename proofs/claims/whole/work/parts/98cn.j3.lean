def nwS (σ τ : sg_T) : sg_T := fun a i => if a = 0 then (if i = 3 then σ 0 3 else if 5 ≤ i ∧ i ≤ 12 then τ 0 i else 0) else if a = 12 ∨ a = 13 then σ a i else if 14 ≤ a ∧ a ≤ 22 then τ a i else 0
section
variable {σ τ : sg_T} {U T : fm_T} {m : Nat}
theorem nwS_0 {i : Nat} (h1 : 5 ≤ i) (h2 : i ≤ 12) : nwS σ τ 0 i = τ 0 i := by unfold nwS; rw [if_pos rfl, if_neg (by omega), if_pos ⟨h1, h2⟩]
theorem nwS_g {a i : Nat} (h1 : 14 ≤ a) (h2 : a ≤ 22) : nwS σ τ a i = τ a i := by unfold nwS; rw [if_neg (by omega), if_neg (by omega), if_pos ⟨h1, h2⟩]
theorem HDR_HC {c : Nat → Nat → Int32} {cn : Nat → Int64} (h : HDR τ m U T) (e1 : ∀ k j, k < 12 → c k j = fI U (73 + k) j) (e2 : ∀ j, cn j = fL U 74 j) : HC (nwS σ τ) c cn := by
  obtain ⟨a1, a2, a3, a4, a5⟩ := h
  refine ⟨fun s hs => ?_, fun i hi => ?_, fun i hi => ⟨?_, fun s hs => ?_⟩, fun i hi => ?_, fun i hi => ?_, fun s i hs hi => ?_⟩
  · rw [e1 2 s (by omega), nwS_0 (by omega) (by omega)]; exact (a1 s hs).1.1
  · rw [e1 11 i (by omega), nwS_0 (by omega) (by omega)]; exact (a5.1 i hi).1
  · rw [nwS_0 (by omega) (by omega)] at hi
    rw [e1 3 i (by omega), nwS_g (by omega) (by omega)]; exact (a2.1 i hi).1.1
  · rw [nwS_0 (by omega) (by omega)] at hi
    rw [e1 4 _ (by omega), nwS_g (by omega) (by omega)]; exact ((a2.1 i hi).2 s hs).1
  · rw [nwS_0 (by omega) (by omega)] at hi
    have := a3.1 i hi
    rw [e1 5 i (by omega), e1 6 i (by omega), e1 7 i (by omega), e1 8 i (by omega), nwS_g (by omega) (by omega), nwS_g (by omega) (by omega), nwS_g (by omega) (by omega), nwS_g (by omega) (by omega)]
    exact ⟨this.1.1, this.2.1.1, this.2.2.1.1, this.2.2.2.1⟩
  · rw [nwS_0 (by omega) (by omega)] at hi
    have := a4.1 i hi
    rw [e1 9 i (by omega), e1 10 i (by omega), nwS_g (by omega) (by omega), nwS_g (by omega) (by omega)]
    exact ⟨this.1.1, this.2.1⟩
  · rw [nwS_0 (by omega) (by omega)] at hi
    rw [e2, nwS_g (by omega) (by omega)]; exact ((a1 s hs).2.1 i hi).1
end
