section
variable {σ τ : sg_T} {U T : fm_T} {m : Nat}
theorem HDR_HM {a : Nat → Int32} {nm : Nat → Int64} (h : HDR τ m U T) (e1 : ∀ j, j < 130 → a j = fI T 3 j) (e2 : ∀ j, j < 24 → nm j = fL T 6 j) : HM (nwS σ τ) a nm := by
  obtain ⟨a1, a2, a3, a4, a5⟩ := h
  have b2 := a2.2.2
  have b3 := a3.2.2.1
  have b4 := a4.2
  refine ⟨fun s hs => ?_, fun i hi => ?_, fun i hi => ⟨?_, fun s hs => ?_⟩, fun i hi => ?_, fun i hi => ?_, fun s i hs hi => ?_⟩
  · rw [e1 s (by omega), nwS_0 (by omega) (by omega)]; exact (a1 s hs).1.2
  · rw [e1 (4 + i) (by omega), nwS_0 (by omega) (by omega)]; exact (a5.1 i hi).2
  · rw [nwS_0 (by omega) (by omega)] at hi
    rw [e1 _ (by omega), nwS_g (by omega) (by omega)]; exact (a2.1 i hi).1.2.1
  · rw [nwS_0 (by omega) (by omega)] at hi
    rw [e1 _ (by omega), nwS_g (by omega) (by omega)]; exact ((a2.1 i hi).2 s hs).2.1
  · rw [nwS_0 (by omega) (by omega)] at hi
    have := a3.1 i hi
    rw [e1 _ (by omega), e1 _ (by omega), e1 _ (by omega), e1 _ (by omega), nwS_g (by omega) (by omega), nwS_g (by omega) (by omega), nwS_g (by omega) (by omega), nwS_g (by omega) (by omega)]
    exact ⟨this.1.2.1, this.2.1.2.1, this.2.2.1.2.1, this.2.2.2.2.1⟩
  · rw [nwS_0 (by omega) (by omega)] at hi
    have := a4.1 i hi
    rw [e1 _ (by omega), e1 _ (by omega), nwS_g (by omega) (by omega), nwS_g (by omega) (by omega)]
    exact ⟨this.1.2.1, this.2.2.1⟩
  · rw [nwS_0 (by omega) (by omega)] at hi
    have := (a1 s hs).2.2
    rw [e2 _ (by omega), nwS_g (by omega) (by omega)]; exact ((a1 s hs).2.1 i hi).2.1
end
