section
variable {σ τ : sg_T} {U T : fm_T} {m : Nat}
theorem HDR_HW (h : HDR τ m U T) : HW (nwS σ τ) := by
  obtain ⟨a1, a2, a3, a4, a5⟩ := h
  refine ⟨?_, ?_, fun i hi => ⟨?_, fun s hs => ?_⟩, fun i hi => ?_, fun i hi => ?_, fun s i hs hi => ?_, fun i j h1 h2 => ?_⟩
  · rw [nwS_0 (by omega) (by omega), nwS_0 (by omega) (by omega), nwS_0 (by omega) (by omega), nwS_0 (by omega) (by omega)]
    exact ⟨a5.2.2.2.2.2, a2.2.2, a3.2.2.1, a4.2⟩
  · rw [nwS_0 (by omega) (by omega), nwS_0 (by omega) (by omega), nwS_0 (by omega) (by omega), nwS_0 (by omega) (by omega)]
    exact a5.2.1
  · rw [nwS_0 (by omega) (by omega)] at hi
    rw [nwS_g (by omega) (by omega)]; exact (a2.1 i hi).1.2.2
  · rw [nwS_0 (by omega) (by omega)] at hi
    rw [nwS_g (by omega) (by omega)]; exact ((a2.1 i hi).2 s hs).2.2
  · rw [nwS_0 (by omega) (by omega)] at hi
    have := a3.1 i hi
    rw [nwS_g (by omega) (by omega), nwS_g (by omega) (by omega), nwS_g (by omega) (by omega), nwS_g (by omega) (by omega)]
    exact ⟨this.1.2.2, this.2.1.2.2, this.2.2.1.2.2, this.2.2.2.2.2⟩
  · rw [nwS_0 (by omega) (by omega)] at hi
    have := a4.1 i hi
    rw [nwS_g (by omega) (by omega), nwS_g (by omega) (by omega)]
    exact ⟨this.1.2.2.1, this.1.2.2.2, this.2.2.2⟩
  · rw [nwS_0 (by omega) (by omega)] at hi
    rw [nwS_g (by omega) (by omega)]; exact ((a1 s hs).2.1 i hi).2.2
  · rw [nwS_0 (by omega) (by omega)] at h2
    rw [nwS_g (by omega) (by omega), nwS_g (by omega) (by omega)]; exact a3.2.2.2 i j h1 h2
end
