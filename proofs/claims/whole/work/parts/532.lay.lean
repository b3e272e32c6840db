section LAYRS
variable {σ σ0 σ1 ρ : sg_T} {r0 r1 : Nat} {μ ν ν' : fm_T}
theorem RS_lay (h : RS σ σ0 σ1 ρ r0 r1 μ ν) (hl : layR ν ν') : RS σ σ0 σ1 ρ r0 r1 μ ν' ∧ fI ν' 0 21 = 1 := by
  obtain ⟨l1, l2, l3, l4, l5, l6⟩ := hl
  obtain ⟨a1, a2, a3, a4, a5, a6, a7, a8⟩ := h
  have hk : kpM ν ν' := ⟨l1, l2, fun j => l4 4 j (by decide) (by omega), fun j => l4 8 j (by decide) (by omega), fun j => l5 7 j⟩
  have e : rowN ν' = rowN ν := funext fun j => by
    have hn : ¬ fI ν' 0 21 = 0 := by rw [l3]; decide
    rw [← l6 j]
    unfold rowN
    rw [if_neg hn]
  refine ⟨⟨a1, l2.trans a2, l1.trans a3, XR_cg (xgC.rf μ) ⟨⟨l4 0 2 (by decide) (by decide), l4 0 39 (by decide) (by decide), l4 0 45 (by decide) (by decide), l4 0 48 (by decide) (by decide), l4 0 54 (by decide) (by decide), l4 0 59 (by decide) (by decide), l4 0 10 (by decide) (by decide)⟩, fun k j hk => l4 k j (by omega) (by omega)⟩ a4, Or.inl l3, ?_, KP_cg (kpC.rf μ) hk a7, KP_cg (kpC.rf μ) hk a8⟩, l3⟩
  rw [e, show fL ν' 5 = fL ν 5 from funext (l5 5)]
  exact a6
theorem RS_thr (h : RS σ σ0 σ1 ρ r0 r1 μ ν) (v : Int32) : RS σ σ0 σ1 ρ r0 r1 μ (fm_i ν 0 0 v) := by
  refine RS_x h (cgC.rf μ) ⟨rfl, rfl, ?_, fun j => ?_, fun j => rfl, fun j => ?_, fun j => ?_, fun j => rfl⟩ (XR_cg (xgC.rf μ) ⟨⟨?_, ?_, ?_, ?_, ?_, ?_, ?_⟩, fun k j hk => ?_⟩ h.2.2.2.1)
  all_goals simp only [fI_i]
  all_goals first | rfl | (rw [if_neg]; omega)
theorem RS_bg (h : RS σ σ0 σ1 ρ r0 r1 μ ν) : BG (fm_i ν 0 0 0) := (RS_thr h 0).2.2.2.2.1
theorem lay0 (h : RS σ σ0 σ1 ρ r0 r1 μ ν) : pX12_lay (fm_i ν 0 0 0) ∧ RS σ σ0 σ1 ρ r0 r1 μ (uX12_lay (fm_i ν 0 0 0)) ∧ fI (uX12_lay (fm_i ν 0 0 0)) 0 21 = 1 := by
  have g := lay_ok (RS_bg h)
  exact ⟨g.1, RS_lay (RS_thr h 0) g.2⟩
theorem lay1 (h : RS σ σ0 σ1 ρ r0 r1 μ ν) : pX12_lay ν ∧ RS σ σ0 σ1 ρ r0 r1 μ (uX12_lay ν) ∧ fI (uX12_lay ν) 0 21 = 1 := by
  have g := lay_ok h.2.2.2.2.1
  exact ⟨g.1, RS_lay h g.2⟩
theorem RS_WR (h : RS σ σ0 σ1 ρ r0 r1 μ ν) (hb : fI ν 0 21 = 1) : WR σ (blk μ 8) (fL μ 25) (fI ν 2) (fL ν 5) := by
  have e : rowN ν = fI ν 2 := funext fun j => by unfold rowN; rw [hb]; rfl
  rw [← e]
  exact h.2.2.2.2.2.1
end LAYRS
