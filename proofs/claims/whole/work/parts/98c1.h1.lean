section
variable {b : Nat → Nat} {z l last : Nat} {K A V W P : Nat → Nat} {τ : sg_T} {μ ν : fm_T} {n s B : Nat}
theorem lk_w (lk : LK b z l last K A V W P n μ ν) (k3 : K n = 3) : fL μ 1 12 = lN (W n) ∧ fL ν 0 12 = lN (conv 7 (W n)) := ⟨lk.1.2.2.2.2.2.2.2.2 (Or.inr k3), lk.2.1.2.2.2.2.2 (Or.inr k3)⟩
theorem fN_A {M : fm_T} (h : frL fAc fN μ M) : frL fAc fA1l μ M := h.mo (fun _ _ y => y) (fun _ _ y => fN_e y)
theorem fN_G {M : fm_T} (h : frL fGm fN ν M) : frL fGm fGl ν M := h.mo (fun _ _ y => y) (fun _ _ y => fN_e y)
theorem fA1_A {M : fm_T} (h : frL fA1 fA1l μ M) : frL fAc fA1l μ M := h.mo (fun k j y => by unfold fA1 at y; unfold fAc; omega) (fun _ _ y => y)
theorem fG_G {M : fm_T} (h : frL fG fGl ν M) : frL fGm fGl ν M := h.mo (fun k j y => by unfold fG at y; unfold fGm; omega) (fun _ _ y => y)
theorem tn_ok (lx : LXs b z l last K A V W P) (lk : LK b z l last K A V W P n μ ν) (h : HDs τ s μ ν) (hs : s < 4) (hB : B < 512) : pX2_takeName μ (nI s) (nI B) ∧ pX12_readOld ν (nI s) (nI B) ∧ frL fAc fA1l μ (uX2_takeName μ (nI s) (nI B)) ∧ frL fGm fGl ν (uX12_readOld ν (nI s) (nI B)) ∧
    ((gX2_takeName μ (nI s) (nI B) = -1 ∧ gX12_readOld ν (nI s) (nI B) = 0 ∧ FQ (uX2_takeName μ (nI s) (nI B)) (uX12_readOld ν (nI s) (nI B))) ∨
     ∃ j, j < τ 0 (5 + s) ∧ B.testBit j = false ∧ K n = 3 ∧ gX2_takeName μ (nI s) (nI B) = nI j ∧ gX12_readOld ν (nI s) (nI B) = 1 ∧ fI (uX12_readOld ν (nI s) (nI B)) 0 13 = nI j ∧ LK b z l last K A V W P (n + 1) (uX2_takeName μ (nI s) (nI B)) (uX12_readOld ν (nI s) (nI B))) := by
  obtain ⟨p1, p2, p3⟩ := pnm lx lk
  have bd := HDn_b h hs
  have e1 : (1 : Int32) = nI 1 := rfl
  have e3 : (3 : Int32) = nI 3 := rfl
  by_cases k3 : K n = 3
  · obtain ⟨w1, w2⟩ := lk_w lk k3
    have hv := ((lk_t lx lk).2.2.2.1 k3).1
    have c3 := p3.mpr k3
    have m3 : ¬ gX12_isName ν = 0 := fun y => (p1.mp y) k3
    obtain ⟨q1, q2, q3⟩ := nb_ok h hs hv w1 w2
    obtain ⟨f1, f2, f3⟩ := pfa lx lk 3 (fun y => by omega)
    rcases q3 with ⟨d1, d2, d3⟩ | ⟨j, d1, d2, d3, d4⟩
    · simp only [pX2_takeName, gX2_takeName, uX2_takeName, pX12_readOld, gX12_readOld, uX12_readOld, if_pos c3, if_neg m3, d1, d2, if_true, gbad]
      exact ⟨fun _ => ⟨q1, fun y => absurd trivial y⟩, ⟨p2, fun _ => ⟨q2, fun _ => Or.inl trivial, fun y => absurd trivial y⟩, fun y => absurd y m3⟩, fN_A f1, fN_G f2, Or.inl ⟨trivial, trivial, f3⟩⟩
    · have ne : ¬ nI j = -1 := nI_m1 (by omega)
      have hb := hs_512 B hB j (by omega)
      have n10 : ¬ (1 : Int32) = 0 := by decide
      have n01 : ¬ (0 : Int32) = 1 := by decide
      by_cases t : B.testBit j = true
      · rw [if_pos t] at hb
        simp only [pX2_takeName, gX2_takeName, uX2_takeName, pX12_readOld, gX12_readOld, uX12_readOld, gX12_has, if_pos c3, if_neg m3, d3, d4, if_neg ne, hb, if_neg n10, if_true, gbad]
        exact ⟨fun _ => ⟨q1, fun _ y => absurd y n10⟩, ⟨p2, fun _ => ⟨q2, fun y => absurd y ne, fun _ => ⟨fun y => absurd y n10, fun _ => Or.inl trivial⟩⟩, fun y => absurd y m3⟩, fN_A f1, fN_G f2, Or.inl ⟨trivial, trivial, f3⟩⟩
      · have t' : B.testBit j = false := by simpa using t
        rw [if_neg t] at hb
        obtain ⟨a1, a2, a3, a4, a5⟩ := pad lx lk (by omega) (by omega)
        have f13 : frL (fun k i => k = 0 ∧ i = 13) fN (uX12_go ν) (fm_i (uX12_go ν) 0 13 (nI j)) := (frL.rf _ _ _).i ⟨rfl, rfl⟩
        simp only [pX2_takeName, gX2_takeName, uX2_takeName, pX12_readOld, gX12_readOld, uX12_readOld, gX12_has, if_pos c3, if_neg m3, d3, d4, if_neg ne, hb, if_neg n01, if_true, gbad]
        refine ⟨fun _ => ⟨q1, fun _ _ => a1⟩, ⟨p2, fun _ => ⟨q2, fun y => absurd y ne, fun _ => ⟨fun _ => a2, fun y => absurd trivial y⟩⟩, fun y => absurd y m3⟩, fA1_A a3, (fG_G a4).tr (f13.mo (fun k i y => by unfold fGm; omega) (fun _ _ y => fN_e y)), Or.inr ⟨j, d1, t', k3, rfl, trivial, by rw [fI_i, if_pos ⟨rfl, rfl⟩], ?_⟩⟩
        exact LK_f a5 (frL.rf (fun _ _ => False) fN _) f13 (fun _ _ q => q.elim) (fun _ _ q => by unfold fN at q; exact q.elim) (fun k j q => by omega) (fun _ _ q => by unfold fN at q; exact q.elim)
  · have c3 : ¬ fI μ 1 9 = 3 := fun y => k3 (p3.mp y)
    have m3 : gX12_isName ν = 0 := p1.mpr k3
    obtain ⟨f1, f2, f3⟩ := pfa lx lk 1 (fun _ => rfl)
    simp only [pX2_takeName, gX2_takeName, uX2_takeName, pX12_readOld, gX12_readOld, uX12_readOld, if_neg c3, m3, if_true, gbad]
    exact ⟨fun y => absurd y c3, ⟨p2, fun y => absurd trivial y, fun _ => Or.inl trivial⟩, fN_A f1, fN_G f2, Or.inl ⟨trivial, trivial, f3⟩⟩
end
