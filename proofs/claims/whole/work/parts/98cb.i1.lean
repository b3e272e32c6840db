def fNc (s a j : Nat) : Prop := fAc a j ∨ (a = 75 ∧ j = s)
def fNcl (p a j : Nat) : Prop := fA1l a j ∨ (a = 74 ∧ j = p)
def fNml (p a j : Nat) : Prop := fGl a j ∨ (a = 6 ∧ j = p)
section
variable {b : Nat → Nat} {z l last : Nat} {K A V W P : Nat → Nat} {τ : sg_T} {μ ν : fm_T} {n m s q : Nat}
def NwR (b : Nat → Nat) (z l last : Nat) (K A V W P : Nat → Nat) (τ : sg_T) (n s q : Nat) (μ ν : fm_T) : Prop :=
  (¬ fI (uX7_advance μ) 1 9 = 3 ∧ gX12_readNew (uX12_go ν) (nI s) = 0 ∧ FQ (uX7_fail (uX7_advance μ) 1) (uX12_readNew (uX12_go ν) (nI s)) ∧ frL fAc fA1l μ (uX7_fail (uX7_advance μ) 1) ∧ frL fGm fGl ν (uX12_readNew (uX12_go ν) (nI s))) ∨
  (fI (uX7_advance μ) 1 9 = 3 ∧ pX2_isTold (uX7_advance μ) (fL (uX7_advance μ) 1 12) ∧ gX2_isTold (uX7_advance μ) (fL (uX7_advance μ) 1 12) = 1 ∧ gX12_readNew (uX12_go ν) (nI s) = 0 ∧ FQ (uX7_fail (uX7_advance μ) 3) (uX12_readNew (uX12_go ν) (nI s)) ∧ frL fAc fA1l μ (uX7_fail (uX7_advance μ) 3) ∧ frL fGm fGl ν (uX12_readNew (uX12_go ν) (nI s))) ∨
  (fI (uX7_advance μ) 1 9 = 3 ∧ pX2_isTold (uX7_advance μ) (fL (uX7_advance μ) 1 12) ∧ gX2_isTold (uX7_advance μ) (fL (uX7_advance μ) 1 12) = 0 ∧ gX12_readNew (uX12_go ν) (nI s) = 1 ∧ pX7_advance (fm_i (fm_l (uX7_advance μ) 74 (8 * s + q) (fL (uX7_advance μ) 1 12)) 75 s (nI (q + 1))) ∧
    ∃ w U T, uX7_advance (fm_i (fm_l (uX7_advance μ) 74 (8 * s + q) (fL (uX7_advance μ) 1 12)) 75 s (nI (q + 1))) = U ∧ uX12_readNew (uX12_go ν) (nI s) = T ∧ vcode 7 w ∧ w ≠ 0 ∧ (∀ s', s' < 4 → ∀ j, j < τ 0 (5 + s') → τ 22 (8 * s' + j) ≠ w) ∧ LK b z l last K A V W P (n + 1 + 1) U T ∧ fL U 74 (8 * s + q) = lN w ∧ fL T 6 (bsn s + q) = lN (conv 7 w) ∧ fI U 75 s = nI (q + 1) ∧ frL (fNc s) (fNcl (8 * s + q)) μ U ∧ frL fGm (fNml (bsn s + q)) ν T)
theorem nw_ok (lx : LXs b z l last K A V W P) (lk : LK b z l last K A V W P n μ ν) (hr : HDR τ m μ ν) (hs : s < 4) (k2 : K n = 2) (hq : τ 0 (5 + s) = q) (hm : q < mst s) : pX7_advance μ ∧ pX12_go ν ∧ pX12_readNew (uX12_go ν) (nI s) ∧ NwR b z l last K A V W P τ n s q μ ν := by
  obtain ⟨a1, a2, a3, a4, a5⟩ := pad lx lk (by omega) (by omega)
  have fX := fA1_A a3
  have fY := fG_G a4
  have hr2 := HDR_a hr fX fY
  have mb := mst_b hs
  have cs : (nI s).toNatClampNeg = s := nI_clamp (by omega)
  refine ⟨a1, a2, ?_⟩
  unfold NwR
  generalize uX7_advance μ = X at a5 fX hr2 ⊢
  generalize uX12_go ν = Y at a5 fY hr2 ⊢
  obtain ⟨p1, p2, p3⟩ := pnm lx a5
  by_cases k3 : K (n + 1) = 3
  · have c3 := p3.mpr k3
    have m3 : ¬ gX12_isName Y = 0 := fun y => (p1.mp y) k3
    obtain ⟨w1, w2⟩ := lk_w a5 k3
    have hv := (lk_t lx a5).2.2.2.1 k3
    unfold pX12_readNew gX12_readNew uX12_readNew
    rw [if_neg m3, if_neg m3]
    obtain ⟨i1, i2⟩ := it_ok lx a5 hr2.1 k3
    rcases i2 with ⟨d1, d2⟩ | ⟨d1, d2, d3⟩
    · obtain ⟨e1, e2, e3⟩ := d2 (nI s)
      rw [e1, e2]
      obtain ⟨f1, f2, f3⟩ := pfa lx a5 3 (fun y => by omega)
      exact ⟨⟨p2, fun _ => e3, fun y => absurd y m3⟩, Or.inr (Or.inl ⟨c3, i1, d1, rfl, f3, fX.tr (fN_A f1), fY.tr (fN_G f2)⟩)⟩
    · obtain ⟨e1, e2, e3⟩ := d3 (nI s)
      have e30 : fI Y 3 s = nI q := by rw [← hq]; exact (hr2.1 s hs).1.2
      rw [cs, e30, bas_m Y hs, nI_add, nI_clamp (by omega)] at e2 e3
      rw [e1, e2]
      have g1 : frL (fun a j => a = 75 ∧ j = s) (fun a j => a = 74 ∧ j = 8 * s + q) X (fm_i (fm_l X 74 (8 * s + q) (fL X 1 12)) 75 s (nI (q + 1))) := ((frL.rf _ _ _).l ⟨rfl, rfl⟩).i ⟨rfl, rfl⟩
      have g2 : frL (fun _ _ => False) (fun a j => a = 6 ∧ j = bsn s + q) Y (fm_l Y 6 (bsn s + q) (fL Y 0 12)) := (frL.rf _ _ _).l ⟨rfl, rfl⟩
      have lk2 := LK_f a5 g1 g2 (fun k j y => by omega) (fun k j y => by omega) (fun k j y => y.elim) (fun k j y => by omega)
      have u74 : fL (fm_i (fm_l X 74 (8 * s + q) (fL X 1 12)) 75 s (nI (q + 1))) 74 (8 * s + q) = lN (W (n + 1)) := by
        show fL (fm_l X 74 (8 * s + q) (fL X 1 12)) 74 (8 * s + q) = _
        rw [fL_l, if_pos ⟨rfl, rfl⟩]; exact w1
      have u6 : fL (fm_l Y 6 (bsn s + q) (fL Y 0 12)) 6 (bsn s + q) = lN (conv 7 (W (n + 1))) := by
        rw [fL_l, if_pos ⟨rfl, rfl⟩]; exact w2
      have u75 : fI (fm_i (fm_l X 74 (8 * s + q) (fL X 1 12)) 75 s (nI (q + 1))) 75 s = nI (q + 1) := by rw [fI_i, if_pos ⟨rfl, rfl⟩]
      have fX2 : frL (fNc s) (fNcl (8 * s + q)) μ (fm_i (fm_l X 74 (8 * s + q) (fL X 1 12)) 75 s (nI (q + 1))) := (fX.mo (fun _ _ y => Or.inl y) (fun _ _ y => Or.inl y)).tr (g1.mo (fun _ _ y => Or.inr y) (fun _ _ y => Or.inr y))
      have fY2 : frL fGm (fNml (bsn s + q)) ν (fm_l Y 6 (bsn s + q) (fL Y 0 12)) := (fY.mo (fun _ _ y => y) (fun _ _ y => Or.inl y)).tr (g2.mo (fun _ _ y => y.elim) (fun _ _ y => Or.inr y))
      generalize fm_i (fm_l X 74 (8 * s + q) (fL X 1 12)) 75 s (nI (q + 1)) = X2 at lk2 u74 u75 fX2 ⊢
      generalize fm_l Y 6 (bsn s + q) (fL Y 0 12) = Y2 at lk2 u6 fY2 e3 ⊢
      obtain ⟨b1, b2, b3, b4, b5⟩ := pad lx lk2 (by omega) (by omega)
      refine ⟨⟨p2, fun _ => e3 ⟨vp_in_nI (by omega) (by decide), vp_in_nI (by omega) (by decide), b2⟩, fun y => absurd y m3⟩, Or.inr (Or.inr ⟨c3, i1, d1, rfl, b1, W (n + 1), _, _, rfl, rfl, hv.1, hv.2.1, d2, b5, ?_, ?_, ?_, fX2.tr ((fA1_A b3).mo (fun _ _ y => Or.inl y) (fun _ _ y => Or.inl y)), fY2.tr ((fG_G b4).mo (fun _ _ y => y) (fun _ _ y => Or.inl y))⟩)⟩
      · rw [b3.2.2.1 74 _ (by unfold fA1l; omega)]; exact u74
      · rw [b4.2.2.1 6 _ (by unfold fGl; omega)]; exact u6
      · rw [b3.2.2.2 75 s (by unfold fA1; omega)]; exact u75
  · have c3 : ¬ fI X 1 9 = 3 := fun y => k3 (p3.mp y)
    have m3 : gX12_isName Y = 0 := p1.mpr k3
    obtain ⟨f1, f2, f3⟩ := pfa lx a5 1 (fun _ => rfl)
    unfold pX12_readNew gX12_readNew uX12_readNew
    rw [if_pos m3, if_pos m3, gbad]
    exact ⟨⟨p2, fun y => absurd m3 y, fun _ => Or.inl rfl⟩, Or.inl ⟨c3, rfl, f3, fX.tr (fN_A f1), fY.tr (fN_G f2)⟩⟩
end
