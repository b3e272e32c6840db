def fRC (k j : Nat) : Prop := (k = 1 ∧ j ≠ 2) ∨ (4 ≤ k ∧ k ≤ 7) ∨ (73 ≤ k ∧ k ≤ 88)
def fRCl (k j : Nat) : Prop := k = 1 ∨ k = 7 ∨ (73 ≤ k ∧ k ≤ 88 ∧ j = j)
def fRM (k j : Nat) : Prop := (k = 0 ∧ (j ≤ 20 ∨ j = 22 ∨ 60 ≤ j)) ∨ k = 33 ∨ k = 3
def fRMl (k j : Nat) : Prop := k = 0 ∨ (k = 6 ∧ j = j)
section
variable {σ σ0 σ1 ρ : sg_T} {r0 r1 : Nat} {μ ν N U T : fm_T}
theorem RS_rf (h : RS σ σ0 σ1 ρ r0 r1 μ N) (f1 : frL fRC fRCl μ U) (f2 : frL fRM fRMl N T) (e : fI T 0 2 = 0) (q : FQ U T) : RS σ σ0 σ1 (rzR ρ) r0 r1 (fm_i (fm_i U 1 2 0) 0 12 (fI U 1 13)) T := by
  have c : ∀ k j, ¬ (k = 1 ∧ j = 2) → ¬ (k = 0 ∧ j = 12) → fI (fm_i (fm_i U 1 2 0) 0 12 (fI U 1 13)) k j = fI U k j := fun k j q1 q2 => by rw [fI_i, if_neg q2, fI_i, if_neg q1]
  refine RS_x h ⟨f1.1, f1.2.1, fun k j y => ?_, fun k j y => ?_⟩ ⟨f2.1, f2.2.1, f2.2.2.2 0 21 (by unfold fRM; omega), fun j => f2.2.2.2 2 j (by unfold fRM; omega), fun j => f2.2.2.1 5 j (by unfold fRMl; omega), fun j => f2.2.2.2 4 j (by unfold fRM; omega), fun j => f2.2.2.2 8 j (by unfold fRM; omega), fun j => f2.2.2.1 7 j (by unfold fRMl; omega)⟩ (XR_z h.2.2.2.1 ?_ e ?_ (fun k j y => ?_) (fun j => f1.2.2.1 2 j (by unfold fRCl; omega)) (fun k j y => f2.2.2.2 k j (by unfold fRM; omega)))
  · rw [c k j (by omega) (by omega)]
    exact f1.2.2.2 k j (by unfold fRC; omega)
  · exact f1.2.2.1 k j (by unfold fRCl; omega)
  · rw [fI_i, if_neg (by omega), fI_i, if_pos ⟨rfl, rfl⟩]
  · rw [fI_i, if_pos ⟨rfl, rfl⟩]
    exact q.1
  · rw [c k j (by omega) (by omega)]
    exact f1.2.2.2 k j (by unfold fRC; omega)
theorem rnR_o {k : Nat} (h : ¬ ((36 ≤ k ∧ k < 40) ∨ (85 ≤ k ∧ k < 89))) : rnR k = k := by
  unfold rnR
  rw [if_neg (by omega), if_neg (by omega)]
theorem rnR_u {k : Nat} (h : 36 ≤ k ∧ k < 40) : rnR k = k + 49 := by
  unfold rnR
  rw [if_pos h]
theorem RS_ru {so st : Nat} {S : fm_T} {s0 s1 : Nat} (h : RS σ σ0 σ1 ρ r0 r1 μ N) (hb : fI N 0 21 = 1) (hz : μ.2.1 = shC s0 s1) (f1 : frL fRC fRCl μ U) (f2 : frL fRM fRMl N T) (e : fI T 0 2 = 0) (e10 : fI T 0 10 = 0) (s1' : fI U 85 3 = nI st) (s2 : fI U 85 4 = nI so) (hso : so ≤ 20) (hst : st ≤ 40) (hs0 : 0 < so) (tg : TG 61 (blk U 85) (aNd T) 0 st (st - 1) (σ 0 7))
    (f3 : frL (fun k j => k = 2 ∧ (j = 135 ∨ j = 136 ∨ (2000 ≤ j ∧ j < 2240))) fN T S) (h135 : fI S 2 135 = 1) (h136 : fI S 2 136 = nI (st - 1)) (hcp : ∀ j, j < 240 → fI S 2 (2000 + j) = fI T 33 j) :
    RS σ σ0 σ1 (rzR ρ) r0 r1 (cn_m (shC s0 s1) (rn_m rnR (fm_r (fm_r (fm_i (fm_i U 1 2 0) 0 12 0) 8 3 88) 0 10 39))) S := by
  have c : ∀ k j, ¬ (k = 1 ∧ j = 2) → ¬ (k = 0 ∧ j = 12) → fI (fm_i (fm_i U 1 2 0) 0 12 0) k j = fI U k j := fun k j q1 q2 => by rw [fI_i, if_neg q2, fI_i, if_neg q1]
  have z1 : fI (fm_i (fm_i U 1 2 0) 0 12 0) 1 2 = 0 := by rw [fI_i, if_neg (by omega), fI_i, if_pos ⟨rfl, rfl⟩]
  have z2 : fI (fm_i (fm_i U 1 2 0) 0 12 0) 0 12 = 0 := by rw [fI_i, if_pos ⟨rfl, rfl⟩]
  have x1 : (fm_i (fm_i U 1 2 0) 0 12 0).1 = μ.1 := f1.1
  have xl : ∀ k j, fL (fm_i (fm_i U 1 2 0) 0 12 0) k j = fL U k j := fun k j => rfl
  generalize hX : fm_i (fm_i U 1 2 0) 0 12 0 = X at c z1 z2 x1 xl ⊢
  have g : ∀ k j, fI (cn_m (shC s0 s1) (rn_m rnR (fm_r (fm_r X 8 3 88) 0 10 39))) k j = fI X (rnR k) j := fun k j => rfl
  have gl : ∀ k j, fL (cn_m (shC s0 s1) (rn_m rnR (fm_r (fm_r X 8 3 88) 0 10 39))) k j = fL X (rnR k) j := fun k j => rfl
  have g1 : (cn_m (shC s0 s1) (rn_m rnR (fm_r (fm_r X 8 3 88) 0 10 39))).1 = X.1 := rfl
  have g2 : (cn_m (shC s0 s1) (rn_m rnR (fm_r (fm_r X 8 3 88) 0 10 39))).2.1 = shC s0 s1 := rfl
  generalize cn_m (shC s0 s1) (rn_m rnR (fm_r (fm_r X 8 3 88) 0 10 39)) = Y at g gl g1 g2 ⊢
  have y : ∀ k j, ¬ ((36 ≤ k ∧ k < 40) ∨ (85 ≤ k ∧ k < 89)) → ¬ (k = 1 ∧ j = 2) → ¬ (k = 0 ∧ j = 12) → ¬ fRC k j → fI Y k j = fI μ k j := fun k j a1 a2 a3 a4 => by
    rw [g, rnR_o a1, c k j a2 a3]
    exact f1.2.2.2 k j a4
  have yl : ∀ k j, ¬ ((36 ≤ k ∧ k < 40) ∨ (85 ≤ k ∧ k < 89)) → ¬ fRCl k j → fL Y k j = fL μ k j := fun k j a1 a4 => by
    rw [gl, rnR_o a1, xl]
    exact f1.2.2.1 k j a4
  have s : ∀ k j, ¬ (k = 2 ∧ (j = 135 ∨ j = 136 ∨ (2000 ≤ j ∧ j < 2240))) → ¬ fRM k j → fI S k j = fI N k j := fun k j a1 a2 => by
    rw [f3.2.2.2 k j a1]
    exact f2.2.2.2 k j a2
  have sl : ∀ k j, ¬ fRMl k j → fL S k j = fL N k j := fun k j a2 => by
    rw [f3.2.2.1 k j (by unfold fN; exact id)]
    exact f2.2.2.1 k j a2
  have w := RS_WR h hb
  refine RS_w h ⟨g1.trans x1, by rw [g2, hz], fun k j q => y k j (by omega) (by omega) (by omega) (by unfold fRC; omega), fun k j q => yl k j (by omega) (by unfold fRCl; omega)⟩ ⟨f3.1.trans f2.1, f3.2.1.trans f2.2.1, fun j => s 4 j (by omega) (by unfold fRM; omega), fun j => s 8 j (by omega) (by unfold fRM; omega), fun j => sl 7 j (by unfold fRMl; omega)⟩ (XR_z h.2.2.2.1 ?_ ?_ ?_ (fun k j q => y k j (by omega) (by omega) (by omega) (by unfold fRC; omega)) (fun j => yl 2 j (by omega) (by unfold fRCl; omega)) (fun k j q => s k j (by omega) (by unfold fRM; omega))) ?_ ⟨?_, ?_, w.2.2.1, so, st, st - 1, ?_, ?_, hso, hst, Or.inr ⟨by omega, h135, h136, ?_⟩⟩
  · rw [g, rnR_o (by omega)]; exact z1
  · rw [f3.2.2.2 0 2 (by omega)]; exact e
  · rw [g, rnR_o (by omega), z2, f3.2.2.2 0 10 (by omega), e10]
  · rw [s 0 21 (by omega) (by unfold fRM; omega)]; exact hb
  · exact CB_cg (fun k j hk => y (8 + k) j (by omega) (by omega) (by omega) (by unfold fRC; omega)) (fun j => yl 25 j (by omega) (by unfold fRCl; omega)) w.1
  · rw [show fL S 5 = fL N 5 from funext fun j => sl 5 j (by unfold fRMl; omega)]
    exact MB_r w.2.2.1 (fun j a1 a2 a3 => s 2 j (by omega) (by unfold fRM; omega)) w.2.1
  · show fI Y 36 4 = nI so
    rw [g, rnR_u (by omega), c _ _ (by omega) (by omega)]; exact s2
  · show fI Y 36 3 = nI st
    rw [g, rnR_u (by omega), c _ _ (by omega) (by omega)]; exact s1'
  · refine TG_cg (fun k j hk => ?_) (fun j a1 a2 => ?_) _ _ _ _ tg
    · show fI Y (8 + (28 + k)) j = fI U (85 + k) j
      rw [show 8 + (28 + k) = 36 + k by omega, g, rnR_u (by omega), c _ _ (by omega) (by omega), show 36 + k + 49 = 85 + k by omega]
    · show fI S 2 j = fI T 33 (j - 2000)
      have := hcp (j - 2000) (by omega)
      rwa [show 2000 + (j - 2000) = j by omega] at this
end
