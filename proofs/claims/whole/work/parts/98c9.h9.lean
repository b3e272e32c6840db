def fLc (k j : Nat) : Prop := fAc k j ∨ (73 ≤ k ∧ k ≤ 84 ∧ ¬ (k = 73 ∧ j = 12))
def fLcl (k j : Nat) : Prop := fA1l k j ∨ k = 74
def fLm (k j : Nat) : Prop := fGm k j ∨ k = 3 ∨ (k = 0 ∧ j = 22)
def fLml (k j : Nat) : Prop := fGl k j ∨ k = 6
def LR (b : Nat → Nat) (z l last : Nat) (K A V W P : Nat → Nat) (n : Nat) (μ ν : fm_T) (gC gM : Int32) (U T : fm_T) : Prop := frL fLc fLcl μ U ∧ frL fLm fLml ν T ∧ ((gC = 0 ∧ gM = 0 ∧ FQ U T) ∨ (gC = 1 ∧ gM = 1 ∧ ∃ n' τ m, n + 1 < n' ∧ LK b z l last K A V W P n' U T ∧ HDR τ m U T))
section
variable {b : Nat → Nat} {z l last : Nat} {K A V W P : Nat → Nat} {τ : sg_T} {μ ν X T : fm_T} {n n0 m : Nat}
theorem HDR_f {μ' ν' : fm_T} {A1 B1 A2 B2 : Nat → Nat → Prop} (h : HDR τ m μ ν) (f1 : frL A1 B1 μ μ') (f2 : frL A2 B2 ν ν') (h1 : ∀ a j, 75 ≤ a → a ≤ 84 → ¬ A1 a j) (h1' : ¬ A1 73 11) (h2 : ∀ j, ¬ B1 74 j) (h3 : ∀ j, ¬ A2 3 j) (h3' : ¬ A2 0 22) (h4 : ∀ j, ¬ B2 6 j) : HDR τ m μ' ν' := by
  obtain ⟨a1, a2, a3, a4, a5⟩ := h
  refine ⟨fun s hs => HDs_g (a1 s hs) f1 f2 (h1 75 s (by omega) (by omega)) h2 (h3 s) h4, HDa_f a2 (fun k j y => f1.2.2.2 k j (h1 k j (by omega) (by omega))) (fun j _ _ => f2.2.2.2 3 j (h3 j)) rfl (fun i => ⟨rfl, rfl⟩), HDc_f a3 (fun k j y1 y2 => f1.2.2.2 k j (h1 k j (by omega) (by omega))) (fun j _ _ => f2.2.2.2 3 j (h3 j)) rfl (fun _ _ _ _ => rfl) (fun _ _ => rfl), HDd_f a4 (fun k j y => f1.2.2.2 k j (h1 k j (by omega) (by omega))) (fun j _ _ => f2.2.2.2 3 j (h3 j)) rfl (fun i => ⟨rfl, rfl⟩), HDt_f a5 (fun j => f1.2.2.2 84 j (h1 84 j (by omega) (by omega))) (fun j _ _ => f2.2.2.2 3 j (h3 j)) (f1.2.2.2 73 11 h1') (f2.2.2.2 0 22 h3') (fun _ _ _ => rfl) a5.2.2.2.2.2⟩
theorem HDR_a (h : HDR τ m μ ν) {μ' ν' : fm_T} (f1 : frL fAc fA1l μ μ') (f2 : frL fGm fGl ν ν') : HDR τ m μ' ν' :=
  HDR_f h f1 f2 (fun a j _ _ => by unfold fAc; omega) (by unfold fAc; omega) (fun j => by unfold fA1l; omega) (fun j => by unfold fGm; omega) (by unfold fGm; omega) (fun j => by unfold fGl; omega)
theorem fAc_L {M : fm_T} (h : frL fAc fA1l X M) : frL fLc fLcl X M := h.mo (fun _ _ y => Or.inl y) (fun _ _ y => Or.inl y)
theorem fGm_L {M : fm_T} (h : frL fGm fGl X M) : frL fLm fLml X M := h.mo (fun _ _ y => Or.inl y) (fun _ _ y => Or.inl y)
theorem th_end (lx : LXs b z l last K A V W P) (lk : LK b z l last K A V W P n X T) (hr : HDR τ m X T) (hn : n0 + 1 ≤ n) (f1 : frL fLc fLcl μ X) (f2 : frL fLm fLml ν T) : (¬ gX7_isSign X 59 = 0 → pX7_advance X) ∧ pX12_readEnd T ∧ LR b z l last K A V W P n0 μ ν (if gX7_isSign X 59 = 0 then gX7_fail X 1 else 1) (gX12_readEnd T) (if gX7_isSign X 59 = 0 then uX7_fail X 1 else uX7_advance X) (uX12_readEnd T) := by
  obtain ⟨w1, w2⟩ := psg lx lk (c := 59) (by omega)
  have y59 : nI 59 = (59 : Int32) := rfl
  rw [y59] at w1 w2
  unfold pX12_readEnd gX12_readEnd uX12_readEnd
  by_cases k5 : K n = 5 ∧ V n = 59
  · have c5 : ¬ gX7_isSign X 59 = 0 := fun y => w1.mp y k5
    have m5 : ¬ gX12_isSign T 59 = 0 := fun y => w2.mp y k5
    obtain ⟨a1, a2, a3, a4, a5⟩ := pad lx lk (by omega) (by omega)
    rw [if_neg c5, if_neg c5, if_neg m5, if_neg m5]
    exact ⟨fun _ => a1, ⟨fun _ => a2, fun y => absurd y m5⟩, f1.tr (fAc_L (fA1_A a3)), f2.tr (fGm_L (fG_G a4)), Or.inr ⟨rfl, rfl, n + 1, τ, m, by omega, a5, HDR_a hr (fA1_A a3) (fG_G a4)⟩⟩
  · have c5 : gX7_isSign X 59 = 0 := w1.mpr k5
    have m5 : gX12_isSign T 59 = 0 := w2.mpr k5
    obtain ⟨a1, a2, a3⟩ := pfa lx lk 1 (fun _ => rfl)
    rw [if_pos c5, if_pos c5, if_pos m5, if_pos m5, gbad]
    exact ⟨fun y => absurd c5 y, ⟨fun y => absurd m5 y, fun _ => Or.inl rfl⟩, f1.tr (fAc_L (fN_A a1)), f2.tr (fGm_L (fN_G a2)), Or.inl ⟨rfl, rfl, a3⟩⟩
end
