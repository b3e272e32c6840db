def frL (A : Nat → Nat → Prop) (B : Nat → Nat → Prop) (μ μ' : fm_T) : Prop := μ'.1 = μ.1 ∧ μ'.2.1 = μ.2.1 ∧ (∀ k j, ¬ B k j → fL μ' k j = fL μ k j) ∧ ∀ k j, ¬ A k j → fI μ' k j = fI μ k j
theorem frL.rf (A B : Nat → Nat → Prop) (μ : fm_T) : frL A B μ μ := ⟨rfl, rfl, fun _ _ _ => rfl, fun _ _ _ => rfl⟩
theorem frL.i {A B : Nat → Nat → Prop} {μ μ' : fm_T} {k j : Nat} {v : Int32} (h : frL A B μ μ') (ha : A k j) : frL A B μ (fm_i μ' k j v) := ⟨h.1, h.2.1, h.2.2.1, fun a b q => by
  rw [fI_i, if_neg (fun z : a = k ∧ b = j => q (by rw [z.1, z.2]; exact ha))]
  exact h.2.2.2 a b q⟩
theorem frL.l {A B : Nat → Nat → Prop} {μ μ' : fm_T} {k j : Nat} {v : Int64} (h : frL A B μ μ') (ha : B k j) : frL A B μ (fm_l μ' k j v) := ⟨h.1, h.2.1, fun a b q => by
  rw [fL_l, if_neg (fun z : a = k ∧ b = j => q (by rw [z.1, z.2]; exact ha))]
  exact h.2.2.1 a b q, h.2.2.2⟩
theorem frL.tr {A B : Nat → Nat → Prop} {μ μ1 μ2 : fm_T} (h1 : frL A B μ μ1) (h2 : frL A B μ1 μ2) : frL A B μ μ2 := ⟨h2.1.trans h1.1, h2.2.1.trans h1.2.1, fun k j q => (h2.2.2.1 k j q).trans (h1.2.2.1 k j q), fun k j q => (h2.2.2.2 k j q).trans (h1.2.2.2 k j q)⟩
theorem frL.mo {A B A' B' : Nat → Nat → Prop} {μ μ' : fm_T} (h : frL A B μ μ') (ha : ∀ k j, A k j → A' k j) (hb : ∀ k j, B k j → B' k j) : frL A' B' μ μ' := ⟨h.1, h.2.1, fun k j q => h.2.2.1 k j (fun z => q (hb k j z)), fun k j q => h.2.2.2 k j (fun z => q (ha k j z))⟩
theorem fI_l (μ : fm_T) (k j : Nat) (v : Int64) (k' j' : Nat) : fI (fm_l μ k j v) k' j' = fI μ k' j' := rfl
def bA (k j : Nat) : Prop := k = 60 ∨ (k = 57 ∧ j = 4)
def bB (k j : Nat) : Prop := k = 59
section
variable {M : Nat} {F c : Nat → Nat}
theorem qt_lp (hM : M < 64) (hc : ∀ a, c a ≤ 99) (hB : ∀ a s, c a * F s ≤ 10000000000000) : ∀ (V n : Nat) (μ : fm_T), V ≤ M → V < n → CQ M F c V μ → ∃ μ2, CQ M F c 0 μ2 ∧ frL bA bB μ μ2 ∧ lX6_findOrder_h17 n μ (nI V - 1) = lX6_findOrder_h65 fF (fm_i μ2 57 4 0) 0 0 ∧ mX6_findOrder_h17 n μ (nI V - 1) = mX6_findOrder_h65 fF (fm_i μ2 57 4 0) 0 0 ∧ (qX6_findOrder_h65 fF (fm_i μ2 57 4 0) 0 0 → qX6_findOrder_h17 n μ (nI V - 1)) := by
  intro V
  induction V with
  | zero =>
    intro n μ h1 h2 h3
    obtain ⟨n, rfl⟩ : ∃ m, n = m + 1 := ⟨n - 1, by omega⟩
    have e : nI 0 - 1 < 0 := by decide
    refine ⟨μ, h3, frL.rf _ _ _, ?_⟩
    simp only [lX6_findOrder_h17, mX6_findOrder_h17, qX6_findOrder_h17, if_pos e]
    exact ⟨trivial, trivial, fun q => ⟨fun _ => q, fun z => absurd e z⟩⟩
  | succ V ih =>
    intro n μ h1 h2 h3
    obtain ⟨n, rfl⟩ : ∃ m, n = m + 1 := ⟨n - 1, by omega⟩
    have ev : nI (V + 1) - 1 = nI V := by rw [show (1 : Int32) = nI 1 from rfl, nI_sub (by omega)]; rfl
    have ed : nI V + (-1) = nI V - 1 := by grind
    have e : ¬ nI V < 0 := nI_pos (by omega)
    have sb := sb_64 M hM V (by omega)
    rw [ev]
    simp only [lX6_findOrder_h17, mX6_findOrder_h17, qX6_findOrder_h17, if_neg e, h3.1, ed]
    by_cases a : V &&& (63 - M) = 0
    · have sb1 : nI V &&& (nI M ^^^ (-1 : Int32)) = 0 := sb.mpr (by rw [a]; rfl)
      obtain ⟨⟨b1, b2⟩, b3, b4⟩ := nq_c hM hc hB h3 (by omega) a (Nat.le_refl _) (by omega)
      obtain ⟨μ2, k1, k2, k3, k4, k5⟩ := ih n (fm_l μ 59 V (lN (qW M F c (M - V)))) (by omega) (by omega) ⟨h3.1, fun s q1 q2 => by rw [fL_l, if_neg (by omega)]; exact h3.2.1 s q1 q2, h3.2.2.1, fun s q1 q2 q3 => by
        rw [fL_l]
        by_cases q : s = V
        · rw [if_pos ⟨rfl, q⟩, q]
        · rw [if_neg (by omega)]; exact h3.2.2.2 s (by omega) q2 q3⟩
      have hV : V < 2 ^ 31 := by omega
      refine ⟨μ2, k1, ((frL.rf bA bB μ).l (k := 59) (j := V) (v := lN (qW M F c (M - V))) rfl).tr k2, ?_⟩
      simp only [if_pos sb1, b1, b3, nI_clamp hV]
      exact ⟨k3, k4, fun q => ⟨fun z => absurd z e, fun _ => ⟨fun z => absurd sb1 z, fun _ => ⟨b2, b4, vp_in_nI (by omega) (by decide), k5 q⟩⟩⟩⟩
    · have sb1 : ¬ nI V &&& (nI M ^^^ (-1 : Int32)) = 0 := fun z => a (by have := sb.mp z; simpa using this)
      obtain ⟨μ2, k1, k2, k3, k4, k5⟩ := ih n μ (by omega) (by omega) ⟨h3.1, h3.2.1, h3.2.2.1, fun s q1 q2 q3 => by
        by_cases q : s = V
        · subst q; exact absurd q3 a
        · exact h3.2.2.2 s (by omega) q2 q3⟩
      refine ⟨μ2, k1, k2, ?_⟩
      simp only [if_neg sb1]
      exact ⟨k3, k4, fun q => ⟨fun z => absurd z e, fun _ => ⟨fun _ => k5 q, fun z => absurd z sb1⟩⟩⟩
theorem cq_o {μ : fm_T} {m i : Nat} {v w : Int32} (h : CQ M F c m μ) : CQ M F c m (fm_i (fm_i μ 60 i v) 57 4 w) := by
  obtain ⟨h1, h2, h3, h4⟩ := h
  refine ⟨by rw [fI_i, if_neg (by omega), fI_i, if_neg (by omega)]; exact h1, h2, fun a ha t => ?_, h4⟩
  rw [fI_i, if_neg (by omega), fI_i, if_neg (by omega)]; exact h3 a ha t
theorem qo_lp (hM : M < 64) (hc : ∀ a, c a ≤ 99) (hB : ∀ a s, c a * F s ≤ 10000000000000) : ∀ (d i n s : Nat) (μ : fm_T), i + d = rk M 6 → d < n → s ≤ M → s &&& (63 - M) = 0 → ctN (M - s) 9 = d → CQ M F c 0 μ → fI μ 57 4 = nI i → (∀ j, j < i → fI μ 60 j = nI (qO M F c j M)) → (∀ j, qO M F c (i + j) M = qO M F c j (M - s)) → lX6_findOrder_h65 n μ (nI s) (nI i) = lN (qW M F c M) ∧ qX6_findOrder_h65 n μ (nI s) (nI i) ∧ frL bA bB μ (mX6_findOrder_h65 n μ (nI s) (nI i)) ∧ fI (mX6_findOrder_h65 n μ (nI s) (nI i)) 57 4 = nI (rk M 6) ∧ ∀ j, j < rk M 6 → fI (mX6_findOrder_h65 n μ (nI s) (nI i)) 60 j = nI (qO M F c j M) := by
  have r6 := rk_le M 6
  intro d
  induction d with
  | zero =>
    intro i n s μ h1 h2 hs hs2 hct h3 h4 h5 h6
    obtain ⟨n, rfl⟩ : ∃ m, n = m + 1 := ⟨n - 1, by omega⟩
    have := (ct_64 (M - s) (by omega)).2 hct
    obtain rfl : s = M := by omega
    obtain rfl : i = rk s 6 := by omega
    have q : fL μ 59 0 = lN (qW s F c s) := by
      have := h3.2.2.2 0 (by omega) (by omega) (by simp)
      rw [Nat.sub_zero] at this
      exact this
    have e2 : nI s = nI s := rfl
    simp only [lX6_findOrder_h65, mX6_findOrder_h65, qX6_findOrder_h65, h3.1, ite_self, q, if_true, not_true_eq_false]
    exact ⟨trivial, fun _ z => absurd z id, frL.rf _ _ _, h4, h5⟩
  | succ d ih =>
    intro i n s μ h1 h2 hs hs2 hct h3 h4 h5 h6
    obtain ⟨n, rfl⟩ : ∃ m, n = m + 1 := ⟨n - 1, by omega⟩
    have R0 : M - s ≠ 0 := fun z => by
      rw [z] at hct
      have : ctN 0 9 = 0 := by decide
      omega
    have e : ¬ (6 : Int32) ≤ nI i := fun z => by have := (nI_leI (a := 6) (by omega) (by omega)).mp z; omega
    have e2 : ¬ nI s = nI M := fun z => by have := nI_inj (by omega) (by omega) z; omega
    obtain ⟨⟨b1, b2⟩, -, -⟩ := nq_c hM hc hB h3 hs hs2 (by omega) R0
    obtain ⟨n1, n2⟩ := amN_n9 (v := qv M F c (M - s)) (R := M - s) (by omega) R0
    change qn M F c (M - s) < 6 at n1
    change (M - s).testBit (qn M F c (M - s)) = true at n2
    obtain ⟨-, x2⟩ := bx_64 M hM s hs hs2 _ n1
    obtain ⟨x3, x4, x5, x6⟩ := x2 n2
    have cm := ct_m (M - s) (by omega) _ (by omega) n2
    have hi : i < 2 ^ 31 := by omega
    have o0 := h6 0
    rw [Nat.add_zero] at o0
    have o0 : qO M F c i M = qn M F c (M - s) := o0
    obtain ⟨k1, k2, k3, k4, k5⟩ := ih (i + 1) n (s + 2 ^ qn M F c (M - s)) (fm_i (fm_i μ 60 i (nI (qn M F c (M - s)))) 57 4 (nI (i + 1))) (by omega) (by omega) x5 x4 (by rw [x6]; omega) (cq_o h3) (by rw [fI_i, if_pos ⟨rfl, rfl⟩]) (fun j hj => by
      rw [fI_i, if_neg (by omega), fI_i]
      by_cases q : j = i
      · rw [if_pos ⟨rfl, q⟩, q, o0]
      · rw [if_neg (by omega)]; exact h5 j (by omega)) (fun j => by
      rw [x6, show i + 1 + j = i + (j + 1) by omega, h6 (j + 1)]
      rfl)
    have vi : vp_in (nI i) 6 := vp_in_nI (by omega) (by decide)
    simp only [lX6_findOrder_h65, mX6_findOrder_h65, qX6_findOrder_h65, if_neg e, h3.1, if_neg e2, b1, h4, nI_clamp hi, nI_1, x3]
    exact ⟨k1, fun _ _ => ⟨b2, vi, vi, k2⟩, (((frL.rf bA bB μ).i (Or.inl rfl)).i (Or.inr ⟨rfl, rfl⟩)).tr k3, k4, k5⟩
theorem fo_c {μ : fm_T} (hM : M < 64) (hc : ∀ a, c a ≤ 99) (hB : ∀ a s, c a * F s ≤ 10000000000000) (h1 : fI μ 57 3 = nI M) (h2 : ∀ s, s ≤ M → s &&& (63 - M) = 0 → fL μ 58 s = lN (F s)) (h3 : ∀ a, a < 6 → M.testBit a = true → fI μ 27 a = nI (c a)) : gX6_findOrder μ = lN (qW M F c M) ∧ pX6_findOrder μ ∧ frL bA bB μ (uX6_findOrder μ) ∧ fI (uX6_findOrder μ) 57 4 = nI (rk M 6) ∧ ∀ j, j < rk M 6 → fI (uX6_findOrder μ) 60 j = nI (qO M F c j M) := by
  obtain ⟨μ2, k1, k2, k3, k4, k5⟩ := qt_lp (M := M) (F := F) (c := c) hM hc hB M fF (fm_l μ 59 M 0) (Nat.le_refl M) (fF_gt (by omega)) ⟨h1, fun s q1 q2 => by rw [fL_l, if_neg (by omega)]; exact h2 s q1 q2, h3, fun s q1 q2 q3 => by
    obtain rfl : s = M := by omega
    rw [fL_l, if_pos ⟨rfl, rfl⟩, Nat.sub_self]
    rfl⟩
  have cq : CQ M F c 0 (fm_i μ2 57 4 0) := by
    obtain ⟨g1, g2, g3, g4⟩ := k1
    refine ⟨by rw [fI_i, if_neg (by omega)]; exact g1, g2, fun a ha t => ?_, g4⟩
    rw [fI_i, if_neg (by omega)]; exact g3 a ha t
  obtain ⟨o1, o2, o3, o4, o5⟩ := qo_lp hM hc hB (rk M 6) 0 fF 0 (fm_i μ2 57 4 0) (by omega) (fF_gt (by have := rk_le M 6; omega)) (by omega) (by simp) (by rw [Nat.sub_zero]; exact (ct_64 M hM).1) cq (by rw [fI_i, if_pos ⟨rfl, rfl⟩]; rfl) (fun j hj => by omega) (fun j => by rw [Nat.zero_add, Nat.sub_zero])
  rw [show nI 0 = 0 from rfl] at o1 o2 o3 o4 o5
  unfold gX6_findOrder pX6_findOrder uX6_findOrder
  rw [h1, nI_clamp (by omega), k3, k4]
  refine ⟨o1, ⟨vp_in_nI (by omega) (by decide), k5 o2⟩, ?_, o4, o5⟩
  exact (((frL.rf bA bB μ).l (k := 59) (j := M) (v := 0) rfl).tr k2).tr (((frL.rf bA bB μ2).i (k := 57) (j := 4) (v := 0) (Or.inr ⟨rfl, rfl⟩)).tr o3)
end
