def frI (A : Nat → Nat → Prop) (μ μ' : fm_T) : Prop := μ'.1 = μ.1 ∧ μ'.2.1 = μ.2.1 ∧ (∀ k j, fL μ' k j = fL μ k j) ∧ ∀ k j, ¬ A k j → fI μ' k j = fI μ k j
theorem frI.rf (A : Nat → Nat → Prop) (μ : fm_T) : frI A μ μ := ⟨rfl, rfl, fun _ _ => rfl, fun _ _ _ => rfl⟩
theorem frI.i {A : Nat → Nat → Prop} {μ μ' : fm_T} {k j : Nat} {v : Int32} (h : frI A μ μ') (ha : A k j) : frI A μ (fm_i μ' k j v) := ⟨h.1, h.2.1, h.2.2.1, fun a b q => by
  rw [fI_i, if_neg (fun z => q (by rw [z.1, z.2]; exact ha))]
  exact h.2.2.2 a b q⟩
theorem frI.tr {A : Nat → Nat → Prop} {μ μ1 μ2 : fm_T} (h1 : frI A μ μ1) (h2 : frI A μ1 μ2) : frI A μ μ2 := ⟨h2.1.trans h1.1, h2.2.1.trans h1.2.1, fun k j => (h2.2.2.1 k j).trans (h1.2.2.1 k j), fun k j q => (h2.2.2.2 k j q).trans (h1.2.2.2 k j q)⟩
theorem frI.mo {A B : Nat → Nat → Prop} {μ μ' : fm_T} (h : frI A μ μ') (hab : ∀ k j, A k j → B k j) : frI B μ μ' := ⟨h.1, h.2.1, h.2.2.1, fun k j q => h.2.2.2 k j (fun z => q (hab k j z))⟩
theorem frI.cC {A : Nat → Nat → Prop} {μ μ' : fm_T} (h : frI A μ μ') (ha : ∀ k j, A k j → ¬ ((8 ≤ k ∧ k < 40) ∨ 89 ≤ k)) : cgC μ μ' := ⟨h.1, h.2.1, fun k j q => h.2.2.2 k j (fun z => ha k j z q), fun k j _ => h.2.2.1 k j⟩
theorem frI.cM {A : Nat → Nat → Prop} {μ μ' : fm_T} (h : frI A μ μ') (ha : ∀ k j, A k j → k ≠ 2 ∧ k ≠ 4 ∧ k ≠ 8 ∧ (k = 0 → j ≠ 21)) : cgM μ μ' := ⟨h.1, h.2.1, h.2.2.2 0 21 (fun z => (ha 0 21 z).2.2.2 rfl rfl), fun j => h.2.2.2 2 j (fun z => (ha 2 j z).1 rfl), fun j => h.2.2.1 5 j, fun j => h.2.2.2 4 j (fun z => (ha 4 j z).2.1 rfl), fun j => h.2.2.2 8 j (fun z => (ha 8 j z).2.2.1 rfl), fun j => h.2.2.1 7 j⟩
theorem WR_cgx {σ : sg_T} {μ μ' ν ν' : fm_T} (w : WR σ (blk μ 8) (fL μ 25) (fI ν 2) (fL ν 5)) (h1 : cgC μ μ') (h2 : cgM ν ν') : WR σ (blk μ' 8) (fL μ' 25) (fI ν' 2) (fL ν' 5) := by
  rw [show fI ν' 2 = fI ν 2 from funext h2.2.2.2.1, show fL ν' 5 = fL ν 5 from funext h2.2.2.2.2.1]
  exact WR_cg (fun k j hk => h1.2.2.1 (8 + k) j (by omega)) (fun j => h1.2.2.2 25 j (Or.inl rfl)) w
section
variable {σ : sg_T} {μ ν : fm_T}
theorem dr_w (w : WR σ (blk μ 8) (fL μ 25) (fI ν 2) (fL ν 5)) {i : Nat} (hi : i < σ 0 8) : (fI μ 33 i = nI (σ 20 i) ∧ fI μ 34 i = nI (σ 21 i)) ∧ (fI ν 2 (110 + 2 * i) = nI (σ 20 i) ∧ fI ν 2 (111 + 2 * i) = nI (σ 21 i)) ∧ (1 ≤ σ 20 i ∧ σ 20 i ≤ 99 ∧ σ 21 i ≤ 9) := ⟨(wr_hc w).2.2.2.2.1 i hi, (wr_hm w).2.2.2.2.1 i hi, (wr_hw w).2.2.2.2.1 i hi⟩
theorem ld_w (w : WR σ (blk μ 8) (fL μ 25) (fI ν 2) (fL ν 5)) {l : Nat} (hl : l < 100) : fI μ 19 l = nI (σ 9 l) - 1 ∧ fI ν 2 (2240 + l) = nI (σ 9 l) - 1 ∧ σ 9 l ≤ σ 0 8 := ⟨w.1.2.2.2.2.1 l hl, w.2.1.2.2.2.2.1 l hl, w.2.2.1.2.2.2.2.1 l hl⟩
theorem dh_c (w : WR σ (blk μ 8) (fL μ 25) (fI ν 2) (fL ν 5)) {l : Nat} (hl : l < 100) : gX2_heatOfDrum μ (gX3_drumOf μ (nI l)) = (if l = 0 ∨ σ 9 l = 0 then -1 else nI (σ 21 (σ 9 l - 1))) ∧ pX3_drumOf μ (nI l) ∧ pX2_heatOfDrum μ (gX3_drumOf μ (nI l)) := by
  obtain ⟨c1, -, b1⟩ := ld_w w hl
  have h3 := (n2_c w).2.2.2
  have hd := (wr_hw w).1.2.2.2
  have pd : pX3_drumOf μ (nI l) := fun _ => vp_in_nI hl (by decide)
  have mm : gX11_within μ (-1) 0 (nI (σ 0 8) - 1) = 0 := (at_cmp (by omega)).mpr (Or.inl (by decide))
  by_cases e0 : l = 0
  · have q : gX3_drumOf μ (nI l) = -1 := by
      unfold gX3_drumOf
      exact if_pos (wi_nI.mpr (Or.inl (by rw [e0]; decide)))
    rw [q]
    unfold gX2_heatOfDrum pX2_heatOfDrum
    rw [h3, if_pos mm, if_pos (Or.inl e0)]
    exact ⟨rfl, pd, fun z => absurd mm z⟩
  · have q : gX3_drumOf μ (nI l) = nI (σ 9 l) - 1 := by
      unfold gX3_drumOf
      have q2 : ¬ gX11_within μ (nI l) 1 99 = 0 := wi_y (μ := μ) (a := 1) (b := 99) (by decide) (by decide) (by omega) (by omega)
      rw [if_neg q2, nI_clamp (by omega), c1]
    rw [q]
    unfold gX2_heatOfDrum pX2_heatOfDrum
    rw [h3]
    by_cases e1 : σ 9 l = 0
    · rw [e1, show nI 0 - 1 = -1 from rfl, if_pos mm, if_pos (Or.inr rfl)]
      exact ⟨rfl, pd, fun z => absurd mm z⟩
    · rw [show nI (σ 9 l) - 1 = nI (σ 9 l - 1) from nI_sub (b := 1) (by omega), if_neg (wi_b (by omega) (by omega)), if_neg (fun z => z.elim e0 e1), nI_clamp (by omega)]
      exact ⟨(dr_w w (by omega)).1.2, pd, fun _ => vp_in_nI (by omega) (by decide)⟩
end
def rcA (k j : Nat) : Prop := k = 72 ∨ (k = 0 ∧ j = 11)
def rcB (k j : Nat) : Prop := k = 25 ∨ (k = 0 ∧ j = 48)
theorem rc_lp {σ : sg_T} {μ ν : fm_T} {c h : Nat} (w : WR σ (blk μ 8) (fL μ 25) (fI ν 2) (fL ν 5)) (hc : c < 100) (hh : h ≤ 9) : ∀ (d i n n' q : Nat) (μ' ν' : fm_T), i + d = σ 0 0 → d < n → d < n' → q ≤ i → frI rcA μ μ' → frI rcB ν ν' → fI μ' 0 11 = nI q → fI ν' 0 48 = nI q → (∀ j, j < q → fI μ' 72 j = fI ν' 25 j) →
    (lX11_recall_h41 n μ' (nI c) (nI h) (nI i) = lX12_recall_h44 n' ν' (nI c) (nI h) (nI i) ∧ qX11_recall_h41 n μ' (nI c) (nI h) (nI i) ∧ qX12_recall_h44 n' ν' (nI c) (nI h) (nI i)) ∧ frI rcA μ (mX11_recall_h41 n μ' (nI c) (nI h) (nI i)) ∧ frI rcB ν (mX12_recall_h44 n' ν' (nI c) (nI h) (nI i)) ∧ ∃ q', q' ≤ σ 0 0 ∧ fI (mX11_recall_h41 n μ' (nI c) (nI h) (nI i)) 0 11 = nI q' ∧ fI (mX12_recall_h44 n' ν' (nI c) (nI h) (nI i)) 0 48 = nI q' ∧ ∀ j, j < q' → fI (mX11_recall_h41 n μ' (nI c) (nI h) (nI i)) 72 j = fI (mX12_recall_h44 n' ν' (nI c) (nI h) (nI i)) 25 j := by
  intro d
  induction d with
  | zero =>
    intro i n n' q μ' ν' h1 h2 h3 hq f1 f2 l1 l2 l3
    obtain ⟨n, rfl⟩ : ∃ m, n = m + 1 := ⟨n - 1, by omega⟩
    obtain ⟨n', rfl⟩ : ∃ m, n' = m + 1 := ⟨n' - 1, by omega⟩
    have w' := WR_cgx w (f1.cC (fun k j z => by unfold rcA at z; omega)) (f2.cM (fun k j z => by unfold rcB at z; omega))
    obtain ⟨cS, mS, hS⟩ := wr_S w'
    have e : nI (σ 0 0) ≤ nI i := (nI_leI (by omega) (by omega)).mpr (by omega)
    simp only [lX11_recall_h41, lX12_recall_h44, qX11_recall_h41, qX12_recall_h44, mX11_recall_h41, mX12_recall_h44, gX12_tickets, cS, mS, if_pos e]
    exact ⟨⟨l1.trans l2.symm, fun z => absurd e z, fun z => absurd e z⟩, f1, f2, q, by omega, l1, l2, l3⟩
  | succ d ih =>
    intro i n n' q μ' ν' h1 h2 h3 hq f1 f2 l1 l2 l3
    obtain ⟨n, rfl⟩ : ∃ m, n = m + 1 := ⟨n - 1, by omega⟩
    obtain ⟨n', rfl⟩ : ∃ m, n' = m + 1 := ⟨n' - 1, by omega⟩
    have w' := WR_cgx w (f1.cC (fun k j z => by unfold rcA at z; omega)) (f2.cM (fun k j z => by unfold rcB at z; omega))
    obtain ⟨cS, mS, hS⟩ := wr_S w'
    have hi : i < σ 0 0 := by omega
    have e : ¬ nI (σ 0 0) ≤ nI i := fun z => by have := (nI_leI (by omega) (by omega)).mp z; omega
    have o9 : gX8_of μ' (nI i) 9 = nI (σ 1 (14 * i + 9)) ∧ pX8_of μ' (nI i) 9 := of_c w' (j := 9) hi (by omega)
    have o0 : gX8_of μ' (nI i) 0 = nI (σ 1 (14 * i + 0)) ∧ pX8_of μ' (nI i) 0 := of_c w' (j := 0) hi (by omega)
    have m9 : gX12_of ν' (nI i) 9 = nI (σ 1 (14 * i + 9)) ∧ pX12_of ν' (nI i) 9 := of_m w' (j := 9) hi (by omega)
    have m0 : gX12_of ν' (nI i) 0 = nI (σ 1 (14 * i + 0)) ∧ pX12_of ν' (nI i) 0 := of_m w' (j := 0) hi (by omega)
    have bt := (w.2.2.1.2.1 i hi).1
    have hL : σ 1 (14 * i + 9) < 100 := by omega
    generalize σ 1 (14 * i + 9) = L at o9 m9 hL
    obtain ⟨k1, k2, k3⟩ := dh_c w' hL
    obtain ⟨-, ml, bl⟩ := ld_w w' hL
    have hn8 := (wr_hw w).1.2.2.1
    have hn4 := (wr_hw w).1.2.2.2
    have ee : (2240 : Int32) + nI L = nI (2240 + L) := by simp only [li_n, nI_add]
    have hno := ih (i + 1) n n' q μ' ν' (by omega) (by omega) (by omega) (by omega) f1 f2 l1 l2 l3
    have hyes := ih (i + 1) n n' (q + 1) (fm_i (fm_i μ' 72 q (nI i)) 0 11 (nI (q + 1))) (fm_i (fm_i ν' 25 q (nI i)) 0 48 (nI (q + 1))) (by omega) (by omega) (by omega) (by omega) ((f1.i (Or.inl rfl)).i (Or.inr ⟨rfl, rfl⟩)) ((f2.i (Or.inl rfl)).i (Or.inr ⟨rfl, rfl⟩)) (by rw [fI_i, if_pos ⟨rfl, rfl⟩]) (by rw [fI_i, if_pos ⟨rfl, rfl⟩]) (fun j hj => by
      by_cases ej : j = q
      · rw [fI_i, if_neg (by omega), fI_i, if_pos ⟨rfl, ej⟩, fI_i, if_neg (by omega), fI_i, if_pos ⟨rfl, ej⟩]
      · rw [fI_i, if_neg (by omega), fI_i, if_neg (by omega), fI_i, if_neg (by omega), fI_i, if_neg (by omega)]; exact l3 j (by omega))
    have kc : nI (σ 1 (14 * i + 0)) = nI c ↔ σ 1 (14 * i + 0) = c := nI_eq (by omega) (by omega)
    have kL : nI L = 0 ↔ L = 0 := nI_eq (b := 0) (by omega) (by omega)
    simp only [lX11_recall_h41, lX12_recall_h44, qX11_recall_h41, qX12_recall_h44, mX11_recall_h41, mX12_recall_h44, gX12_tickets, cS, mS, if_neg e, nI_1, o9.1, o0.1, m9.1, m0.1, k1, ee, l1, l2, kc, kL]
    rw [nI_clamp (by omega), nI_clamp (by omega), ml]
    have vq : vp_in (nI q) 40 := vp_in_nI (by omega) (by decide)
    have vl : vp_in (nI (2240 + L)) 2560 := vp_in_nI (by omega) (by decide)
    by_cases a1 : σ 1 (14 * i + 0) = c
    · by_cases a2 : L = 0
      · have z1 : (-1 : Int32) ≤ nI h := by rw [le_ti, ti_m1, ti_nI (by omega)]; omega
        simp only [if_pos a1, if_pos a2, if_pos (Or.inl a2 : L = 0 ∨ σ 9 L = 0), if_pos z1]
        exact ⟨⟨hno.1.1, fun _ => ⟨o9.2, k2, o0.2, fun z => absurd a1 z, fun _ => ⟨k3, fun _ => hno.1.2.1, fun z => absurd z1 z⟩⟩, fun _ => ⟨m9.2, m0.2, fun z => absurd a1 z, fun _ => ⟨fun _ => hno.1.2.2, fun z => absurd a2 z⟩⟩⟩, hno.2⟩
      · by_cases a3 : σ 9 L = 0
        · have z1 : (-1 : Int32) ≤ nI h := by rw [le_ti, ti_m1, ti_nI (by omega)]; omega
          have z2 : nI (σ 9 L) - 1 = -1 := by rw [a3]; rfl
          simp only [if_pos a1, if_neg a2, if_pos (Or.inr a3 : L = 0 ∨ σ 9 L = 0), if_pos z1, if_pos z2]
          exact ⟨⟨hno.1.1, fun _ => ⟨o9.2, k2, o0.2, fun z => absurd a1 z, fun _ => ⟨k3, fun _ => hno.1.2.1, fun z => absurd z1 z⟩⟩, fun _ => ⟨m9.2, m0.2, fun z => absurd a1 z, fun _ => ⟨fun z => absurd z a2, fun _ => ⟨vl, fun _ => hno.1.2.2, fun z => absurd z2 z⟩⟩⟩⟩, hno.2⟩
        · have z2 : nI (σ 9 L) - 1 = nI (σ 9 L - 1) := nI_sub (b := 1) (by omega)
          have z3 : ¬ nI (σ 9 L - 1) = -1 := nI_m1 (by omega)
          have z4 : (110 : Int32) + (2 : Int32) * nI (σ 9 L - 1) + 1 = nI (111 + 2 * (σ 9 L - 1)) := by
            simp only [li_n, nI_mul, nI_add]
            congr 1
            omega
          obtain ⟨-, dm, db⟩ := dr_w w' (i := σ 9 L - 1) (by omega)
          have vm : vp_in (nI (111 + 2 * (σ 9 L - 1))) 2560 := vp_in_nI (by omega) (by decide)
          rw [z2]
          simp only [if_pos a1, if_neg a2, if_neg (fun z : L = 0 ∨ σ 9 L = 0 => z.elim a2 a3), if_neg z3, z4]
          rw [nI_clamp (by omega), dm.2]
          have kh : nI (σ 21 (σ 9 L - 1)) ≤ nI h ↔ ¬ h < σ 21 (σ 9 L - 1) := (nI_leI (by omega) (by omega)).trans (by omega)
          have kh2 : nI h < nI (σ 21 (σ 9 L - 1)) ↔ h < σ 21 (σ 9 L - 1) := nI_ltI (by omega) (by omega)
          simp only [kh, kh2]
          by_cases a4 : h < σ 21 (σ 9 L - 1)
          · simp only [if_pos a4, if_neg (not_not_intro a4)]
            exact ⟨⟨hyes.1.1, fun _ => ⟨o9.2, k2, o0.2, fun z => absurd a1 z, fun _ => ⟨k3, fun z => absurd a4 z, fun _ => ⟨vq, hyes.1.2.1⟩⟩⟩, fun _ => ⟨m9.2, m0.2, fun z => absurd a1 z, fun _ => ⟨fun z => absurd z a2, fun _ => ⟨vl, fun z => absurd z z3, fun _ => ⟨vl, vm, fun _ => ⟨vq, hyes.1.2.2⟩, fun z => absurd a4 z⟩⟩⟩⟩⟩, hyes.2⟩
          · simp only [if_neg a4, if_pos (show ¬ h < σ 21 (σ 9 L - 1) from a4)]
            exact ⟨⟨hno.1.1, fun _ => ⟨o9.2, k2, o0.2, fun z => absurd a1 z, fun _ => ⟨k3, fun _ => hno.1.2.1, fun z => absurd a4 z⟩⟩, fun _ => ⟨m9.2, m0.2, fun z => absurd a1 z, fun _ => ⟨fun z => absurd z a2, fun _ => ⟨vl, fun z => absurd z z3, fun _ => ⟨vl, vm, fun z => absurd z a4, fun _ => hno.1.2.2⟩⟩⟩⟩⟩, hno.2⟩
    · simp only [if_neg a1]
      exact ⟨⟨hno.1.1, fun _ => ⟨o9.2, k2, o0.2, fun _ => hno.1.2.1, fun z => absurd z a1⟩, fun _ => ⟨m9.2, m0.2, fun _ => hno.1.2.2, fun z => absurd z a1⟩⟩, hno.2⟩
