def fBm (k j : Nat) : Prop := k = 0 ∧ (j = 0 ∨ (2 ≤ j ∧ j ≤ 10))
theorem mbg_ok {b : Nat → Nat} {z l last : Nat} {K A V W P : Nat → Nat} {N : fm_T} (h2 : fI N 0 2 = nI z) (hz : z ≤ 940) (hb : ∀ i, i < 940 → fI N 1 i = nI (b i) ∧ b i ≤ 255) (hl : l ≤ 900) (lx : LXs b z l last K A V W P) : pX12_begin N (nI l) ∧ frL fBm fGl N (uX12_begin N (nI l)) ∧ TM (K 0) (A 0) (V 0) (W 0) (P (0 + 1)) (uX12_begin N (nI l)) ∧ MBy b z l (uX12_begin N (nI l)) ∧ fI (uX12_begin N (nI l)) 0 2 = 0 ∧ fI (uX12_begin N (nI l)) 0 10 = 0 := by
  have e : fm_i (fm_i (fm_i (fm_i (uX12_take (fm_i N 0 0 0)) 0 3 (gX12_take (fm_i N 0 0 0))) 0 4 (nI l)) 0 10 0) 0 5 0 = fm_i (fm_i (fm_i (fm_i (fm_i (fm_i N 0 0 0) 0 2 0) 0 3 (nI z)) 0 4 (nI l)) 0 10 0) 0 5 (nI 0) := by
    unfold uX12_take gX12_take
    rw [show fI (fm_i N 0 0 0) 0 2 = fI N 0 2 by rw [fI_i, if_neg (by omega)], h2]
    rfl
  unfold pX12_begin uX12_begin
  rw [e]
  have fr : frL fBm fGl N (fm_i (fm_i (fm_i (fm_i (fm_i (fm_i N 0 0 0) 0 2 0) 0 3 (nI z)) 0 4 (nI l)) 0 10 0) 0 5 (nI 0)) := ((((((frL.rf fBm fGl N).i ⟨rfl, by omega⟩).i ⟨rfl, by omega⟩).i ⟨rfl, by omega⟩).i ⟨rfl, by omega⟩).i ⟨rfl, by omega⟩).i ⟨rfl, by omega⟩
  have c3 : fI (fm_i (fm_i (fm_i (fm_i (fm_i (fm_i N 0 0 0) 0 2 0) 0 3 (nI z)) 0 4 (nI l)) 0 10 0) 0 5 (nI 0)) 0 3 = nI z := by rw [fI_i, if_neg (by omega), fI_i, if_neg (by omega), fI_i, if_neg (by omega), fI_i, if_pos ⟨rfl, rfl⟩]
  have c4 : fI (fm_i (fm_i (fm_i (fm_i (fm_i (fm_i N 0 0 0) 0 2 0) 0 3 (nI z)) 0 4 (nI l)) 0 10 0) 0 5 (nI 0)) 0 4 = nI l := by rw [fI_i, if_neg (by omega), fI_i, if_neg (by omega), fI_i, if_pos ⟨rfl, rfl⟩]
  have c5 : fI (fm_i (fm_i (fm_i (fm_i (fm_i (fm_i N 0 0 0) 0 2 0) 0 3 (nI z)) 0 4 (nI l)) 0 10 0) 0 5 (nI 0)) 0 5 = nI 0 := by rw [fI_i, if_pos ⟨rfl, rfl⟩]
  have c2 : fI (fm_i (fm_i (fm_i (fm_i (fm_i (fm_i N 0 0 0) 0 2 0) 0 3 (nI z)) 0 4 (nI l)) 0 10 0) 0 5 (nI 0)) 0 2 = 0 := by rw [fI_i, if_neg (by omega), fI_i, if_neg (by omega), fI_i, if_neg (by omega), fI_i, if_neg (by omega), fI_i, if_pos ⟨rfl, rfl⟩]
  have c10 : fI (fm_i (fm_i (fm_i (fm_i (fm_i (fm_i N 0 0 0) 0 2 0) 0 3 (nI z)) 0 4 (nI l)) 0 10 0) 0 5 (nI 0)) 0 10 = 0 := by rw [fI_i, if_neg (by omega), fI_i, if_pos ⟨rfl, rfl⟩]
  generalize fm_i (fm_i (fm_i (fm_i (fm_i (fm_i N 0 0 0) 0 2 0) 0 3 (nI z)) 0 4 (nI l)) 0 10 0) 0 5 (nI 0) = M at fr c3 c4 c5 c2 c10 ⊢
  have mb : MBy b z l M := ⟨hz, by omega, c3, c4, fun i hi => by rw [fr.2.2.2 1 i (by unfold fBm; omega)]; exact hb i hi⟩
  have tk := lx.2.1 0 (Nat.zero_le _)
  rw [lx.1] at tk
  obtain ⟨g1, g2, g3⟩ := go_m mb c5 tk
  refine ⟨g1, fr.tr (g2.mo (fun k j y => by unfold fG at y; unfold fBm; omega) (fun _ _ y => y)), g3, MBy_f mb g2, ?_, ?_⟩
  · rw [g2.2.2.2 0 2 (by unfold fG; omega)]; exact c2
  · rw [g2.2.2.2 0 10 (by unfold fG; omega)]; exact c10
def rzR (ρ : sg_T) : sg_T := fun a j => if a = 0 ∧ j = 0 then 0 else ρ a j
theorem XR_0 {ρ : sg_T} {μ ν : fm_T} (v : Int32) (h : XR ρ μ ν) : XR (rzR ρ) (fm_i (fm_i μ 1 2 0) 0 12 v) (fm_i (fm_i ν 0 2 0) 0 10 v) := by
  obtain ⟨a1, a2, a3, a4, a5, a6, a7, a8⟩ := h
  have e : ∀ a j, ¬ (a = 0 ∧ j = 0) → rzR ρ a j = ρ a j := fun a j q => if_neg q
  have e0 : rzR ρ 0 0 = 0 := rfl
  have c : ∀ k j, ¬ (k = 1 ∧ j = 2) → ¬ (k = 0 ∧ j = 12) → fI (fm_i (fm_i μ 1 2 0) 0 12 v) k j = fI μ k j := fun k j q1 q2 => by rw [fI_i, if_neg q2, fI_i, if_neg q1]
  have m : ∀ k j, ¬ (k = 0 ∧ j = 2) → ¬ (k = 0 ∧ j = 10) → fI (fm_i (fm_i ν 0 2 0) 0 10 v) k j = fI ν k j := fun k j q1 q2 => by rw [fI_i, if_neg q2, fI_i, if_neg q1]
  unfold XR
  rw [e0, e 0 1 (by omega), e 0 2 (by omega), e 0 3 (by omega), e 0 4 (by omega), e 0 5 (by omega)]
  rw [c 51 8 (by omega) (by omega), c 57 4 (by omega) (by omega), c 0 11 (by omega) (by omega), c 61 5 (by omega) (by omega), c 66 5 (by omega) (by omega)]
  rw [m 0 39 (by omega) (by omega), m 0 45 (by omega) (by omega), m 0 48 (by omega) (by omega), m 0 54 (by omega) (by omega), m 0 59 (by omega) (by omega)]
  refine ⟨⟨?_, ?_, by omega, fun i hi => ?_⟩, ⟨a2.1, a2.2.1, a2.2.2.1, fun i hi => ?_⟩, ⟨a3.1, a3.2.1, a3.2.2.1, fun i hi => ?_⟩, ⟨a4.1, a4.2.1, a4.2.2.1, fun i hi => ?_⟩, ⟨a5.1, a5.2.1, a5.2.2.1, fun i hi => ?_⟩, ⟨a6.1, a6.2.1, a6.2.2.1, fun i hi => ?_⟩, ?_, fun i hi => a8 i hi⟩
  · rw [fI_i, if_neg (by omega), fI_i, if_pos ⟨rfl, rfl⟩]; rfl
  · rw [fI_i, if_neg (by omega), fI_i, if_pos ⟨rfl, rfl⟩]; rfl
  · rw [c 3 i (by omega) (by omega), m 1 i (by omega) (by omega), e 1 i (by omega)]; exact a1.2.2.2 i hi
  · rw [c 56 i (by omega) (by omega), m 20 i (by omega) (by omega)]; exact a2.2.2.2 i hi
  · rw [c 60 i (by omega) (by omega), m 23 i (by omega) (by omega)]; exact a3.2.2.2 i hi
  · rw [c 72 i (by omega) (by omega), m 25 i (by omega) (by omega)]; exact a4.2.2.2 i hi
  · rw [c 65 i (by omega) (by omega), m 29 i (by omega) (by omega)]; exact a5.2.2.2 i hi
  · rw [c 70 i (by omega) (by omega), m 32 i (by omega) (by omega)]; exact a6.2.2.2 i hi
  · rw [fI_i, if_pos ⟨rfl, rfl⟩, fI_i, if_pos ⟨rfl, rfl⟩]
theorem XR_z {ρ : sg_T} {μ μ' ν ν' : fm_T} (h : XR ρ μ ν) (z1 : fI μ' 1 2 = 0) (z2 : fI ν' 0 2 = 0) (z3 : fI μ' 0 12 = fI ν' 0 10) (c1 : ∀ k j, (k = 51 ∧ j = 8) ∨ (k = 57 ∧ j = 4) ∨ (k = 0 ∧ j = 11) ∨ (k = 61 ∧ j = 5) ∨ (k = 66 ∧ j = 5) ∨ k = 3 ∨ k = 56 ∨ k = 60 ∨ k = 72 ∨ k = 65 ∨ k = 70 → fI μ' k j = fI μ k j) (c2 : ∀ j, fL μ' 2 j = fL μ 2 j) (m1 : ∀ k j, (k = 0 ∧ (j = 39 ∨ j = 45 ∨ j = 48 ∨ j = 54 ∨ j = 59)) ∨ k = 1 ∨ k = 20 ∨ k = 23 ∨ k = 25 ∨ k = 29 ∨ k = 32 → fI ν' k j = fI ν k j) : XR (rzR ρ) μ' ν' := by
  have c : ∀ k j, ¬ (k = 1 ∧ j = 2) → ¬ (k = 0 ∧ j = 12) → fI (fm_i (fm_i μ 1 2 0) 0 12 (fI μ' 0 12)) k j = fI μ k j := fun k j q1 q2 => by rw [fI_i, if_neg q2, fI_i, if_neg q1]
  have m : ∀ k j, ¬ (k = 0 ∧ j = 2) → ¬ (k = 0 ∧ j = 10) → fI (fm_i (fm_i ν 0 2 0) 0 10 (fI μ' 0 12)) k j = fI ν k j := fun k j q1 q2 => by rw [fI_i, if_neg q2, fI_i, if_neg q1]
  refine XR_cg (μ := fm_i (fm_i μ 1 2 0) 0 12 (fI μ' 0 12)) (ν := fm_i (fm_i ν 0 2 0) 0 10 (fI μ' 0 12)) ⟨⟨?_, ?_, ?_, ?_, ?_, ?_, ?_⟩, fun k j hk => ?_, fun j => c2 j⟩ ⟨⟨?_, ?_, ?_, ?_, ?_, ?_, ?_⟩, fun k j hk => ?_⟩ (XR_0 (fI μ' 0 12) h)
  · rw [z1, fI_i, if_neg (by omega), fI_i, if_pos ⟨rfl, rfl⟩]
  · rw [c 51 8 (by omega) (by omega)]; exact c1 _ _ (by omega)
  · rw [c 57 4 (by omega) (by omega)]; exact c1 _ _ (by omega)
  · rw [c 0 11 (by omega) (by omega)]; exact c1 _ _ (by omega)
  · rw [c 61 5 (by omega) (by omega)]; exact c1 _ _ (by omega)
  · rw [c 66 5 (by omega) (by omega)]; exact c1 _ _ (by omega)
  · rw [fI_i, if_pos ⟨rfl, rfl⟩]
  · rw [c k j (by omega) (by omega)]; exact c1 _ _ (by omega)
  · rw [z2, fI_i, if_neg (by omega), fI_i, if_pos ⟨rfl, rfl⟩]
  · rw [m 0 39 (by omega) (by omega)]; exact m1 _ _ (by omega)
  · rw [m 0 45 (by omega) (by omega)]; exact m1 _ _ (by omega)
  · rw [m 0 48 (by omega) (by omega)]; exact m1 _ _ (by omega)
  · rw [m 0 54 (by omega) (by omega)]; exact m1 _ _ (by omega)
  · rw [m 0 59 (by omega) (by omega)]; exact m1 _ _ (by omega)
  · rw [z3, fI_i, if_pos ⟨rfl, rfl⟩]
  · rw [m k j (by omega) (by omega)]; exact m1 _ _ (by omega)
theorem MB_r {σ : sg_T} {a a' : Nat → Int32} {nm : Nat → Int64} (wf : WF σ) (e : ∀ j, j ≠ 135 → j ≠ 136 → ¬ (2000 ≤ j ∧ j < 2240) → a' j = a j) (h : MB σ a nm) : MB σ a' nm := by
  obtain ⟨w1, -, -, -, -, -, -, -, w9⟩ := wf
  obtain ⟨v1, -⟩ := w9
  obtain ⟨b1, b2, b3, b4, b5, b6, b7, b8⟩ := h
  obtain ⟨d1, d2, d3, d4, d5, d6⟩ := b8
  refine ⟨?_, fun t j ht hj => ?_, fun n hn => ?_, fun d hd => ?_, fun l hl => ?_, fun q hq => ?_, fun k hk => ?_, fun s hs => ?_, fun i hi => ?_, fun i hi => ⟨?_, fun s hs => ?_⟩, fun i hi => ?_, fun i hi => ?_, d6⟩
  · rw [e 131 (by omega) (by omega) (by omega), e 132 (by omega) (by omega) (by omega), e 133 (by omega) (by omega) (by omega), e 130 (by omega) (by omega) (by omega), e 134 (by omega) (by omega) (by omega)]; exact b1
  · rw [e _ (by omega) (by omega) (by omega)]; exact b2 t j ht hj
  · rw [e _ (by omega) (by omega) (by omega), e _ (by omega) (by omega) (by omega), e _ (by omega) (by omega) (by omega)]; exact b3 n hn
  · rw [e _ (by omega) (by omega) (by omega), e _ (by omega) (by omega) (by omega), e _ (by omega) (by omega) (by omega)]; exact b4 d hd
  · rw [e _ (by omega) (by omega) (by omega)]; exact b5 l hl
  · rw [e _ (by omega) (by omega) (by omega), e _ (by omega) (by omega) (by omega), e _ (by omega) (by omega) (by omega)]; exact b6 q hq
  · rw [e _ (by omega) (by omega) (by omega)]; exact b7 k hk
  · rw [e _ (by omega) (by omega) (by omega)]; exact d1 s hs
  · rw [e _ (by omega) (by omega) (by omega)]; exact d2 i hi
  · rw [e _ (by omega) (by omega) (by omega)]; exact (d3 i hi).1
  · rw [e _ (by omega) (by omega) (by omega)]; exact (d3 i hi).2 s hs
  · rw [e _ (by omega) (by omega) (by omega), e _ (by omega) (by omega) (by omega), e _ (by omega) (by omega) (by omega), e _ (by omega) (by omega) (by omega)]; exact d4 i hi
  · rw [e _ (by omega) (by omega) (by omega), e _ (by omega) (by omega) (by omega)]; exact d5 i hi
theorem ru_83 : ∀ (c f i : Nat) (V : fm_T), i + c = 240 → c < f → qX12_rule_h83 f V (nI i) ∧ lX12_rule_h83 f V (nI i) = fI V 0 62 ∧ ∃ U, mX12_rule_h83 f V (nI i) = U ∧ frL (fun k j => k = 2 ∧ 2000 + i ≤ j ∧ j < 2240) fN V U ∧ ∀ j, i ≤ j → j < 240 → fI U 2 (2000 + j) = fI V 33 j := by
  intro c
  induction c with
  | zero =>
    intro f i V h1 h2
    obtain ⟨f, rfl⟩ : ∃ m, f = m + 1 := ⟨f - 1, by omega⟩
    have e1 : (240 : Int32) ≤ nI i := (nI_leI (a := 240) (by omega) (by omega)).mpr (by omega)
    unfold qX12_rule_h83 lX12_rule_h83 mX12_rule_h83
    rw [if_pos e1, if_pos e1]
    exact ⟨fun q => absurd e1 q, rfl, V, rfl, frL.rf _ _ _, fun j q1 q2 => by omega⟩
  | succ c ih =>
    intro f i V h1 h2
    obtain ⟨f, rfl⟩ : ∃ m, f = m + 1 := ⟨f - 1, by omega⟩
    have e1 : ¬ (240 : Int32) ≤ nI i := fun q => by have := (nI_leI (a := 240) (by omega) (by omega)).mp q; omega
    have e2 : (2000 : Int32) + nI i = nI (2000 + i) := by rw [show (2000 : Int32) = nI 2000 from rfl, nI_add]
    unfold qX12_rule_h83 lX12_rule_h83 mX12_rule_h83
    rw [if_neg e1, if_neg e1, e2, nI_1, nI_clamp (by omega), nI_clamp (by omega)]
    obtain ⟨k1, k2, U, k3, k4, k5⟩ := ih f (i + 1) (fm_i V 2 (2000 + i) (fI V 33 i)) (by omega) (by omega)
    refine ⟨fun _ => ⟨vp_in_nI (by omega) (by decide), vp_in_nI (by omega) (by decide), k1⟩, ?_, U, k3, ((frL.rf _ _ _).i (by omega)).tr (k4.mo (fun k j y => by omega) (fun _ _ y => y)), fun j q1 q2 => ?_⟩
    · rw [k2, fI_i, if_neg (by omega)]
    · by_cases y : j = i
      · subst y
        rw [k4.2.2.2 2 _ (by omega), fI_i, if_pos ⟨rfl, rfl⟩]
      · rw [k5 j (by omega) q2, fI_i, if_neg (by omega)]
