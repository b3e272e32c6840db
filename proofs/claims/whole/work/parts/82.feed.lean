theorem bv_sh (x : BitVec 32) (s : Nat) (hs : s + 8 ≤ 32) : x.sshiftRight s &&& 255#32 = x >>> s &&& 255#32 := by
  apply BitVec.eq_of_getLsbD_eq
  intro i hi
  rw [BitVec.getLsbD_and, BitVec.getLsbD_and, BitVec.getLsbD_sshiftRight, BitVec.getLsbD_ushiftRight]
  by_cases h : i < 8
  · have h2 : s + i < 32 := by omega
    have h3 : decide (32 ≤ i) = false := decide_eq_false (by omega)
    rw [if_pos h2, h3]
    rfl
  · have h2 : (255#32).getLsbD i = false := by
      rw [BitVec.getLsbD_ofNat, show (255 : Nat) = 2 ^ 8 - 1 from rfl, Nat.testBit_two_pow_sub_one, decide_eq_false h]
      simp
    rw [h2, Bool.and_false, Bool.and_false]
theorem by24 (x : Int32) : (x >>> ((24 : Int32) &&& 31)) &&& 255 = ((x.toUInt32 >>> ((24 : Int32).toUInt32 &&& Int32.toUInt32 31)).toInt32) &&& 255 := Int32.toBitVec_inj.mp (bv_sh x.toBitVec 24 (by decide))
theorem by16 (x : Int32) : (x >>> ((16 : Int32) &&& 31)) &&& 255 = ((x.toUInt32 >>> ((16 : Int32).toUInt32 &&& Int32.toUInt32 31)).toInt32) &&& 255 := Int32.toBitVec_inj.mp (bv_sh x.toBitVec 16 (by decide))
theorem by8 (x : Int32) : (x >>> ((8 : Int32) &&& 31)) &&& 255 = ((x.toUInt32 >>> ((8 : Int32).toUInt32 &&& Int32.toUInt32 31)).toInt32) &&& 255 := Int32.toBitVec_inj.mp (bv_sh x.toBitVec 8 (by decide))
theorem by0 (x : Int32) : (x >>> ((0 : Int32) &&& 31)) &&& 255 = ((x.toUInt32 >>> ((0 : Int32).toUInt32 &&& Int32.toUInt32 31)).toInt32) &&& 255 := Int32.toBitVec_inj.mp (bv_sh x.toBitVec 0 (by decide))
theorem by_bd (x : Int32) : ∃ b : Nat, b ≤ 255 ∧ x &&& 255 = nI b := by
  refine ⟨(x.toBitVec &&& 255#32).toNat, ?_, Int32.toBitVec_inj.mp ?_⟩
  · rw [BitVec.toNat_and]
    exact Nat.and_le_right
  · show x.toBitVec &&& 255#32 = BitVec.ofNat 32 (x.toBitVec &&& 255#32).toNat
    rw [BitVec.ofNat_toNat, BitVec.setWidth_eq]
def TP (b : Nat → Nat) (P : Nat) (μ ν : fm_T) : Prop := fI μ 1 2 = nI P ∧ fI ν 0 2 = nI P ∧ ∀ i, i < 940 → fI μ 3 i = nI (b i) ∧ fI ν 1 i = nI (b i) ∧ b i ≤ 255
def fdA (k j : Nat) : Prop := k = 3 ∨ (k = 1 ∧ j = 2)
def fdB (k j : Nat) : Prop := k = 1 ∨ (k = 0 ∧ j = 2)
def shc (c : Nat) : Int32 := if c = 0 then -8 else nI (8 * (c - 1))
theorem ap_lp (x : Int32) {μ0 ν0 : fm_T} : ∀ (c n n' P : Nat) (μ ν : fm_T) (b : Nat → Nat), c ≤ 4 → c < n → c < n' → P + c ≤ 940 → TP b P μ ν → frI fdA μ0 μ → frI fdB ν0 ν → (∃ b', TP b' (P + c) (mX7_append_h3 n μ x (shc c)) (mX12_come_h3 n' ν x (shc c))) ∧ frI fdA μ0 (mX7_append_h3 n μ x (shc c)) ∧ frI fdB ν0 (mX12_come_h3 n' ν x (shc c)) ∧ qX7_append_h3 n μ x (shc c) ∧ qX12_come_h3 n' ν x (shc c) := by
  intro c
  induction c with
  | zero =>
    intro n n' P μ ν b h1 h2 h3 h4 t f1 f2
    obtain ⟨n, rfl⟩ : ∃ m, n = m + 1 := ⟨n - 1, by omega⟩
    obtain ⟨n', rfl⟩ : ∃ m, n' = m + 1 := ⟨n' - 1, by omega⟩
    have e : shc 0 < 0 := by decide
    simp only [mX7_append_h3, mX12_come_h3, qX7_append_h3, qX12_come_h3, if_pos e]
    exact ⟨⟨b, t⟩, f1, f2, fun z => absurd e z, fun z => absurd e z⟩
  | succ c ih =>
    intro n n' P μ ν b h1 h2 h3 h4 t f1 f2
    obtain ⟨n, rfl⟩ : ∃ m, n = m + 1 := ⟨n - 1, by omega⟩
    obtain ⟨n', rfl⟩ : ∃ m, n' = m + 1 := ⟨n' - 1, by omega⟩
    obtain ⟨t1, t2, t3⟩ := t
    have hc : c = 0 ∨ c = 1 ∨ c = 2 ∨ c = 3 := by omega
    have e : ¬ shc (c + 1) < 0 := by rcases hc with rfl | rfl | rfl | rfl <;> decide
    have e8 : shc (c + 1) + (-8) = shc c := by rcases hc with rfl | rfl | rfl | rfl <;> decide
    have eb : (x >>> (shc (c + 1) &&& 31)) &&& 255 = ((x.toUInt32 >>> ((shc (c + 1)).toUInt32 &&& Int32.toUInt32 31)).toInt32) &&& 255 := by
      rcases hc with rfl | rfl | rfl | rfl
      · exact by0 x
      · exact by8 x
      · exact by16 x
      · exact by24 x
    obtain ⟨v, hv, ev⟩ := by_bd ((x.toUInt32 >>> ((shc (c + 1)).toUInt32 &&& Int32.toUInt32 31)).toInt32)
    have e9 : ¬ (940 : Int32) ≤ nI P := fun z => by have := (nI_leI (a := 940) (by omega) (by omega)).mp z; omega
    have vP : vp_in (nI P) 940 := vp_in_nI (by omega) (by decide)
    simp only [mX7_append_h3, mX12_come_h3, qX7_append_h3, qX12_come_h3, if_neg e, e8, t1, t2, if_neg e9, eb, ev, nI_1]
    rw [nI_clamp (by omega)]
    have tp : TP (fun i => if i = P then v else b i) (P + 1) (fm_i (fm_i μ 3 P (nI v)) 1 2 (nI (P + 1))) (fm_i (fm_i ν 1 P (nI v)) 0 2 (nI (P + 1))) := by
      refine ⟨by rw [fI_i, if_pos ⟨rfl, rfl⟩], by rw [fI_i, if_pos ⟨rfl, rfl⟩], fun i hi => ?_⟩
      obtain ⟨s1, s2, s3⟩ := t3 i hi
      rw [fI_i, if_neg (by omega), fI_i (fm_i ν 1 P (nI v)), if_neg (by omega)]
      by_cases ei : i = P
      · rw [fI_i, if_pos ⟨rfl, ei⟩, fI_i, if_pos ⟨rfl, ei⟩]
        simp only [if_pos ei]
        exact ⟨trivial, trivial, hv⟩
      · rw [fI_i, if_neg (by omega), fI_i, if_neg (by omega)]
        simp only [if_neg ei]
        exact ⟨s1, s2, s3⟩
    obtain ⟨i1, i2, i3, i4, i5⟩ := ih n n' (P + 1) _ _ _ (by omega) (by omega) (by omega) (by omega) tp ((f1.i (Or.inl rfl)).i (Or.inr ⟨rfl, rfl⟩)) ((f2.i (Or.inl rfl)).i (Or.inr ⟨rfl, rfl⟩))
    rw [show P + (c + 1) = P + 1 + c by omega]
    exact ⟨i1, i2, i3, fun _ _ => ⟨vP, i4⟩, fun _ => ⟨vP, i5⟩⟩
theorem ap_ok (x : Int32) {μ0 ν0 μ ν : fm_T} {P : Nat} {b : Nat → Nat} (hP : P + 4 ≤ 940) (t : TP b P μ ν) (f1 : frI fdA μ0 μ) (f2 : frI fdB ν0 ν) : (∃ b', TP b' (P + 4) (uX7_append μ x) (uX12_come ν x)) ∧ frI fdA μ0 (uX7_append μ x) ∧ frI fdB ν0 (uX12_come ν x) ∧ pX7_append μ x ∧ pX12_come ν x := ap_lp x 4 fF fF P μ ν b (by omega) (fF_gt (by omega)) (fF_gt (by omega)) hP t f1 f2
theorem ok_feed : ob_feed RR := by
  rintro μ ν x1 x2 x3 x4 x5 ⟨σ, σ0, σ1, ρ, r0, r1, h⟩
  obtain ⟨⟨a1, a2, a3, a4⟩, ⟨b1, b2, b3, b4⟩, ⟨c1, c2, c3, c4⟩, ⟨n1, n2, n3, n4⟩, ⟨d1, d2, d3, d4⟩, ⟨k1, k2, k3, k4⟩, m1, m2⟩ := h.2.2.2.1
  have h0 := RS_thr h 0
  have e1 : nI (ρ 0 0) ≤ 920 ↔ ρ 0 0 ≤ 920 := nI_leI (b := 920) (by omega) (by omega)
  have e2 : nI (ρ 0 0) + 20 ≤ 940 ↔ ρ 0 0 ≤ 920 := by
    rw [show (20 : Int32) = nI 20 from rfl, nI_add]
    exact (nI_leI (b := 940) (by omega) (by omega)).trans (by omega)
  unfold pX11_feed pX12_feed gX11_feed gX12_feed uX11_feed uX12_feed
  rw [a1, a2]
  simp only [e1, e2]
  by_cases hP : ρ 0 0 ≤ 920
  · simp only [if_pos hP]
    have t0 : TP (ρ 1) (ρ 0 0) μ (fm_i ν 0 0 0) := ⟨a1, by rw [fI_i, if_neg (by omega)]; exact a2, fun i hi => by rw [fI_i, if_neg (by omega)]; exact a4 i hi⟩
    obtain ⟨⟨y1, t1⟩, f1, g1, p1, q1⟩ := ap_ok x1 (by omega) t0 (frI.rf fdA μ) (frI.rf fdB (fm_i ν 0 0 0))
    obtain ⟨⟨y2, t2⟩, f2, g2, p2, q2⟩ := ap_ok x2 (by omega) t1 f1 g1
    obtain ⟨⟨y3, t3⟩, f3, g3, p3, q3⟩ := ap_ok x3 (by omega) t2 f2 g2
    obtain ⟨⟨y4, t4⟩, f4, g4, p4, q4⟩ := ap_ok x4 (by omega) t3 f3 g3
    obtain ⟨⟨y5, t5⟩, f5, g5, p5, q5⟩ := ap_ok x5 (by omega) t4 f4 g4
    refine ⟨fun _ => ⟨p1, p2, p3, p4, p5⟩, fun _ => ⟨q1, q2, q3, q4, q5⟩, t5.1.trans t5.2.1.symm, σ, σ0, σ1, (fun r j => if r = 0 ∧ j = 0 then ρ 0 0 + 4 + 4 + 4 + 4 + 4 else if r = 1 then y5 j else ρ r j), r0, r1, RS_x h0 (f5.cC (fun k j z => by unfold fdA at z; omega)) (g5.cM (fun k j z => by unfold fdB at z; omega)) ?_⟩
    have F1 : ∀ k j, k ≠ 3 → (k = 1 → j ≠ 2) → fI (uX7_append (uX7_append (uX7_append (uX7_append (uX7_append μ x1) x2) x3) x4) x5) k j = fI μ k j := fun k j z1 z2 => f5.2.2.2 k j (by unfold fdA; omega)
    have F2 : ∀ k j, k ≠ 1 → (k = 0 → j ≠ 2 ∧ j ≠ 0) → fI (uX12_come (uX12_come (uX12_come (uX12_come (uX12_come (fm_i ν 0 0 0) x1) x2) x3) x4) x5) k j = fI ν k j := fun k j z1 z2 => (g5.2.2.2 k j (by unfold fdB; omega)).trans (by rw [fI_i, if_neg (by omega)])
    have F3 := f5.2.2.1
    generalize uX7_append (uX7_append (uX7_append (uX7_append (uX7_append μ x1) x2) x3) x4) x5 = μ2 at t5 F1 F3 ⊢
    generalize uX12_come (uX12_come (uX12_come (uX12_come (uX12_come (fm_i ν 0 0 0) x1) x2) x3) x4) x5 = ν2 at t5 F2 ⊢
    refine ⟨⟨t5.1, t5.2.1, (by show ρ 0 0 + 4 + 4 + 4 + 4 + 4 ≤ 940; omega), t5.2.2⟩, ⟨(F1 51 8 (by omega) (by omega)).trans b1, (F2 0 39 (by omega) (by omega)).trans b2, b3, fun i hi => ?_⟩, ⟨(F1 57 4 (by omega) (by omega)).trans c1, (F2 0 45 (by omega) (by omega)).trans c2, c3, fun i hi => ?_⟩, ⟨(F1 0 11 (by omega) (by omega)).trans n1, (F2 0 48 (by omega) (by omega)).trans n2, n3, fun i hi => ?_⟩, ⟨(F1 61 5 (by omega) (by omega)).trans d1, (F2 0 54 (by omega) (by omega)).trans d2, d3, fun i hi => ?_⟩, ⟨(F1 66 5 (by omega) (by omega)).trans k1, (F2 0 59 (by omega) (by omega)).trans k2, k3, fun i hi => ?_⟩, ?_, fun i hi => (F3 2 i).trans (m2 i hi)⟩
    · rw [F1 56 i (by omega) (by omega), F2 20 i (by omega) (by omega)]; exact b4 i hi
    · rw [F1 60 i (by omega) (by omega), F2 23 i (by omega) (by omega)]; exact c4 i hi
    · rw [F1 72 i (by omega) (by omega), F2 25 i (by omega) (by omega)]; exact n4 i hi
    · rw [F1 65 i (by omega) (by omega), F2 29 i (by omega) (by omega)]; exact d4 i hi
    · rw [F1 70 i (by omega) (by omega), F2 32 i (by omega) (by omega)]; exact k4 i hi
    · rw [F1 0 12 (by omega) (by omega), F2 0 10 (by omega) (by omega)]; exact m1
  · simp only [if_neg hP]
    exact ⟨fun z => absurd z hP, fun z => absurd z hP, trivial, σ, σ0, σ1, ρ, r0, r1, h0⟩
