def lmi (hc : Nat → Nat → Bool) (L : Nat → Bool) (c : Nat) : Nat → Bool := fun t => L t && !hc t c
def CV (P : Nat → Bool) (hc : Nat → Nat → Bool) : Nat → (Nat → Bool) → Prop
  | 0, L => ∀ t, L t = false
  | n + 1, L => (∀ t, L t = false) ∨ ∃ c, c < 240 ∧ P c = true ∧ CV P hc n (lmi hc L c)
section
variable {P : Nat → Bool} {hc : Nat → Nat → Bool}
theorem CV_s : ∀ n L, CV P hc n L → CV P hc (n + 1) L
  | 0, L, h => Or.inl h
  | n + 1, L, h => by
    rcases h with h | ⟨c, h1, h2, h3⟩
    · exact Or.inl h
    · exact Or.inr ⟨c, h1, h2, CV_s n _ h3⟩
theorem CV_e : ∀ n L, (∀ t, L t = false) → CV P hc n L
  | 0, _, h => h
  | _ + 1, _, h => Or.inl h
theorem CV_m {n m : Nat} {L : Nat → Bool} (h : n ≤ m) (hv : CV P hc n L) : CV P hc m L := by
  obtain ⟨d, rfl⟩ : ∃ d, m = n + d := ⟨m - n, by omega⟩
  clear h
  induction d with
  | zero => exact hv
  | succ d ih => exact CV_s _ _ ih
theorem lmi_c {L : Nat → Bool} (a b : Nat) : lmi hc (lmi hc L a) b = lmi hc (lmi hc L b) a := by
  funext t
  unfold lmi
  cases L t <;> cases hc t a <;> cases hc t b <;> rfl
theorem lmi_i {L : Nat → Bool} (a : Nat) : lmi hc (lmi hc L a) a = lmi hc L a := by
  funext t
  unfold lmi
  cases L t <;> cases hc t a <;> rfl
theorem CV_re {t : Nat} : ∀ n L, L t = true → CV P hc (n + 1) L → ∃ c, c < 240 ∧ P c = true ∧ hc t c = true ∧ CV P hc n (lmi hc L c)
  | 0, L, ht, h => by
    rcases h with h | ⟨c, h1, h2, h3⟩
    · rw [h t] at ht; exact absurd ht (by decide)
    · refine ⟨c, h1, h2, ?_, h3⟩
      have := h3 t
      unfold lmi at this
      rw [ht] at this
      cases hq : hc t c
      · rw [hq] at this; exact absurd this (by decide)
      · rfl
  | n + 1, L, ht, h => by
    rcases h with h | ⟨c, h1, h2, h3⟩
    · rw [h t] at ht; exact absurd ht (by decide)
    · cases hq : hc t c
      · have lt : lmi hc L c t = true := by unfold lmi; rw [ht, hq]; rfl
        obtain ⟨d, d1, d2, d3, d4⟩ := CV_re n _ lt h3
        refine ⟨d, d1, d2, d3, Or.inr ⟨c, h1, h2, ?_⟩⟩
        rw [lmi_c]
        exact d4
      · exact ⟨c, h1, h2, hq, h3⟩
theorem CV_a {n c : Nat} {L : Nat → Bool} (hc1 : c < 240) (hp : P c = true) (h : CV P hc n (lmi hc L c)) : CV P hc (n + 1) L := Or.inr ⟨c, hc1, hp, h⟩
theorem CV_x {n c d : Nat} {L : Nat → Bool} (hc1 : c < 240) (hp : P c = true) (h : CV P hc n (lmi hc (lmi hc L c) d)) : CV P hc (n + 1) (lmi hc L d) := by
  rw [lmi_c] at h
  exact CV_a hc1 hp h
end
def GR (P : Nat → Bool) (hc : Nat → Nat → Bool) : Nat → (Nat → Bool) → Nat → (Nat → Nat) → Prop
  | 0, L, _, _ => ∀ t, L t = false
  | n + 1, L, c0, q => (c0 ≤ q 0 ∧ q 0 < 240 ∧ P (q 0) = true ∧ CV P hc n (lmi hc L (q 0)) ∧ ∀ c, c0 ≤ c → c < q 0 → P c = true → ¬ CV P hc n (lmi hc L c)) ∧ GR P hc n (lmi hc L (q 0)) (q 0 + 1) (fun i => q (i + 1))
def Mn (P : Nat → Bool) (hc : Nat → Nat → Bool) (n : Nat) (L : Nat → Bool) : Prop := CV P hc n L ∧ ∀ m, m < n → ¬ CV P hc m L
def Ic (P : Nat → Bool) (hc : Nat → Nat → Bool) (n : Nat) (L : Nat → Bool) (c0 : Nat) : Prop := ∀ c, c < c0 → P c = true → ∀ m, m < n → ¬ CV P hc m (lmi hc L c)
section
variable {P : Nat → Bool} {hc : Nat → Nat → Bool}
theorem GR_u : ∀ n L c0 q q', GR P hc n L c0 q → GR P hc n L c0 q' → ∀ i, i < n → q i = q' i
  | 0, _, _, _, _, _, _, i, hi => by omega
  | n + 1, L, c0, q, q', ⟨⟨a1, a2, a3, a4, a5⟩, a6⟩, ⟨⟨b1, b2, b3, b4, b5⟩, b6⟩, i, hi => by
    have e : q 0 = q' 0 := by
      rcases Nat.lt_trichotomy (q 0) (q' 0) with z | z | z
      · exact absurd a4 (b5 _ a1 z a3)
      · exact z
      · exact absurd b4 (a5 _ b1 z b3)
    cases i with
    | zero => exact e
    | succ i =>
      rw [← e] at b6
      exact GR_u n _ _ _ _ a6 b6 i (by omega)
theorem Mn_st {n c0 c : Nat} {L : Nat → Bool} (h : Mn P hc (n + 1) L) (hi : Ic P hc (n + 1) L c0) (hc1 : c < 240) (hp : P c = true) (hv : CV P hc n (lmi hc L c)) (hm : ∀ d, c0 ≤ d → d < c → P d = true → ¬ CV P hc n (lmi hc L d)) : Mn P hc n (lmi hc L c) ∧ Ic P hc n (lmi hc L c) (c + 1) := by
  have mn : ∀ m, m < n → ¬ CV P hc m (lmi hc L c) := fun m hm z => h.2 (m + 1) (by omega) (CV_a hc1 hp z)
  refine ⟨⟨hv, mn⟩, fun d hd hpd m hmn z => ?_⟩
  by_cases e : d = c
  · rw [e, lmi_i] at z
    exact mn m hmn z
  · have z2 := CV_x hc1 hp z
    by_cases w : d < c0
    · exact hi d w hpd (m + 1) (by omega) z2
    · exact hm d (by omega) (by omega) hpd (CV_m (by omega) z2)
theorem Mn_ex {n c0 : Nat} {L : Nat → Bool} (h : Mn P hc (n + 1) L) (hi : Ic P hc (n + 1) L c0) : ∃ c, c0 ≤ c ∧ c < 240 ∧ P c = true ∧ CV P hc n (lmi hc L c) := by
  rcases h.1 with z | ⟨c, h1, h2, h3⟩
  · exact absurd (CV_e 0 L z) (h.2 0 (by omega))
  · refine ⟨c, ?_, h1, h2, h3⟩
    apply Decidable.byContradiction
    intro z
    exact hi c (by omega) h2 n (by omega) h3
theorem Mn_0 {L : Nat → Bool} (h : Mn P hc 0 L) : ∀ t, L t = false := h.1
theorem Mn_ne {n : Nat} {L : Nat → Bool} (h : Mn P hc (n + 1) L) : ¬ ∀ t, L t = false := fun z => h.2 0 (by omega) (CV_e 0 L z)
end
def mdn (m b : Nat) : Nat := m &&& (4095 - b)
theorem mdn_t {m b i : Nat} (hb : b < 4096) (hi : i < 12) : (mdn m b).testBit i = (m.testBit i && !b.testBit i) := by
  have := Nat.testBit_two_pow_sub_succ (n := 12) (x := b) hb i
  rw [show 2 ^ 12 - (b + 1) = 4095 - b by omega] at this
  unfold mdn
  rw [Nat.testBit_and, this]
  simp [hi]
theorem mdn_le (m b : Nat) : mdn m b ≤ m := Nat.and_le_left
theorem mdn_0 {m : Nat} (hm : m < 4096) : mdn m 0 = m := by
  apply Nat.eq_of_testBit_eq
  intro i
  by_cases hi : i < 12
  · rw [mdn_t (by omega) hi, Nat.zero_testBit]
    simp
  · have h1 : m.testBit i = false := Nat.testBit_lt_two_pow (Nat.lt_of_lt_of_le hm (Nat.pow_le_pow_right (n := 2) (i := 12) (by decide) (by omega)))
    have h2 : (mdn m 0).testBit i = false := Nat.testBit_lt_two_pow (Nat.lt_of_le_of_lt (mdn_le m 0) (Nat.lt_of_lt_of_le hm (Nat.pow_le_pow_right (n := 2) (i := 12) (by decide) (by omega))))
    rw [h1, h2]
theorem mdn_i {m b : Nat} (hm : m < 4096) (hb : b < 4096) : nI m &&& (nI b ^^^ (-1 : Int32)) = nI (mdn m b) := by
  apply Int32.toBitVec_inj.mp
  show (nI m).toBitVec &&& ((nI b).toBitVec ^^^ (-1 : Int32).toBitVec) = (nI (mdn m b)).toBitVec
  rw [m1_b, nI_bv, nI_bv, nI_bv]
  apply BitVec.eq_of_getLsbD_eq
  intro i hi
  simp only [BitVec.getLsbD_and, BitVec.getLsbD_xor, BitVec.getLsbD_allOnes, BitVec.getLsbD_ofNat, hi, decide_true, Bool.true_and]
  by_cases h : i < 12
  · rw [mdn_t hb h]
    cases m.testBit i <;> cases b.testBit i <;> rfl
  · have h1 : m.testBit i = false := Nat.testBit_lt_two_pow (Nat.lt_of_lt_of_le hm (Nat.pow_le_pow_right (n := 2) (i := 12) (by decide) (by omega)))
    have h2 : (mdn m b).testBit i = false := Nat.testBit_lt_two_pow (Nat.lt_of_le_of_lt (mdn_le m b) (Nat.lt_of_lt_of_le hm (Nat.pow_le_pow_right (n := 2) (i := 12) (by decide) (by omega))))
    rw [h1, h2]
    rfl
theorem or_i (a b : Nat) : nI a ||| nI b = nI (a ||| b) := by
  apply Int32.toBitVec_inj.mp
  show (nI a).toBitVec ||| (nI b).toBitVec = (nI (a ||| b)).toBitVec
  rw [nI_bv, nI_bv, nI_bv]
  apply BitVec.eq_of_getLsbD_eq
  intro i hi
  simp only [BitVec.getLsbD_or, BitVec.getLsbD_ofNat, hi, decide_true, Bool.true_and, Nat.testBit_or]
def hcB (σ : sg_T) (t c : Nat) : Bool := if 200 ≤ c then σ 1 (14 * t + 5) == c - 200 else if 100 ≤ c then σ 1 (14 * t + 0) == c - 100 else (c != 0) && σ 1 (14 * t + 9) == c
section
variable {σ : sg_T} {μ ν : fm_T}
theorem hb_ok (w : WR σ (blk μ 8) (fL μ 25) (fI ν 2) (fL ν 5)) {t c : Nat} (ht : t < σ 0 0) (hc : c < 240) : gX12_hasCause ν (nI t) (nI c) = (if hcB σ t c then 1 else 0) ∧ pX12_hasCause ν (nI t) (nI c) := by
  have o0 : gX12_of ν (nI t) 0 = nI (σ 1 (14 * t + 0)) ∧ pX12_of ν (nI t) 0 := of_m w (j := 0) ht (by omega)
  have o5 : gX12_of ν (nI t) 5 = nI (σ 1 (14 * t + 5)) ∧ pX12_of ν (nI t) 5 := of_m w (j := 5) ht (by omega)
  have o9 : gX12_of ν (nI t) 9 = nI (σ 1 (14 * t + 9)) ∧ pX12_of ν (nI t) 9 := of_m w (j := 9) ht (by omega)
  obtain ⟨⟨w0, -, -, -, -, -, w5, -, -, -, -, w9, -⟩, -⟩ := w.2.2.1.2.1 t ht
  have w7 := (wr_hw w).1.2.2.1
  refine ⟨?_, (hc_ok w ht (nI c)).2.2⟩
  unfold gX12_hasCause hcB
  rw [o0.1, o5.1, o9.1]
  have k1 : (100 : Int32) ≤ nI c ↔ 100 ≤ c := nI_leI (a := 100) (by omega) (by omega)
  have k2 : (200 : Int32) ≤ nI c ↔ 200 ≤ c := nI_leI (a := 200) (by omega) (by omega)
  have k3 : nI c ≤ 0 ↔ c = 0 := by rw [show (0 : Int32) = nI 0 from rfl, nI_leI (by omega) (by omega)]; omega
  simp only [k1, k2, k3]
  by_cases a2 : 200 ≤ c
  · have e : nI c - 200 = nI (c - 200) := nI_sub (b := 200) a2
    have k : nI (σ 1 (14 * t + 5)) = nI (c - 200) ↔ σ 1 (14 * t + 5) = c - 200 := nI_eq (by omega) (by omega)
    rw [if_pos (by omega), if_pos a2, e, if_pos a2]
    simp only [k, beq_iff_eq]
  · by_cases a1 : 100 ≤ c
    · have e : nI c - 100 = nI (c - 100) := nI_sub (b := 100) a1
      have k : nI (σ 1 (14 * t + 0)) = nI (c - 100) ↔ σ 1 (14 * t + 0) = c - 100 := nI_eq (by omega) (by omega)
      rw [if_pos a1, if_neg a2, e, if_neg a2, if_pos a1]
      simp only [k, beq_iff_eq]
    · have k : nI (σ 1 (14 * t + 9)) = nI c ↔ σ 1 (14 * t + 9) = c := nI_eq (by omega) (by omega)
      rw [if_neg a1, if_neg a2, if_neg a1]
      by_cases a0 : c = 0
      · rw [if_pos a0]; simp [a0]
      · rw [if_neg a0]; simp only [k]; simp [a0]
theorem hc_3 (w : WR σ (blk μ 8) (fL μ 25) (fI ν 2) (fL ν 5)) {t c : Nat} (ht : t < σ 0 0) (hc : c < 240) : hcB σ t c = true ↔ (c ≠ 0 ∧ (c = σ 1 (14 * t + 9) ∨ c = 100 + σ 1 (14 * t + 0) ∨ c = 200 + σ 1 (14 * t + 5))) := by
  obtain ⟨⟨w0, -, -, -, -, -, w5, -, -, -, -, w9, -⟩, -⟩ := w.2.2.1.2.1 t ht
  have w7 := (wr_hw w).1.2.2.1
  unfold hcB
  by_cases a2 : 200 ≤ c
  · rw [if_pos a2]; simp only [beq_iff_eq]; omega
  · by_cases a1 : 100 ≤ c
    · rw [if_neg a2, if_pos a1]; simp only [beq_iff_eq]; omega
    · rw [if_neg a2, if_neg a1]; simp only [Bool.and_eq_true, bne_iff_ne, beq_iff_eq]; omega
theorem po_w (w : WR σ (blk μ 8) (fL μ 25) (fI ν 2) (fL ν 5)) {y : Int32} : ∀ (c i n : Nat) (x : Int32), i + c = σ 0 0 → c < n → (x = 0 ∨ x = 1) → ¬ lX12_isPossible_h4 n ν y x (nI i) = 0 → x = 1 ∨ ∃ t, t < σ 0 0 ∧ ¬ gX12_hasCause ν (nI t) y = 0 ∧ σ 1 (14 * t + 11) = 1 := by
  obtain ⟨-, mS, hS⟩ := wr_S w
  intro c
  induction c with
  | zero =>
    intro i n x h1 h2 hx h
    obtain ⟨n, rfl⟩ : ∃ m, n = m + 1 := ⟨n - 1, by omega⟩
    have e : nI (σ 0 0) ≤ nI i := (nI_leI (by omega) (by omega)).mpr (by omega)
    simp only [lX12_isPossible_h4, gX12_tickets, mS, if_pos e] at h
    exact Or.inl (hx.elim (fun z => absurd z h) id)
  | succ c ih =>
    intro i n x h1 h2 hx h
    obtain ⟨n, rfl⟩ : ∃ m, n = m + 1 := ⟨n - 1, by omega⟩
    have e : ¬ nI (σ 0 0) ≤ nI i := fun z => by have := (nI_leI (by omega) (by omega)).mp z; omega
    obtain ⟨c1, -, c3⟩ := cm_ok w (t := i) (by omega)
    simp only [lX12_isPossible_h4, gX12_tickets, mS, if_neg e, c1, nI_1] at h
    by_cases a1 : gX12_hasCause ν (nI i) y = 0
    · rw [if_pos a1] at h
      exact ih (i + 1) n x (by omega) (by omega) hx h
    · rw [if_neg a1] at h
      by_cases a2 : gX12_isIn ν (gX12_standsNow ν (nI i)) 1 3 = 0
      · rw [if_pos a2] at h
        exact ih (i + 1) n x (by omega) (by omega) hx h
      · rw [if_neg a2] at h
        by_cases a3 : nI (σ 1 (14 * i + 11)) = 0
        · rw [if_pos a3] at h
          exact absurd rfl h
        · have : σ 1 (14 * i + 11) ≠ 0 := fun z => a3 (by rw [z]; rfl)
          exact Or.inr ⟨i, by omega, a1, by omega⟩
noncomputable def pcB (ν : fm_T) (c : Nat) : Bool := decide (¬ gX12_isPossible ν (nI c) = 0)
theorem pc_m (w : WR σ (blk μ 8) (fL μ 25) (fI ν 2) (fL ν 5)) (c : Nat) : (gX12_isPossible ν (nI c) = 0 ↔ pcB ν c = false) ∧ pX12_isPossible ν (nI c) ∧ (gX11_isPossible μ (nI c) = 0 ↔ pcB ν c = false) ∧ pX11_isPossible μ (nI c) ∧ pcB ν 0 = false := by
  have hS := (wr_S w).2.2
  have z1 : gX12_isPossible ν (nI c) = 0 ↔ pcB ν c = false := by unfold pcB; simp
  obtain ⟨e1, e2, e3, -⟩ := po_lp w (nI c) (σ 0 0) 0 fF fF 0 (by omega) (fF_gt (by omega)) (fF_gt (by omega)) (Or.inl rfl)
  obtain ⟨f1, -, -, f4⟩ := po_lp w (nI 0) (σ 0 0) 0 fF fF 0 (by omega) (fF_gt (by omega)) (fF_gt (by omega)) (Or.inl rfl)
  have e1 : gX11_isPossible μ (nI c) = gX12_isPossible ν (nI c) := e1
  refine ⟨z1, e3, by rw [e1]; exact z1, e2, ?_⟩
  have : gX12_isPossible ν (nI 0) = 0 := f1.symm.trans (f4 (by decide))
  unfold pcB
  simpa using this
theorem pc_w (w : WR σ (blk μ 8) (fL μ 25) (fI ν 2) (fL ν 5)) {c : Nat} (hc : c < 240) (h : pcB ν c = true) : ∃ t, t < σ 0 0 ∧ hcB σ t c = true ∧ σ 1 (14 * t + 11) = 1 := by
  have hS := (wr_S w).2.2
  have h : ¬ gX12_isPossible ν (nI c) = 0 := by unfold pcB at h; simpa using h
  rcases po_w w (σ 0 0) 0 fF 0 (by omega) (fF_gt (by omega)) (Or.inl rfl) h with z | ⟨t, t1, t2, t3⟩
  · exact absurd z (by decide)
  · refine ⟨t, t1, ?_, t3⟩
    rw [(hb_ok w t1 hc).1] at t2
    cases hq : hcB σ t c
    · rw [hq] at t2; exact absurd rfl t2
    · rfl
end
