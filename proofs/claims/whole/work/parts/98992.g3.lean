def f623 (k _j : Nat) : Prop := k = 62 ∨ k = 63
theorem ad_c {μ : fm_T} {n w c : Nat} (hn : n < 12) (hw : w < 3) (hc : c < 240) (h4 : fI μ 61 4 = nI (n + 1)) : pX0_addCause μ (nI w) (nI c) ∧ frL f623 fN μ (uX0_addCause μ (nI w) (nI c)) ∧ (∀ j, fI (uX0_addCause μ (nI w) (nI c)) 63 j = if j = 3 * n + w then nI c else fI μ 63 j) ∧ (∀ j, fI (uX0_addCause μ (nI w) (nI c)) 62 j = if c ≠ 0 ∧ j = c then fI μ 62 j ||| nI (2 ^ n) else fI μ 62 j) := by
  have e1 : ¬ nI (n + 1) = 0 := fun z => by have := nI_inj (b := 0) (by omega) (by omega) z; omega
  have e2 : ¬ gX11_within μ (nI w) 0 2 = 0 := wi_y (a := 0) (b := 2) (by omega) (by omega) (by omega) (by omega)
  have e3 : ¬ gX11_within μ (nI c) 0 239 = 0 := wi_y (a := 0) (b := 239) (by omega) (by omega) (by omega) (by omega)
  have e4 : nI (n + 1) - 1 = nI n := nI_sub (a := n + 1) (b := 1) (by omega)
  have e5 : nI n * (3 : Int32) + nI w = nI (3 * n + w) := by rw [show (3 : Int32) = nI 3 from rfl, nI_mul, nI_add]; congr 1; omega
  have c5 : 3 * n + w < 2 ^ 31 := by omega
  have cc : c < 2 ^ 31 := by omega
  have vc : vp_in (nI c) 240 := vp_in_nI hc (by decide)
  have v5 : vp_in (nI (3 * n + w)) 36 := vp_in_nI (by omega) (by decide)
  unfold pX0_addCause uX0_addCause
  simp only [h4, if_neg e1, if_neg e2, if_neg e3, e4, e5, nI_clamp c5, nI_clamp cc, sh_12 n (by omega)]
  refine ⟨fun _ _ _ => ⟨v5, fun _ => ⟨vc, vc⟩⟩, ?_⟩
  by_cases q : c = 0
  · have qz : nI c = 0 := by rw [q]; rfl
    simp only [if_pos qz]
    refine ⟨(frL.rf f623 fN μ).i (Or.inr rfl), fun j => ?_, fun j => ?_⟩
    · rw [fI_i]
      by_cases z : j = 3 * n + w
      · rw [if_pos ⟨rfl, z⟩, if_pos z]
      · rw [if_neg (fun y => z y.2), if_neg z]
    · rw [fI_i, if_neg (by omega), if_neg (fun y => y.1 q)]
  · have qz : ¬ nI c = 0 := fun z => q (nI_inj (b := 0) (by omega) (by omega) z)
    simp only [if_neg qz]
    refine ⟨((frL.rf f623 fN μ).i (Or.inr rfl)).i (Or.inl rfl), fun j => ?_, fun j => ?_⟩
    · rw [fI_i, if_neg (by omega), fI_i]
      by_cases z : j = 3 * n + w
      · rw [if_pos ⟨rfl, z⟩, if_pos z]
      · rw [if_neg (fun y => z y.2), if_neg z]
    · rw [fI_i]
      by_cases z : j = c
      · rw [if_pos ⟨rfl, z⟩, if_pos ⟨q, z⟩, z]
      · rw [if_neg (fun y => z y.2), if_neg (fun y => z y.2), fI_i, if_neg (by omega)]
noncomputable def cY0 (μ : fm_T) (x1 : Int32) : Int32 := if gX11_isPossible (uX0_beginClaim μ) (gX8_of (uX0_beginClaim μ) x1 (9 : Int32)) = 0 then 0 else gX8_of (uX0_beginClaim μ) x1 (9 : Int32)
noncomputable def cA0 (μ : fm_T) (x1 : Int32) : fm_T := uX0_addCause (uX0_beginClaim μ) (0 : Int32) (cY0 μ x1)
noncomputable def cY1 (μ : fm_T) (x1 : Int32) : Int32 := if gX11_isPossible (cA0 μ x1) ((100 : Int32) + gX8_of (uX0_beginClaim μ) x1 (0 : Int32)) = 0 then 0 else (100 : Int32) + gX8_of (uX0_beginClaim μ) x1 (0 : Int32)
noncomputable def cA1 (μ : fm_T) (x1 : Int32) : fm_T := uX0_addCause (cA0 μ x1) (1 : Int32) (cY1 μ x1)
noncomputable def cY2 (μ : fm_T) (x1 : Int32) : Int32 := if gX11_isPossible (cA1 μ x1) ((200 : Int32) + gX8_of (uX0_beginClaim μ) x1 (5 : Int32)) = 0 then 0 else (200 : Int32) + gX8_of (uX0_beginClaim μ) x1 (5 : Int32)
noncomputable def cA2 (μ : fm_T) (x1 : Int32) : fm_T := uX0_addCause (cA1 μ x1) (2 : Int32) (cY2 μ x1)
theorem ca_l (n : Nat) (μ : fm_T) (x1 : Int32) (h1 : ¬ fI μ 9 5 ≤ x1) (h2 : ¬ gX8_of μ x1 (11 : Int32) = 0) : lX11_causes_h9 (n + 1) μ x1 = lX11_causes_h9 n (cA2 μ x1) (x1 + 1) ∧ mX11_causes_h9 (n + 1) μ x1 = mX11_causes_h9 n (cA2 μ x1) (x1 + 1) ∧ (pX8_of μ x1 (11 : Int32) → pX8_of (uX0_beginClaim μ) x1 (9 : Int32) → pX8_of (uX0_beginClaim μ) x1 (0 : Int32) → pX8_of (uX0_beginClaim μ) x1 (5 : Int32) → pX11_isPossible (uX0_beginClaim μ) (gX8_of (uX0_beginClaim μ) x1 (9 : Int32)) → pX0_addCause (uX0_beginClaim μ) (0 : Int32) (cY0 μ x1) → pX11_isPossible (cA0 μ x1) ((100 : Int32) + gX8_of (uX0_beginClaim μ) x1 (0 : Int32)) → pX0_addCause (cA0 μ x1) (1 : Int32) (cY1 μ x1) → pX11_isPossible (cA1 μ x1) ((200 : Int32) + gX8_of (uX0_beginClaim μ) x1 (5 : Int32)) → pX0_addCause (cA1 μ x1) (2 : Int32) (cY2 μ x1) → qX11_causes_h9 n (cA2 μ x1) (x1 + 1) → qX11_causes_h9 (n + 1) μ x1) := by
  simp only [lX11_causes_h9, mX11_causes_h9, qX11_causes_h9, if_neg h1, if_neg h2]
  unfold cA2 cY2 cA1 cY1 cA0 cY0
  generalize uX0_beginClaim μ = B
  generalize gX8_of B x1 9 = y0
  generalize (100 : Int32) + gX8_of B x1 0 = y1
  generalize (200 : Int32) + gX8_of B x1 5 = y2
  by_cases a0 : gX11_isPossible B y0 = 0
  · simp only [if_pos a0]
    generalize uX0_addCause B 0 0 = A
    by_cases a1 : gX11_isPossible A y1 = 0
    · simp only [if_pos a1]
      generalize uX0_addCause A 1 0 = C
      by_cases a2 : gX11_isPossible C y2 = 0
      · simp only [if_pos a2]
        exact ⟨trivial, trivial, fun p1 p2 p3 p4 p5 p6 p7 p8 p9 p10 p11 => ⟨fun z => absurd z h1, fun _ => ⟨p1, fun z => absurd z h2, fun _ => ⟨p2, p3, p4, p5, fun _ => ⟨p6, p7, fun _ => ⟨p8, p9, fun _ => ⟨p10, p11⟩, fun z => absurd a2 z⟩, fun z => absurd a1 z⟩, fun z => absurd a0 z⟩⟩⟩⟩
      · simp only [if_neg a2]
        exact ⟨trivial, trivial, fun p1 p2 p3 p4 p5 p6 p7 p8 p9 p10 p11 => ⟨fun z => absurd z h1, fun _ => ⟨p1, fun z => absurd z h2, fun _ => ⟨p2, p3, p4, p5, fun _ => ⟨p6, p7, fun _ => ⟨p8, p9, fun z => absurd z a2, fun _ => ⟨p10, p11⟩⟩, fun z => absurd a1 z⟩, fun z => absurd a0 z⟩⟩⟩⟩
    · simp only [if_neg a1]
      generalize uX0_addCause A 1 y1 = C
      by_cases a2 : gX11_isPossible C y2 = 0
      · simp only [if_pos a2]
        exact ⟨trivial, trivial, fun p1 p2 p3 p4 p5 p6 p7 p8 p9 p10 p11 => ⟨fun z => absurd z h1, fun _ => ⟨p1, fun z => absurd z h2, fun _ => ⟨p2, p3, p4, p5, fun _ => ⟨p6, p7, fun z => absurd z a1, fun _ => ⟨p8, p9, fun _ => ⟨p10, p11⟩, fun z => absurd a2 z⟩⟩, fun z => absurd a0 z⟩⟩⟩⟩
      · simp only [if_neg a2]
        exact ⟨trivial, trivial, fun p1 p2 p3 p4 p5 p6 p7 p8 p9 p10 p11 => ⟨fun z => absurd z h1, fun _ => ⟨p1, fun z => absurd z h2, fun _ => ⟨p2, p3, p4, p5, fun _ => ⟨p6, p7, fun z => absurd z a1, fun _ => ⟨p8, p9, fun z => absurd z a2, fun _ => ⟨p10, p11⟩⟩⟩, fun z => absurd a0 z⟩⟩⟩⟩
  · simp only [if_neg a0]
    generalize uX0_addCause B 0 y0 = A
    by_cases a1 : gX11_isPossible A y1 = 0
    · simp only [if_pos a1]
      generalize uX0_addCause A 1 0 = C
      by_cases a2 : gX11_isPossible C y2 = 0
      · simp only [if_pos a2]
        exact ⟨trivial, trivial, fun p1 p2 p3 p4 p5 p6 p7 p8 p9 p10 p11 => ⟨fun z => absurd z h1, fun _ => ⟨p1, fun z => absurd z h2, fun _ => ⟨p2, p3, p4, p5, fun z => absurd z a0, fun _ => ⟨p6, p7, fun _ => ⟨p8, p9, fun _ => ⟨p10, p11⟩, fun z => absurd a2 z⟩, fun z => absurd a1 z⟩⟩⟩⟩⟩
      · simp only [if_neg a2]
        exact ⟨trivial, trivial, fun p1 p2 p3 p4 p5 p6 p7 p8 p9 p10 p11 => ⟨fun z => absurd z h1, fun _ => ⟨p1, fun z => absurd z h2, fun _ => ⟨p2, p3, p4, p5, fun z => absurd z a0, fun _ => ⟨p6, p7, fun _ => ⟨p8, p9, fun z => absurd z a2, fun _ => ⟨p10, p11⟩⟩, fun z => absurd a1 z⟩⟩⟩⟩⟩
    · simp only [if_neg a1]
      generalize uX0_addCause A 1 y1 = C
      by_cases a2 : gX11_isPossible C y2 = 0
      · simp only [if_pos a2]
        exact ⟨trivial, trivial, fun p1 p2 p3 p4 p5 p6 p7 p8 p9 p10 p11 => ⟨fun z => absurd z h1, fun _ => ⟨p1, fun z => absurd z h2, fun _ => ⟨p2, p3, p4, p5, fun z => absurd z a0, fun _ => ⟨p6, p7, fun z => absurd z a1, fun _ => ⟨p8, p9, fun _ => ⟨p10, p11⟩, fun z => absurd a2 z⟩⟩⟩⟩⟩⟩
      · simp only [if_neg a2]
        exact ⟨trivial, trivial, fun p1 p2 p3 p4 p5 p6 p7 p8 p9 p10 p11 => ⟨fun z => absurd z h1, fun _ => ⟨p1, fun z => absurd z h2, fun _ => ⟨p2, p3, p4, p5, fun z => absurd z a0, fun _ => ⟨p6, p7, fun z => absurd z a1, fun _ => ⟨p8, p9, fun z => absurd z a2, fun _ => ⟨p10, p11⟩⟩⟩⟩⟩⟩⟩
def EnN (σ : sg_T) (t : Nat) (e : Nat → Nat) (n : Nat) : Prop := (∀ k, k < n → e k < t ∧ σ 1 (14 * e k + 11) = 1) ∧ (∀ u, u < t → σ 1 (14 * u + 11) = 1 → ∃ k, k < n ∧ e k = u) ∧ ∀ j k, j < n → k < n → e j = e k → j = k
theorem EN_a {σ : sg_T} {t n : Nat} {e : Nat → Nat} (h : EnN σ t e n) (ht : σ 1 (14 * t + 11) = 1) : EnN σ (t + 1) (fun k => if k = n then t else e k) (n + 1) := by
  obtain ⟨h1, h2, h3⟩ := h
  refine ⟨fun k hk => ?_, fun u hu hc => ?_, fun j k hj hk => ?_⟩
  · by_cases q : k = n
    · simp only [if_pos q]; exact ⟨by omega, ht⟩
    · simp only [if_neg q]
      have := h1 k (by omega)
      exact ⟨by omega, this.2⟩
  · by_cases q : u = t
    · exact ⟨n, by omega, by simp only [if_true]; exact q.symm⟩
    · obtain ⟨k, k1, k2⟩ := h2 u (by omega) hc
      exact ⟨k, by omega, by simp only [if_neg (by omega : ¬ k = n)]; exact k2⟩
  · by_cases q1 : j = n
    · by_cases q2 : k = n
      · intro _; omega
      · simp only [if_pos q1, if_neg q2]
        have := h1 k (by omega)
        intro z; omega
    · by_cases q2 : k = n
      · simp only [if_neg q1, if_pos q2]
        have := h1 j (by omega)
        intro z; omega
      · simp only [if_neg q1, if_neg q2]
        exact h3 j k (by omega) (by omega)
theorem EN_n {σ : sg_T} {t n : Nat} {e : Nat → Nat} (h : EnN σ t e n) (ht : ¬ σ 1 (14 * t + 11) = 1) : EnN σ (t + 1) e n := by
  obtain ⟨h1, h2, h3⟩ := h
  refine ⟨fun k hk => ?_, fun u hu hc => ?_, h3⟩
  · have := h1 k hk
    exact ⟨by omega, this.2⟩
  · by_cases q : u = t
    · rw [q] at hc; exact absurd hc ht
    · exact h2 u (by omega) hc
theorem EN_12 {σ : sg_T} {t n : Nat} {e : Nat → Nat} (h : EnN σ t e n) (wf : WF σ) (ht : t ≤ σ 0 0) : n ≤ 12 := by
  have hk := wf.1.2.2.1
  have ex : ∀ k, ∃ j, k < n → j < σ 0 2 ∧ σ 23 j = e k := fun k => by
    by_cases q : k < n
    · obtain ⟨a1, a2⟩ := h.1 k q
      rcases (wf.2.1 (e k) (by omega)).2.1 with ⟨-, j, j1, j2⟩ | ⟨z, -⟩
      · exact ⟨j, fun _ => ⟨j1, j2⟩⟩
      · omega
    · exact ⟨0, fun z => absurd z q⟩
  have := php (σ 0 2) n (fun k => Classical.choose (ex k)) (fun i hi => (Classical.choose_spec (ex i) hi).1) (fun i j hi hj z => h.2.2 i j hi hj (by
    have a := (Classical.choose_spec (ex i) hi).2
    have b := (Classical.choose_spec (ex j) hj).2
    rw [← a, ← b, z]))
  omega
def fC6 (k j : Nat) : Prop := (k = 61 ∧ j = 4) ∨ k = 62 ∨ k = 63
def btN (P : Nat → Bool) (hc : Nat → Nat → Bool) (t n : Nat) (bt : Nat → Nat) (c : Nat) : Nat := if P c && hc t c then 2 ^ n + bt c else bt c
def ztN (P : Nat → Bool) (c0 c1 c2 n : Nat) (zt : Nat → Nat) (i : Nat) : Nat := if i = 3 * n then (if P c0 then c0 else 0) else if i = 3 * n + 1 then (if P c1 then c1 else 0) else if i = 3 * n + 2 then (if P c2 then c2 else 0) else zt i
theorem CW_a {P : Nat → Bool} {hc : Nat → Nat → Bool} {e : Nat → Nat} {n t c0 c1 c2 : Nat} {bt zt : Nat → Nat} (W : CwN P hc e n bt zt) (hn : n < 12) (hc0 : c0 < 240) (hc1 : c1 < 240) (hc2 : c2 < 240) (h3 : ∀ c, c < 240 → (hc t c = true ↔ (c ≠ 0 ∧ (c = c0 ∨ c = c1 ∨ c = c2)))) : CwN P hc (fun k => if k = n then t else e k) (n + 1) (btN P hc t n bt) (ztN P c0 c1 c2 n zt) := by
  obtain ⟨w1, w2, w3, w4, w5⟩ := W
  refine ⟨by omega, fun c hcl => ?_, fun k w hk hw => ?_, fun k c hk hcl hp hh => ?_, w5⟩
  · obtain ⟨a1, a2, a3⟩ := w2 c hcl
    refine ⟨?_, fun hp => ?_, fun hp k hk => ?_⟩
    · unfold btN
      rw [Nat.pow_succ]
      split <;> omega
    · unfold btN
      rw [hp]
      exact a2 hp
    · unfold btN
      rw [hp, Bool.true_and]
      by_cases q : k = n
      · simp only [if_pos q]
        rw [q]
        cases z : hc t c
        · simp only [Bool.false_eq_true, if_false]
          exact tb_o a1 (Nat.le_refl _)
        · simp only [if_true]
          exact tb_c a1
      · simp only [if_neg q]
        rw [← a3 hp k (by omega)]
        cases z : hc t c
        · simp only [Bool.false_eq_true, if_false]
        · simp only [if_true]
          exact Nat.testBit_two_pow_add_gt (by omega) _
  · unfold ztN
    by_cases q : k = n
    · subst q
      simp only [if_true]
      have g : ∀ y, y < 240 → (y = c0 ∨ y = c1 ∨ y = c2) → (if P y = true then y else 0) < 240 ∧ ((if P y = true then y else 0) ≠ 0 → P (if P y = true then y else 0) = true ∧ hc t (if P y = true then y else 0) = true) := fun y y1 y2 => by
        by_cases z : P y = true
        · rw [if_pos z]
          exact ⟨y1, fun y0 => ⟨z, (h3 y y1).mpr ⟨y0, y2⟩⟩⟩
        · rw [if_neg z]
          exact ⟨by omega, fun y0 => absurd rfl y0⟩
      rcases (by omega : w = 0 ∨ w = 1 ∨ w = 2) with rfl | rfl | rfl
      · rw [if_pos (by omega)]; exact g c0 hc0 (Or.inl rfl)
      · rw [if_neg (by omega), if_pos rfl]; exact g c1 hc1 (Or.inr (Or.inl rfl))
      · rw [if_neg (by omega), if_neg (by omega), if_pos rfl]; exact g c2 hc2 (Or.inr (Or.inr rfl))
    · rw [if_neg (by omega), if_neg (by omega), if_neg (by omega)]
      simp only [if_neg q]
      exact w3 k w (by omega) hw
  · unfold ztN
    by_cases q : k = n
    · subst q
      simp only [if_true] at hh
      obtain ⟨-, q2⟩ := (h3 c hcl).mp hh
      rcases q2 with rfl | rfl | rfl
      · exact ⟨0, by omega, by rw [if_pos (by omega), if_pos hp]⟩
      · exact ⟨1, by omega, by rw [if_neg (by omega), if_pos rfl, if_pos hp]⟩
      · exact ⟨2, by omega, by rw [if_neg (by omega), if_neg (by omega), if_pos rfl, if_pos hp]⟩
    · simp only [if_neg q] at hh
      obtain ⟨w, x1, x2⟩ := w4 k c (by omega) hcl hp hh
      exact ⟨w, x1, by rw [if_neg (by omega), if_neg (by omega), if_neg (by omega)]; exact x2⟩
section
variable {σ : sg_T} {μ ν : fm_T}
theorem bc_st (w : WR σ (blk μ 8) (fL μ 25) (fI ν 2) (fL ν 5)) {t n f : Nat} {e bt zt : Nat → Nat} {μ' : fm_T} (ht : t < σ 0 0) (h11 : σ 1 (14 * t + 11) = 1) (fr : frL fC6 fN μ μ') (hn : n < 12) (ct : CtN n bt zt μ') (W : CwN (pcB ν) (hcB σ) e n bt zt) :
    ∃ μ2, frL fC6 fN μ μ2 ∧ CtN (n + 1) (btN (pcB ν) (hcB σ) t n bt) (ztN (pcB ν) (σ 1 (14 * t + 9)) (100 + σ 1 (14 * t + 0)) (200 + σ 1 (14 * t + 5)) n zt) μ2 ∧ lX11_causes_h9 (f + 1) μ' (nI t) = lX11_causes_h9 f μ2 (nI (t + 1)) ∧ mX11_causes_h9 (f + 1) μ' (nI t) = mX11_causes_h9 f μ2 (nI (t + 1)) ∧ (qX11_causes_h9 f μ2 (nI (t + 1)) → qX11_causes_h9 (f + 1) μ' (nI t)) := by
  have hp0 : pcB ν 0 = false := W.2.2.2.2
  have wf : ∀ M, frL fC6 fN μ M → WR σ (blk M 8) (fL M 25) (fI ν 2) (fL ν 5) := fun M h => WR_fc w h (fun k j z => by unfold fC6 at z; omega) (fun k j z => by unfold fN at z; exact z.elim)
  obtain ⟨⟨q0, -, -, -, -, -, q5, -, -, -, -, q9, -⟩, -⟩ := w.2.2.1.2.1 t ht
  have q7 := (wr_hw w).1.2.2.1
  have hb : uX0_beginClaim μ' = fm_i μ' 61 4 (nI (n + 1)) := by
    unfold uX0_beginClaim
    rw [ct.1, if_neg (fun z => by have := (nI_leI (a := 12) (by omega) (by omega)).mp z; omega), nI_1]
  have f1 : frL fC6 fN μ (fm_i μ' 61 4 (nI (n + 1))) := fr.i (Or.inl ⟨rfl, rfl⟩)
  have m4 : fI (fm_i μ' 61 4 (nI (n + 1))) 61 4 = nI (n + 1) := by rw [fI_i, if_pos ⟨rfl, rfl⟩]
  have m2 : ∀ j, fI (fm_i μ' 61 4 (nI (n + 1))) 62 j = fI μ' 62 j := fun j => by rw [fI_i, if_neg (by omega)]
  have m3 : ∀ j, fI (fm_i μ' 61 4 (nI (n + 1))) 63 j = fI μ' 63 j := fun j => by rw [fI_i, if_neg (by omega)]
  have e1 : ¬ fI μ' 9 5 ≤ nI t := by
    rw [(wr_S (wf μ' fr)).1]
    have := (wr_S w).2.2
    exact fun z => by have := (nI_leI (by omega) (by omega)).mp z; omega
  obtain ⟨o1, o2⟩ := of_c (wf μ' fr) (j := 11) ht (by omega)
  have o1 : gX8_of μ' (nI t) 11 = nI (σ 1 (14 * t + 11)) := o1
  have o2 : pX8_of μ' (nI t) 11 := o2
  have e2 : ¬ gX8_of μ' (nI t) 11 = 0 := by rw [o1, h11]; decide
  obtain ⟨l1, l2, l3⟩ := ca_l f μ' (nI t) e1 e2
  rw [hb] at l3
  generalize hB : fm_i μ' 61 4 (nI (n + 1)) = B at hb f1 m4 m2 m3 l3
  obtain ⟨o3, o4⟩ := of_c (wf B f1) (j := 9) ht (by omega)
  have o3 : gX8_of B (nI t) 9 = nI (σ 1 (14 * t + 9)) := o3
  have o4 : pX8_of B (nI t) 9 := o4
  obtain ⟨o5, o6⟩ := of_c (wf B f1) (j := 0) ht (by omega)
  have o5 : gX8_of B (nI t) 0 = nI (σ 1 (14 * t + 0)) := o5
  have o6 : pX8_of B (nI t) 0 := o6
  obtain ⟨o7, o8⟩ := of_c (wf B f1) (j := 5) ht (by omega)
  have o7 : gX8_of B (nI t) 5 = nI (σ 1 (14 * t + 5)) := o7
  have o8 : pX8_of B (nI t) 5 := o8
  have s1 : (100 : Int32) + nI (σ 1 (14 * t + 0)) = nI (100 + σ 1 (14 * t + 0)) := by rw [show (100 : Int32) = nI 100 from rfl, nI_add]
  have s2 : (200 : Int32) + nI (σ 1 (14 * t + 5)) = nI (200 + σ 1 (14 * t + 5)) := by rw [show (200 : Int32) = nI 200 from rfl, nI_add]
  rw [o3, o5, o7, s1, s2] at l3
  have k3 := fun c (h : c < 240) => hc_3 w ht h
  have y0 : cY0 μ' (nI t) = nI (if pcB ν (σ 1 (14 * t + 9)) = true then σ 1 (14 * t + 9) else 0) := by
    unfold cY0
    rw [hb, o3]
    have p := (pc_m (wf B f1) (σ 1 (14 * t + 9))).2.2.1
    by_cases z : pcB ν (σ 1 (14 * t + 9)) = true
    · rw [if_neg (fun y => by rw [p.mp y] at z; exact absurd z (by decide)), if_pos z]
    · rw [if_pos (p.mpr (by simpa using z)), if_neg z]; rfl
  have y0l : (if pcB ν (σ 1 (14 * t + 9)) = true then σ 1 (14 * t + 9) else 0) < 240 := by split <;> omega
  obtain ⟨p0, f2, x1, x2⟩ := ad_c (w := 0) hn (by omega) y0l m4
  have ha0 : cA0 μ' (nI t) = uX0_addCause B (nI 0) (nI (if pcB ν (σ 1 (14 * t + 9)) = true then σ 1 (14 * t + 9) else 0)) := by unfold cA0; rw [hb, y0]; rfl
  rw [← ha0] at f2 x1 x2
  rw [y0] at l3
  have f2' : frL fC6 fN μ (cA0 μ' (nI t)) := f1.tr (f2.mo (fun k j z => Or.inr z) (fun _ _ z => z))
  have m4' : fI (cA0 μ' (nI t)) 61 4 = nI (n + 1) := by rw [f2.2.2.2 61 4 (by unfold f623; omega)]; exact m4
  have y1 : cY1 μ' (nI t) = nI (if pcB ν (100 + σ 1 (14 * t + 0)) = true then 100 + σ 1 (14 * t + 0) else 0) := by
    unfold cY1
    rw [hb, o5, s1]
    have p := (pc_m (wf _ f2') (100 + σ 1 (14 * t + 0))).2.2.1
    by_cases z : pcB ν (100 + σ 1 (14 * t + 0)) = true
    · rw [if_neg (fun y => by rw [p.mp y] at z; exact absurd z (by decide)), if_pos z]
    · rw [if_pos (p.mpr (by simpa using z)), if_neg z]; rfl
  have y1l : (if pcB ν (100 + σ 1 (14 * t + 0)) = true then 100 + σ 1 (14 * t + 0) else 0) < 240 := by split <;> omega
  obtain ⟨p1, f3, x3, x4⟩ := ad_c (w := 1) hn (by omega) y1l m4'
  have ha1 : cA1 μ' (nI t) = uX0_addCause (cA0 μ' (nI t)) (nI 1) (nI (if pcB ν (100 + σ 1 (14 * t + 0)) = true then 100 + σ 1 (14 * t + 0) else 0)) := by unfold cA1; rw [y1]; rfl
  rw [← ha1] at f3 x3 x4
  rw [y1] at l3
  have f3' : frL fC6 fN μ (cA1 μ' (nI t)) := f2'.tr (f3.mo (fun k j z => Or.inr z) (fun _ _ z => z))
  have m4'' : fI (cA1 μ' (nI t)) 61 4 = nI (n + 1) := by rw [f3.2.2.2 61 4 (by unfold f623; omega)]; exact m4'
  have y2 : cY2 μ' (nI t) = nI (if pcB ν (200 + σ 1 (14 * t + 5)) = true then 200 + σ 1 (14 * t + 5) else 0) := by
    unfold cY2
    rw [hb, o7, s2]
    have p := (pc_m (wf _ f3') (200 + σ 1 (14 * t + 5))).2.2.1
    by_cases z : pcB ν (200 + σ 1 (14 * t + 5)) = true
    · rw [if_neg (fun y => by rw [p.mp y] at z; exact absurd z (by decide)), if_pos z]
    · rw [if_pos (p.mpr (by simpa using z)), if_neg z]; rfl
  have y2l : (if pcB ν (200 + σ 1 (14 * t + 5)) = true then 200 + σ 1 (14 * t + 5) else 0) < 240 := by split <;> omega
  obtain ⟨p2, f4, x5, x6⟩ := ad_c (w := 2) hn (by omega) y2l m4''
  have ha2 : cA2 μ' (nI t) = uX0_addCause (cA1 μ' (nI t)) (nI 2) (nI (if pcB ν (200 + σ 1 (14 * t + 5)) = true then 200 + σ 1 (14 * t + 5) else 0)) := by unfold cA2; rw [y2]; rfl
  rw [← ha2] at f4 x5 x6
  rw [y2] at l3
  have f4' : frL fC6 fN μ (cA2 μ' (nI t)) := f3'.tr (f4.mo (fun k j z => Or.inr z) (fun _ _ z => z))
  have m4''' : fI (cA2 μ' (nI t)) 61 4 = nI (n + 1) := by rw [f4.2.2.2 61 4 (by unfold f623; omega)]; exact m4''
  rw [nI_1] at l1 l2 l3
  refine ⟨cA2 μ' (nI t), f4', ⟨m4''', fun c hcl => ?_, fun i hi => ?_⟩, l1, l2, fun q => l3 o2 o4 o6 o8 (pc_m (wf B f1) _).2.2.2.1 p0 (pc_m (wf _ f2') _).2.2.2.1 p1 (pc_m (wf _ f3') _).2.2.2.1 p2 q⟩
  · rw [x6, x4, x2, m2, ct.2.1 c hcl, or_i, or_p (W.2.1 c hcl).1]
    unfold btN
    have k := k3 c hcl
    by_cases z : pcB ν c = true
    · cases hh : hcB σ t c
      · have nk : ¬ (c ≠ 0 ∧ (c = σ 1 (14 * t + 9) ∨ c = 100 + σ 1 (14 * t + 0) ∨ c = 200 + σ 1 (14 * t + 5))) := fun y => by rw [k.mpr y] at hh; exact absurd hh (by decide)
        rw [z, Bool.true_and, if_neg (by decide : ¬ false = true)]
        rw [if_neg (fun y => nk (by split at y <;> omega)), if_neg (fun y => nk (by split at y <;> omega)), if_neg (fun y => nk (by split at y <;> omega))]
      · obtain ⟨k1, k2⟩ := k.mp hh
        rw [z, Bool.true_and, if_pos rfl]
        rcases k2 with k2 | k2 | k2
        · rw [← k2, z, if_pos rfl, if_neg (fun y => by split at y <;> omega), if_neg (fun y => by split at y <;> omega), if_pos ⟨k1, rfl⟩]
        · rw [← k2, z, if_pos rfl, if_neg (fun y => by split at y <;> omega), if_pos ⟨k1, rfl⟩, if_neg (fun y => by split at y <;> omega), or_i, or_p (W.2.1 c hcl).1]
        · rw [← k2, z, if_pos rfl, if_pos ⟨k1, rfl⟩, if_neg (fun y => by split at y <;> omega), if_neg (fun y => by split at y <;> omega), or_i, or_p (W.2.1 c hcl).1]
    · have z' : pcB ν c = false := by simpa using z
      rw [z', Bool.false_and, if_neg (by decide : ¬ false = true)]
      have g : ∀ y, ¬ ((if pcB ν y = true then y else 0) ≠ 0 ∧ c = (if pcB ν y = true then y else 0)) := fun y ⟨u1, u2⟩ => by
        by_cases yy : pcB ν y = true
        · rw [if_pos yy] at u2; rw [u2] at z; exact z yy
        · rw [if_neg yy] at u1; exact u1 rfl
      rw [if_neg (g _), if_neg (g _), if_neg (g _)]
  · rw [x5, x3, x1, m3]
    unfold ztN
    by_cases z2 : i = 3 * n + 2
    · rw [if_pos z2, if_neg (show ¬ i = 3 * n by omega), if_neg (show ¬ i = 3 * n + 1 by omega), if_pos z2]
    · by_cases z1 : i = 3 * n + 1
      · rw [if_neg z2, if_pos z1, if_neg (show ¬ i = 3 * n by omega), if_pos z1]
      · by_cases z0 : i = 3 * n
        · rw [if_neg z2, if_neg z1, if_pos (by omega), if_pos z0]
        · rw [if_neg z2, if_neg z1, if_neg (by omega), if_neg z0, if_neg z1, if_neg z2]
          exact ct.2.2 i (by omega)
theorem bc_lp (w : WR σ (blk μ 8) (fL μ 25) (fI ν 2) (fL ν 5)) : ∀ (d t f n : Nat) (e bt zt : Nat → Nat) (μ' : fm_T), t + d = σ 0 0 → d < f → frL fC6 fN μ μ' → EnN σ t e n → CtN n bt zt μ' → CwN (pcB ν) (hcB σ) e n bt zt →
    ∃ μ2 e' n' bt' zt', frL fC6 fN μ μ2 ∧ EnN σ (σ 0 0) e' n' ∧ CtN n' bt' zt' μ2 ∧ CwN (pcB ν) (hcB σ) e' n' bt' zt' ∧ lX11_causes_h9 f μ' (nI t) = gX0_chooseFewest μ2 ∧ mX11_causes_h9 f μ' (nI t) = uX0_chooseFewest μ2 ∧ (pX0_chooseFewest μ2 → qX11_causes_h9 f μ' (nI t)) := by
  have hS := (wr_S w).2.2
  have wf : ∀ M, frL fC6 fN μ M → WR σ (blk M 8) (fL M 25) (fI ν 2) (fL ν 5) := fun M h => WR_fc w h (fun k j z => by unfold fC6 at z; omega) (fun k j z => by unfold fN at z; exact z.elim)
  intro d
  induction d with
  | zero =>
    intro t f n e bt zt μ' h1 h2 fr en ct W
    obtain ⟨f, rfl⟩ : ∃ m, f = m + 1 := ⟨f - 1, by omega⟩
    obtain rfl : t = σ 0 0 := by omega
    have e1 : fI μ' 9 5 ≤ nI (σ 0 0) := by rw [(wr_S (wf μ' fr)).1]; exact (nI_leI (by omega) (by omega)).mpr (by omega)
    simp only [lX11_causes_h9, mX11_causes_h9, qX11_causes_h9, if_pos e1]
    exact ⟨μ', e, n, bt, zt, fr, en, ct, W, rfl, rfl, fun q => ⟨fun _ => q, fun z => absurd e1 z⟩⟩
  | succ d ih =>
    intro t f n e bt zt μ' h1 h2 fr en ct W
    obtain ⟨f, rfl⟩ : ∃ m, f = m + 1 := ⟨f - 1, by omega⟩
    have ht : t < σ 0 0 := by omega
    by_cases h11 : σ 1 (14 * t + 11) = 1
    · have en2 := EN_a en h11
      have n12 := EN_12 en2 w.2.2.1 (by omega)
      obtain ⟨μ2, i1, i2, i3, i4, i5⟩ := bc_st (f := f) w ht h11 fr (by omega) ct W
      obtain ⟨⟨q0, -, -, -, -, -, q5, -, -, -, -, q9, -⟩, -⟩ := w.2.2.1.2.1 t ht
      have q7 := (wr_hw w).1.2.2.1
      have W2 := CW_a (t := t) (c0 := σ 1 (14 * t + 9)) (c1 := 100 + σ 1 (14 * t + 0)) (c2 := 200 + σ 1 (14 * t + 5)) W (by omega) (by omega) (by omega) (by omega) (fun c h => hc_3 w ht h)
      obtain ⟨μ3, e', n', bt', zt', k1, k2, k3, k4, k5, k6, k7⟩ := ih (t + 1) f (n + 1) _ _ _ μ2 (by omega) (by omega) i1 en2 i2 W2
      exact ⟨μ3, e', n', bt', zt', k1, k2, k3, k4, i3.trans k5, i4.trans k6, fun q => i5 (k7 q)⟩
    · have e1 : ¬ fI μ' 9 5 ≤ nI t := by rw [(wr_S (wf μ' fr)).1]; exact fun z => by have := (nI_leI (by omega) (by omega)).mp z; omega
      obtain ⟨o1, o2⟩ := of_c (wf μ' fr) (j := 11) ht (by omega)
      have o1 : gX8_of μ' (nI t) 11 = nI (σ 1 (14 * t + 11)) := o1
      have o2 : pX8_of μ' (nI t) 11 := o2
      have z0 : σ 1 (14 * t + 11) = 0 := by have := (cm_ok w ht).2.2; omega
      have e2 : gX8_of μ' (nI t) 11 = 0 := by rw [o1, z0]; rfl
      obtain ⟨μ3, e', n', bt', zt', k1, k2, k3, k4, k5, k6, k7⟩ := ih (t + 1) f n e bt zt μ' (by omega) (by omega) fr (EN_n en h11) ct W
      simp only [lX11_causes_h9, mX11_causes_h9, qX11_causes_h9, if_neg e1, if_pos e2, nI_1]
      exact ⟨μ3, e', n', bt', zt', k1, k2, k3, k4, k5, k6, fun q => ⟨fun z => absurd z e1, fun _ => ⟨o2, fun _ => k7 q, fun z => absurd e2 z⟩⟩⟩
end
