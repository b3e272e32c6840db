section
variable {X Y b : Nat → Nat} {P : Nat}
theorem nx_c {μ : fm_T} {V m p : Nat} (hX : ∀ j, X j ≤ 99 ∧ Y j ≤ 99) (hP : P ≤ 9) (h : CT X Y b P m μ) (hV : m ≤ V) (hV2 : V < 2 ^ P) (hV3 : V ≠ 2 ^ P - 1) (hp : p < P ∨ p = 9) : (gX9_nextOf μ (nI V) (stI p) = nI (amN (tv X Y P (2 ^ P - 1 - V) p) (2 ^ P - 1 - V) P) ∧ pX9_nextOf μ (nI V) (stI p)) ∧ gX9_wayBy μ (nI V) (stI p) (nI (amN (tv X Y P (2 ^ P - 1 - V) p) (2 ^ P - 1 - V) P)) = nI (tW X Y P (2 ^ P - 1 - V) p) ∧ pX9_wayBy μ (nI V) (stI p) (nI (amN (tv X Y P (2 ^ P - 1 - V) p) (2 ^ P - 1 - V) P)) := by
  obtain ⟨h1, h2, h3⟩ := h
  have h9 := p2_512 hP
  have hM0 : 2 ^ P - 1 - V ≠ 0 := by omega
  have hM2 : 2 ^ P - 1 - V < 2 ^ P := by omega
  have cp := fun a ha => cp_t (P := P) (V := V) (a := a) hV2 ha
  generalize hM : 2 ^ P - 1 - V = M at hM0 hM2 cp ⊢
  obtain ⟨a1, a2, a3⟩ := am_ok (p := p) hX hP hM2 hM0
  have hv : ∀ a, a < P → M.testBit a = true → gX9_wayBy μ (nI V) (stI p) (nI a) = nI (tv X Y P M p a) ∧ pX9_wayBy μ (nI V) (stI p) (nI a) ∧ tv X Y P M p a ≤ 1000000 := fun a ha t => by
    have nb : V.testBit a = false := by
      have := cp a ha
      rw [t] at this
      cases hb : V.testBit a
      · rfl
      · rw [hb] at this; exact absurd this (by decide)
    obtain ⟨s1, s2, s3⟩ := st_512 V (by omega) a (by omega) nb
    have hl : V + 2 ^ a < 2 ^ P := by
      have := ct_m M (by omega) a (by omega) t
      omega
    have pa := Nat.two_pow_pos a
    have hT := h3 (V + 2 ^ a) a (by omega) hl ha s3
    rw [show 2 ^ P - 1 - (V + 2 ^ a) = M - 2 ^ a by omega] at hT
    obtain ⟨w1, w2⟩ := wb_c hP (by omega) hp ha hX (fun j hj => ⟨(h2 j hj).2.1, (h2 j hj).2.2⟩) h1 nb hT
    have := tv_le hX hP hM2 p a
    exact ⟨w1, w2, by omega⟩
  have g := no_lp (μ := μ) (P := P) (M := M) (V := V) (v := tv X Y P M p) (stI p) hP (by omega) h1 cp hv P 0 fF 0 (by omega) (fF_gt (by omega)) (fun z => absurd rfl z)
  obtain ⟨v1, v2, -⟩ := hv _ a1 a2
  have sa : stI (amN (tv X Y P M p) M P) = nI (amN (tv X Y P M p) M P) := by unfold stI; rw [if_neg (by omega)]
  rw [sa] at g
  rw [a3]
  exact ⟨⟨g.1, g.2⟩, v1, v2⟩
theorem ct_i {μ : fm_T} {V a : Nat} {v : Int32} (hP : P ≤ 9) (ha : a < P) (h : CT X Y b P V μ) : CT X Y b P V (fm_i μ 71 (9 * V + a) v) := by
  obtain ⟨h1, h2, h3⟩ := h
  refine ⟨by rw [fI_i, if_neg (by omega)]; exact h1, fun j hj => ?_, fun R p hR hR2 hp t => ?_⟩
  · rw [fI_i, if_neg (by omega), fI_i, if_neg (by omega), fI_i, if_neg (by omega)]; exact h2 j hj
  · rw [fI_i, if_neg (by omega)]; exact h3 R p hR hR2 hp t
theorem ci_lp (hX : ∀ j, X j ≤ 99 ∧ Y j ≤ 99) (hP : P ≤ 9) {V : Nat} (hV : V < 2 ^ P) (hV0 : 0 < V) : ∀ (c a n : Nat) (μ : fm_T), a + c = P → c < n → CT X Y b P V μ → (∀ p, p < a → V.testBit p = true → fI μ 71 (9 * V + p) = nI (tW X Y P (2 ^ P - 1 - V) p)) → l2X9_findRound_h17 n μ (nI (2 ^ P - 1)) (nI V) (nI a) = nI (V - 1) ∧ qX9_findRound_h17 n μ (nI (2 ^ P - 1)) (nI V) (nI a) ∧ CT X Y b P (V - 1) (mX9_findRound_h17 n μ (nI (2 ^ P - 1)) (nI V) (nI a)) ∧ frI a71 μ (mX9_findRound_h17 n μ (nI (2 ^ P - 1)) (nI V) (nI a)) := by
  have h9 := p2_512 hP
  intro c
  induction c with
  | zero =>
    intro a n μ h1 h2 h3 h4
    obtain ⟨n, rfl⟩ : ∃ m, n = m + 1 := ⟨n - 1, by omega⟩
    obtain rfl : a = P := by omega
    have e : nI a ≤ nI a := (nI_leI (by omega) (by omega)).mpr (by omega)
    have e2 : nI V + (-1) = nI (V - 1) := by
      rw [show nI V + (-1) = nI V - 1 by grind, show (1 : Int32) = nI 1 from rfl, nI_sub (by omega)]
    simp only [l2X9_findRound_h17, qX9_findRound_h17, mX9_findRound_h17, h3.1, if_pos e]
    refine ⟨e2, fun z => absurd e z, ⟨h3.1, h3.2.1, fun R p hR hR2 hp t => ?_⟩, frI.rf _ _⟩
    by_cases q : R = V
    · subst q; exact h4 p hp t
    · exact h3.2.2 R p (by omega) hR2 hp t
  | succ c ih =>
    intro a n μ h1 h2 h3 h4
    obtain ⟨n, rfl⟩ : ∃ m, n = m + 1 := ⟨n - 1, by omega⟩
    have e : ¬ nI P ≤ nI a := fun z => by have := (nI_leI (by omega) (by omega)).mp z; omega
    have hs := hs_512 V (by omega) a (by omega)
    have e1 : nI V * (9 : Int32) + nI a = nI (9 * V + a) := by
      rw [show (9 : Int32) = nI 9 from rfl, nI_mul, nI_add]
      congr 1
      omega
    have hc : 9 * V + a < 2 ^ 31 := by omega
    have vt : vp_in (nI (9 * V + a)) 4608 := vp_in_nI (by omega) (by decide)
    have n1 : ¬ (1 : Int32) = 0 := by decide
    simp only [l2X9_findRound_h17, qX9_findRound_h17, mX9_findRound_h17, h3.1, if_neg e, hs, nI_1, e1, nI_clamp hc]
    by_cases t : V.testBit a = true
    · simp only [t, if_true, if_neg n1]
      obtain ⟨i1, i2, i3, i4⟩ := ih (a + 1) n (fm_i μ 71 (9 * V + a) (nI (tW X Y P (2 ^ P - 1 - V) a))) (by omega) (by omega) (ct_i hP (by omega) h3) (fun p hp tp => by
        by_cases q : p = a
        · subst q; rw [fI_i, if_pos ⟨rfl, rfl⟩]
        · rw [fI_i, if_neg (by omega)]; exact h4 p (by omega) tp)
      by_cases f : V = 2 ^ P - 1
      · have f1 : nI V = nI (2 ^ P - 1) := by rw [f]
        have th := th_c hP (a := a) (by omega) hX (fun j hj => ⟨(h3.2.1 j hj).2.1, (h3.2.1 j hj).2.2⟩)
        have tq : tW X Y P (2 ^ P - 1 - V) a = wyN X Y a 9 := by rw [show 2 ^ P - 1 - V = 0 by omega]; rfl
        rw [tq] at i1 i2 i3 i4
        simp only [if_pos f1, th.1]
        exact ⟨i1, fun _ => ⟨fun z => absurd z n1, fun _ => ⟨fun z => absurd f1 z, fun _ => ⟨th.2, vt, i2⟩⟩⟩, i3, (frI.i (frI.rf _ μ) (k := 71) (j := 9 * V + a) (v := nI (wyN X Y a 9)) rfl).tr i4⟩
      · have f1 : ¬ nI V = nI (2 ^ P - 1) := fun z => f (nI_inj (by omega) (by omega) z)
        obtain ⟨⟨b1, b2⟩, b3, b4⟩ := nx_c (p := a) hX hP h3 (Nat.le_refl V) hV f (Or.inl (by omega))
        have sa : stI a = nI a := by unfold stI; rw [if_neg (by omega)]
        rw [sa] at b1 b2 b3 b4
        simp only [if_neg f1, b1, b3]
        exact ⟨i1, fun _ => ⟨fun z => absurd z n1, fun _ => ⟨fun _ => ⟨b2, b4, vt, i2⟩, fun z => absurd z f1⟩⟩, i3, (frI.i (frI.rf _ μ) (k := 71) (j := 9 * V + a) (v := nI (tW X Y P (2 ^ P - 1 - V) a)) rfl).tr i4⟩
    · have tf : V.testBit a = false := by simpa using t
      obtain ⟨i1, i2, i3, i4⟩ := ih (a + 1) n μ (by omega) (by omega) h3 (fun p hp tp => by
        by_cases q : p = a
        · subst q; exact absurd tp t
        · exact h4 p (by omega) tp)
      simp only [tf, Bool.false_eq_true, if_false, if_true]
      exact ⟨i1, fun _ => ⟨fun _ => i2, fun z => absurd trivial z⟩, i3, i4⟩
theorem cf_fl (hX : ∀ j, X j ≤ 99 ∧ Y j ≤ 99) (hP : P ≤ 9) (hP1 : 1 ≤ P) : ∀ (V n : Nat) (μ : fm_T), V < 2 ^ P → V < n → CT X Y b P V μ → ∃ μ2, CT X Y b P 0 μ2 ∧ frI a71 μ μ2 ∧ lX9_findRound_h11 n μ (nI (2 ^ P - 1)) (nI V) = lX9_findRound_h102 fF μ2 (nI (2 ^ P - 1)) (nI (tW X Y P (2 ^ P - 1) 9)) (-1) 0 0 ∧ mX9_findRound_h11 n μ (nI (2 ^ P - 1)) (nI V) = mX9_findRound_h102 fF μ2 (nI (2 ^ P - 1)) (nI (tW X Y P (2 ^ P - 1) 9)) (-1) 0 0 ∧ (qX9_findRound_h102 fF μ2 (nI (2 ^ P - 1)) (nI (tW X Y P (2 ^ P - 1) 9)) (-1) 0 0 → qX9_findRound_h11 n μ (nI (2 ^ P - 1)) (nI V)) := by
  have h9 := p2_512 hP
  have h2p : 2 ≤ 2 ^ P := Nat.pow_le_pow_right (n := 2) (i := 1) (by decide) hP1
  intro V
  induction V with
  | zero =>
    intro n μ h1 h2 h3
    obtain ⟨n, rfl⟩ : ∃ m, n = m + 1 := ⟨n - 1, by omega⟩
    have e : nI 0 ≤ 0 := by decide
    obtain ⟨⟨b1, b2⟩, b3, b4⟩ := nx_c (p := 9) hX hP h3 (Nat.le_refl 0) (by omega) (by omega) (Or.inr rfl)
    rw [show stI 9 = -1 from rfl, show nI 0 = 0 from rfl] at b1 b2 b3 b4
    rw [Nat.sub_zero] at b1 b3 b4
    refine ⟨μ, h3, frI.rf _ _, ?_⟩
    simp only [lX9_findRound_h11, mX9_findRound_h11, qX9_findRound_h11, if_pos e, b1, b3]
    exact ⟨trivial, trivial, fun q => ⟨fun _ => ⟨b2, b4, q⟩, fun z => absurd e z⟩⟩
  | succ V ih =>
    intro n μ h1 h2 h3
    obtain ⟨n, rfl⟩ : ∃ m, n = m + 1 := ⟨n - 1, by omega⟩
    have e : ¬ nI (V + 1) ≤ 0 := fun z => by have := (nI_leI (b := 0) (by omega) (by omega)).mp z; omega
    obtain ⟨i1, i2, i3, i4⟩ := ci_lp hX hP h1 (by omega) P 0 fF μ (by omega) (fF_gt (by omega)) h3 (fun p hp => by omega)
    rw [show nI 0 = 0 from rfl] at i1 i2 i3 i4
    rw [show V + 1 - 1 = V by omega] at i1 i3
    obtain ⟨μ2, k1, k2, k3, k4, k5⟩ := ih n _ (by omega) (by omega) i3
    refine ⟨μ2, k1, i4.tr k2, ?_⟩
    simp only [lX9_findRound_h11, mX9_findRound_h11, qX9_findRound_h11, if_neg e, i1]
    exact ⟨k3, k4, fun q => ⟨fun z => absurd z e, fun _ => ⟨i2, k5 q⟩⟩⟩
end
