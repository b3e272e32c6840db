def a70 (k j : Nat) : Prop := k = 70
def a32 (k j : Nat) : Prop := k = 32
section
variable {X Y b : Nat → Nat} {P : Nat}
theorem sk_m {ν : fm_T} (hX : ∀ j, X j ≤ 99 ∧ Y j ≤ 99) (hP : P ≤ 9) (h : MT X Y b P (2 ^ P) ν) {M p i : Nat} (hM : M < 2 ^ P) (h0 : M ≠ 0) (hp : p < P ∨ p = 9) (hi : i < 9) (y : Int64) (x4 x5 : Int32) : ∀ (c a n : Nat), a + c = amN (tv X Y P M p) M P → c < n → mX12_round_h222 n ν (nI P) y x4 x5 (stI p) (nI M) (nI i) (nI a) = fm_i ν 32 i (nI (b (amN (tv X Y P M p) M P))) ∧ l6X12_round_h222 n ν (nI P) y x4 x5 (stI p) (nI M) (nI i) (nI a) = nI (amN (tv X Y P M p) M P) ∧ l7X12_round_h222 n ν (nI P) y x4 x5 (stI p) (nI M) (nI i) (nI a) = nI (M - 2 ^ amN (tv X Y P M p) M P) ∧ l8X12_round_h222 n ν (nI P) y x4 x5 (stI p) (nI M) (nI i) (nI a) = nI (i + 1) ∧ qX12_round_h222 n ν (nI P) y x4 x5 (stI p) (nI M) (nI i) (nI a) := by
  have h9 := p2_512 hP
  obtain ⟨a1, a2, a3⟩ := am_ok (p := p) hX hP hM h0
  have n9 : amN (tv X Y P M p) M P ≠ 9 := by omega
  have fst := amN_fst P hP n9
  obtain ⟨o1, o2⟩ := on_m hX hP h (Nat.le_of_lt hM) hM hp
  have n1 : ¬ (1 : Int32) = 0 := by decide
  have n2 : ¬ (0 : Int32) = 1 := by decide
  have hii : i < 2 ^ 31 := by omega
  have val : ∀ a, a < P → M.testBit a = true → gX12_way ν (stI p) (nI a) + fI ν 30 (9 * (M - 2 ^ a) + a) = nI (tv X Y P M p a) ∧ pX12_way ν (stI p) (nI a) := fun a ha t => by
    have w := wy_m (q := a) hp (Or.inl ha) hP hX h.2.1
    have sa : stI a = nI a := by unfold stI; rw [if_neg (by omega)]
    rw [sa] at w
    obtain ⟨-, c2, c3⟩ := cl_512 M (by omega) a (by omega) t
    rw [w.1, h.2.2 (M - 2 ^ a) a (by omega) ha c3, nI_add]
    exact ⟨rfl, w.2⟩
  intro c
  induction c with
  | zero =>
    intro a n h1 h2
    obtain ⟨n, rfl⟩ : ∃ m, n = m + 1 := ⟨n - 1, by omega⟩
    obtain rfl : a = amN (tv X Y P M p) M P := by omega
    generalize amN (tv X Y P M p) M P = a at a1 a2 a3 ⊢
    have hs := hs_512 M (by omega) a (by omega)
    obtain ⟨c1, c2, -⟩ := cl_512 M (by omega) a (by omega) a2
    have e1 : (9 : Int32) * nI (M - 2 ^ a) + nI a = nI (9 * (M - 2 ^ a) + a) := by simp only [li_n, nI_mul, nI_add]
    have hc : 9 * (M - 2 ^ a) + a < 2 ^ 31 := by omega
    have ha : a < 2 ^ 31 := by omega
    have vt : vp_in (nI (9 * (M - 2 ^ a) + a)) 4608 := vp_in_nI (by omega) (by decide)
    obtain ⟨v1, v2⟩ := val a a1 a2
    have q : nI (tv X Y P M p a) = gX12_onFrom ν (stI p) (nI M) := by rw [o1, a3]
    simp only [mX12_round_h222, l6X12_round_h222, l7X12_round_h222, l8X12_round_h222, qX12_round_h222, gX12_has, hs, a2, if_true, if_neg n1, c1, e1, nI_clamp hc, v1, if_pos q, nI_clamp ha, nI_clamp hii, (h.2.1 a a1).1, nI_1]
    exact ⟨trivial, trivial, trivial, trivial, fun z => absurd z n1, fun _ => ⟨v2, vt, o2, fun _ => ⟨vp_in_nI (by omega) (by decide), vp_in_nI (by omega) (by decide)⟩, fun z => absurd q z⟩⟩
  | succ c ih =>
    intro a n h1 h2
    obtain ⟨n, rfl⟩ : ∃ m, n = m + 1 := ⟨n - 1, by omega⟩
    obtain ⟨i1, i2, i3, i4, i5⟩ := ih (a + 1) n (by omega) (by omega)
    have hs := hs_512 M (by omega) a (by omega)
    by_cases t : M.testBit a = true
    · obtain ⟨c1, c2, -⟩ := cl_512 M (by omega) a (by omega) t
      have e1 : (9 : Int32) * nI (M - 2 ^ a) + nI a = nI (9 * (M - 2 ^ a) + a) := by simp only [li_n, nI_mul, nI_add]
      have hc : 9 * (M - 2 ^ a) + a < 2 ^ 31 := by omega
      have vt : vp_in (nI (9 * (M - 2 ^ a) + a)) 4608 := vp_in_nI (by omega) (by decide)
      obtain ⟨v1, v2⟩ := val a (by omega) t
      have lt := fst a (by omega) t
      have b1 := tv_le hX hP hM p a
      have b2 := tv_le hX hP hM p (amN (tv X Y P M p) M P)
      have q : ¬ nI (tv X Y P M p a) = gX12_onFrom ν (stI p) (nI M) := fun z => by
        rw [o1, a3] at z
        have := nI_inj (by omega) (by omega) z
        omega
      simp only [mX12_round_h222, l6X12_round_h222, l7X12_round_h222, l8X12_round_h222, qX12_round_h222, gX12_has, hs, t, if_true, if_neg n1, c1, e1, nI_clamp hc, v1, if_neg q, nI_1]
      exact ⟨i1, i2, i3, i4, fun z => absurd z n1, fun _ => ⟨v2, vt, o2, fun z => absurd z q, fun _ => i5⟩⟩
    · have tf : M.testBit a = false := by simpa using t
      simp only [mX12_round_h222, l6X12_round_h222, l7X12_round_h222, l8X12_round_h222, qX12_round_h222, gX12_has, hs, tf, Bool.false_eq_true, if_false, if_neg n2, if_true, nI_1]
      exact ⟨i1, i2, i3, i4, fun _ => i5, fun z => absurd trivial z⟩
theorem ct_70 {μ : fm_T} {m i : Nat} {v : Int32} (h : CT X Y b P m μ) : CT X Y b P m (fm_i μ 70 i v) := by
  obtain ⟨h1, h2, h3⟩ := h
  refine ⟨by rw [fI_i, if_neg (by omega)]; exact h1, fun j hj => ?_, fun R p hR hR2 hp t => ?_⟩
  · rw [fI_i, if_neg (by omega), fI_i, if_neg (by omega), fI_i, if_neg (by omega)]; exact h2 j hj
  · rw [fI_i, if_neg (by omega)]; exact h3 R p hR hR2 hp t
theorem mt_32 {ν : fm_T} {m i : Nat} {v : Int32} (h : MT X Y b P m ν) : MT X Y b P m (fm_i ν 32 i v) := by
  obtain ⟨h1, h2, h3⟩ := h
  refine ⟨by rw [fI_i, if_neg (by omega)]; exact h1, fun j hj => ?_, fun R p hR hp t => ?_⟩
  · rw [fI_i, if_neg (by omega), fI_i, if_neg (by omega), fI_i, if_neg (by omega)]; exact h2 j hj
  · rw [fI_i, if_neg (by omega)]; exact h3 R p hR hp t
theorem od_lp (hX : ∀ j, X j ≤ 99 ∧ Y j ≤ 99) (hP : P ≤ 9) (y : Int64) (x2 x1 x4 : Int32) : ∀ (c i n n' V p : Nat) (μ ν : fm_T), i + c = P → c < n → c < n' → CT X Y b P 0 μ → MT X Y b P (2 ^ P) ν → V < 2 ^ P → ctN (2 ^ P - 1 - V) 9 = c → (p < P ∨ p = 9) → (∀ j, j < i → fI μ 70 j = fI ν 32 j) → (lX9_findRound_h102 n μ x1 x2 (stI p) (nI V) (nI i) = x2 ∧ lX12_round_h213 n' ν (nI P) y x4 x2 (stI p) (nI (2 ^ P - 1 - V)) (nI i) = x2) ∧ (qX9_findRound_h102 n μ x1 x2 (stI p) (nI V) (nI i) ∧ qX12_round_h213 n' ν (nI P) y x4 x2 (stI p) (nI (2 ^ P - 1 - V)) (nI i)) ∧ frI a70 μ (mX9_findRound_h102 n μ x1 x2 (stI p) (nI V) (nI i)) ∧ ∃ ν2, mX12_round_h213 n' ν (nI P) y x4 x2 (stI p) (nI (2 ^ P - 1 - V)) (nI i) = fm_i ν2 0 59 (nI P) ∧ frI a32 ν ν2 ∧ ∀ j, j < P → fI (mX9_findRound_h102 n μ x1 x2 (stI p) (nI V) (nI i)) 70 j = fI ν2 32 j := by
  have h9 := p2_512 hP
  intro c
  induction c with
  | zero =>
    intro i n n' V p μ ν h1 h2 h3 hc hm hV hct hp hj
    obtain ⟨n, rfl⟩ : ∃ m, n = m + 1 := ⟨n - 1, by omega⟩
    obtain ⟨n', rfl⟩ : ∃ m, n' = m + 1 := ⟨n' - 1, by omega⟩
    obtain rfl : i = P := by omega
    have e : nI i ≤ nI i := (nI_leI (by omega) (by omega)).mpr (by omega)
    simp only [lX9_findRound_h102, mX9_findRound_h102, qX9_findRound_h102, lX12_round_h213, mX12_round_h213, qX12_round_h213, hc.1, if_pos e]
    exact ⟨⟨trivial, trivial⟩, ⟨fun z => absurd e z, fun z => absurd e z⟩, frI.rf _ _, ν, rfl, frI.rf _ _, hj⟩
  | succ c ih =>
    intro i n n' V p μ ν h1 h2 h3 hc hm hV hct hp hj
    obtain ⟨n, rfl⟩ : ∃ m, n = m + 1 := ⟨n - 1, by omega⟩
    obtain ⟨n', rfl⟩ : ∃ m, n' = m + 1 := ⟨n' - 1, by omega⟩
    have e : ¬ nI P ≤ nI i := fun z => by have := (nI_leI (by omega) (by omega)).mp z; omega
    have M0 : 2 ^ P - 1 - V ≠ 0 := fun z => by
      rw [z] at hct
      exact absurd hct (by have : ctN 0 9 = 0 := by decide
                           omega)
    obtain ⟨⟨b1, b2⟩, -, -⟩ := nx_c hX hP hc (Nat.zero_le V) hV (by omega) hp
    obtain ⟨s1, s2, s3, s4, s5⟩ := sk_m hX hP hm (M := 2 ^ P - 1 - V) (by omega) M0 hp (i := i) (by omega) y x4 x2 (amN (tv X Y P (2 ^ P - 1 - V) p) (2 ^ P - 1 - V) P) 0 fF (by omega) (fF_gt (by have := am_ok (p := p) (P := P) (R := 2 ^ P - 1 - V) hX hP (by omega) M0; omega))
    obtain ⟨a1, a2, -⟩ := am_ok (p := p) (P := P) (R := 2 ^ P - 1 - V) hX hP (by omega) M0
    generalize amN (tv X Y P (2 ^ P - 1 - V) p) (2 ^ P - 1 - V) P = a at b1 s1 s2 s3 s4 a1 a2
    rw [show nI 0 = 0 from rfl] at s1 s2 s3 s4 s5
    have cm := ct_m (2 ^ P - 1 - V) (by omega) a (by omega) a2
    have nb : V.testBit a = false := by
      have := cp_t hV a1
      rw [a2] at this
      cases hb : V.testBit a
      · rfl
      · rw [hb] at this; exact absurd this (by decide)
    obtain ⟨t1, t2, t3⟩ := st_512 V (by omega) a (by omega) nb
    have nm : ¬ nI a = -1 := nI_m1 (by omega)
    have ha : a < 2 ^ 31 := by omega
    have hi : i < 2 ^ 31 := by omega
    have sa : stI a = nI a := by unfold stI; rw [if_neg (by omega)]
    obtain ⟨⟨k1, k2⟩, ⟨k3, k4⟩, k5, ν2, k6, k7, k8⟩ := ih (i + 1) n n' (V + 2 ^ a) a (fm_i μ 70 i (nI (b a))) (fm_i ν 32 i (nI (b a))) (by omega) (by omega) (by omega) (ct_70 hc) (mt_32 hm) (by omega) (by rw [show 2 ^ P - 1 - (V + 2 ^ a) = 2 ^ P - 1 - V - 2 ^ a by omega]; omega) (Or.inl a1) (fun j hj2 => by
      rw [fI_i, fI_i]
      by_cases q : j = i
      · rw [if_pos ⟨rfl, q⟩, if_pos ⟨rfl, q⟩]
      · rw [if_neg (by omega), if_neg (by omega)]; exact hj j (by omega))
    rw [show 2 ^ P - 1 - (V + 2 ^ a) = 2 ^ P - 1 - V - 2 ^ a by omega] at k2 k4 k6
    rw [sa] at k1 k2 k3 k4 k5 k6 k8
    simp only [lX9_findRound_h102, mX9_findRound_h102, qX9_findRound_h102, lX12_round_h213, mX12_round_h213, qX12_round_h213, hc.1, if_neg e, b1, if_neg nm, nI_clamp ha, nI_clamp hi, (hc.2.1 a a1).1, t1, nI_1, s1, s2, s3, s4]
    refine ⟨⟨k1, k2⟩, ⟨fun _ => ⟨b2, fun _ => ⟨vp_in_nI (by omega) (by decide), vp_in_nI (by omega) (by decide), k3⟩, fun z => absurd z nm⟩, fun _ => ⟨s5, k4⟩⟩, (frI.i (frI.rf _ μ) (k := 70) (j := i) (v := nI (b a)) rfl).tr k5, ν2, k6, (frI.i (frI.rf _ ν) (k := 32) (j := i) (v := nI (b a)) rfl).tr k7, k8⟩
end
