theorem sh_8 : ∀ i, i < 8 → (1 : Int32) <<< (nI i &&& 31) = nI (2 ^ i) := by decide +kernel
def f20 (k j : Nat) : Prop := k = 20
section
variable {k T : Nat} {E : Nat → Nat → Bool}
theorem fm_244 {i t0 : Nat} (hk : k ≤ 8) (hT : T ≤ 40) (hi : i < k) (ht0 : t0 ≤ T) (hE0 : t0 < T → E i t0 = true) (h0 : ∀ t, t < T → E i t = true → (nW k (eMi E i t) 0 1000 T (2 ^ k - 1) = 0 ↔ t = t0)) (x1 : Int32) : ∀ (c t n : Nat) (ν : fm_T), t + c = T → c < n → MG k T E ν → fI ν 20 i = (if t0 < t then nI t0 else -1) → l5X12_found_h244 n ν x1 (nI k) (lN (nW k E 0 1000 T (2 ^ k - 1))) (nI i) (nI t) = nI (i + 1) ∧ qX12_found_h244 n ν x1 (nI k) (lN (nW k E 0 1000 T (2 ^ k - 1))) (nI i) (nI t) ∧ frL f20 f19 ν (mX12_found_h244 n ν x1 (nI k) (lN (nW k E 0 1000 T (2 ^ k - 1))) (nI i) (nI t)) ∧ (∀ j, j ≠ i → fI (mX12_found_h244 n ν x1 (nI k) (lN (nW k E 0 1000 T (2 ^ k - 1))) (nI i) (nI t)) 20 j = fI ν 20 j) ∧ fI (mX12_found_h244 n ν x1 (nI k) (lN (nW k E 0 1000 T (2 ^ k - 1))) (nI i) (nI t)) 20 i = (if t0 < T then nI t0 else -1) := by
  have h8 : 2 ^ k ≤ 256 := Nat.pow_le_pow_right (n := 2) (j := 8) (by decide) hk
  have hp := Nat.two_pow_pos k
  have pik : 2 ^ i < 2 ^ k := Nat.pow_lt_pow_right (by decide) hi
  intro c
  induction c with
  | zero =>
    intro t n ν h1 h2 hg hv
    obtain ⟨n, rfl⟩ : ∃ m, n = m + 1 := ⟨n - 1, by omega⟩
    obtain rfl : t = T := by omega
    have e : nI t ≤ nI t := (nI_leI (by omega) (by omega)).mpr (by omega)
    simp only [l5X12_found_h244, mX12_found_h244, qX12_found_h244, gX12_tickets, hg.1, if_pos e, nI_1]
    exact ⟨trivial, fun z => absurd e z, frL.rf _ _ _, fun _ _ => trivial, hv⟩
  | succ c ih =>
    intro t n ν h1 h2 hg hv
    obtain ⟨n, rfl⟩ : ∃ m, n = m + 1 := ⟨n - 1, by omega⟩
    have e : ¬ nI T ≤ nI t := fun z => by have := (nI_leI (by omega) (by omega)).mp z; omega
    have e40 : (40 : Int32) * nI i + nI t = nI (40 * i + t) := by simp only [li_n, nI_mul, nI_add]
    have h40 : 40 * i + t < 2 ^ 31 := by omega
    have hi2 : i < 2 ^ 31 := by omega
    have v40 : vp_in (nI (40 * i + t)) 320 := vp_in_nI (by omega) (by decide)
    have g17 := hg.2 i hi t (by omega)
    have n1 : ¬ (1 : Int32) = 0 := by decide
    simp only [l5X12_found_h244, mX12_found_h244, qX12_found_h244, gX12_tickets, hg.1, if_neg e, e40, nI_clamp h40, g17, sh_8 i (by omega), nI_clamp hi2, nI_1]
    by_cases q : E i t = true
    · have sk : skI t = nI t := by unfold skI; rw [if_neg (by omega)]
      obtain ⟨w1, w2, w3⟩ := wo_ok (E := E) (s0 := 2 ^ i) (sk := t) hk hT pik (by omega) hg
      rw [sk] at w1 w2 w3
      have sp := nW_sp (k := k) (i := i) (t := t) (E := E) hk hi (by omega) q T (2 ^ k - 1) (by omega) (by omega)
      rw [if_pos ⟨by omega, f2_b hi⟩] at sp
      have b1 := nW_l (E := E) (s0 := 2 ^ i) (sk := t) hk hT (show 2 ^ k - 1 < 256 by omega)
      have b2 := nW_l (E := E) (s0 := 0) (sk := 1000) hk hT (show 2 ^ k - 1 < 256 by omega)
      have kc : lg_cmp (lN (nW k E (2 ^ i) t T (2 ^ k - 1))) (lN (nW k E 0 1000 T (2 ^ k - 1))) = 0 ↔ t = t0 := by
        rw [lg_cmp_eq, ← Int64.toInt_inj, l6_ti (by omega), l6_ti (by omega), ← h0 t (by omega) q]
        omega
      have w3' : frL f20 f19 ν (uX12_waysOf ν (nI k) (nI (2 ^ i)) (nI t)) := w3.mo (fun _ _ z => z.elim) (fun _ _ z => z)
      simp only [q, if_true, if_neg n1, w1, kc]
      by_cases z : t = t0
      · obtain ⟨k1, k2, k3, k4, k5⟩ := ih (t + 1) n (fm_i (uX12_waysOf ν (nI k) (nI (2 ^ i)) (nI t)) 20 i (nI t)) (by omega) (by omega) (MG_fr hg (w3'.i rfl) (fun k j z => by unfold f20 at z; omega)) (by rw [fI_i, if_pos ⟨rfl, rfl⟩, if_pos (by omega), z])
        simp only [if_pos z]
        refine ⟨k1, fun _ => ⟨v40, fun y => absurd y n1, fun _ => ⟨w2, fun y => absurd z y, fun _ => ⟨vp_in_nI (by omega) (by decide), k2⟩⟩⟩, (w3'.i rfl).tr k3, fun j hj => ?_, k5⟩
        rw [k4 j hj, fI_i, if_neg (by omega), w3.2.2.2 20 j id]
      · obtain ⟨k1, k2, k3, k4, k5⟩ := ih (t + 1) n (uX12_waysOf ν (nI k) (nI (2 ^ i)) (nI t)) (by omega) (by omega) (MG_fr hg w3' (fun k j z => by unfold f20 at z; omega)) (by
          rw [w3.2.2.2 20 i id, hv]
          by_cases y : t0 < t
          · rw [if_pos y, if_pos (by omega)]
          · rw [if_neg y, if_neg (by omega)])
        simp only [if_neg z]
        refine ⟨k1, fun _ => ⟨v40, fun y => absurd y n1, fun _ => ⟨w2, fun _ => k2, fun y => absurd y z⟩⟩, w3'.tr k3, fun j hj => ?_, k5⟩
        rw [k4 j hj, w3.2.2.2 20 j id]
    · have qf : E i t = false := by simpa using q
      have tne : t ≠ t0 := fun z => by rw [z, hE0 (by omega)] at qf; exact absurd qf (by decide)
      obtain ⟨k1, k2, k3, k4, k5⟩ := ih (t + 1) n ν (by omega) (by omega) hg (by
        rw [hv]
        by_cases y : t0 < t
        · rw [if_pos y, if_pos (by omega)]
        · rw [if_neg y, if_neg (by omega)])
      simp only [qf, Bool.false_eq_true, if_false, if_true]
      exact ⟨k1, fun _ => ⟨v40, fun _ => k2, fun y => absurd trivial y⟩, k3, k4, k5⟩
theorem fm_227 {r : Nat → Int32} (hk : k ≤ 8) (hT : T ≤ 40) (hr : ∀ i, i < k → SR k T E i (r i)) (x1 : Int32) : ∀ (c i n : Nat) (ν : fm_T), i + c = k → c < n → MG k T E ν → (∀ j, j < i → fI ν 20 j = r j) → lX12_found_h227 n ν x1 (nI k) (lN (nW k E 0 1000 T (2 ^ k - 1))) (nI i) = lN (nW k E 0 1000 T (2 ^ k - 1)) ∧ qX12_found_h227 n ν x1 (nI k) (lN (nW k E 0 1000 T (2 ^ k - 1))) (nI i) ∧ frL f20 f19 ν (mX12_found_h227 n ν x1 (nI k) (lN (nW k E 0 1000 T (2 ^ k - 1))) (nI i)) ∧ ∀ j, j < k → fI (mX12_found_h227 n ν x1 (nI k) (lN (nW k E 0 1000 T (2 ^ k - 1))) (nI i)) 20 j = r j := by
  intro c
  induction c with
  | zero =>
    intro i n ν h1 h2 hg hv
    obtain ⟨n, rfl⟩ : ∃ m, n = m + 1 := ⟨n - 1, by omega⟩
    obtain rfl : i = k := by omega
    have e : nI i ≤ nI i := (nI_leI (by omega) (by omega)).mpr (by omega)
    simp only [lX12_found_h227, mX12_found_h227, qX12_found_h227, if_pos e]
    exact ⟨trivial, fun z => absurd e z, frL.rf _ _ _, hv⟩
  | succ c ih =>
    intro i n ν h1 h2 hg hv
    obtain ⟨n, rfl⟩ : ∃ m, n = m + 1 := ⟨n - 1, by omega⟩
    have e : ¬ nI k ≤ nI i := fun z => by have := (nI_leI (by omega) (by omega)).mp z; omega
    have hi2 : i < 2 ^ 31 := by omega
    obtain ⟨t0, a1, a2, a3, a4⟩ : ∃ t0, t0 ≤ T ∧ (t0 < T → E i t0 = true) ∧ (∀ t, t < T → E i t = true → (nW k (eMi E i t) 0 1000 T (2 ^ k - 1) = 0 ↔ t = t0)) ∧ r i = (if t0 < T then nI t0 else -1) := by
      rcases hr i (by omega) with ⟨t, s1, s2, s3, s4, s5⟩ | ⟨s1, s2⟩
      · refine ⟨t, by omega, fun _ => s3, fun u hu eu => ⟨fun z => ?_, fun z => by rw [z]; exact s4⟩, by rw [if_pos s1]; exact s2⟩
        by_cases q : u = t
        · exact q
        · exact absurd z (s5 u hu q eu)
      · exact ⟨T, by omega, fun z => by omega, fun u hu eu => ⟨fun z => absurd z (s2 u hu eu), fun z => by omega⟩, by rw [if_neg (by omega)]; exact s1⟩
    have f0 : frL f20 f19 ν (fm_i ν 20 i (-1)) := (frL.rf _ _ ν).i rfl
    obtain ⟨b1, b2, b3, b4, b5⟩ := fm_244 hk hT (i := i) (by omega) a1 a2 a3 x1 T 0 fF (fm_i ν 20 i (-1)) (by omega) (fF_gt (by omega)) (MG_fr hg f0 (fun k j z => by unfold f20 at z; omega)) (by rw [fI_i, if_pos ⟨rfl, rfl⟩, if_neg (by omega)])
    rw [show nI 0 = 0 from rfl] at b1 b2 b3 b4 b5
    obtain ⟨k1, k2, k3, k4⟩ := ih (i + 1) n _ (by omega) (by omega) (MG_fr hg (f0.tr b3) (fun k j z => by unfold f20 at z; omega)) (fun j hj => by
      by_cases q : j = i
      · rw [q, b5, a4]
      · rw [b4 j q, fI_i, if_neg (by omega)]; exact hv j (by omega))
    simp only [lX12_found_h227, mX12_found_h227, qX12_found_h227, if_neg e, nI_clamp hi2, b1]
    exact ⟨k1, fun _ => ⟨vp_in_nI (by omega) (by decide), b2, k2⟩, (f0.tr b3).tr k3, k4⟩
theorem ss_ok {μ : fm_T} (hk : k ≤ 8) (hT : T ≤ 40) (hg : FG2 k T E μ) (hw : nW k E 0 1000 T (2 ^ k - 1) ≠ 0) : pX1_settleSure μ ∧ frL fD1 fB μ (uX1_settleSure μ) ∧ fI (uX1_settleSure μ) 51 8 = nI k ∧ ∀ j, j < k → SR k T E j (fI (uX1_settleSure μ) 56 j) := by
  have hp := Nat.two_pow_pos k
  obtain ⟨b1, b2, b3⟩ := fl_55 (-1) 40 0 fF μ (by omega) (fF_gt (by omega))
  rw [show nI 0 = 0 from rfl] at b1 b2 b3
  obtain ⟨μ2, co2, ⟨c1, c2, c3, c4⟩, c5, c6, c7⟩ := ph_1 (E := E) hk hT ((nW_ex hk T (2 ^ k - 1) (by omega) (by omega)).mp hw) k 0 fF (uJ7_fill_53178_55 μ (-1)) (fun _ => 9) (by omega) (fF_gt (by omega)) (FG2_fr hg b2 (fun k j z => by omega)) (fun t ht => by
    have := b3 t (by omega)
    rw [if_pos (by omega)] at this
    exact this) (fun t ht _ hne => absurd rfl hne) (fun t ht hne => absurd rfl hne) (fun y hy => by omega)
  rw [show nI 0 = 0 from rfl] at c6 c7
  have f8 : frL fD1 fB μ2 (fm_i μ2 51 8 (nI k)) := (frL.rf _ _ μ2).i (by unfold fD1; omega)
  obtain ⟨d1, d2, d3, d4⟩ := ph_2 (E := E) hk hT k 0 fF (fm_i μ2 51 8 (nI k)) co2 (by omega) (fF_gt (by omega)) ⟨by rw [fI_i, if_neg (by omega)]; exact c1.1, by rw [fI_i, if_neg (by omega)]; exact c1.2.1, fun t ht => by rw [fI_i, if_neg (by omega)]; exact c1.2.2 t ht⟩ (fun t ht => by rw [fI_i, if_neg (by omega)]; exact c2 t ht) (fun t ht _ hne => by rw [fI_i, if_neg (by omega)]; exact c3 t ht trivial hne) c4 (fun j hj => by omega)
  rw [show nI 0 = 0 from rfl] at d1 d2 d3 d4
  unfold pX1_settleSure uX1_settleSure
  rw [c6]
  refine ⟨⟨b1, c7 d1⟩, ?_, ?_, d4⟩
  · exact (((b2.mo (fun k j z => by unfold fD1; omega) (fun _ _ z => z.elim)).tr (c5.mo (fun k j z => by unfold fA at z; unfold fD1; omega) (fun _ _ z => z))).tr f8).tr d2
  · rw [d3, fI_i, if_pos ⟨rfl, rfl⟩]
end
def qfA (k j : Nat) : Prop := k = 52 ∨ k = 54 ∨ k = 55 ∨ k = 56 ∨ (k = 51 ∧ (j = 6 ∨ j = 7 ∨ j = 8))
def qfB (k j : Nat) : Prop := k = 53 ∨ (k = 51 ∧ j = 5)
def qfC (k j : Nat) : Prop := k = 17 ∨ k = 20 ∨ (k = 0 ∧ j = 39)
theorem XR_fd {ρ : sg_T} {μ ν U V : fm_T} {q : Nat} (h : XR ρ μ ν) (f1 : frL qfA qfB μ U) (f2 : frL qfC f19 ν V) (hq : q ≤ 8) (l1 : fI U 51 8 = nI q) (l2 : fI V 0 39 = nI q) (l3 : ∀ j, j < q → fI U 56 j = fI V 20 j) : XR (up2 ρ 0 1 q) U V := by
  obtain ⟨⟨a1, a2, a3, a4⟩, -, ⟨c1, c2, c3, c4⟩, ⟨n1, n2, n3, n4⟩, ⟨d1, d2, d3, d4⟩, ⟨k1, k2, k3, k4⟩, m1, m2⟩ := h
  have F1 : ∀ k j, k < 51 ∨ 56 < k → fI U k j = fI μ k j := fun k j z => f1.2.2.2 k j (by unfold qfA; omega)
  have F2 : ∀ k j, (k = 0 → j ≠ 39) → k ≠ 17 → k ≠ 20 → fI V k j = fI ν k j := fun k j z1 z2 z3 => f2.2.2.2 k j (by unfold qfC; omega)
  refine ⟨⟨(F1 1 2 (by omega)).trans a1, (F2 0 2 (by omega) (by omega) (by omega)).trans a2, a3, fun i hi => ?_⟩, ⟨l1, l2, hq, l3⟩, ⟨(F1 57 4 (by omega)).trans c1, (F2 0 45 (by omega) (by omega) (by omega)).trans c2, c3, fun i hi => ?_⟩, ⟨(F1 0 11 (by omega)).trans n1, (F2 0 48 (by omega) (by omega) (by omega)).trans n2, n3, fun i hi => ?_⟩, ⟨(F1 61 5 (by omega)).trans d1, (F2 0 54 (by omega) (by omega) (by omega)).trans d2, d3, fun i hi => ?_⟩, ⟨(F1 66 5 (by omega)).trans k1, (F2 0 59 (by omega) (by omega) (by omega)).trans k2, k3, fun i hi => ?_⟩, ?_, fun i hi => (f1.2.2.1 2 i (by unfold qfB; omega)).trans (m2 i hi)⟩
  · rw [F1 3 i (by omega), F2 1 i (by omega) (by omega) (by omega)]; exact a4 i hi
  · rw [F1 60 i (by omega), F2 23 i (by omega) (by omega) (by omega)]; exact c4 i hi
  · rw [F1 72 i (by omega), F2 25 i (by omega) (by omega) (by omega)]; exact n4 i hi
  · rw [F1 65 i (by omega), F2 29 i (by omega) (by omega) (by omega)]; exact d4 i hi
  · rw [F1 70 i (by omega), F2 32 i (by omega) (by omega) (by omega)]; exact k4 i hi
  · rw [F1 0 12 (by omega), F2 0 10 (by omega) (by omega) (by omega)]; exact m1
theorem fd_run {σ : sg_T} {μ ν : fm_T} {b : Nat → Nat} {k : Nat} (w : WR σ (blk μ 8) (fL μ 25) (fI ν 2) (fL ν 5)) (hk : k ≤ 8) (hb : ∀ i, i < 940 → fI μ 3 i = nI (b i) ∧ fI ν 1 i = nI (b i) ∧ b i ≤ 255) {q : Nat} (hq : q ≤ 8) (hl : fI μ 51 8 = nI q ∧ fI ν 0 39 = nI q ∧ ∀ j, j < q → fI μ 56 j = fI ν 20 j) (x1 : Int32) : ∃ U V q', (lX11_found_h82 fF (uX1_start μ (nI k) (fI μ 9 5)) x1 (nI k) 0 = lX12_found_h140 fF ν x1 (nI k) 0 ∧ mX11_found_h82 fF (uX1_start μ (nI k) (fI μ 9 5)) x1 (nI k) 0 = U ∧ mX12_found_h140 fF ν x1 (nI k) 0 = V) ∧ (pX1_start μ (nI k) (fI μ 9 5) ∧ qX11_found_h82 fF (uX1_start μ (nI k) (fI μ 9 5)) x1 (nI k) 0 ∧ qX12_found_h140 fF ν x1 (nI k) 0) ∧ frL qfA qfB μ U ∧ frL qfC f19 ν V ∧ q' ≤ 8 ∧ fI U 51 8 = nI q' ∧ fI V 0 39 = nI q' ∧ ∀ j, j < q' → fI U 56 j = fI V 20 j := by
  obtain ⟨cS, mS, hS⟩ := wr_S w
  have hp := Nat.two_pow_pos k
  have h8 : 2 ^ k ≤ 256 := Nat.pow_le_pow_right (n := 2) (j := 8) (by decide) hk
  have u1 : ¬ (8 : Int32) < nI k := fun z => by have := (nI_ltI (a := 8) (by omega) (by omega)).mp z; omega
  have u2 : ¬ (40 : Int32) < nI (σ 0 0) := fun z => by have := (nI_ltI (a := 40) (by omega) (by omega)).mp z; omega
  obtain ⟨b1, b2, b3⟩ := fl_52 0 40 0 fF (fm_i (fm_i μ 51 6 (nI k)) 51 7 (nI (σ 0 0))) (by omega) (fF_gt (by omega))
  rw [show nI 0 = 0 from rfl] at b1 b2 b3
  have es : uX1_start μ (nI k) (fI μ 9 5) = mJ7_fill_53178_52_h5 fF (fm_i (fm_i μ 51 6 (nI k)) 51 7 (nI (σ 0 0))) 0 0 40 := by
    unfold uX1_start uJ7_fill_53178_52
    rw [cS, if_neg u1, if_neg u2]
  have ep : pX1_start μ (nI k) (fI μ 9 5) := by
    unfold pX1_start pJ7_fill_53178_52
    rw [cS, if_neg u1, if_neg u2]
    exact b1
  rw [es]
  generalize mJ7_fill_53178_52_h5 fF (fm_i (fm_i μ 51 6 (nI k)) 51 7 (nI (σ 0 0))) 0 0 40 = μs at b2 b3
  have fs : frL qfA qfB μ μs := (((frL.rf qfA qfB μ).i (by unfold qfA; omega)).i (by unfold qfA; omega)).tr (b2.mo (fun k j z => by unfold qfA; omega) (fun _ _ z => z.elim))
  have ws := WR_fc w fs (fun k j z => by unfold qfA at z; omega) (fun k j z => by unfold qfB at z; omega)
  obtain ⟨μ2, a1, a2, a3, a4, a5⟩ := fa_82 (b := b) (k := k) ws (fun i hi => ⟨(fs.2.2.2 3 i (by unfold qfA; omega)).trans (hb i hi).1, (hb i hi).2.2⟩) hk x1 (σ 0 0) 0 fF μs (by omega) (fF_gt (by omega)) (frL.rf _ _ _) ⟨by rw [b2.2.2.2 51 6 (by omega), fI_i, if_neg (by omega), fI_i, if_pos ⟨rfl, rfl⟩], by rw [b2.2.2.2 51 7 (by omega), fI_i, if_pos ⟨rfl, rfl⟩], fun u hu => by
    have be : bnd k 0 0 u = 0 := by
      unfold bnd
      rw [if_neg (by omega)]
      split <;> rfl
    rw [be]
    refine ⟨0, by decide, ?_, fun j hj => by omega⟩
    have := b3 u (by omega)
    rw [if_pos (by omega)] at this
    exact this⟩
  rw [show nI 0 = 0 from rfl] at a3 a4 a5
  obtain ⟨c1, c2, c3⟩ := cw_ok (E := fitB σ b) hk hS a2
  obtain ⟨ν2, m1, m2, m3, m4, m5⟩ := fm_140 (b := b) (k := k) w (fun i hi => ⟨(hb i hi).2.1, (hb i hi).2.2⟩) hk x1 k 0 fF ν (by omega) (fF_gt (by omega)) (frL.rf _ _ _) (fun j hj => by omega)
  rw [show nI 0 = 0 from rfl] at m3 m4 m5
  obtain ⟨d1, d2, d3⟩ := wo_ok (E := fitB σ b) (s0 := 0) (sk := 1000) hk hS hp (by omega) m2
  change gX12_waysOf ν2 (nI k) 0 (-1) = _ at d1
  change pX12_waysOf ν2 (nI k) 0 (-1) at d2
  change frL fN f19 ν2 (uX12_waysOf ν2 (nI k) 0 (-1)) at d3
  have bd := nW_l (E := fitB σ b) (s0 := 0) (sk := 1000) hk hS (show 2 ^ k - 1 < 256 by omega)
  rw [c1] at a3 a4 a5
  rw [d1] at m3 m4 m5
  have z1 : lg_cmp (lN (nW k (fitB σ b) 0 1000 (σ 0 0) (2 ^ k - 1))) 0 ≤ 0 ↔ nW k (fitB σ b) 0 1000 (σ 0 0) (2 ^ k - 1) = 0 := by
    rw [lg_cmp_le, show (0 : Int64) = lN 0 from rfl, l6_le (by omega) (by omega)]
    omega
  have z2 := l6_z (n := nW k (fitB σ b) 0 1000 (σ 0 0) (2 ^ k - 1)) (by omega)
  simp only [z1] at a4 a5
  simp only [z2] at m3 m4 m5
  have f2 : frL qfA qfB μ (uX1_countWays μ2) := (fs.tr (a1.mo (fun k j z => by unfold f52 at z; unfold qfA; omega) (fun _ _ z => z.elim))).tr (c3.mo (fun _ _ z => z.elim) (fun k j z => by unfold f53 at z; unfold qfB; omega))
  have g2 : frL qfC f19 ν (uX12_waysOf ν2 (nI k) 0 (-1)) := (m1.mo (fun k j z => by unfold f17 at z; unfold qfC; omega) (fun _ _ z => z.elim)).tr (d3.mo (fun _ _ z => z.elim) (fun _ _ z => z))
  by_cases q0 : nW k (fitB σ b) 0 1000 (σ 0 0) (2 ^ k - 1) = 0
  · rw [if_pos q0] at a4 m3 m4
    refine ⟨_, _, q, ⟨?_, a4, m4⟩, ⟨ep, a5 c2 (fun z => absurd q0 z), m5 d2 (fun z => absurd q0 z)⟩, f2, g2, hq, ?_, ?_, fun j hj => ?_⟩
    · rw [a3, m3, q0]; rfl
    · rw [c3.2.2.2 51 8 id, a1.2.2.2 51 8 (by unfold f52; omega), b2.2.2.2 51 8 (by omega), fI_i, if_neg (by omega), fI_i, if_neg (by omega)]; exact hl.1
    · rw [d3.2.2.2 0 39 id, m1.2.2.2 0 39 (by unfold f17; omega)]; exact hl.2.1
    · rw [c3.2.2.2 56 j id, a1.2.2.2 56 j (by unfold f52; omega), b2.2.2.2 56 j (by omega), fI_i, if_neg (by omega), fI_i, if_neg (by omega), d3.2.2.2 20 j id, m1.2.2.2 20 j (by unfold f17; omega)]
      exact hl.2.2 j hj
  · rw [if_neg q0] at a4 m3 m4
    obtain ⟨s1, s2, s3, s4⟩ := ss_ok hk hS (FG2_fr a2 c3 (fun _ _ z => z.elim)) q0
    obtain ⟨t1, t2, t3, t4⟩ := fm_227 (r := fun j => fI (uX1_settleSure (uX1_countWays μ2)) 56 j) hk hS s4 x1 k 0 fF (fm_i (uX12_waysOf ν2 (nI k) 0 (-1)) 0 39 (nI k)) (by omega) (fF_gt (by omega)) (by
      have := MG_fr m2 d3 (fun _ _ z => z.elim)
      exact ⟨by rw [fI_i, if_neg (by omega)]; exact this.1, fun i hi t ht => by rw [fI_i, if_neg (by omega)]; exact this.2 i hi t ht⟩) (fun j hj => by omega)
    rw [show nI 0 = 0 from rfl] at t1 t2 t3 t4
    refine ⟨_, _, k, ⟨?_, a4, m4⟩, ⟨ep, a5 c2 (fun _ => s1), m5 d2 (fun _ => t2)⟩, ?_, ?_, hk, s3, ?_, fun j hj => (t4 j hj).symm⟩
    · rw [a3, m3, t1]
    · exact f2.tr (s2.mo (fun k j z => by unfold fD1 at z; unfold qfA; omega) (fun k j z => by unfold fB at z; unfold qfB; omega))
    · exact (g2.i (by unfold qfC; omega)).tr (t3.mo (fun k j z => by unfold f20 at z; unfold qfC; omega) (fun _ _ z => z))
    · rw [t3.2.2.2 0 39 (by unfold f20; omega), fI_i, if_pos ⟨rfl, rfl⟩]
