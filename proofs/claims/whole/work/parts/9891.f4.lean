def FG2 (k T : Nat) (E : Nat → Nat → Bool) (μ : fm_T) : Prop := fI μ 51 6 = nI k ∧ fI μ 51 7 = nI T ∧ ∀ t, t < T → ∃ m, m < 256 ∧ fI μ 52 t = nI m ∧ ∀ i, i < k → m.testBit i = E i t
theorem FG2.fg {k T : Nat} {E : Nat → Nat → Bool} {μ : fm_T} (hk : k ≤ 8) (h : FG2 k T E μ) : FG k T E μ := by
  refine ⟨h.1, h.2.1, fun t ht i hi => ?_⟩
  obtain ⟨m, m1, m2, m3⟩ := h.2.2 t ht
  rw [m2, hs_512 m (by omega) i (by omega), m3 i hi]
theorem f2_b {k j : Nat} (hj : j < k) : (2 ^ k - 1).testBit j = true := by
  rw [Nat.testBit_two_pow_sub_one]
  simpa using hj
section
variable {k T : Nat} {E : Nat → Nat → Bool} {co : Nat → Nat}
def tru (t : Nat) : Prop := True
theorem kuhn {x : Nat} {μ : fm_T} (hk : k ≤ 8) (hT : T ≤ 40) (hx : x < k) (hv : fL μ 51 5 = 0) (hg : FG k T E μ) (ho : FO T co μ) (hj : FJ k T E co tru μ) (hn : ∀ t, t < T → co t ≠ x) : puX1_findOwner fD 0 μ (nI x) 0 ∧ (((guX1_findOwner fD 0 μ (nI x) 0).1 = 0 ∧ frL fN fB μ (guX1_findOwner fD 0 μ (nI x) 0).2 ∧ ¬ ∃ m, isM k T (2 ^ k - 1) E m) ∨ ((guX1_findOwner fD 0 μ (nI x) 0).1 = 1 ∧ frL fA fB μ (guX1_findOwner fD 0 μ (nI x) 0).2 ∧ ∃ co', FO T co' (guX1_findOwner fD 0 μ (nI x) 0).2 ∧ FJ k T E co' tru (guX1_findOwner fD 0 μ (nI x) 0).2 ∧ (∃ t, t < T ∧ co' t = x) ∧ (∀ t, t < T → co t ≠ 9 → ∃ t', t' < T ∧ co' t' = co t) ∧ (∀ t, t < T → co' t ≠ 9 → co' t = x ∨ ∃ t', t' < T ∧ co t' = co' t))) := by
  have w : ∀ t, wv μ t := fun t => by unfold wv; rw [hv]; exact vb_0 t
  have ob := ow_b (k := k) (T := T) (x := x) (co := co) (v := fL μ 51 5) hx (by
    cases hb : owN T co (fL μ 51 5) x
    · rfl
    · obtain ⟨t, t1, t2, t3⟩ := ow_iff.mp hb
      exact absurd t3 (hn t t1))
  obtain ⟨g1, g2⟩ := fo_ok (E := E) hk hT fD (owC k T co (fL μ 51 5)) 0 x μ co (Nat.le_refl _) (by rw [fD_eq]; omega) (by omega) hx hg ho (fun t ht _ hne => hj t ht trivial hne) (fun t ht _ => hn t ht)
  rw [show nI 0 = 0 from rfl] at g1 g2
  refine ⟨g1, ?_⟩
  rcases g2 with ⟨z, a1, a2, a3, a4⟩ | ⟨z, a1, co', s1, s2, s3, s4, s5, -, -⟩
  · refine Or.inl ⟨z, a1, ?_⟩
    rintro ⟨m, m1, m2⟩
    refine hall (k := k) (T := T) (x := x) (E := E) (co := co) (m := m) (fun t => ¬ wv (guX1_findOwner fD 0 μ (nI x) 0).2 t) hx a3 (fun t ht hz => ?_) (fun t t' ht ht' hz hz' he => ?_) (fun j hj => m1 j hj (f2_b hj)) (fun j j' hj hj' => m2 j j' hj hj' (f2_b hj) (f2_b hj'))
    · obtain ⟨b1, b2⟩ := a4 t ht hz (w t)
      exact ⟨(hj t ht trivial b1).1, hn t ht, b2⟩
    · obtain ⟨b1, -⟩ := a4 t ht hz (w t)
      have q1 := (hj t ht trivial b1).2.2
      have q2 := (hj t' ht' trivial (by rw [← he]; exact b1)).2.2
      rw [← he, q1] at q2
      exact nI_inj (by omega) (by omega) q2
  · refine Or.inr ⟨z, a1, co', s1, fun t ht _ hne => s2 t ht (w t) hne, ?_, fun t ht hne => ?_, fun t ht hne => ?_⟩
    · obtain ⟨t, t1, -, t3⟩ := s3
      exact ⟨t, t1, t3⟩
    · obtain ⟨t', t1, -, t3⟩ := s4 t ht (w t) hne
      exact ⟨t', t1, t3⟩
    · rcases s5 t ht (w t) hne with p | ⟨t', t1, -, t3⟩
      · exact Or.inl p
      · exact Or.inr ⟨t', t1, t3⟩
theorem FJ_in {μ : fm_T} (hT : T ≤ 40) (hj : FJ k T E co tru μ) {t t' : Nat} (ht : t < T) (ht' : t' < T) (hne : co t ≠ 9) (he : co t = co t') : t = t' := by
  have q1 := (hj t ht trivial hne).2.2
  have q2 := (hj t' ht' trivial (by rw [← he]; exact hne)).2.2
  rw [← he, q1] at q2
  exact nI_inj (by omega) (by omega) q2
theorem pm_co {μ : fm_T} (hk : k ≤ 8) (hT : T ≤ 40) (hj : FJ k T E co tru μ) (ha : ∀ y, y < k → ∃ t, t < T ∧ co t = y) {i t t' : Nat} (hi : i < k) (ht : t < T) (hco : co t = i) (hne : t' ≠ t) : ∃ m, isM k T (2 ^ k - 1) (eMi E i t') m := by
  have hm : ∀ y, y < k → ∃ t, t < T ∧ co t = y := ha
  refine ⟨fun y => if h : y < k then Classical.choose (hm y h) else 0, fun j hj2 _ => ?_, fun j j' hj2 hj3 _ _ he => ?_⟩
  · simp only [dif_pos hj2]
    obtain ⟨c1, c2⟩ := Classical.choose_spec (hm j hj2)
    generalize Classical.choose (hm j hj2) = u at c1 c2
    have := (hj u c1 trivial (by omega)).2.1
    rw [c2] at this
    refine ⟨c1, ?_⟩
    unfold eMi
    rw [this, Bool.true_and]
    by_cases e : j = i
    · have : u = t := FJ_in hT hj c1 ht (by omega) (by omega)
      have : (u == t') = false := by simp; omega
      rw [this]
      simp
    · have : (j == i) = false := by simpa using e
      rw [this]
      simp
  · simp only [dif_pos hj2, dif_pos hj3] at he
    have c1 := (Classical.choose_spec (hm j hj2)).2
    have c2 := (Classical.choose_spec (hm j' hj3)).2
    rw [he] at c1
    exact c1.symm.trans c2
def fD1 (k j : Nat) : Prop := k = 52 ∨ k = 54 ∨ k = 55 ∨ k = 56 ∨ (k = 51 ∧ j = 8)
theorem FG2_fr {μ μ' : fm_T} {A B : Nat → Nat → Prop} (h : FG2 k T E μ) (f : frL A B μ μ') (ha : ∀ k j, A k j → k ≠ 52 ∧ (k = 51 → j ≠ 6 ∧ j ≠ 7)) : FG2 k T E μ' := by
  refine ⟨(f.2.2.2 51 6 (fun z => ((ha 51 6 z).2 rfl).1 rfl)).trans h.1, (f.2.2.2 51 7 (fun z => ((ha 51 7 z).2 rfl).2 rfl)).trans h.2.1, fun t ht => ?_⟩
  rw [f.2.2.2 52 t (fun z => (ha 52 t z).1 rfl)]
  exact h.2.2 t ht
theorem ph_1 (hk : k ≤ 8) (hT : T ≤ 40) (hm : ∃ m, isM k T (2 ^ k - 1) E m) : ∀ (c i n : Nat) (μ : fm_T) (co : Nat → Nat), i + c = k → c < n → FG2 k T E μ → FO T co μ → FJ k T E co tru μ → (∀ t, t < T → co t ≠ 9 → co t < i) → (∀ y, y < i → ∃ t, t < T ∧ co t = y) → ∃ μ2 co2, (FG2 k T E μ2 ∧ FO T co2 μ2 ∧ FJ k T E co2 tru μ2 ∧ ∀ y, y < k → ∃ t, t < T ∧ co2 t = y) ∧ frL fA fB μ μ2 ∧ mX1_settleSure_h10 n μ (nI i) = mX1_settleSure_h46 fF (fm_i μ2 51 8 (nI k)) 0 ∧ (qX1_settleSure_h46 fF (fm_i μ2 51 8 (nI k)) 0 → qX1_settleSure_h10 n μ (nI i)) := by
  intro c
  induction c with
  | zero =>
    intro i n μ co h1 h2 hg ho hj o1 o2
    obtain ⟨n, rfl⟩ : ∃ m, n = m + 1 := ⟨n - 1, by omega⟩
    obtain rfl : i = k := by omega
    have e : nI i ≤ nI i := (nI_leI (by omega) (by omega)).mpr (by omega)
    refine ⟨μ, co, ⟨hg, ho, hj, o2⟩, frL.rf _ _ _, ?_⟩
    simp only [mX1_settleSure_h10, qX1_settleSure_h10, hg.1, if_pos e]
    exact ⟨trivial, fun q => ⟨fun _ => q, fun z => absurd e z⟩⟩
  | succ c ih =>
    intro i n μ co h1 h2 hg ho hj o1 o2
    obtain ⟨n, rfl⟩ : ∃ m, n = m + 1 := ⟨n - 1, by omega⟩
    have e : ¬ nI k ≤ nI i := fun z => by have := (nI_leI (by omega) (by omega)).mp z; omega
    have f0 : frL fA fB μ (fm_l μ 51 5 0) := (frL.rf _ _ μ).l ⟨rfl, rfl⟩
    obtain ⟨g1, g2⟩ := kuhn (E := E) (co := co) (x := i) (μ := fm_l μ 51 5 0) hk hT (by omega) (by rw [fL_l, if_pos ⟨rfl, rfl⟩]) (FG2.fg hk hg) ho hj (fun t ht z => by have := o1 t ht (by omega); omega)
    simp only [mX1_settleSure_h10, qX1_settleSure_h10, hg.1, if_neg e, nI_1]
    rcases g2 with ⟨-, -, z⟩ | ⟨z, a1, co', s1, s2, ⟨t0, s3, s3'⟩, s4, s5⟩
    · exact absurd hm z
    · obtain ⟨μ2, co2, b1, b2, b3, b4⟩ := ih (i + 1) n (guX1_findOwner fD 0 (fm_l μ 51 5 0) (nI i) 0).2 co' (by omega) (by omega) (FG2_fr hg (f0.tr a1) (fun k j z => by unfold fA at z; omega)) s1 s2 (fun t ht hne => by
        rcases s5 t ht hne with p | ⟨t', p1, p2⟩
        · omega
        · have := o1 t' p1 (by omega)
          omega) (fun y hy => by
        by_cases q : y = i
        · exact ⟨t0, s3, by omega⟩
        · obtain ⟨t, p1, p2⟩ := o2 y (by omega)
          obtain ⟨t', p3, p4⟩ := s4 t p1 (by omega)
          exact ⟨t', p3, by omega⟩)
      exact ⟨μ2, co2, b1, (f0.tr a1).tr b2, b3, fun q => ⟨fun z => absurd z e, fun _ => ⟨g1, b4 q⟩⟩⟩
def SR (k T : Nat) (E : Nat → Nat → Bool) (i : Nat) (r : Int32) : Prop := (∃ t, t < T ∧ r = nI t ∧ E i t = true ∧ nW k (eMi E i t) 0 1000 T (2 ^ k - 1) = 0 ∧ ∀ t', t' < T → t' ≠ t → E i t' = true → nW k (eMi E i t') 0 1000 T (2 ^ k - 1) ≠ 0) ∨ (r = -1 ∧ ∀ t', t' < T → E i t' = true → nW k (eMi E i t') 0 1000 T (2 ^ k - 1) ≠ 0)
theorem ph_2 (hk : k ≤ 8) (hT : T ≤ 40) : ∀ (c i n : Nat) (μ : fm_T) (co : Nat → Nat), i + c = k → c < n → FG2 k T E μ → FO T co μ → FJ k T E co tru μ → (∀ y, y < k → ∃ t, t < T ∧ co t = y) → (∀ j, j < i → SR k T E j (fI μ 56 j)) → qX1_settleSure_h46 n μ (nI i) ∧ frL fD1 fB μ (mX1_settleSure_h46 n μ (nI i)) ∧ fI (mX1_settleSure_h46 n μ (nI i)) 51 8 = fI μ 51 8 ∧ ∀ j, j < k → SR k T E j (fI (mX1_settleSure_h46 n μ (nI i)) 56 j) := by
  have p2 := Nat.two_pow_pos k
  intro c
  induction c with
  | zero =>
    intro i n μ co h1 h2 hg ho hj oa hs
    obtain ⟨n, rfl⟩ : ∃ m, n = m + 1 := ⟨n - 1, by omega⟩
    obtain rfl : i = k := by omega
    have e : nI i ≤ nI i := (nI_leI (by omega) (by omega)).mpr (by omega)
    simp only [mX1_settleSure_h46, qX1_settleSure_h46, hg.1, if_pos e]
    exact ⟨fun z => absurd e z, frL.rf _ _ _, trivial, hs⟩
  | succ c ih =>
    intro i n μ co h1 h2 hg ho hj oa hs
    obtain ⟨n, rfl⟩ : ∃ m, n = m + 1 := ⟨n - 1, by omega⟩
    have e : ¬ nI k ≤ nI i := fun z => by have := (nI_leI (by omega) (by omega)).mp z; omega
    have hi : i < k := by omega
    have hi2 : i < 2 ^ 31 := by omega
    obtain ⟨t, ht, hco⟩ := oa i hi
    obtain ⟨-, eit, c54⟩ := hj t ht trivial (by omega)
    rw [hco] at eit c54
    obtain ⟨m, m1, m2, m3⟩ := hg.2.2 t ht
    have mb : m.testBit i = true := by rw [m3 i hi]; exact eit
    obtain ⟨cl1, cl2, cl3⟩ := cl_512 m (by omega) i (by omega) mb
    obtain ⟨st1, -, -⟩ := st_512 (m - 2 ^ i) (by omega) i (by omega) cl3
    have sub : ∀ j, j < 8 → (m - 2 ^ i).testBit j = (m.testBit j && !(j == i)) := fun j hj => (tb_sub m1 hj (by omega) mb).1
    have m2i := (tb_sub m1 (show i < 8 by omega) (show i < 8 by omega) mb).2
    have wi : ¬ gX11_within (fm_i μ 56 i (-1)) (nI t) 0 (nI T - 1) = 0 := wi_b (by omega) ht
    have ht2 : t < 2 ^ 31 := by omega
    have vt : vp_in (nI t) 40 := vp_in_nI (by omega) (by decide)
    have vi : vp_in (nI i) 8 := vp_in_nI (by omega) (by decide)
    have r52 : fI (fm_i μ 56 i (-1)) 52 t = nI m := by rw [fI_i, if_neg (by omega)]; exact m2
    simp only [mX1_settleSure_h46, qX1_settleSure_h46, hg.1, if_neg e, nI_clamp hi2, c54, hg.2.1, if_neg wi, uX1_settleOne, pX1_settleOne, nI_clamp ht2, r52, cl1, nI_1]
    have sti : stI i = nI i := by unfold stI; rw [if_neg (by omega)]
    -- the memory before the search
    have gB : FG2 k T (eMi E i t) (fm_l (fm_i (fm_i (fm_i μ 56 i (-1)) 52 t (nI (m - 2 ^ i))) 55 t (-1)) 51 5 0) := by
      refine ⟨by rw [fI_l, fI_i, if_neg (by omega), fI_i, if_neg (by omega), fI_i, if_neg (by omega)]; exact hg.1, by rw [fI_l, fI_i, if_neg (by omega), fI_i, if_neg (by omega), fI_i, if_neg (by omega)]; exact hg.2.1, fun u hu => ?_⟩
      rw [fI_l, fI_i, if_neg (by omega), fI_i]
      by_cases q : u = t
      · rw [if_pos ⟨rfl, q⟩, q]
        refine ⟨_, by omega, rfl, fun j hj => ?_⟩
        rw [sub j (by omega), m3 j hj]
        unfold eMi
        simp
      · rw [if_neg (by omega), fI_i, if_neg (by omega)]
        obtain ⟨m', a1, a2, a3⟩ := hg.2.2 u hu
        refine ⟨m', a1, a2, fun j hj => ?_⟩
        rw [a3 j hj]
        unfold eMi
        simp [q]
    have oB : FO T (fun u => if u = t then 9 else co u) (fm_l (fm_i (fm_i (fm_i μ 56 i (-1)) 52 t (nI (m - 2 ^ i))) 55 t (-1)) 51 5 0) := fun u hu => by
      rw [fI_l, fI_i]
      by_cases q : u = t
      · rw [if_pos ⟨rfl, q⟩]; simp only [if_pos q]; rfl
      · rw [if_neg (by omega), fI_i, if_neg (by omega), fI_i, if_neg (by omega)]; simp only [if_neg q]; exact ho u hu
    have nB : ∀ u, u < T → (fun u => if u = t then 9 else co u) u ≠ i := fun u hu => by
      by_cases q : u = t
      · simp only [if_pos q]; omega
      · simp only [if_neg q]
        intro z
        exact q (FJ_in hT hj hu ht (by omega) (by omega))
    have jB : FJ k T (eMi E i t) (fun u => if u = t then 9 else co u) tru (fm_l (fm_i (fm_i (fm_i μ 56 i (-1)) 52 t (nI (m - 2 ^ i))) 55 t (-1)) 51 5 0) := fun u hu _ hne => by
      by_cases q : u = t
      · simp only [if_pos q] at hne; exact absurd rfl hne
      · have nb := nB u hu
        simp only [if_neg q] at hne nb ⊢
        obtain ⟨j1, j2, j3⟩ := hj u hu trivial hne
        refine ⟨j1, ?_, ?_⟩
        · unfold eMi
          rw [j2]
          simp [q]
        · rw [fI_l, fI_i, if_neg (by omega), fI_i, if_neg (by omega), fI_i, if_neg (by omega)]
          exact j3
    have fB0 : frL fD1 fB μ (fm_l (fm_i (fm_i (fm_i μ 56 i (-1)) 52 t (nI (m - 2 ^ i))) 55 t (-1)) 51 5 0) := ((((frL.rf _ _ μ).i (by unfold fD1; omega)).i (by unfold fD1; omega)).i (by unfold fD1; omega)).l ⟨rfl, rfl⟩
    have s52 : fI (fm_l (fm_i (fm_i (fm_i μ 56 i (-1)) 52 t (nI (m - 2 ^ i))) 55 t (-1)) 51 5 0) 52 t = nI (m - 2 ^ i) := by rw [fI_l, fI_i, if_neg (by omega), fI_i, if_pos ⟨rfl, rfl⟩]
    have s56 : ∀ j, j < i → fI (fm_l (fm_i (fm_i (fm_i μ 56 i (-1)) 52 t (nI (m - 2 ^ i))) 55 t (-1)) 51 5 0) 56 j = fI μ 56 j := fun j hj => by rw [fI_l, fI_i, if_neg (by omega), fI_i, if_neg (by omega), fI_i, if_neg (by omega)]
    have s56i : fI (fm_l (fm_i (fm_i (fm_i μ 56 i (-1)) 52 t (nI (m - 2 ^ i))) 55 t (-1)) 51 5 0) 56 i = -1 := by rw [fI_l, fI_i, if_neg (by omega), fI_i, if_neg (by omega), fI_i, if_pos ⟨rfl, rfl⟩]
    have hv0 : fL (fm_l (fm_i (fm_i (fm_i μ 56 i (-1)) 52 t (nI (m - 2 ^ i))) 55 t (-1)) 51 5 0) 51 5 = 0 := by rw [fL_l, if_pos ⟨rfl, rfl⟩]
    have s58 : fI (fm_l (fm_i (fm_i (fm_i μ 56 i (-1)) 52 t (nI (m - 2 ^ i))) 55 t (-1)) 51 5 0) 51 8 = fI μ 51 8 := by rw [fI_l, fI_i, if_neg (by omega), fI_i, if_neg (by omega), fI_i, if_neg (by omega)]
    have s52u : ∀ u, u ≠ t → fI (fm_l (fm_i (fm_i (fm_i μ 56 i (-1)) 52 t (nI (m - 2 ^ i))) 55 t (-1)) 51 5 0) 52 u = fI μ 52 u := fun u hu => by rw [fI_l, fI_i, if_neg (by omega), fI_i, if_neg (by omega), fI_i, if_neg (by omega)]
    have s54 : ∀ u, fI (fm_l (fm_i (fm_i (fm_i μ 56 i (-1)) 52 t (nI (m - 2 ^ i))) 55 t (-1)) 51 5 0) 54 u = fI μ 54 u := fun u => by rw [fI_l, fI_i, if_neg (by omega), fI_i, if_neg (by omega), fI_i, if_neg (by omega)]
    generalize fm_l (fm_i (fm_i (fm_i μ 56 i (-1)) 52 t (nI (m - 2 ^ i))) 55 t (-1)) 51 5 0 = μb at gB oB jB fB0 s52 s56 s56i hv0 s58 s52u s54
    obtain ⟨g1, g2⟩ := kuhn hk hT hi hv0 (FG2.fg hk gB) oB jB nB
    have oth : ∀ t', t' < T → t' ≠ t → nW k (eMi E i t') 0 1000 T (2 ^ k - 1) ≠ 0 := fun t' ht' hne => (nW_ex hk T (2 ^ k - 1) (by omega) (by omega)).mpr (pm_co hk hT hj oa hi ht hco hne)
    rcases g2 with ⟨z, a1, a2⟩ | ⟨z, a1, co', s1, s2, ⟨t0, s3, s3'⟩, s4, s5⟩
    · simp only [z, if_true]
      generalize (guX1_findOwner fD 0 μb (nI i) 0).2 = μc at a1
      have c52 : fI (fm_i (fm_i μc 56 i (nI t)) 55 t (nI i)) 52 t = nI (m - 2 ^ i) := by rw [fI_i, if_neg (by omega), fI_i, if_neg (by omega), a1.2.2.2 52 t id]; exact s52
      have c52' : fI μc 52 t = nI (m - 2 ^ i) := (a1.2.2.2 52 t id).trans s52
      have nz : nW k (eMi E i t) 0 1000 T (2 ^ k - 1) = 0 := Decidable.byContradiction fun q => a2 ((nW_ex hk T (2 ^ k - 1) (by omega) (by omega)).mp q)
      simp only [c52', st1]
      obtain ⟨k1, k2, k3, k4⟩ := ih (i + 1) n (fm_i (fm_i (fm_i μc 56 i (nI t)) 55 t (nI i)) 52 t (nI (m - 2 ^ i + 2 ^ i))) co (by omega) (by omega) ⟨by rw [fI_i, if_neg (by omega), fI_i, if_neg (by omega), fI_i, if_neg (by omega), a1.2.2.2 51 6 id]; exact gB.1, by rw [fI_i, if_neg (by omega), fI_i, if_neg (by omega), fI_i, if_neg (by omega), a1.2.2.2 51 7 id]; exact gB.2.1, fun u hu => by
          rw [fI_i]
          by_cases q : u = t
          · rw [if_pos ⟨rfl, q⟩, q, show m - 2 ^ i + 2 ^ i = m by omega]
            exact ⟨m, m1, rfl, m3⟩
          · rw [if_neg (by omega), fI_i, if_neg (by omega), fI_i, if_neg (by omega), a1.2.2.2 52 u id, s52u u q]
            exact hg.2.2 u hu⟩ (fun u hu => by
          rw [fI_i, if_neg (by omega), fI_i]
          by_cases q : u = t
          · rw [if_pos ⟨rfl, q⟩, q, hco, sti]
          · rw [if_neg (by omega), fI_i, if_neg (by omega), a1.2.2.2 55 u id, oB u hu]
            simp only [if_neg q]) (fun u hu _ hne => by
          obtain ⟨j1, j2, j3⟩ := hj u hu trivial hne
          refine ⟨j1, j2, ?_⟩
          rw [fI_i, if_neg (by omega), fI_i, if_neg (by omega), fI_i, if_neg (by omega), a1.2.2.2 54 _ id, s54]
          exact j3) oa (fun j hj2 => by
          rw [fI_i, if_neg (by omega), fI_i, if_neg (by omega), fI_i]
          by_cases q : j = i
          · rw [if_pos ⟨rfl, q⟩, q]
            exact Or.inl ⟨t, ht, rfl, eit, nz, fun t' h1 h2 _ => oth t' h1 h2⟩
          · rw [if_neg (by omega), a1.2.2.2 56 j id, s56 j (by omega)]
            exact hs j (by omega))
      refine ⟨fun _ => ⟨vi, vi, fun z => absurd z wi, fun _ => ⟨⟨vt, vt, vt, g1, fun z => absurd trivial z, fun _ => ⟨vi, vt, vt, vt⟩⟩, k1⟩⟩, ?_, ?_, k4⟩
      · exact ((((fB0.tr (a1.mo (fun _ _ z => z.elim) (fun _ _ z => z))).i (by unfold fD1; omega)).i (by unfold fD1; omega)).i (by unfold fD1; omega)).tr k2
      · rw [k3, fI_i, if_neg (by omega), fI_i, if_neg (by omega), fI_i, if_neg (by omega), a1.2.2.2 51 8 id]; exact s58
    · have n1 : ¬ (1 : Int32) = 0 := by decide
      simp only [z, if_neg n1]
      generalize (guX1_findOwner fD 0 μb (nI i) 0).2 = μc at a1 s1 s2
      have c52' : fI μc 52 t = nI (m - 2 ^ i) := (a1.2.2.2 52 t (by unfold fA; omega)).trans s52
      have oa' : ∀ y, y < k → ∃ t, t < T ∧ co' t = y := fun y hy => by
        by_cases q : y = i
        · exact ⟨t0, s3, by omega⟩
        · obtain ⟨u, p1, p2⟩ := oa y hy
          have ut : u ≠ t := fun w => q (by rw [← p2, w, hco])
          obtain ⟨u', p3, p4⟩ := s4 u p1 (by simp only [if_neg ut]; omega)
          simp only [if_neg ut] at p4
          exact ⟨u', p3, by omega⟩
      have nz : nW k (eMi E i t) 0 1000 T (2 ^ k - 1) ≠ 0 := (nW_ex hk T (2 ^ k - 1) (by omega) (by omega)).mpr (by
        obtain ⟨u, p1, p2⟩ := oa' i hi
        obtain ⟨mm, q1, q2⟩ := pm_co (t' := T) hk hT s2 oa' hi p1 p2 (by omega)
        refine ⟨mm, fun j hj2 tj => ?_, q2⟩
        obtain ⟨r1, r2⟩ := q1 j hj2 tj
        refine ⟨r1, ?_⟩
        unfold eMi at r2 ⊢
        simp only [Bool.and_eq_true] at r2 ⊢
        exact r2.1)
      simp only [c52', st1]
      obtain ⟨k1, k2, k3, k4⟩ := ih (i + 1) n (fm_i μc 52 t (nI (m - 2 ^ i + 2 ^ i))) co' (by omega) (by omega) ⟨by rw [fI_i, if_neg (by omega), a1.2.2.2 51 6 (by unfold fA; omega)]; exact gB.1, by rw [fI_i, if_neg (by omega), a1.2.2.2 51 7 (by unfold fA; omega)]; exact gB.2.1, fun u hu => by
          rw [fI_i]
          by_cases q : u = t
          · rw [if_pos ⟨rfl, q⟩, q, show m - 2 ^ i + 2 ^ i = m by omega]
            exact ⟨m, m1, rfl, m3⟩
          · rw [if_neg (by omega), a1.2.2.2 52 u (by unfold fA; omega), s52u u q]
            exact hg.2.2 u hu⟩ (fun u hu => by rw [fI_i, if_neg (by omega)]; exact s1 u hu) (fun u hu _ hne => by
          obtain ⟨j1, j2, j3⟩ := s2 u hu trivial hne
          refine ⟨j1, ?_, by rw [fI_i, if_neg (by omega)]; exact j3⟩
          unfold eMi at j2
          simp only [Bool.and_eq_true] at j2
          exact j2.1) oa' (fun j hj2 => by
          rw [fI_i, if_neg (by omega), a1.2.2.2 56 j (by unfold fA; omega)]
          by_cases q : j = i
          · rw [q, s56i]
            refine Or.inr ⟨rfl, fun t' h1 _ => ?_⟩
            by_cases w : t' = t
            · rw [w]; exact nz
            · exact oth t' h1 w
          · rw [s56 j (by omega)]
            exact hs j (by omega))
      refine ⟨fun _ => ⟨vi, vi, fun z => absurd z wi, fun _ => ⟨⟨vt, vt, vt, g1, fun _ => ⟨vt, vt⟩, fun z => absurd z n1⟩, k1⟩⟩, ?_, ?_, k4⟩
      · exact ((fB0.tr (a1.mo (fun k j z => by unfold fA at z; unfold fD1; omega) (fun _ _ z => z))).i (by unfold fD1; omega)).tr k2
      · rw [k3, fI_i, if_neg (by omega), a1.2.2.2 51 8 (by unfold fA; omega)]; exact s58
end
