def fM6 (k j : Nat) : Prop := (k = 0 ∧ j = 53) ∨ k = 26 ∨ k = 27
def MlN (P : Nat → Bool) (hc : Nat → Nat → Bool) (e : Nat → Nat) (K q : Nat) (a mb : Nat → Nat) (ν : fm_T) : Prop :=
  q ≤ 36 ∧ fI ν 0 53 = nI q ∧ (∀ i, i < q → fI ν 26 i = nI (a i) ∧ fI ν 27 i = nI (mb i) ∧ a i < 240 ∧ P (a i) = true ∧ mb i < 2 ^ K ∧ ∀ k, k < K → (mb i).testBit k = hc (e k) (a i)) ∧ ∀ i j, i < j → j < q → a i < a j
section
variable {σ : sg_T} {μ ν : fm_T}
theorem cl_w2 (w : WR σ (blk μ 8) (fL μ 25) (fI ν 2) (fL ν 5)) {k : Nat} (hk : k < σ 0 2) : fI ν 2 (140 + k) = nI (σ 23 k) ∧ σ 23 k < σ 0 0 := ⟨w.2.1.2.2.2.2.2.2.1 k hk, w.2.2.1.2.2.2.2.2.2.1 k hk⟩
theorem a107 (w : WR σ (blk μ 8) (fL μ 25) (fI ν 2) (fL ν 5)) {c p q : Nat} (hc : c < 240) (hp : p < 36) (hq : q ≤ 36) : ∀ (d k f v : Nat) (ν' : fm_T), k + d = σ 0 2 → d < f → frL fM6 fN ν ν' → fI ν' 0 53 = nI q → fI ν' 27 p = nI v → v < 2 ^ k → (∀ j, j < k → v.testBit j = hcB σ (σ 23 j) c) →
    qX12_addCause_h107 f ν' (nI c) (nI p) (nI k) ∧ ∃ v', v' < 2 ^ σ 0 2 ∧ (∀ j, j < σ 0 2 → v'.testBit j = hcB σ (σ 23 j) c) ∧ frL (fun k j => (k = 0 ∧ j = 53) ∨ (k = 27 ∧ j = p)) fN ν' (mX12_addCause_h107 f ν' (nI c) (nI p) (nI k)) ∧ fI (mX12_addCause_h107 f ν' (nI c) (nI p) (nI k)) 0 53 = nI (q + 1) ∧ fI (mX12_addCause_h107 f ν' (nI c) (nI p) (nI k)) 27 p = nI v' := by
  have hK := (wr_K w).2.2
  have wf : ∀ M, frL fM6 fN ν M → WR σ (blk μ 8) (fL μ 25) (fI M 2) (fL M 5) := fun M h => WR_fm w h (fun k j z => by unfold fM6 at z; omega) (fun k j z => by unfold fN at z; exact z.elim)
  have cp : p < 2 ^ 31 := by omega
  intro d
  induction d with
  | zero =>
    intro k f v ν' h1 h2 fr h53 h27 hv hb
    obtain ⟨f, rfl⟩ : ∃ m, f = m + 1 := ⟨f - 1, by omega⟩
    obtain rfl : k = σ 0 2 := by omega
    have e1 : fI ν' 2 133 ≤ nI (σ 0 2) := by rw [(wr_K (wf ν' fr)).2.1]; exact (nI_leI (by omega) (by omega)).mpr (by omega)
    simp only [mX12_addCause_h107, qX12_addCause_h107, if_pos e1, h53, nI_1]
    refine ⟨fun z => absurd e1 z, v, hv, hb, (frL.rf _ _ _).i (Or.inl ⟨rfl, rfl⟩), ?_, ?_⟩
    · rw [fI_i, if_pos ⟨rfl, rfl⟩]
    · rw [fI_i, if_neg (by omega)]; exact h27
  | succ d ih =>
    intro k f v ν' h1 h2 fr h53 h27 hv hb
    obtain ⟨f, rfl⟩ : ∃ m, f = m + 1 := ⟨f - 1, by omega⟩
    have e1 : ¬ fI ν' 2 133 ≤ nI k := by rw [(wr_K (wf ν' fr)).2.1]; exact fun z => by have := (nI_leI (by omega) (by omega)).mp z; omega
    have ix : (140 : Int32) + nI k = nI (140 + k) := by rw [show (140 : Int32) = nI 140 from rfl, nI_add]
    have cx : 140 + k < 2 ^ 31 := by omega
    obtain ⟨t1, t2⟩ := cl_w2 (wf ν' fr) (k := k) (by omega)
    obtain ⟨b1, b2⟩ := hb_ok (wf ν' fr) t2 hc
    have va : vp_in (nI (140 + k)) 2560 := vp_in_nI (by omega) (by decide)
    have vpp : vp_in (nI p) 36 := vp_in_nI hp (by decide)
    simp only [mX12_addCause_h107, qX12_addCause_h107, if_neg e1, ix, nI_clamp cx, t1, b1, nI_clamp cp, h27, sh_12 k (by omega), or_i, or_p hv, nI_1]
    by_cases q1 : hcB σ (σ 23 k) c = true
    · have n1 : ¬ (1 : Int32) = 0 := by decide
      simp only [if_pos q1, if_neg n1]
      obtain ⟨i1, v', i2, i3, i4, i5, i6⟩ := ih (k + 1) f (2 ^ k + v) (fm_i ν' 27 p (nI (2 ^ k + v))) (by omega) (by omega) (fr.i (Or.inr (Or.inr rfl))) (by rw [fI_i, if_neg (by omega)]; exact h53) (by rw [fI_i, if_pos ⟨rfl, rfl⟩]) (by rw [Nat.pow_succ]; omega) (fun j hj => by
        by_cases z : j = k
        · rw [z, tb_c hv, q1]
        · rw [Nat.testBit_two_pow_add_gt (by omega)]; exact hb j (by omega))
      exact ⟨fun _ => ⟨va, b2, fun z => absurd z n1, fun _ => ⟨vpp, vpp, i1⟩⟩, v', i2, i3, ((frL.rf _ _ ν').i (Or.inr ⟨rfl, rfl⟩)).tr i4, i5, i6⟩
    · simp only [if_neg q1, if_true]
      obtain ⟨i1, v', i2, i3, i4, i5, i6⟩ := ih (k + 1) f v ν' (by omega) (by omega) fr h53 h27 (by rw [Nat.pow_succ]; omega) (fun j hj => by
        by_cases z : j = k
        · rw [z, tb_o hv (Nat.le_refl _)]; simpa using q1
        · exact hb j (by omega))
      exact ⟨fun _ => ⟨va, b2, fun _ => i1, fun z => absurd trivial z⟩, v', i2, i3, i4, i5, i6⟩
theorem a41 {c q : Nat} {a mb : Nat → Nat} {ν0 : fm_T} (hc : c < 240) (hq : q < 36) (ha : ∀ i, i < q → a i < 240) (as : ∀ i j, i < j → j < q → a i < a j) : ∀ (p f : Nat) (ν' : fm_T), p ≤ q → p < f → frL fM6 fN ν0 ν' → fI ν' 0 53 = nI q → (∀ i, i < p → fI ν' 26 i = nI (a i) ∧ fI ν' 27 i = nI (mb i)) → (∀ i, p < i → i ≤ q → fI ν' 26 i = nI (a (i - 1)) ∧ fI ν' 27 i = nI (mb (i - 1))) → (∀ i, p ≤ i → i < q → c < a i) →
    ∃ p' ν2, p' ≤ q ∧ frL fM6 fN ν0 ν2 ∧ fI ν2 0 53 = nI q ∧ (∀ i, i < p' → fI ν2 26 i = nI (a i) ∧ fI ν2 27 i = nI (mb i)) ∧ (∀ i, p' < i → i ≤ q → fI ν2 26 i = nI (a (i - 1)) ∧ fI ν2 27 i = nI (mb (i - 1))) ∧ (∀ i, p' ≤ i → i < q → c < a i) ∧ (∀ i, i < p' → a i ≤ c) ∧ fI ν2 26 p' = nI c ∧ fI ν2 27 p' = nI 0 ∧ mX12_addCause_h41 f ν' (nI c) (nI p) = mX12_addCause_h107 fF ν2 (nI c) (nI p') 0 ∧ (qX12_addCause_h107 fF ν2 (nI c) (nI p') 0 → qX12_addCause_h41 f ν' (nI c) (nI p)) := by
  have fin : ∀ (p : Nat) (ν' : fm_T), p ≤ q → frL fM6 fN ν0 ν' → fI ν' 0 53 = nI q → (∀ i, i < p → fI ν' 26 i = nI (a i) ∧ fI ν' 27 i = nI (mb i)) → (∀ i, p < i → i ≤ q → fI ν' 26 i = nI (a (i - 1)) ∧ fI ν' 27 i = nI (mb (i - 1))) → frL fM6 fN ν0 (fm_i (fm_i ν' 26 p (nI c)) 27 p 0) ∧ fI (fm_i (fm_i ν' 26 p (nI c)) 27 p 0) 0 53 = nI q ∧ (∀ i, i < p → fI (fm_i (fm_i ν' 26 p (nI c)) 27 p 0) 26 i = nI (a i) ∧ fI (fm_i (fm_i ν' 26 p (nI c)) 27 p 0) 27 i = nI (mb i)) ∧ (∀ i, p < i → i ≤ q → fI (fm_i (fm_i ν' 26 p (nI c)) 27 p 0) 26 i = nI (a (i - 1)) ∧ fI (fm_i (fm_i ν' 26 p (nI c)) 27 p 0) 27 i = nI (mb (i - 1))) ∧ fI (fm_i (fm_i ν' 26 p (nI c)) 27 p 0) 26 p = nI c ∧ fI (fm_i (fm_i ν' 26 p (nI c)) 27 p 0) 27 p = nI 0 := by
    intro p ν' hp fr h53 l1 l2
    refine ⟨(fr.i (Or.inr (Or.inl rfl))).i (Or.inr (Or.inr rfl)), ?_, fun i hi => ?_, fun i h1 h2 => ?_, ?_, ?_⟩
    · rw [fI_i, if_neg (by omega), fI_i, if_neg (by omega)]; exact h53
    · rw [fI_i, if_neg (by omega), fI_i, if_neg (by omega), fI_i, if_neg (by omega), fI_i, if_neg (by omega)]; exact l1 i hi
    · rw [fI_i, if_neg (by omega), fI_i, if_neg (by omega), fI_i, if_neg (by omega), fI_i, if_neg (by omega)]; exact l2 i h1 h2
    · rw [fI_i, if_neg (by omega), fI_i, if_pos ⟨rfl, rfl⟩]
    · rw [fI_i, if_pos ⟨rfl, rfl⟩]; rfl
  intro p
  induction p with
  | zero =>
    intro f ν' h1 h2 fr h53 l1 l2 l3
    obtain ⟨f, rfl⟩ : ∃ m, f = m + 1 := ⟨f - 1, by omega⟩
    have e1 : nI 0 ≤ 0 := by decide
    have v0 : vp_in (nI 0) 36 := vp_in_nI (by omega) (by decide)
    obtain ⟨g1, g2, g3, g4, g5, g6⟩ := fin 0 ν' h1 fr h53 l1 l2
    have c0 : 0 < 2 ^ 31 := by omega
    simp only [mX12_addCause_h41, qX12_addCause_h41, if_pos e1, nI_clamp c0]
    exact ⟨0, _, h1, g1, g2, g3, g4, l3, fun i hi => absurd hi (by omega), g5, g6, rfl, fun q => ⟨fun _ => ⟨v0, v0, q⟩, fun z => absurd e1 z⟩⟩
  | succ p ih =>
    intro f ν' h1 h2 fr h53 l1 l2 l3
    obtain ⟨f, rfl⟩ : ∃ m, f = m + 1 := ⟨f - 1, by omega⟩
    have e1 : ¬ nI (p + 1) ≤ 0 := fun z => by have := (nI_leI (b := 0) (by omega) (by omega)).mp z; omega
    have e2 : nI (p + 1) - 1 = nI p := nI_sub (a := p + 1) (b := 1) (by omega)
    have e3 : nI (p + 1) + -1 = nI p := by rw [← e2, Int32.sub_eq_add_neg]
    have v0 : vp_in (nI (p + 1)) 36 := vp_in_nI (by omega) (by decide)
    have v1 : vp_in (nI p) 36 := vp_in_nI (by omega) (by decide)
    have c0 : p + 1 < 2 ^ 31 := by omega
    have c1 : p < 2 ^ 31 := by omega
    obtain ⟨r1, r2⟩ := l1 p (by omega)
    have le : nI (a p) ≤ nI c ↔ a p ≤ c := nI_leI (by have := ha p (by omega); omega) (by omega)
    simp only [mX12_addCause_h41, qX12_addCause_h41, if_neg e1, e2, e3, nI_clamp c0, nI_clamp c1, r1, r2]
    by_cases q1 : a p ≤ c
    · obtain ⟨g1, g2, g3, g4, g5, g6⟩ := fin (p + 1) ν' h1 fr h53 l1 l2
      simp only [if_pos (le.mpr q1)]
      exact ⟨p + 1, _, h1, g1, g2, g3, g4, l3, fun i hi => by
        by_cases z : i = p
        · rw [z]; exact q1
        · have := as i p (by omega) (by omega); omega, g5, g6, rfl, fun q => ⟨fun z => absurd z e1, fun _ => ⟨v1, fun _ => ⟨v0, v0, q⟩, fun z => absurd (le.mpr q1) z⟩⟩⟩
    · simp only [if_neg (fun z => q1 (le.mp z))]
      obtain ⟨p', ν2, k1, k2, k3, k4, k5, k6, k7, k8, k9, k10, k11⟩ := ih f (fm_i (fm_i ν' 26 (p + 1) (nI (a p))) 27 (p + 1) (nI (mb p))) (by omega) (by omega) ((fr.i (Or.inr (Or.inl rfl))).i (Or.inr (Or.inr rfl))) (by rw [fI_i, if_neg (by omega), fI_i, if_neg (by omega)]; exact h53) (fun i hi => by
        rw [fI_i, if_neg (by omega), fI_i, if_neg (by omega), fI_i, if_neg (by omega), fI_i, if_neg (by omega)]; exact l1 i (by omega)) (fun i h1 h2 => by
        by_cases z : i = p + 1
        · rw [z, fI_i, if_neg (by omega), fI_i, if_pos ⟨rfl, rfl⟩, fI_i, if_pos ⟨rfl, rfl⟩]; exact ⟨rfl, rfl⟩
        · rw [fI_i, if_neg (by omega), fI_i, if_neg (by omega), fI_i, if_neg (by omega), fI_i, if_neg (by omega)]; exact l2 i (by omega) h2) (fun i h1 h2 => by
        by_cases z : i = p
        · rw [z]; omega
        · exact l3 i (by omega) h2)
      exact ⟨p', ν2, k1, k2, k3, k4, k5, k6, k7, k8, k9, k10, fun q => ⟨fun z => absurd z e1, fun _ => ⟨v1, fun z => absurd (le.mp z) q1, fun _ => ⟨v1, v0, v1, v0, k11 q⟩⟩⟩⟩
theorem a11 {c q : Nat} {a : Nat → Nat} {ν' : fm_T} (hc : c < 240) (hq : q ≤ 36) (h53 : fI ν' 0 53 = nI q) (ha : ∀ i, i < q → fI ν' 26 i = nI (a i) ∧ a i < 240) : ∀ (d i f : Nat), i + d = q → d < f →
    ((∃ j, j < q ∧ a j = c) ∧ mX12_addCause_h11 f ν' (nI c) (nI i) = ν' ∧ qX12_addCause_h11 f ν' (nI c) (nI i)) ∨ ((∀ j, i ≤ j → j < q → a j ≠ c) ∧ mX12_addCause_h11 f ν' (nI c) (nI i) = mX12_addCause_h41 fF ν' (nI c) (nI q) ∧ (qX12_addCause_h41 fF ν' (nI c) (nI q) → qX12_addCause_h11 f ν' (nI c) (nI i))) := by
  intro d
  induction d with
  | zero =>
    intro i f h1 h2
    obtain ⟨f, rfl⟩ : ∃ m, f = m + 1 := ⟨f - 1, by omega⟩
    have e1 : nI q ≤ nI i := (nI_leI (by omega) (by omega)).mpr (by omega)
    simp only [mX12_addCause_h11, qX12_addCause_h11, h53, if_pos e1]
    exact Or.inr ⟨fun j h1 h2 => absurd h2 (by omega), trivial, fun q => ⟨fun _ => q, fun z => absurd e1 z⟩⟩
  | succ d ih =>
    intro i f h1 h2
    obtain ⟨f, rfl⟩ : ∃ m, f = m + 1 := ⟨f - 1, by omega⟩
    have e1 : ¬ nI q ≤ nI i := fun z => by have := (nI_leI (by omega) (by omega)).mp z; omega
    obtain ⟨r1, r2⟩ := ha i (by omega)
    have ci : i < 2 ^ 31 := by omega
    have v : vp_in (nI i) 36 := vp_in_nI (by omega) (by decide)
    have eq : nI (a i) = nI c ↔ a i = c := nI_eq (by omega) (by omega)
    simp only [mX12_addCause_h11, qX12_addCause_h11, h53, if_neg e1, nI_clamp ci, r1, eq, nI_1]
    by_cases q1 : a i = c
    · simp only [if_pos q1]
      exact Or.inl ⟨⟨i, by omega, q1⟩, trivial, fun z => absurd z e1, fun _ => ⟨v, fun z => absurd q1 z⟩⟩
    · simp only [if_neg q1]
      rcases ih (i + 1) f (by omega) (by omega) with ⟨k1, k2, k3⟩ | ⟨k1, k2, k3⟩
      · exact Or.inl ⟨k1, k2, fun z => absurd z e1, fun _ => ⟨v, fun _ => k3⟩⟩
      · exact Or.inr ⟨fun j j1 j2 => by
          by_cases z : j = i
          · rw [z]; exact q1
          · exact k1 j (by omega) j2, k2, fun q => ⟨fun z => absurd z e1, fun _ => ⟨v, fun _ => k3 q⟩⟩⟩
theorem pc_e (w : WR σ (blk μ 8) (fL μ 25) (fI ν 2) (fL ν 5)) {ν' : fm_T} (w' : WR σ (blk μ 8) (fL μ 25) (fI ν' 2) (fL ν' 5)) (c : Nat) : pcB ν' c = pcB ν c := by
  have h1 := (pc_m w c).2.2.1
  have h2 := (pc_m w' c).2.2.1
  cases q1 : pcB ν' c <;> cases q2 : pcB ν c
  · rfl
  · exact absurd (h1.mp (h2.mpr q1)) (by rw [q2]; decide)
  · exact absurd (h2.mp (h1.mpr q2)) (by rw [q1]; decide)
  · rfl
theorem ac_m (w : WR σ (blk μ 8) (fL μ 25) (fI ν 2) (fL ν 5)) {c q : Nat} {a mb : Nat → Nat} {ν' : fm_T} (fr : frL fM6 fN ν ν') (ml : MlN (pcB ν) (hcB σ) (σ 23) (σ 0 2) q a mb ν') (hc : c < 240) (hq : q < 36) :
    pX12_addCause ν' (nI c) ∧ frL fM6 fN ν (uX12_addCause ν' (nI c)) ∧ ∃ q' a' mb', q' ≤ q + 1 ∧ MlN (pcB ν) (hcB σ) (σ 23) (σ 0 2) q' a' mb' (uX12_addCause ν' (nI c)) ∧ (∀ i, i < q → ∃ j, j < q' ∧ a' j = a i) ∧ (pcB ν c = true → ∃ j, j < q' ∧ a' j = c) := by
  have w' : WR σ (blk μ 8) (fL μ 25) (fI ν' 2) (fL ν' 5) := WR_fm w fr (fun k j z => by unfold fM6 at z; omega) (fun k j z => by unfold fN at z; exact z.elim)
  obtain ⟨m1, m2, -⟩ := pc_m w' c
  rw [pc_e w w'] at m1
  have hK := (wr_K w).2.2
  obtain ⟨l0, l1, l2, l3⟩ := ml
  unfold pX12_addCause uX12_addCause
  by_cases hp : pcB ν c = true
  · have hp' : ¬ gX12_isPossible ν' (nI c) = 0 := fun z => by rw [m1.mp z] at hp; exact absurd hp (by decide)
    simp only [if_neg hp']
    rcases a11 hc l0 l1 (fun i hi => ⟨(l2 i hi).1, (l2 i hi).2.2.1⟩) q 0 fF (by omega) (fF_gt (by omega)) with ⟨⟨j, j1, j2⟩, k2, k3⟩ | ⟨k1, k2, k3⟩
    · rw [show nI 0 = 0 from rfl] at k2 k3
      rw [k2]
      exact ⟨⟨m2, fun _ => k3⟩, fr, q, a, mb, by omega, ⟨l0, l1, l2, l3⟩, fun i hi => ⟨i, hi, rfl⟩, fun _ => ⟨j, j1, j2⟩⟩
    · rw [show nI 0 = 0 from rfl] at k2 k3
      obtain ⟨p, ν2, i1, i2, i3, i4, i5, i6, i7, i8, i9, i10, i11⟩ := a41 (mb := mb) (ν0 := ν) hc hq (fun i hi => (l2 i hi).2.2.1) l3 q fF ν' (Nat.le_refl _) (fF_gt (by omega)) fr l1 (fun i hi => ⟨(l2 i hi).1, (l2 i hi).2.1⟩) (fun i h1 h2 => absurd h2 (by omega)) (fun i h1 h2 => absurd h2 (by omega))
      obtain ⟨g1, v, g2, g3, g4, g5, g6⟩ := a107 w hc (p := p) (by omega) l0 (σ 0 2) 0 fF 0 ν2 (by omega) (fF_gt (by omega)) i2 i3 i9 (by omega) (fun j hj => absurd hj (by omega))
      rw [show nI 0 = 0 from rfl] at g1 g4 g5 g6
      rw [k2, i10]
      refine ⟨⟨m2, fun _ => k3 (i11 g1)⟩, i2.tr (g4.mo (fun k j z => by unfold fM6; omega) (fun _ _ z => z)), q + 1, fun i => if i < p then a i else if i = p then c else a (i - 1), fun i => if i < p then mb i else if i = p then v else mb (i - 1), Nat.le_refl _, ⟨by omega, g5, fun i hi => ?_, fun i j h1 h2 => ?_⟩, fun i hi => ?_, fun _ => ⟨p, by omega, by simp only [if_neg (Nat.lt_irrefl p), if_true]⟩⟩
      · have ne : ∀ i, fI (mX12_addCause_h107 fF ν2 (nI c) (nI p) 0) 26 i = fI ν2 26 i := fun i => g4.2.2.2 26 i (by omega)
        rw [ne]
        by_cases z1 : i < p
        · have n2 : fI (mX12_addCause_h107 fF ν2 (nI c) (nI p) 0) 27 i = fI ν2 27 i := g4.2.2.2 27 i (by omega)
          simp only [if_pos z1]
          rw [n2]
          obtain ⟨x1, x2⟩ := i4 i z1
          exact ⟨x1, x2, (l2 i (by omega)).2.2⟩
        · by_cases z2 : i = p
          · subst z2
            simp only [if_neg z1, if_true]
            exact ⟨i8, g6, hc, hp, g2, g3⟩
          · have n2 : fI (mX12_addCause_h107 fF ν2 (nI c) (nI p) 0) 27 i = fI ν2 27 i := g4.2.2.2 27 i (by omega)
            simp only [if_neg z1, if_neg z2]
            rw [n2]
            obtain ⟨x1, x2⟩ := i5 i (by omega) (by omega)
            exact ⟨x1, x2, (l2 (i - 1) (by omega)).2.2⟩
      · by_cases z1 : j < p
        · simp only [if_pos z1, if_pos (by omega : i < p)]
          exact l3 i j h1 (by omega)
        · by_cases z2 : j = p
          · simp only [if_neg z1, if_pos z2, if_pos (by omega : i < p)]
            have h3 := i7 i (by omega)
            have h4 := k1 i (by omega) (by omega)
            omega
          · simp only [if_neg z1, if_neg z2]
            have h5 := i6 (j - 1) (by omega) (by omega)
            by_cases z3 : i < p
            · simp only [if_pos z3]
              exact l3 i (j - 1) (by omega) (by omega)
            · by_cases z4 : i = p
              · simp only [if_neg z3, if_pos z4]
                exact h5
              · simp only [if_neg z3, if_neg z4]
                exact l3 (i - 1) (j - 1) (by omega) (by omega)
      · by_cases z1 : i < p
        · exact ⟨i, by omega, by simp only [if_pos z1]⟩
        · exact ⟨i + 1, by omega, by simp only [if_neg (by omega : ¬ i + 1 < p), if_neg (by omega : ¬ i + 1 = p)]; rfl⟩
  · have hp' : gX12_isPossible ν' (nI c) = 0 := m1.mpr (by simpa using hp)
    simp only [if_pos hp']
    exact ⟨⟨m2, fun z => absurd hp' z⟩, fr, q, a, mb, by omega, ⟨l0, l1, l2, l3⟩, fun i hi => ⟨i, hi, rfl⟩, fun z => absurd z hp⟩
theorem mc_lp (w : WR σ (blk μ 8) (fL μ 25) (fI ν 2) (fL ν 5)) : ∀ (d k f q : Nat) (a mb : Nat → Nat) (ν' : fm_T), k + d = σ 0 2 → d < f → frL fM6 fN ν ν' → q ≤ 3 * k → MlN (pcB ν) (hcB σ) (σ 23) (σ 0 2) q a mb ν' → (∀ j c, j < k → c < 240 → hcB σ (σ 23 j) c = true → pcB ν c = true → ∃ i, i < q ∧ a i = c) →
    ∃ ν2 q' a' mb', frL fM6 fN ν ν2 ∧ MlN (pcB ν) (hcB σ) (σ 23) (σ 0 2) q' a' mb' ν2 ∧ (∀ c, c < 240 → pcB ν c = true → ∃ i, i < q' ∧ a' i = c) ∧ lX12_causes_h16 f ν' (nI k) = lX12_causes_h98 fF ν2 (nI (2 ^ σ 0 2 - 1)) 0 ∧ mX12_causes_h16 f ν' (nI k) = mX12_causes_h98 fF ν2 (nI (2 ^ σ 0 2 - 1)) 0 ∧ (qX12_causes_h98 fF ν2 (nI (2 ^ σ 0 2 - 1)) 0 → qX12_causes_h16 f ν' (nI k)) := by
  have hK := (wr_K w).2.2
  have wf : ∀ M, frL fM6 fN ν M → WR σ (blk μ 8) (fL μ 25) (fI M 2) (fL M 5) := fun M h => WR_fm w h (fun k j z => by unfold fM6 at z; omega) (fun k j z => by unfold fN at z; exact z.elim)
  intro d
  induction d with
  | zero =>
    intro k f q a mb ν' h1 h2 fr hq ml hcv
    obtain ⟨f, rfl⟩ : ∃ m, f = m + 1 := ⟨f - 1, by omega⟩
    obtain rfl : k = σ 0 2 := by omega
    have rk := (wr_K (wf ν' fr)).2.1
    have e1 : nI (σ 0 2) ≤ nI (σ 0 2) := (nI_leI (by omega) (by omega)).mpr (by omega)
    simp only [lX12_causes_h16, mX12_causes_h16, qX12_causes_h16, rk, if_pos e1, sh_m1 (σ 0 2) hK]
    refine ⟨ν', q, a, mb, fr, ml, fun c hcl hp => ?_, rfl, rfl, fun q => ⟨fun _ => q, fun z => absurd e1 z⟩⟩
    obtain ⟨t, t1, t2, t3⟩ := pc_w w hcl hp
    rcases (w.2.2.1.2.1 t t1).2.1 with ⟨-, j, j1, j2⟩ | ⟨z, -⟩
    · exact hcv j c j1 hcl (by rw [j2]; exact t2) hp
    · omega
  | succ d ih =>
    intro k f q a mb ν' h1 h2 fr hq ml hcv
    obtain ⟨f, rfl⟩ : ∃ m, f = m + 1 := ⟨f - 1, by omega⟩
    have e1 : ¬ fI ν' 2 133 ≤ nI k := by rw [(wr_K (wf ν' fr)).2.1]; exact fun z => by have := (nI_leI (by omega) (by omega)).mp z; omega
    have ix : (140 : Int32) + nI k = nI (140 + k) := by rw [show (140 : Int32) = nI 140 from rfl, nI_add]
    have cx : 140 + k < 2 ^ 31 := by omega
    obtain ⟨t1, t2⟩ := cl_w2 (wf ν' fr) (k := k) (by omega)
    have va : vp_in (nI (140 + k)) 2560 := vp_in_nI (by omega) (by decide)
    obtain ⟨⟨q0, -, -, -, -, -, q5, -, -, -, -, q9, -⟩, -⟩ := w.2.2.1.2.1 (σ 23 k) t2
    have q7 := (wr_hw w).1.2.2.1
    have s1 : (100 : Int32) + nI (σ 1 (14 * σ 23 k + 0)) = nI (100 + σ 1 (14 * σ 23 k + 0)) := by rw [show (100 : Int32) = nI 100 from rfl, nI_add]
    have s2 : (200 : Int32) + nI (σ 1 (14 * σ 23 k + 5)) = nI (200 + σ 1 (14 * σ 23 k + 5)) := by rw [show (200 : Int32) = nI 200 from rfl, nI_add]
    obtain ⟨o1, o2⟩ := of_m (wf ν' fr) (j := 9) t2 (by omega)
    have o1 : gX12_of ν' (nI (σ 23 k)) 9 = nI (σ 1 (14 * σ 23 k + 9)) := o1
    have o2 : pX12_of ν' (nI (σ 23 k)) 9 := o2
    obtain ⟨p0, f0, q', a', mb', x1, x2, x3, x4⟩ := ac_m w fr ml (c := σ 1 (14 * σ 23 k + 9)) (by omega) (by omega)
    simp only [lX12_causes_h16, mX12_causes_h16, qX12_causes_h16, if_neg e1, ix, nI_clamp cx, t1, o1, nI_1]
    generalize uX12_addCause ν' (nI (σ 1 (14 * σ 23 k + 9))) = U0 at f0 x2 ⊢
    obtain ⟨o3, o4⟩ := of_m (wf U0 f0) (j := 0) t2 (by omega)
    have o3 : gX12_of U0 (nI (σ 23 k)) 0 = nI (σ 1 (14 * σ 23 k + 0)) := o3
    have o4 : pX12_of U0 (nI (σ 23 k)) 0 := o4
    obtain ⟨p1, f1, q'', a'', mb'', y1, y2, y3, y4⟩ := ac_m w f0 x2 (c := 100 + σ 1 (14 * σ 23 k + 0)) (by omega) (by omega)
    simp only [o3, s1]
    generalize uX12_addCause U0 (nI (100 + σ 1 (14 * σ 23 k + 0))) = U1 at f1 y2 ⊢
    obtain ⟨o5, o6⟩ := of_m (wf U1 f1) (j := 5) t2 (by omega)
    have o5 : gX12_of U1 (nI (σ 23 k)) 5 = nI (σ 1 (14 * σ 23 k + 5)) := o5
    have o6 : pX12_of U1 (nI (σ 23 k)) 5 := o6
    obtain ⟨p2, f2, q3, a3, mb3, z1, z2, z3, z4⟩ := ac_m w f1 y2 (c := 200 + σ 1 (14 * σ 23 k + 5)) (by omega) (by omega)
    simp only [o5, s2]
    generalize uX12_addCause U1 (nI (200 + σ 1 (14 * σ 23 k + 5))) = U2 at f2 z2 ⊢
    have tr : ∀ c, (∃ i, i < q ∧ a i = c) → ∃ i, i < q3 ∧ a3 i = c := fun c ⟨i, i1, i2⟩ => by
      obtain ⟨j, j1, j2⟩ := x3 i i1
      obtain ⟨l, l1, l2⟩ := y3 j j1
      obtain ⟨m, m1, m2⟩ := z3 l l1
      exact ⟨m, m1, by rw [m2, l2, j2, i2]⟩
    obtain ⟨ν2, q4, a4, mb4, k1, k2, k3, k4, k5, k6⟩ := ih (k + 1) f q3 a3 mb3 U2 (by omega) (by omega) f2 (by omega) z2 (fun j c hj hcl hh hp => by
      by_cases z : j = k
      · rw [z] at hh
        obtain ⟨c0, c1⟩ := (hc_3 w t2 hcl).mp hh
        rcases c1 with c1 | c1 | c1
        · rw [c1] at hp ⊢
          obtain ⟨j, j1, j2⟩ := x4 hp
          obtain ⟨l, l1, l2⟩ := y3 j j1
          obtain ⟨m, m1, m2⟩ := z3 l l1
          exact ⟨m, m1, by rw [m2, l2, j2]⟩
        · rw [c1] at hp ⊢
          obtain ⟨l, l1, l2⟩ := y4 hp
          obtain ⟨m, m1, m2⟩ := z3 l l1
          exact ⟨m, m1, by rw [m2, l2]⟩
        · rw [c1] at hp ⊢
          exact z4 hp
      · exact tr c (hcv j c (by omega) hcl hh hp))
    exact ⟨ν2, q4, a4, mb4, k1, k2, k3, k4, k5, fun q => ⟨fun z => absurd z e1, fun _ => ⟨va, o2, p0, o4, p1, o6, p2, k6 q⟩⟩⟩
end
