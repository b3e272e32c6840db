def f28 (d k j : Nat) : Prop := k = 28 ∧ d ≤ j
def f289 (k j : Nat) : Prop := k = 28 ∨ k = 29 ∨ (k = 0 ∧ j = 54)
section
variable {P : Nat → Bool} {hc : Nat → Nat → Bool} {e : Nat → Nat} {K q : Nat} {a mb : Nat → Nat}
theorem ML_f {ν ν' : fm_T} {A : Nat → Nat → Prop} (h : MlN P hc e K q a mb ν) (f : frL A fN ν ν') (hA : ∀ k j, A k j → f289 k j) : MlN P hc e K q a mb ν' := by
  obtain ⟨h0, h1, h2, h3⟩ := h
  refine ⟨h0, ?_, fun i hi => ?_, h3⟩
  · rw [f.2.2.2 0 53 (fun z => by have := hA _ _ z; unfold f289 at this; omega)]; exact h1
  · rw [f.2.2.2 26 i (fun z => by have := hA _ _ z; unfold f289 at this; omega), f.2.2.2 27 i (fun z => by have := hA _ _ z; unfold f289 at this; omega)]; exact h2 i hi
def HfN (P : Nat → Bool) (hc : Nat → Nat → Bool) (e : Nat → Nat) (K q : Nat) (a mb : Nat → Nat) (f r : Nat) : Prop := ∀ (d fo m : Nat) (ν : fm_T), MlN P hc e K q a mb ν → d + r ≤ 12 → m < 2 ^ K → fo ≤ q →
  (¬ CV P hc r (LsN e K m) → (guX12_chooses f 0 ν (nI d) (nI fo) (nI m) (nI r)).1 = 0 ∧ frL (f28 d) fN ν (guX12_chooses f 0 ν (nI d) (nI fo) (nI m) (nI r)).2 ∧ puX12_chooses f 0 ν (nI d) (nI fo) (nI m) (nI r)) ∧
  (∀ c0, (∀ i, i < q → (fo ≤ i ↔ c0 ≤ a i)) → Mn P hc r (LsN e K m) → Ic P hc r (LsN e K m) c0 → (guX12_chooses f 0 ν (nI d) (nI fo) (nI m) (nI r)).1 = 1 ∧ puX12_chooses f 0 ν (nI d) (nI fo) (nI m) (nI r) ∧ ∃ qf, GR P hc r (LsN e K m) c0 qf ∧ frL f289 fN ν (guX12_chooses f 0 ν (nI d) (nI fo) (nI m) (nI r)).2 ∧ fI (guX12_chooses f 0 ν (nI d) (nI fo) (nI m) (nI r)).2 0 54 = nI (d + r) ∧ (∀ i, i < d → fI (guX12_chooses f 0 ν (nI d) (nI fo) (nI m) (nI r)).2 29 i = fI ν 28 i) ∧ ∀ i, i < r → fI (guX12_chooses f 0 ν (nI d) (nI fo) (nI m) (nI r)).2 29 (d + i) = nI (qf i))
theorem c12 (r : Nat → fm_T → Int32 → Int32 → Int32 → Int32 → Int32 × fm_T) (rp : Nat → fm_T → Int32 → Int32 → Int32 → Int32 → Prop) {n : Nat} (hn : n ≤ 12) (x2 x3 x4 : Int32) : ∀ (d i f : Nat) (ν : fm_T), i + d = n → d < f → lX12_chooses_h12 r f ν (nI n) x2 x3 x4 (nI i) = 1 ∧ qX12_chooses_h12 r rp f ν (nI n) x2 x3 x4 (nI i) ∧ frL (fun k _ => k = 29) fN ν (mX12_chooses_h12 r f ν (nI n) x2 x3 x4 (nI i)) ∧ ∀ j, j < n → fI (mX12_chooses_h12 r f ν (nI n) x2 x3 x4 (nI i)) 29 j = if i ≤ j then fI ν 28 j else fI ν 29 j := by
  intro d
  induction d with
  | zero =>
    intro i f ν h1 h2
    obtain ⟨f, rfl⟩ : ∃ m, f = m + 1 := ⟨f - 1, by omega⟩
    have e1 : nI n ≤ nI i := (nI_leI (by omega) (by omega)).mpr (by omega)
    simp only [lX12_chooses_h12, mX12_chooses_h12, qX12_chooses_h12, if_pos e1]
    exact ⟨trivial, fun z => absurd e1 z, frL.rf _ _ _, fun j hj => by rw [if_neg (by omega)]⟩
  | succ d ih =>
    intro i f ν h1 h2
    obtain ⟨f, rfl⟩ : ∃ m, f = m + 1 := ⟨f - 1, by omega⟩
    have e1 : ¬ nI n ≤ nI i := fun z => by have := (nI_leI (by omega) (by omega)).mp z; omega
    have ci : i < 2 ^ 31 := by omega
    have v : vp_in (nI i) 12 := vp_in_nI (by omega) (by decide)
    simp only [lX12_chooses_h12, mX12_chooses_h12, qX12_chooses_h12, if_neg e1, nI_clamp ci, nI_1]
    obtain ⟨k1, k2, k3, k4⟩ := ih (i + 1) f (fm_i ν 29 i (fI ν 28 i)) (by omega) (by omega)
    refine ⟨k1, fun _ => ⟨v, v, k2⟩, ((frL.rf (fun k _ => k = 29) fN ν).i (k := 29) (j := i) rfl).tr k3, fun j hj => ?_⟩
    rw [k4 j hj]
    by_cases z : j = i
    · rw [if_neg (by omega), fI_i, if_pos ⟨rfl, z⟩, if_pos (by omega), z]
    · by_cases y : i + 1 ≤ j
      · rw [if_pos y, fI_i, if_neg (by omega), if_pos (by omega)]
      · rw [if_neg y, fI_i, if_neg (by omega), if_neg (by omega)]
theorem c46 (r : Nat → fm_T → Int32 → Int32 → Int32 → Int32 → Int32 × fm_T) (rp : Nat → fm_T → Int32 → Int32 → Int32 → Int32 → Prop) {ν : fm_T} (ml : MlN P hc e K q a mb ν) (hK : K ≤ 12) {m fo : Nat} (hm : m < 2 ^ K) (hfo : fo ≤ q) (x1 x2 x4 : Int32) : ∀ (d i f v : Nat), i + d = q → d < f → fo ≤ i → v < 2 ^ K → (∀ k, k < K → (v.testBit k = true ↔ ∃ i', fo ≤ i' ∧ i' < i ∧ (mb i').testBit k = true)) →
    ∃ v', v' < 2 ^ K ∧ (∀ k, k < K → (v'.testBit k = true ↔ ∃ i', fo ≤ i' ∧ i' < q ∧ (mb i').testBit k = true)) ∧
    lX12_chooses_h46 r f ν x1 x2 (nI m) x4 (nI v) (nI i) = (if x4 = 0 then 0 else if nI (mdn m v') = 0 then lX12_chooses_h92 r fF ν x1 x2 (nI m) x4 (nI v') x2 else 0) ∧
    mX12_chooses_h46 r f ν x1 x2 (nI m) x4 (nI v) (nI i) = (if x4 = 0 then ν else if nI (mdn m v') = 0 then mX12_chooses_h92 r fF ν x1 x2 (nI m) x4 (nI v') x2 else ν) ∧
    ((¬ x4 = 0 → nI (mdn m v') = 0 → qX12_chooses_h92 r rp fF ν x1 x2 (nI m) x4 (nI v') x2) → qX12_chooses_h46 r rp f ν x1 x2 (nI m) x4 (nI v) (nI i)) := by
  obtain ⟨l0, l1, l2, l3⟩ := ml
  have hp := p2_12 hK
  intro d
  induction d with
  | zero =>
    intro i f v h1 h2 h3 hv hb
    obtain ⟨f, rfl⟩ : ∃ m, f = m + 1 := ⟨f - 1, by omega⟩
    obtain rfl : i = q := by omega
    have e1 : nI i ≤ nI i := (nI_leI (by omega) (by omega)).mpr (by omega)
    simp only [lX12_chooses_h46, mX12_chooses_h46, qX12_chooses_h46, l1, if_pos e1, mdn_i (by omega : m < 4096) (by omega : v < 4096)]
    exact ⟨v, hv, hb, rfl, rfl, fun g => ⟨fun _ => g, fun z => absurd e1 z⟩⟩
  | succ d ih =>
    intro i f v h1 h2 h3 hv hb
    obtain ⟨f, rfl⟩ : ∃ m, f = m + 1 := ⟨f - 1, by omega⟩
    have e1 : ¬ nI q ≤ nI i := fun z => by have := (nI_leI (by omega) (by omega)).mp z; omega
    have ci : i < 2 ^ 31 := by omega
    obtain ⟨-, b2, -, -, b5, -⟩ := l2 i (by omega)
    simp only [lX12_chooses_h46, mX12_chooses_h46, qX12_chooses_h46, l1, if_neg e1, nI_clamp ci, b2, or_i, nI_1]
    obtain ⟨v', k1, k2, k3, k4, k5⟩ := ih (i + 1) f (v ||| mb i) (by omega) (by omega) (by omega) (Nat.or_lt_two_pow hv b5) (fun k hk => by
      rw [Nat.testBit_or, Bool.or_eq_true, hb k hk]
      constructor
      · rintro (⟨i', x1, x2, x3⟩ | z)
        · exact ⟨i', x1, by omega, x3⟩
        · exact ⟨i, h3, by omega, z⟩
      · rintro ⟨i', x1, x2, x3⟩
        by_cases z : i' = i
        · exact Or.inr (z ▸ x3)
        · exact Or.inl ⟨i', x1, by omega, x3⟩)
    exact ⟨v', k1, k2, k3, k4, fun g => ⟨fun z => absurd z e1, fun _ => ⟨vp_in_nI (by omega) (by decide), k5 g⟩⟩⟩
theorem LS_a {ν : fm_T} (ml : MlN P hc e K q a mb ν) (hK : K ≤ 12) {i m : Nat} (hi : i < q) : LsN e K (mdn m (mb i)) = lmi hc (LsN e K m) (a i) := by
  obtain ⟨-, -, -, -, b5, b6⟩ := ml.2.2.1 i hi
  exact LS_md hK (Nat.lt_of_lt_of_le b5 (p2_12 hK)) b6
theorem c92n {f r d m : Nat} (hf : HfN P hc e K q a mb f r) (hK : K ≤ 12) (hd : d + (r + 1) ≤ 12) (hm : m < 2 ^ K) (hn : ¬ CV P hc (r + 1) (LsN e K m)) {ν0 : fm_T} (x2 x5 : Int32) : ∀ (dd i ff : Nat) (ν : fm_T), i + dd = q → dd < ff → MlN P hc e K q a mb ν → frL (f28 d) fN ν0 ν →
    lX12_chooses_h92 (guX12_chooses f) ff ν (nI d) x2 (nI m) (nI (r + 1)) x5 (nI i) = 0 ∧ frL (f28 d) fN ν0 (mX12_chooses_h92 (guX12_chooses f) ff ν (nI d) x2 (nI m) (nI (r + 1)) x5 (nI i)) ∧ qX12_chooses_h92 (guX12_chooses f) (puX12_chooses f) ff ν (nI d) x2 (nI m) (nI (r + 1)) x5 (nI i) := by
  have hp := p2_12 hK
  intro dd
  induction dd with
  | zero =>
    intro i ff ν h1 h2 ml fr
    obtain ⟨ff, rfl⟩ : ∃ m, ff = m + 1 := ⟨ff - 1, by omega⟩
    have l0 := ml.1
    have e1 : nI q ≤ nI i := (nI_leI (by omega) (by omega)).mpr (by omega)
    simp only [lX12_chooses_h92, mX12_chooses_h92, qX12_chooses_h92, ml.2.1, if_pos e1]
    exact ⟨trivial, fr, fun z => absurd e1 z⟩
  | succ dd ih =>
    intro i ff ν h1 h2 ml fr
    obtain ⟨ff, rfl⟩ : ∃ m, ff = m + 1 := ⟨ff - 1, by omega⟩
    have l0 := ml.1
    have e1 : ¬ nI q ≤ nI i := fun z => by have := (nI_leI (by omega) (by omega)).mp z; omega
    have ci : i < 2 ^ 31 := by omega
    have cd : d < 2 ^ 31 := by omega
    have hi : i < q := by omega
    obtain ⟨b1, b2, b3, b4, b5, b6⟩ := ml.2.2.1 i hi
    have e2 : nI (r + 1) - 1 = nI r := nI_sub (a := r + 1) (b := 1) (by omega)
    simp only [lX12_chooses_h92, mX12_chooses_h92, qX12_chooses_h92, ml.2.1, if_neg e1, nI_clamp ci, nI_clamp cd, b1, b2, mdn_i (by omega : m < 4096) (by omega : mb i < 4096), e2, nI_1]
    have fr1 : frL (f28 d) fN ν (fm_i ν 28 d (nI (a i))) := (frL.rf _ _ _).i ⟨rfl, Nat.le_refl _⟩
    have mle := mdn_le m (mb i)
    obtain ⟨g1, -⟩ := hf (d + 1) (i + 1) (mdn m (mb i)) (fm_i ν 28 d (nI (a i))) (ML_f ml fr1 (fun k j z => Or.inl z.1)) (by omega) (by omega) (by omega)
    obtain ⟨g1, g2, g3⟩ := g1 (fun z => hn (by rw [LS_a ml hK hi] at z; exact CV_a b3 b4 z))
    simp only [g1, if_true]
    have fr2 := fr1.tr (g2.mo (fun k j z => ⟨z.1, by have := z.2; omega⟩) (fun _ _ z => z) : frL (f28 d) fN _ _)
    obtain ⟨k1, k2, k3⟩ := ih (i + 1) ff _ (by omega) (by omega) (ML_f ml fr2 (fun k j z => Or.inl z.1)) (fr.tr fr2)
    exact ⟨k1, k2, fun _ => ⟨vp_in_nI (by omega) (by decide), vp_in_nI (by omega) (by decide), vp_in_nI (by omega) (by decide), g3, fun _ => k3⟩⟩
theorem c92y {f r d m c0 : Nat} (hf : HfN P hc e K q a mb f r) (hK : K ≤ 12) (hd : d + (r + 1) ≤ 12) (hm : m < 2 ^ K) (mn : Mn P hc (r + 1) (LsN e K m)) (ic : Ic P hc (r + 1) (LsN e K m) c0) (hall : ∀ c, c < 240 → P c = true → ∃ i, i < q ∧ a i = c) {ν0 : fm_T} (x2 x5 : Int32) : ∀ (dd i ff c1 : Nat) (ν : fm_T), i + dd = q → dd < ff → MlN P hc e K q a mb ν → frL (f28 d) fN ν0 ν → c0 ≤ c1 → (∀ i', i' < q → (i ≤ i' ↔ c1 ≤ a i')) → (∀ c, c0 ≤ c → c < c1 → P c = true → ¬ CV P hc r (lmi hc (LsN e K m) c)) →
    lX12_chooses_h92 (guX12_chooses f) ff ν (nI d) x2 (nI m) (nI (r + 1)) x5 (nI i) = 1 ∧ qX12_chooses_h92 (guX12_chooses f) (puX12_chooses f) ff ν (nI d) x2 (nI m) (nI (r + 1)) x5 (nI i) ∧ ∃ qf, GR P hc (r + 1) (LsN e K m) c0 qf ∧ frL f289 fN ν0 (mX12_chooses_h92 (guX12_chooses f) ff ν (nI d) x2 (nI m) (nI (r + 1)) x5 (nI i)) ∧ fI (mX12_chooses_h92 (guX12_chooses f) ff ν (nI d) x2 (nI m) (nI (r + 1)) x5 (nI i)) 0 54 = nI (d + (r + 1)) ∧ (∀ j, j < d → fI (mX12_chooses_h92 (guX12_chooses f) ff ν (nI d) x2 (nI m) (nI (r + 1)) x5 (nI i)) 29 j = fI ν0 28 j) ∧ ∀ j, j < r + 1 → fI (mX12_chooses_h92 (guX12_chooses f) ff ν (nI d) x2 (nI m) (nI (r + 1)) x5 (nI i)) 29 (d + j) = nI (qf j) := by
  have hp := p2_12 hK
  intro dd
  induction dd with
  | zero =>
    intro i ff c1 ν h1 h2 ml fr hc1 hi2 hno
    obtain ⟨x, x1, x2, x3, x4⟩ := Mn_ex mn ic
    obtain ⟨j, j1, j2⟩ := hall x x2 x3
    have := hi2 j j1
    exact absurd x4 (hno x x1 (by omega) x3)
  | succ dd ih =>
    intro i ff c1 ν h1 h2 ml fr hc1 hi2 hno
    obtain ⟨ff, rfl⟩ : ∃ m, ff = m + 1 := ⟨ff - 1, by omega⟩
    have l0 := ml.1
    have e1 : ¬ nI q ≤ nI i := fun z => by have := (nI_leI (by omega) (by omega)).mp z; omega
    have ci : i < 2 ^ 31 := by omega
    have cd : d < 2 ^ 31 := by omega
    have hi : i < q := by omega
    obtain ⟨b1, b2, b3, b4, b5, b6⟩ := ml.2.2.1 i hi
    have e2 : nI (r + 1) - 1 = nI r := nI_sub (a := r + 1) (b := 1) (by omega)
    simp only [lX12_chooses_h92, mX12_chooses_h92, qX12_chooses_h92, ml.2.1, if_neg e1, nI_clamp ci, nI_clamp cd, b1, b2, mdn_i (by omega : m < 4096) (by omega : mb i < 4096), e2, nI_1]
    have fr1 : frL (f28 d) fN ν (fm_i ν 28 d (nI (a i))) := (frL.rf _ _ _).i ⟨rfl, Nat.le_refl _⟩
    have mle := mdn_le m (mb i)
    have lse := LS_a (m := m) ml hK hi
    have c1a := (hi2 i hi).mp (Nat.le_refl _)
    have asc := ml.2.2.2
    have nx : ∀ i', i' < q → (i + 1 ≤ i' ↔ a i + 1 ≤ a i') := fun i' hi' => by
      rcases Nat.lt_trichotomy i i' with z | z | z
      · have := asc i i' z hi'; omega
      · rw [z]; omega
      · have := asc i' i z hi; omega
    obtain ⟨g1, g2⟩ := hf (d + 1) (i + 1) (mdn m (mb i)) (fm_i ν 28 d (nI (a i))) (ML_f ml fr1 (fun k j z => Or.inl z.1)) (by omega) (by omega) (by omega)
    rw [lse] at g1 g2
    have no2 : ∀ c, c0 ≤ c → c < a i → P c = true → ¬ CV P hc r (lmi hc (LsN e K m) c) := fun c h1 h2 h3 => by
      obtain ⟨j, j1, j2⟩ := hall c (by omega) h3
      have h4 := hi2 j j1
      by_cases z : c < c1
      · exact hno c h1 z h3
      · have : i ≤ j := by omega
        rcases (by omega : i = j ∨ i < j) with y | y
        · rw [← y] at j2; omega
        · have := asc i j y j1; omega
    by_cases cv : CV P hc r (lmi hc (LsN e K m) (a i))
    · obtain ⟨mn2, ic2⟩ := Mn_st mn ic b3 b4 cv (fun c h1 h2 => no2 c h1 h2)
      obtain ⟨j1, j2, qf, j3, j4, j5, j6, j7⟩ := g2 (a i + 1) nx mn2 ic2
      have n1 : ¬ (1 : Int32) = 0 := by decide
      simp only [j1, if_neg n1]
      have ea : d + 1 + r = d + (r + 1) := by omega
      rw [ea] at j5
      refine ⟨trivial, fun _ => ⟨vp_in_nI (by omega) (by decide), vp_in_nI (by omega) (by decide), vp_in_nI (by omega) (by decide), j2, fun z => absurd z n1⟩, fun t => if t = 0 then a i else qf (t - 1), ⟨⟨(by omega : c0 ≤ a i), b3, b4, cv, no2⟩, j3⟩, ((fr.tr fr1).mo (fun k j z => Or.inl z.1) (fun _ _ z => z)).tr j4, j5, fun t ht => ?_, fun t ht => ?_⟩
      · rw [j6 t (by omega), fI_i, if_neg (by omega)]
        exact fr.2.2.2 28 t (by unfold f28; omega)
      · cases t with
        | zero =>
          rw [j6 (d + 0) (by omega), fI_i, if_pos ⟨rfl, rfl⟩]
          rfl
        | succ t =>
          have := j7 t (by omega)
          rw [show d + 1 + t = d + (t + 1) by omega] at this
          rw [this]
          rfl
    · obtain ⟨g3, g4, g5⟩ := g1 cv
      simp only [g3, if_true]
      have fr2 := fr1.tr (g4.mo (fun k j z => ⟨z.1, by have := z.2; omega⟩) (fun _ _ z => z) : frL (f28 d) fN _ _)
      obtain ⟨k1, k2, k3⟩ := ih (i + 1) ff (a i + 1) _ (by omega) (by omega) (ML_f ml fr2 (fun k j z => Or.inl z.1)) (fr.tr fr2) (by omega) nx (fun c h1 h2 h3 => by
        by_cases z : c = a i
        · rw [z]; exact cv
        · exact no2 c h1 (by omega) h3)
      exact ⟨k1, fun _ => ⟨vp_in_nI (by omega) (by decide), vp_in_nI (by omega) (by decide), vp_in_nI (by omega) (by decide), g5, fun _ => k2⟩, k3⟩
theorem mdn_z {m v : Nat} (hK : K ≤ 12) (hm : m < 2 ^ K) (hv : v < 4096) (h : ∀ k, k < K → m.testBit k = true → v.testBit k = true) : mdn m v = 0 := by
  apply Nat.eq_of_testBit_eq
  intro i
  rw [Nat.zero_testBit]
  by_cases hi : i < K
  · rw [mdn_t hv (by omega)]
    cases z : m.testBit i
    · rfl
    · rw [h i hi z]; rfl
  · exact tb_o (Nat.lt_of_le_of_lt (mdn_le m v) hm) (by omega)
theorem HF_ok (hK : K ≤ 12) (hall : ∀ c, c < 240 → P c = true → ∃ i, i < q ∧ a i = c) : ∀ r f, r < f → HfN P hc e K q a mb f r := by
  have hp := p2_12 hK
  intro r
  induction r with
  | zero =>
    intro f hf d fo m ν ml hd hm hfo
    obtain ⟨f, rfl⟩ : ∃ g, f = g + 1 := ⟨f - 1, by omega⟩
    have l0 := ml.1
    refine ⟨fun hn => ?_, fun c0 hc0 mn ic => ?_⟩
    · have m0 : ¬ m = 0 := fun z => hn (CV_e _ _ ((LS_0 hm).mpr z))
      have e1 : ¬ nI m = 0 := fun zz => m0 (nI_inj (b := 0) (by omega) (by omega) zz)
      obtain ⟨v', k1, k2, k3, k4, k5⟩ := c46 (guX12_chooses f) (puX12_chooses f) ml hK hm hfo (nI d) (nI fo) (nI 0) (q - fo) fo fF 0 (by omega) (fF_gt (by omega)) (Nat.le_refl _) (Nat.two_pow_pos _) (fun k hk => ⟨fun z => by rw [Nat.zero_testBit] at z; exact absurd z (by decide), fun ⟨i', x1, x2, _⟩ => absurd x2 (by omega)⟩)
      have z0 : nI 0 = 0 := rfl
      rw [z0] at k3 k4 k5
      simp only [guX12_chooses, puX12_chooses, gX12_chooses, uX12_chooses, pX12_chooses, if_neg e1, z0, k3, k4, if_true]
      exact ⟨trivial, frL.rf _ _ _, fun _ => k5 (fun z => absurd rfl z), fun z => absurd z e1⟩
    · have m0 : m = 0 := (LS_0 hm).mp mn.1
      have e1 : nI m = 0 := by rw [m0]; rfl
      obtain ⟨k1, k2, k3, k4⟩ := c12 (guX12_chooses f) (puX12_chooses f) (n := d) (by omega) (nI fo) (nI m) (nI 0) d 0 fF (fm_i ν 0 54 (nI d)) (by omega) (fF_gt (by omega))
      rw [show nI 0 = 0 from rfl] at k1 k2 k3 k4
      simp only [guX12_chooses, puX12_chooses, gX12_chooses, uX12_chooses, pX12_chooses, if_pos e1, show nI 0 = 0 from rfl]
      refine ⟨k1, ⟨fun z => absurd e1 z, fun _ => k2⟩, fun _ => 0, mn.1, ((frL.rf f289 fN ν).i (Or.inr (Or.inr ⟨rfl, rfl⟩))).tr (k3.mo (fun k j z => Or.inr (Or.inl z)) (fun _ _ z => z)), ?_, fun i hi => ?_, fun i hi => absurd hi (by omega)⟩
      · rw [k3.2.2.2 0 54 (by omega), fI_i, if_pos ⟨rfl, rfl⟩]; rfl
      · rw [k4 i hi, if_pos (by omega), fI_i, if_neg (by omega)]
  | succ r ih =>
    intro f hf d fo m ν ml hd hm hfo
    obtain ⟨f, rfl⟩ : ∃ g, f = g + 1 := ⟨f - 1, by omega⟩
    have l0 := ml.1
    have hh := ih f (by omega)
    have e4 : ¬ nI (r + 1) = 0 := fun zz => by have := nI_inj (b := 0) (by omega) (by omega) zz; omega
    obtain ⟨v', k1, k2, k3, k4, k5⟩ := c46 (guX12_chooses f) (puX12_chooses f) ml hK hm hfo (nI d) (nI fo) (nI (r + 1)) (q - fo) fo fF 0 (by omega) (fF_gt (by omega)) (Nat.le_refl _) (Nat.two_pow_pos _) (fun k hk => ⟨fun z => by rw [Nat.zero_testBit] at z; exact absurd z (by decide), fun ⟨i', x1, x2, _⟩ => absurd x2 (by omega)⟩)
    rw [show nI 0 = 0 from rfl] at k3 k4 k5
    rw [if_neg e4] at k3 k4
    refine ⟨fun hn => ?_, fun c0 hc0 mn ic => ?_⟩
    · have m0 : ¬ m = 0 := fun z => hn (CV_e _ _ ((LS_0 hm).mpr z))
      have e1 : ¬ nI m = 0 := fun zz => m0 (nI_inj (b := 0) (by omega) (by omega) zz)
      obtain ⟨j1, j2, j3⟩ := c92n hh hK hd hm hn (ν0 := ν) (nI fo) (nI v') (q - fo) fo fF ν (by omega) (fF_gt (by omega)) ml (frL.rf _ _ _)
      simp only [guX12_chooses, puX12_chooses, gX12_chooses, uX12_chooses, pX12_chooses, if_neg e1, k3, k4]
      by_cases z : nI (mdn m v') = 0
      · simp only [if_pos z]
        exact ⟨j1, j2, fun _ => k5 (fun _ _ => j3), fun y => absurd y e1⟩
      · simp only [if_neg z]
        exact ⟨trivial, frL.rf _ _ _, fun _ => k5 (fun _ y => absurd y z), fun y => absurd y e1⟩
    · have m0 : ¬ m = 0 := fun z => Mn_ne mn ((LS_0 hm).mpr z)
      have e1 : ¬ nI m = 0 := fun zz => m0 (nI_inj (b := 0) (by omega) (by omega) zz)
      have z : nI (mdn m v') = 0 := by
        rw [mdn_z hK hm (by omega) (fun k hk hb => (k2 k hk).mpr ?_)]
        · rfl
        · have lt : LsN e K m (e k) = true := (LS_iff K).mpr ⟨k, hk, rfl, hb⟩
          obtain ⟨c, c1, c2, c3, c4⟩ := CV_re r _ lt mn.1
          obtain ⟨i, i1, i2⟩ := hall c c1 c2
          have nlt : ¬ c < c0 := fun z => ic c z c2 r (by omega) c4
          refine ⟨i, (hc0 i i1).mpr (by omega), i1, ?_⟩
          rw [(ml.2.2.1 i i1).2.2.2.2.2 k hk, i2]
          exact c3
      obtain ⟨j1, j2, j3⟩ := c92y hh hK hd hm mn ic hall (ν0 := ν) (nI fo) (nI v') (q - fo) fo fF c0 ν (by omega) (fF_gt (by omega)) ml (frL.rf _ _ _) (Nat.le_refl _) hc0 (fun c h1 h2 => absurd h2 (by omega))
      simp only [guX12_chooses, puX12_chooses, gX12_chooses, uX12_chooses, pX12_chooses, if_neg e1, k3, k4, if_pos z]
      exact ⟨j1, ⟨fun _ => k5 (fun _ _ => j2), fun y => absurd y e1⟩, j3⟩
theorem c98n (hK : K ≤ 12) (hall : ∀ c, c < 240 → P c = true → ∃ i, i < q ∧ a i = c) (hn : ∀ j, ¬ CV P hc j (LsN e K (2 ^ K - 1))) {ν0 : fm_T} : ∀ (dd n f : Nat) (ν : fm_T), n + dd = 13 → dd < f → MlN P hc e K q a mb ν → frL (f28 0) fN ν0 ν →
    lX12_causes_h98 f ν (nI (2 ^ K - 1)) (nI n) = -1 ∧ qX12_causes_h98 f ν (nI (2 ^ K - 1)) (nI n) ∧ frL (f28 0) fN ν0 (mX12_causes_h98 f ν (nI (2 ^ K - 1)) (nI n)) := by
  have hp := p2_12 hK
  have hp1 := Nat.two_pow_pos K
  intro dd
  induction dd with
  | zero =>
    intro n f ν h1 h2 ml fr
    obtain ⟨f, rfl⟩ : ∃ m, f = m + 1 := ⟨f - 1, by omega⟩
    have e1 : (12 : Int32) < nI n := (nI_ltI (a := 12) (by omega) (by omega)).mpr (by omega)
    simp only [lX12_causes_h98, mX12_causes_h98, qX12_causes_h98, if_pos e1]
    exact ⟨trivial, fun z => absurd e1 z, fr⟩
  | succ dd ih =>
    intro n f ν h1 h2 ml fr
    obtain ⟨f, rfl⟩ : ∃ m, f = m + 1 := ⟨f - 1, by omega⟩
    have e1 : ¬ (12 : Int32) < nI n := fun z => by have := (nI_ltI (a := 12) (by omega) (by omega)).mp z; omega
    obtain ⟨g1, -⟩ := HF_ok hK hall n fD (by rw [fD_eq]; omega) 0 0 (2 ^ K - 1) ν ml (by omega) (by omega) (by omega)
    obtain ⟨g1, g2, g3⟩ := g1 (hn n)
    rw [show nI 0 = 0 from rfl] at g1 g2 g3
    simp only [lX12_causes_h98, mX12_causes_h98, qX12_causes_h98, if_neg e1, g1, if_true, nI_1]
    obtain ⟨k1, k2, k3⟩ := ih (n + 1) f _ (by omega) (by omega) (ML_f ml g2 (fun k j z => Or.inl z.1)) (fr.tr g2)
    exact ⟨k1, fun _ => ⟨g3, fun _ => k2⟩, k3⟩
theorem c98y (hK : K ≤ 12) (hall : ∀ c, c < 240 → P c = true → ∃ i, i < q ∧ a i = c) {r : Nat} (hr : r ≤ 12) (mn : Mn P hc r (LsN e K (2 ^ K - 1))) {ν0 : fm_T} : ∀ (dd n f : Nat) (ν : fm_T), n + dd = r → dd < f → MlN P hc e K q a mb ν → frL (f28 0) fN ν0 ν →
    lX12_causes_h98 f ν (nI (2 ^ K - 1)) (nI n) = nI r ∧ qX12_causes_h98 f ν (nI (2 ^ K - 1)) (nI n) ∧ ∃ qf, GR P hc r (LsN e K (2 ^ K - 1)) 0 qf ∧ frL f289 fN ν0 (mX12_causes_h98 f ν (nI (2 ^ K - 1)) (nI n)) ∧ fI (mX12_causes_h98 f ν (nI (2 ^ K - 1)) (nI n)) 0 54 = nI r ∧ ∀ i, i < r → fI (mX12_causes_h98 f ν (nI (2 ^ K - 1)) (nI n)) 29 i = nI (qf i) := by
  have hp := p2_12 hK
  have hp1 := Nat.two_pow_pos K
  intro dd
  induction dd with
  | zero =>
    intro n f ν h1 h2 ml fr
    obtain ⟨f, rfl⟩ : ∃ m, f = m + 1 := ⟨f - 1, by omega⟩
    obtain rfl : n = r := by omega
    have e1 : ¬ (12 : Int32) < nI n := fun z => by have := (nI_ltI (a := 12) (by omega) (by omega)).mp z; omega
    obtain ⟨-, g2⟩ := HF_ok hK hall n fD (by rw [fD_eq]; omega) 0 0 (2 ^ K - 1) ν ml (by omega) (by omega) (by omega)
    obtain ⟨g1, g2, qf, g3, g4, g5, g6, g7⟩ := g2 0 (fun i hi => by omega) mn (fun c h => absurd h (by omega))
    rw [show nI 0 = 0 from rfl] at g1 g2 g4 g5 g6 g7
    have n1 : ¬ (1 : Int32) = 0 := by decide
    rw [Nat.zero_add] at g5
    simp only [lX12_causes_h98, mX12_causes_h98, qX12_causes_h98, if_neg e1, g1, if_neg n1]
    refine ⟨g5, fun _ => ⟨g2, fun z => absurd z n1⟩, qf, g3, (fr.mo (fun k j z => Or.inl z.1) (fun _ _ z => z)).tr g4, g5, fun i hi => ?_⟩
    have := g7 i hi
    rw [Nat.zero_add] at this
    exact this
  | succ dd ih =>
    intro n f ν h1 h2 ml fr
    obtain ⟨f, rfl⟩ : ∃ m, f = m + 1 := ⟨f - 1, by omega⟩
    have e1 : ¬ (12 : Int32) < nI n := fun z => by have := (nI_ltI (a := 12) (by omega) (by omega)).mp z; omega
    obtain ⟨g1, -⟩ := HF_ok hK hall n fD (by rw [fD_eq]; omega) 0 0 (2 ^ K - 1) ν ml (by omega) (by omega) (by omega)
    obtain ⟨g1, g2, g3⟩ := g1 (mn.2 n (by omega))
    rw [show nI 0 = 0 from rfl] at g1 g2 g3
    simp only [lX12_causes_h98, mX12_causes_h98, qX12_causes_h98, if_neg e1, g1, if_true, nI_1]
    obtain ⟨k1, k2, k3⟩ := ih (n + 1) f _ (by omega) (by omega) (ML_f ml g2 (fun k j z => Or.inl z.1)) (fr.tr g2)
    exact ⟨k1, fun _ => ⟨g3, fun _ => k2⟩, k3⟩
end
