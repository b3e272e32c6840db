def CBy (b : Nat → Nat) (z : Nat) (μ : fm_T) : Prop := z ≤ 940 ∧ fI μ 1 2 = nI z ∧ (∀ i, i < 940 → fI μ 3 i = nI (b i) ∧ b i ≤ 255) ∧ ∀ i, i < 25 → fL μ 2 i = wcode i
def EnT (n k a v w : Nat) (μ : fm_T) : Prop := fI μ 4 n = nI k ∧ fI μ 5 n = nI a ∧ (k = 2 ∨ k = 4 ∨ k = 5 → fI μ 6 n = nI v) ∧ (k = 2 ∨ k = 3 → fL μ 7 n = lN w)
def fT (n k j : Nat) : Prop := (k = 4 ∨ k = 5 ∨ k = 6) ∧ j = n
def fTl (n k j : Nat) : Prop := k = 7 ∧ j = n
theorem CBy_f {b : Nat → Nat} {z : Nat} {μ μ' : fm_T} {A B : Nat → Nat → Prop} (h : CBy b z μ) (f : frL A B μ μ') (hA : ∀ k j, A k j → ¬ ((k = 1 ∧ j = 2) ∨ k = 3)) (hB : ∀ k j, B k j → k ≠ 2) : CBy b z μ' := by
  obtain ⟨h1, h2, h3, h4⟩ := h
  refine ⟨h1, by rw [f.2.2.2 1 2 (fun y => hA _ _ y (Or.inl ⟨rfl, rfl⟩))]; exact h2, fun i hi => ?_, fun i hi => ?_⟩
  · rw [f.2.2.2 3 i (fun y => hA _ _ y (Or.inr rfl))]; exact h3 i hi
  · rw [f.2.2.1 2 i (fun y => hB _ _ y rfl)]; exact h4 i hi
theorem fT_c {n k j : Nat} (h : fT n k j) : ¬ ((k = 1 ∧ j = 2) ∨ k = 3) := by unfold fT at h; omega
theorem fTl_c {n k j : Nat} (h : fTl n k j) : k ≠ 2 := by unfold fTl at h; omega
theorem il_c {μ : fm_T} {c : Nat} (h : c ≤ 255) : gX7_isLetter μ (nI c) = (if isLt c then 1 else 0) ∧ gX7_isFigure μ (nI c) = (if isDg c then 1 else 0) := il_m (μ := μ) h
theorem bl_c2 {μ : fm_T} {c : Nat} (h : c ≤ 255) : gX7_isBlank μ (nI c) = 0 ↔ isBl c = false := by
  have t1 : nI c = 32 ↔ c = 32 := nI_eq (b := 32) (by omega) (by omega)
  have t2 : nI c = 10 ↔ c = 10 := nI_eq (b := 10) (by omega) (by omega)
  have n1 : ¬ (1 : Int32) = 0 := by decide
  unfold gX7_isBlank
  simp only [t1, t2]
  cases y : isBl c
  · have y1 : ¬ c = 32 := fun w => by rw [bl_iff.mpr (Or.inl w)] at y; exact absurd y (by decide)
    have y2 : ¬ c = 10 := fun w => by rw [bl_iff.mpr (Or.inr w)] at y; exact absurd y (by decide)
    rw [if_neg y1, if_neg y2]
    exact ⟨fun _ => rfl, fun _ => rfl⟩
  · rcases bl_iff.mp y with w | w
    · rw [if_pos w]; exact ⟨fun q => absurd q n1, fun q => absurd q (by decide)⟩
    · rw [if_neg (by omega), if_pos w]; exact ⟨fun q => absurd q n1, fun q => absurd q (by decide)⟩
theorem cd_lt {b : Nat → Nat} {q n : Nat} (h : ∀ i, i < n → isLt (b (q + i)) = true) : cdN b q n < 32 ^ n := by
  induction n with
  | zero => exact Nat.one_pos
  | succ n ih =>
    have i1 := ih (fun i hi => h i (by omega))
    have hb := lt_iff.mp (h n (by omega))
    have e0 : cdN b q (n + 1) = cdN b q n * 32 + (b (q + n) - 96) := rfl
    rw [e0, Nat.pow_succ]
    omega
theorem sw_17 {μ0 : fm_T} {n w : Nat} (hn : n < 941) (hw : w < 2 ^ 40) (hc : ∀ i, i < 25 → fL μ0 2 i = wcode i) : ∀ (c i f : Nat) (μ : fm_T), i + c = 25 → c < f → frL (fT n) (fTl n) μ0 μ → ((fI μ 4 n = 3 ∧ ∀ j, j < i → wcN j ≠ w) ∨ ∃ v, v < i ∧ wcN v = w ∧ fI μ 4 n = 2 ∧ fI μ 6 n = nI v) →
    qX7_setWord_h17 f μ (nI n) (lN w) (nI i) ∧ ∃ U, mX7_setWord_h17 f μ (nI n) (lN w) (nI i) = U ∧ frL (fT n) (fTl n) μ0 U ∧ fI U 5 n = fI μ 5 n ∧ fL U 7 n = fL μ 7 n ∧ ((fI U 4 n = 3 ∧ ∀ j, j < 25 → wcN j ≠ w) ∨ ∃ v, v < 25 ∧ wcN v = w ∧ fI U 4 n = 2 ∧ fI U 6 n = nI v) := by
  intro c
  induction c with
  | zero =>
    intro i f μ h1 h2 fr hs
    obtain ⟨f, rfl⟩ : ∃ m, f = m + 1 := ⟨f - 1, by omega⟩
    obtain rfl : i = 25 := by omega
    have e1 : (25 : Int32) ≤ nI 25 := by decide
    simp only [mX7_setWord_h17, qX7_setWord_h17, if_pos e1]
    exact ⟨fun y => absurd e1 y, μ, rfl, fr, rfl, rfl, hs⟩
  | succ c ih =>
    intro i f μ h1 h2 fr hs
    obtain ⟨f, rfl⟩ : ∃ m, f = m + 1 := ⟨f - 1, by omega⟩
    have e1 : ¬ (25 : Int32) ≤ nI i := fun y => by have := (nI_leI (a := 25) (by omega) (by omega)).mp y; omega
    have ci : i < 2 ^ 31 := by omega
    have cn : n < 2 ^ 31 := by omega
    obtain ⟨w1, w2, -⟩ := wc_ok i (by omega)
    have fl : fL μ 2 i = lN (wcN i) := by rw [fr.2.2.1 2 i (by unfold fTl; omega), hc i (by omega)]; exact w1
    have eq : lg_cmp (lN (wcN i)) (lN w) = 0 ↔ wcN i = w := lG_eq (by omega) (by omega)
    have v : vp_in (nI i) 25 := vp_in_nI (by omega) (by decide)
    have vn : vp_in (nI n) 941 := vp_in_nI (by omega) (by decide)
    simp only [mX7_setWord_h17, qX7_setWord_h17, if_neg e1, nI_clamp ci, nI_clamp cn, fl, eq, nI_1]
    by_cases y : wcN i = w
    · simp only [if_pos y]
      obtain ⟨k1, U, k2, k3, k4, k5, k6⟩ := ih (i + 1) f (fm_i (fm_i μ 4 n 2) 6 n (nI i)) (by omega) (by omega) ((fr.i ⟨by omega, rfl⟩).i ⟨by omega, rfl⟩) (Or.inr ⟨i, by omega, y, by rw [fI_i, if_neg (by omega), fI_i, if_pos ⟨rfl, rfl⟩], by rw [fI_i, if_pos ⟨rfl, rfl⟩]⟩)
      exact ⟨fun _ => ⟨v, fun q => absurd y q, fun _ => ⟨vn, vn, k1⟩⟩, U, k2, k3, by rw [k4, fI_i, if_neg (by omega), fI_i, if_neg (by omega)], k5, k6⟩
    · simp only [if_neg y]
      obtain ⟨k1, k2⟩ := ih (i + 1) f μ (by omega) (by omega) fr (by
        rcases hs with ⟨s1, s2⟩ | ⟨v, s1, s2⟩
        · refine Or.inl ⟨s1, fun j hj => ?_⟩
          by_cases q : j = i
          · rw [q]; exact y
          · exact s2 j (by omega)
        · exact Or.inr ⟨v, by omega, s2⟩)
      exact ⟨fun _ => ⟨v, fun _ => k1, fun q => absurd q y⟩, k2⟩
theorem sw_ok {μ : fm_T} {n a w : Nat} (hn : n < 941) (hw : w < 2 ^ 40) (hc : ∀ i, i < 25 → fL μ 2 i = wcode i) (h5 : fI μ 5 n = nI a) : pX7_setWord μ (nI n) (lN w) ∧ ∃ U k v, uX7_setWord μ (nI n) (lN w) = U ∧ frL (fT n) (fTl n) μ U ∧ EnT n k a v w U ∧ ((k = 2 ∧ v < 25 ∧ wcN v = w) ∨ (k = 3 ∧ ∀ i, i < 25 → wcN i ≠ w)) := by
  have cn : n < 2 ^ 31 := by omega
  have vn : vp_in (nI n) 941 := vp_in_nI (by omega) (by decide)
  have fr : frL (fT n) (fTl n) μ (fm_l (fm_i μ 4 n 3) 7 n (lN w)) := ((frL.rf (fT n) (fTl n) μ).i ⟨by omega, rfl⟩).l ⟨rfl, rfl⟩
  obtain ⟨k1, U, k2, k3, k4, k5, k6⟩ := sw_17 (μ0 := μ) hn hw hc 25 0 fF (fm_l (fm_i μ 4 n 3) 7 n (lN w)) (by omega) (fF_gt (by omega)) fr (Or.inl ⟨by rw [fI_l, fI_i, if_pos ⟨rfl, rfl⟩], fun j hj => absurd hj (by omega)⟩)
  rw [show nI 0 = 0 from rfl] at k1 k2
  unfold pX7_setWord uX7_setWord
  rw [nI_clamp cn]
  have l7 : fL U 7 n = lN w := by rw [k5, fL_lq]
  have f5 : fI U 5 n = nI a := by rw [k4, fI_l, fI_i, if_neg (by omega)]; exact h5
  rcases k6 with ⟨s1, s2⟩ | ⟨v, s1, s2, s3, s4⟩
  · exact ⟨⟨vn, vn, k1⟩, U, 3, 0, k2, k3, ⟨s1, f5, fun y => by omega, fun _ => l7⟩, Or.inr ⟨rfl, s2⟩⟩
  · exact ⟨⟨vn, vn, k1⟩, U, 2, v, k2, k3, ⟨s3, f5, fun _ => s4, fun _ => l7⟩, Or.inl ⟨rfl, s1, s2⟩⟩
theorem rc_14 {b : Nat → Nat} {z q n : Nat} {μ : fm_T} (cb : CBy b z μ) (hn : n < 941) (hq : q < z) (h5 : fI μ 5 n = nI q) : ∀ (c p f A G num : Nat) (y5 : Int64) (x7 : Int32), p + c = z → c < f → q ≤ p → A + G = p - q → (∀ i, q ≤ i → i < p → isAn (b i) = true) → (G = 0 ↔ ∀ i, q ≤ i → i < p → isLt (b i) = true) → (A = 0 ↔ ∀ i, q ≤ i → i < p → isDg (b i) = true) → (G = 0 → p ≤ q + 7 → y5 = lN (cdN b q (p - q))) → (A = 0 → p ≤ q + 3 → x7 = nI (nmN b q (p - q))) → (p = q → isAn (b q) = true) →
    qX7_readRun_h14 f μ (nI n) (nI q) (nI A) (nI G) y5 x7 (nI p) ∧ ∃ E U k v w, lX7_readRun_h14 f μ (nI n) (nI q) (nI A) (nI G) y5 x7 (nI p) = nI E ∧ mX7_readRun_h14 f μ (nI n) (nI q) (nI A) (nI G) y5 x7 (nI p) = U ∧ frL (fT n) (fTl n) μ U ∧ EnT n k q v w U ∧ RUN b z q E k v w := by
  obtain ⟨z1, z2, z3, z4⟩ := cb
  have cn : n < 2 ^ 31 := by omega
  have vn : vp_in (nI n) 941 := vp_in_nI (by omega) (by decide)
  have fin : ∀ (p A G : Nat) (y5 : Int64) (x7 : Int32), q < p → p ≤ z → A + G = p - q → (∀ i, q ≤ i → i < p → isAn (b i) = true) → (p = z ∨ isAn (b p) = false) → (G = 0 ↔ ∀ i, q ≤ i → i < p → isLt (b i) = true) → (A = 0 ↔ ∀ i, q ≤ i → i < p → isDg (b i) = true) → (G = 0 → p ≤ q + 7 → y5 = lN (cdN b q (p - q))) → (A = 0 → p ≤ q + 3 → x7 = nI (nmN b q (p - q))) →
      ((¬ nI G = 0 → (¬ nI A = 0 → (vp_in (nI n) 941) ∧ ((vp_in (nI n) 941))) ∧ (nI A = 0 → (3 < nI G → (vp_in (nI n) 941) ∧ ((vp_in (nI n) 941))) ∧ (¬ 3 < nI G → (vp_in (nI n) 941) ∧ ((vp_in (nI n) 941))))) ∧ (nI G = 0 → (7 < nI A → (¬ nI A = 0 → (vp_in (nI n) 941) ∧ ((vp_in (nI n) 941))) ∧ (nI A = 0 → (3 < nI G → (vp_in (nI n) 941) ∧ ((vp_in (nI n) 941))) ∧ (¬ 3 < nI G → (vp_in (nI n) 941) ∧ ((vp_in (nI n) 941))))) ∧ (¬ 7 < nI A → (pX7_setWord μ (nI n) y5)))) ∧
      ∃ U k v w, (if nI G = 0 then (if 7 < nI A then (if nI A = 0 then (if 3 < nI G then (fm_i (fm_i μ 4 n 1) 6 n x7) else (fm_i (fm_i μ 4 n 4) 6 n x7)) else (fm_i (fm_i μ 4 n 1) 6 n x7)) else (uX7_setWord μ (nI n) y5)) else (if nI A = 0 then (if 3 < nI G then (fm_i (fm_i μ 4 n 1) 6 n x7) else (fm_i (fm_i μ 4 n 4) 6 n x7)) else (fm_i (fm_i μ 4 n 1) 6 n x7))) = U ∧ frL (fT n) (fTl n) μ U ∧ EnT n k q v w U ∧ RUN b z q p k v w := by
    intro p A G y5 x7 hp hpz hs ha he hG hA hy hx
    have tG : nI G = 0 ↔ G = 0 := nI_eq (b := 0) (by omega) (by omega)
    have tA : nI A = 0 ↔ A = 0 := nI_eq (b := 0) (by omega) (by omega)
    have l7 : (7 : Int32) < nI A ↔ 7 < A := nI_ltI (a := 7) (by omega) (by omega)
    have l3 : (3 : Int32) < nI G ↔ 3 < G := nI_ltI (a := 3) (by omega) (by omega)
    simp only [tG, tA, l7, l3]
    have wt : ∀ k : Nat, frL (fT n) (fTl n) μ (fm_i (fm_i μ 4 n (nI k)) 6 n x7) ∧ fI (fm_i (fm_i μ 4 n (nI k)) 6 n x7) 4 n = nI k ∧ fI (fm_i (fm_i μ 4 n (nI k)) 6 n x7) 5 n = nI q ∧ fI (fm_i (fm_i μ 4 n (nI k)) 6 n x7) 6 n = x7 := fun k => ⟨((frL.rf (fT n) (fTl n) μ).i ⟨by omega, rfl⟩).i ⟨by omega, rfl⟩, by rw [fI_i, if_neg (by omega), fI_i, if_pos ⟨rfl, rfl⟩], by rw [fI_i, if_neg (by omega), fI_i, if_neg (by omega)]; exact h5, by rw [fI_i, if_pos ⟨rfl, rfl⟩]⟩
    have wrong : ¬ ((∀ i, q ≤ i → i < p → isLt (b i) = true) ∧ p ≤ q + 7) → ¬ ((∀ i, q ≤ i → i < p → isDg (b i) = true) ∧ p ≤ q + 3) → ∃ U k v w, fm_i (fm_i μ 4 n 1) 6 n x7 = U ∧ frL (fT n) (fTl n) μ U ∧ EnT n k q v w U ∧ RUN b z q p k v w := fun n1 n2 => by
      obtain ⟨f1, f2, f3, f4⟩ := wt 1
      exact ⟨_, 1, 0, 0, rfl, f1, ⟨f2, f3, fun y => by omega, fun y => by omega⟩, hp, hpz, ha, he, Or.inr (Or.inr ⟨rfl, n1, n2⟩)⟩
    by_cases g0 : G = 0
    · have aL := hG.mp g0
      have nD : ¬ ∀ i, q ≤ i → i < p → isDg (b i) = true := fun w => by have := hA.mpr w; omega
      have A0 : ¬ A = 0 := by omega
      by_cases a7 : 7 < A
      · simp only [if_pos g0, if_pos a7, if_neg A0]
        exact ⟨⟨fun y => absurd g0 y, fun _ => ⟨fun _ => ⟨fun _ => ⟨vn, vn⟩, fun y => absurd y A0⟩, fun y => absurd a7 y⟩⟩, wrong (fun w => by omega) (fun w => nD w.1)⟩
      · simp only [if_pos g0, if_neg a7]
        have ew := hy g0 (by omega)
        have cl : cdN b q (p - q) < 2 ^ 40 := by
          have h1 := cd_lt (b := b) (q := q) (n := p - q) (fun i hi => aL (q + i) (by omega) (by omega))
          have h2 : 32 ^ (p - q) ≤ 32 ^ 7 := Nat.pow_le_pow_right (by decide) (by omega)
          have h3 : (32 : Nat) ^ 7 ≤ 2 ^ 40 := by decide
          omega
        obtain ⟨s1, U, k, v, s2, s3, s4, s5⟩ := sw_ok (μ := μ) (a := q) hn cl z4 h5
        rw [ew]
        exact ⟨⟨fun y => absurd g0 y, fun _ => ⟨fun y => absurd y a7, fun _ => s1⟩⟩, U, k, v, _, s2, s3, s4, hp, hpz, ha, he, Or.inl ⟨aL, by omega, rfl, s5⟩⟩
    · have nL : ¬ ∀ i, q ≤ i → i < p → isLt (b i) = true := fun w => g0 (hG.mpr w)
      by_cases A0 : A = 0
      · have aD := hA.mp A0
        by_cases g3 : 3 < G
        · simp only [if_neg g0, if_pos A0, if_pos g3]
          exact ⟨⟨fun _ => ⟨fun y => absurd A0 y, fun _ => ⟨fun _ => ⟨vn, vn⟩, fun y => absurd g3 y⟩⟩, fun y => absurd y g0⟩, wrong (fun w => nL w.1) (fun w => by omega)⟩
        · simp only [if_neg g0, if_pos A0, if_neg g3]
          obtain ⟨f1, f2, f3, f4⟩ := wt 4
          exact ⟨⟨fun _ => ⟨fun y => absurd A0 y, fun _ => ⟨fun y => absurd y g3, fun _ => ⟨vn, vn⟩⟩⟩, fun y => absurd y g0⟩, _, 4, nmN b q (p - q), 0, rfl, f1, ⟨f2, f3, fun _ => f4.trans (hx A0 (by omega)), fun y => by omega⟩, hp, hpz, ha, he, Or.inr (Or.inl ⟨aD, by omega, rfl, rfl⟩)⟩
      · have nD : ¬ ∀ i, q ≤ i → i < p → isDg (b i) = true := fun w => A0 (hA.mpr w)
        simp only [if_neg g0, if_neg A0]
        exact ⟨⟨fun _ => ⟨fun _ => ⟨vn, vn⟩, fun y => absurd y A0⟩, fun y => absurd y g0⟩, wrong (fun w => nL w.1) (fun w => nD w.1)⟩
  intro c
  induction c with
  | zero =>
    intro p f A G num y5 x7 h1 h2 hp hs ha hG hA hy hx h0
    obtain ⟨f, rfl⟩ : ∃ m, f = m + 1 := ⟨f - 1, by omega⟩
    obtain rfl : p = z := by omega
    have e1 : nI p ≤ nI p := (nI_leI (by omega) (by omega)).mpr (by omega)
    obtain ⟨f1, U, k, v, w, f2, f3⟩ := fin p A G y5 x7 (by omega) (Nat.le_refl _) hs ha (Or.inl rfl) hG hA hy hx
    simp only [qX7_readRun_h14, lX7_readRun_h14, mX7_readRun_h14, z2, if_pos e1, nI_clamp cn, ite_self]
    exact ⟨⟨fun _ => f1, fun y => absurd e1 y⟩, p, U, k, v, w, rfl, f2, f3⟩
  | succ c ih =>
    intro p f A G num y5 x7 h1 h2 hp hs ha hG hA hy hx h0
    obtain ⟨f, rfl⟩ : ∃ m, f = m + 1 := ⟨f - 1, by omega⟩
    have e1 : ¬ nI z ≤ nI p := fun y => by have := (nI_leI (by omega) (by omega)).mp y; omega
    have cp : p < 2 ^ 31 := by omega
    obtain ⟨b1, b2⟩ := z3 p (by omega)
    obtain ⟨i1, i2⟩ := il_c (μ := μ) b2
    have vp : vp_in (nI p) 940 := vp_in_nI (by omega) (by decide)
    have n1 : ¬ (1 : Int32) = 0 := by decide
    have qp : q + (p - q) = p := by omega
    have e2 : p + 1 - q = (p - q) + 1 := by omega
    have l7 : (7 : Int32) < nI (A + 1) ↔ 7 < A + 1 := nI_ltI (a := 7) (by omega) (by omega)
    have l3 : (3 : Int32) < nI (G + 1) ↔ 3 < G + 1 := nI_ltI (a := 3) (by omega) (by omega)
    simp only [qX7_readRun_h14, lX7_readRun_h14, mX7_readRun_h14, z2, if_neg e1, nI_clamp cp, nI_clamp cn, b1, i1, i2, nI_1, l7, l3]
    have ex : ∀ {Q : Nat → Prop}, (∀ i, q ≤ i → i < p → Q i) → Q p → ∀ i, q ≤ i → i < p + 1 → Q i := fun h1 h2 i hi hj => by
      by_cases y : i = p
      · rw [y]; exact h2
      · exact h1 i hi (by omega)
    cases t : isLt (b p)
    · cases d : isDg (b p)
      · have an : isAn (b p) = false := by unfold isAn; rw [t, d]; rfl
        have pq : q < p := by
          rcases Nat.eq_or_lt_of_le hp with y | y
          · rw [← y, h0 y.symm] at an; exact absurd an (by decide)
          · exact y
        obtain ⟨f1, U, k, v, w, f2, f3⟩ := fin p A G y5 x7 pq (by omega) hs ha (Or.inr an) hG hA hy hx
        simp only [Bool.false_eq_true, if_false, if_true, ite_self]
        exact ⟨⟨fun y => absurd y e1, fun _ => ⟨vp, fun y => absurd trivial y, fun _ => ⟨vp, fun _ => f1, fun y => absurd trivial y⟩⟩⟩, p, U, k, v, w, rfl, f2, f3⟩
      · have dp := dg_iff.mp d
        have an : isAn (b p) = true := by unfold isAn; rw [d, Bool.or_true]
        simp only [Bool.false_eq_true, if_false, if_true, if_neg n1]
        have A' : (A = 0 ↔ ∀ i, q ≤ i → i < p + 1 → isDg (b i) = true) := ⟨fun y => ex (hA.mp y) d, fun y => hA.mpr (fun i h1 h2 => y i h1 (by omega))⟩
        have G' : (G + 1 = 0 ↔ ∀ i, q ≤ i → i < p + 1 → isLt (b i) = true) := ⟨fun y => absurd y (by omega), fun y => by rw [y p hp (by omega)] at t; exact absurd t (by decide)⟩
        by_cases g : 3 < G + 1
        · simp only [if_pos g]
          obtain ⟨k1, k2⟩ := ih (p + 1) f A (G + 1) num y5 x7 (by omega) (by omega) (by omega) (by omega) (ex ha an) G' A' (fun y => absurd y (by omega)) (fun y w => by omega) (fun y => absurd y (by omega))
          exact ⟨⟨fun y => absurd y e1, fun _ => ⟨vp, fun y => absurd trivial y, fun _ => ⟨vp, fun y => absurd y n1, fun _ => ⟨vp, fun _ => k1, fun y => absurd g y⟩⟩⟩⟩, k2⟩
        · simp only [if_neg g]
          obtain ⟨k1, k2⟩ := ih (p + 1) f A (G + 1) num y5 (x7 * 10 + nI (b p) - 48) (by omega) (by omega) (by omega) (by omega) (ex ha an) G' A' (fun y => absurd y (by omega)) (fun y w => by
            rw [hx y (by omega), e2, show (10 : Int32) = nI 10 from rfl, show (48 : Int32) = nI 48 from rfl, nI_mul, nI_add, nI_sub (by omega)]
            congr 1
            show _ = nmN b q (p - q) * 10 + (b (q + (p - q)) - 48)
            rw [qp]
            omega) (fun y => absurd y (by omega))
          exact ⟨⟨fun y => absurd y e1, fun _ => ⟨vp, fun y => absurd trivial y, fun _ => ⟨vp, fun y => absurd y n1, fun _ => ⟨vp, fun y => absurd y g, fun _ => ⟨vp, k1⟩⟩⟩⟩⟩, k2⟩
    · have lp := lt_iff.mp t
      have an : isAn (b p) = true := by unfold isAn; rw [t, Bool.true_or]
      have nd : isDg (b p) = false := by
        cases y : isDg (b p)
        · rfl
        · have := dg_iff.mp y; omega
      simp only [if_true, if_neg n1]
      have G' : (G = 0 ↔ ∀ i, q ≤ i → i < p + 1 → isLt (b i) = true) := ⟨fun y => ex (hG.mp y) t, fun y => hG.mpr (fun i h1 h2 => y i h1 (by omega))⟩
      have A' : (A + 1 = 0 ↔ ∀ i, q ≤ i → i < p + 1 → isDg (b i) = true) := ⟨fun y => absurd y (by omega), fun y => by rw [y p hp (by omega)] at nd; exact absurd nd (by decide)⟩
      by_cases g : 7 < A + 1
      · simp only [if_pos g]
        obtain ⟨k1, k2⟩ := ih (p + 1) f (A + 1) G num y5 x7 (by omega) (by omega) (by omega) (by omega) (ex ha an) G' A' (fun y w => by omega) (fun y => absurd y (by omega)) (fun y => absurd y (by omega))
        exact ⟨⟨fun y => absurd y e1, fun _ => ⟨vp, fun _ => ⟨vp, fun _ => k1, fun y => absurd g y⟩, fun y => absurd y n1⟩⟩, k2⟩
      · simp only [if_neg g]
        obtain ⟨k1, k2⟩ := ih (p + 1) f (A + 1) G num (gX7_withLetter μ y5 (nI (b p))) x7 (by omega) (by omega) (by omega) (by omega) (ex ha an) G' A' (fun y w => by
          unfold gX7_withLetter
          rw [hy y (by omega), e2, show (97 : Int32) = nI 97 from rfl, nI_sub (by omega), nI_1, nl_i (by omega), show (32 : Int64) = lN 32 from rfl, lN_mul, lN_add]
          congr 1
          show _ = cdN b q (p - q) * 32 + (b (q + (p - q)) - 96)
          rw [qp]
          omega) (fun y => absurd y (by omega)) (fun y => absurd y (by omega))
        exact ⟨⟨fun y => absurd y e1, fun _ => ⟨vp, fun _ => ⟨vp, fun y => absurd y g, fun _ => ⟨vp, k1⟩⟩, fun y => absurd y n1⟩⟩, k2⟩
