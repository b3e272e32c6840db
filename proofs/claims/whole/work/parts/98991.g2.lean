def f65 (k j : Nat) : Prop := k = 65 ∨ (k = 61 ∧ j = 5)
section
variable {P : Nat → Bool} {hc : Nat → Nat → Bool} {e : Nat → Nat} {n : Nat} {bt zt : Nat → Nat}
theorem GR_s {r c : Nat} {L : Nat → Bool} {q : Nat → Nat} (h : P c = true → ¬ CV P hc r (lmi hc L c)) (g : GR P hc (r + 1) L (c + 1) q) : GR P hc (r + 1) L c q := by
  obtain ⟨⟨a1, a2, a3, a4, a5⟩, a6⟩ := g
  refine ⟨⟨by omega, a2, a3, a4, fun d h1 h2 h3 => ?_⟩, a6⟩
  by_cases w : d = c
  · rw [w] at h3 ⊢
    exact h h3
  · exact a5 d (by omega) h2 h3
theorem Ic_s {r c : Nat} {L : Nat → Bool} (h : P c = true → ¬ CV P hc r (lmi hc L c)) (g : Ic P hc (r + 1) L c) : Ic P hc (r + 1) L (c + 1) := by
  intro d hd hp m hm z
  by_cases w : d = c
  · rw [w] at hp z
    exact h hp (CV_m (by omega) z)
  · exact g d (by omega) hp m hm z
theorem Mn_v {r v : Nat} {L : Nat → Bool} (h : Mn P hc r L) (hv : ∀ j, CV P hc j L ↔ v ≤ j) : v = r := by
  have h1 := (hv r).mp h.1
  rcases Nat.lt_or_ge v r with z | z
  · exact absurd ((hv v).mpr (Nat.le_refl _)) (h.2 v z)
  · omega
theorem CT_65 {μ : fm_T} {i : Nat} {v w : Int32} (h : CtN n bt zt μ) : CtN n bt zt (fm_i (fm_i μ 65 i v) 61 5 w) := by
  obtain ⟨h1, h2, h3⟩ := h
  refine ⟨?_, fun c hc => ?_, fun i hi => ?_⟩
  · rw [fI_i, if_neg (by omega), fI_i, if_neg (by omega)]; exact h1
  · rw [fI_i, if_neg (by omega), fI_i, if_neg (by omega)]; exact h2 c hc
  · rw [fI_i, if_neg (by omega), fI_i, if_neg (by omega)]; exact h3 i hi
theorem TF_65 {μ : fm_T} {i U : Nat} {v w : Int32} (h : TfN P hc e n U μ) : TfN P hc e n U (fm_i (fm_i μ 65 i v) 61 5 w) := by
  intro m hm
  rw [fI_i, if_neg (by omega), fI_i, if_neg (by omega)]
  exact h m hm
def gCh (P : Nat → Bool) (hc : Nat → Nat → Bool) (L : Nat → Bool) (c r dn : Nat) (μ M : fm_T) : Prop := ∃ q, GR P hc r L c q ∧ frL f65 fN μ M ∧ fI M 61 5 = nI (dn + r) ∧ (∀ i, i < dn → fI M 65 i = fI μ 65 i) ∧ ∀ i, i < r → fI M 65 (dn + i) = nI (q i)
theorem gCh_0 {L : Nat → Bool} {c dn : Nat} {μ : fm_T} (h : ∀ t, L t = false) (h5 : fI μ 61 5 = nI dn) : gCh P hc L c 0 dn μ μ := ⟨fun _ => 0, h, frL.rf _ _ _, h5, fun _ _ => rfl, fun _ z => absurd z (by omega)⟩
theorem ch_73 (W : CwN P hc e n bt zt) : ∀ (d c f r dn m : Nat) (μ : fm_T), c + d = 240 → d < f → CtN n bt zt μ → TfN P hc e n (2 ^ n) μ → m < 2 ^ n → Mn P hc r (LsN e n m) → Ic P hc r (LsN e n m) c → dn + r ≤ 12 → fI μ 61 5 = nI dn →
    gCh P hc (LsN e n m) c r dn μ (mX0_chooseFewest_h73 f μ (nI m) (nI c)) ∧ lX0_chooseFewest_h73 f μ (nI m) (nI c) = nI (dn + r) ∧ qX0_chooseFewest_h73 f μ (nI m) (nI c) := by
  have hn := W.1
  have hp := p2_12 hn
  intro d
  induction d with
  | zero =>
    intro c f r dn m μ h1 h2 ct tf hm mn ic hd h5
    obtain ⟨f, rfl⟩ : ∃ m, f = m + 1 := ⟨f - 1, by omega⟩
    obtain rfl : c = 240 := by omega
    have e1 : (240 : Int32) ≤ nI 240 := by decide
    have r0 : r = 0 := by
      cases r with
      | zero => rfl
      | succ r =>
        obtain ⟨x, x1, x2, -⟩ := Mn_ex mn ic
        omega
    subst r0
    simp only [mX0_chooseFewest_h73, lX0_chooseFewest_h73, qX0_chooseFewest_h73, if_pos e1]
    exact ⟨gCh_0 mn.1 h5, h5, fun z => absurd e1 z⟩
  | succ d ih =>
    intro c f r dn m μ h1 h2 ct tf hm mn ic hd h5
    obtain ⟨f, rfl⟩ : ∃ m, f = m + 1 := ⟨f - 1, by omega⟩
    have e1 : ¬ (240 : Int32) ≤ nI c := fun z => by have := (nI_leI (a := 240) (by omega) (by omega)).mp z; omega
    have cc : c < 2 ^ 31 := by omega
    have cm : m < 2 ^ 31 := by omega
    have cb := W.2.1 c (by omega)
    have v2 := ct.2.1 c (by omega)
    have md := mdn_i (m := m) (b := bt c) (by omega) (by omega)
    have mle := mdn_le m (bt c)
    have cmd : mdn m (bt c) < 2 ^ 31 := by omega
    by_cases q0 : m = 0
    · have e2 : nI m = 0 := by rw [q0]; rfl
      have z := (LS_0 (e := e) hm).mpr q0
      have r0 : r = 0 := by
        cases r with
        | zero => rfl
        | succ r => exact absurd z (Mn_ne mn)
      subst r0
      simp only [mX0_chooseFewest_h73, lX0_chooseFewest_h73, qX0_chooseFewest_h73, if_neg e1, if_pos e2]
      exact ⟨gCh_0 mn.1 h5, h5, fun _ z => absurd e2 z⟩
    · have e2 : ¬ nI m = 0 := fun zz => q0 (nI_inj (b := 0) (by omega) (by omega) zz)
      obtain ⟨r, rfl⟩ : ∃ r', r = r' + 1 := by
        cases r with
        | zero => exact absurd ((LS_0 hm).mp mn.1) q0
        | succ r => exact ⟨r, rfl⟩
      obtain ⟨va, a1, a2, a3⟩ := tf m hm
      obtain rfl := Mn_v mn a3
      obtain ⟨vb, b1, b2, b3⟩ := tf (mdn m (bt c)) (by omega)
      have le : nI (r + 1) ≤ nI vb ↔ r + 1 ≤ vb := nI_leI (by omega) (by omega)
      simp only [mX0_chooseFewest_h73, lX0_chooseFewest_h73, qX0_chooseFewest_h73, if_neg e1, if_neg e2, nI_clamp cc, nI_clamp cm, v2, md, nI_clamp cmd, a2, b2, h5, nI_1]
      have w1 : vp_in (nI c) 240 := vp_in_nI (by omega) (by decide)
      have w2 : vp_in (nI (mdn m (bt c))) 4096 := vp_in_nI (by omega) (by decide)
      have w3 : vp_in (nI m) 4096 := vp_in_nI (by omega) (by decide)
      have e4 : ¬ (12 : Int32) ≤ nI dn := fun z => by have := (nI_leI (a := 12) (by omega) (by omega)).mp z; omega
      have cdn : dn < 2 ^ 31 := by omega
      by_cases q1 : r + 1 ≤ vb
      · have no : P c = true → ¬ CV P hc r (lmi hc (LsN e n m) c) := fun hpc z => by
          rw [← LS_b W (by omega) hpc] at z
          have := (b3 r).mp z
          omega
        obtain ⟨⟨q, g1, g2⟩, i2, i3⟩ := ih (c + 1) f (r + 1) dn m μ (by omega) (by omega) ct tf hm mn (Ic_s no ic) hd h5
        simp only [if_pos (le.mpr q1)]
        exact ⟨⟨q, GR_s no g1, g2⟩, i2, fun _ _ => ⟨w1, w2, w3, fun _ => i3, fun z => absurd (le.mpr q1) z⟩⟩
      · have hpc : P c = true := by
          cases z : P c
          · have := cb.2.1 z
            rw [this, mdn_0 (by omega)] at b3
            have := Mn_v mn b3
            omega
          · rfl
        have lse := LS_b (m := m) W (by omega) hpc
        rw [lse] at b3
        have cv : CV P hc r (lmi hc (LsN e n m) c) := (b3 r).mpr (by omega)
        obtain ⟨mn2, ic2⟩ := Mn_st mn ic (by omega) hpc cv (fun d h1 h2 => absurd h2 (by omega))
        rw [← lse] at mn2 ic2
        obtain ⟨⟨q, g1, g2, g3, g4, g5⟩, i2, i3⟩ := ih (c + 1) f r (dn + 1) (mdn m (bt c)) (fm_i (fm_i μ 65 dn (nI c)) 61 5 (nI (dn + 1))) (by omega) (by omega) (CT_65 ct) (TF_65 tf) (by omega) mn2 ic2 (by omega) (by rw [fI_i, if_pos ⟨rfl, rfl⟩])
        simp only [if_neg (fun z => q1 (le.mp z)), if_neg e4, nI_clamp cdn]
        have ea : dn + 1 + r = dn + (r + 1) := by omega
        rw [ea] at g3 i2
        refine ⟨⟨fun i => if i = 0 then c else q (i - 1), ?_, (((frL.rf f65 fN μ).i (Or.inl rfl)).i (Or.inr ⟨rfl, rfl⟩)).tr g2, g3, fun i hi => ?_, fun i hi => ?_⟩, i2, fun _ _ => ⟨w1, w2, w3, fun z => absurd (le.mp z) q1, fun _ => ⟨fun z => absurd z e4, fun _ => ⟨vp_in_nI (by omega) (by decide), i3⟩⟩⟩⟩
        · rw [lse] at g1
          exact ⟨⟨Nat.le_refl _, (by omega : c < 240), hpc, cv, fun d h1 h2 => absurd h2 (by simp only [if_true]; omega)⟩, g1⟩
        · rw [g4 i (by omega), fI_i, if_neg (by omega), fI_i, if_neg (by omega)]
        · cases i with
          | zero =>
            rw [g4 (dn + 0) (by omega), fI_i, if_neg (by omega), fI_i, if_pos ⟨rfl, rfl⟩]
            rfl
          | succ i =>
            have := g5 i (by omega)
            rw [show dn + 1 + i = dn + (i + 1) by omega] at this
            rw [this]
            rfl
theorem ch_2 (W : CwN P hc e n bt zt) {μ : fm_T} (ct : CtN n bt zt μ) : ∀ (d i f : Nat), i + d = n → d < f →
    ((∃ k, k < n ∧ ∀ w, w < 3 → zt (3 * k + w) = 0) ∧ lX0_chooseFewest_h2 f μ (nI i) = -1 ∧ mX0_chooseFewest_h2 f μ (nI i) = μ ∧ qX0_chooseFewest_h2 f μ (nI i)) ∨
    ((∀ k, i ≤ k → k < n → ∃ w, w < 3 ∧ zt (3 * k + w) ≠ 0) ∧ lX0_chooseFewest_h2 f μ (nI i) = lX0_chooseFewest_h73 fF (fm_i (uX0_countFewest μ) 61 5 0) (((1 : Int32) <<< ((fI (uX0_countFewest μ) 61 4) &&& 31)) - 1) 1 ∧ mX0_chooseFewest_h2 f μ (nI i) = mX0_chooseFewest_h73 fF (fm_i (uX0_countFewest μ) 61 5 0) (((1 : Int32) <<< ((fI (uX0_countFewest μ) 61 4) &&& 31)) - 1) 1 ∧ (pX0_countFewest μ → qX0_chooseFewest_h73 fF (fm_i (uX0_countFewest μ) 61 5 0) (((1 : Int32) <<< ((fI (uX0_countFewest μ) 61 4) &&& 31)) - 1) 1 → qX0_chooseFewest_h2 f μ (nI i))) := by
  have hn := W.1
  intro d
  induction d with
  | zero =>
    intro i f h1 h2
    obtain ⟨f, rfl⟩ : ∃ m, f = m + 1 := ⟨f - 1, by omega⟩
    have e1 : nI n ≤ nI i := (nI_leI (by omega) (by omega)).mpr (by omega)
    simp only [mX0_chooseFewest_h2, lX0_chooseFewest_h2, qX0_chooseFewest_h2, ct.1, if_pos e1]
    exact Or.inr ⟨fun k h1 h2 => absurd h2 (by omega), trivial, trivial, fun q1 q2 => ⟨fun _ => ⟨q1, q2⟩, fun z => absurd e1 z⟩⟩
  | succ d ih =>
    intro i f h1 h2
    obtain ⟨f, rfl⟩ : ∃ m, f = m + 1 := ⟨f - 1, by omega⟩
    have e1 : ¬ nI n ≤ nI i := fun z => by have := (nI_leI (by omega) (by omega)).mp z; omega
    have x0 : nI i * (3 : Int32) = nI (3 * i + 0) := by rw [show (3 : Int32) = nI 3 from rfl, nI_mul]; congr 1; omega
    have x1 : nI (3 * i + 0) + 1 = nI (3 * i + 1) := by rw [show (1 : Int32) = nI 1 from rfl, nI_add]
    have x2 : nI (3 * i + 0) + 2 = nI (3 * i + 2) := by rw [show (2 : Int32) = nI 2 from rfl, nI_add]
    have c0 : 3 * i + 0 < 2 ^ 31 := by omega
    have c1 : 3 * i + 1 < 2 ^ 31 := by omega
    have c2 : 3 * i + 2 < 2 ^ 31 := by omega
    have y0 := ct.2.2 (3 * i + 0) (by omega)
    have y1 := ct.2.2 (3 * i + 1) (by omega)
    have y2 := ct.2.2 (3 * i + 2) (by omega)
    have z0 := (W.2.2.1 i 0 (by omega) (by omega)).1
    have z1 := (W.2.2.1 i 1 (by omega) (by omega)).1
    have z2 := (W.2.2.1 i 2 (by omega) (by omega)).1
    have k0 : nI (zt (3 * i + 0)) = 0 ↔ zt (3 * i + 0) = 0 := nI_eq (b := 0) (by omega) (by omega)
    have k1 : nI (zt (3 * i + 1)) = 0 ↔ zt (3 * i + 1) = 0 := nI_eq (b := 0) (by omega) (by omega)
    have k2 : nI (zt (3 * i + 2)) = 0 ↔ zt (3 * i + 2) = 0 := nI_eq (b := 0) (by omega) (by omega)
    have v0 : vp_in (nI (3 * i + 0)) 36 := vp_in_nI (by omega) (by decide)
    have v1 : vp_in (nI (3 * i + 1)) 36 := vp_in_nI (by omega) (by decide)
    have v2 : vp_in (nI (3 * i + 2)) 36 := vp_in_nI (by omega) (by decide)
    simp only [mX0_chooseFewest_h2, lX0_chooseFewest_h2, qX0_chooseFewest_h2, ct.1, if_neg e1, x0, x1, x2, nI_clamp c0, nI_clamp c1, nI_clamp c2, y0, y1, y2, k0, k1, k2, nI_1]
    have up : ∀ w, w < 3 → zt (3 * i + w) ≠ 0 → (∀ k, i + 1 ≤ k → k < n → ∃ w, w < 3 ∧ zt (3 * k + w) ≠ 0) → ∀ k, i ≤ k → k < n → ∃ w, w < 3 ∧ zt (3 * k + w) ≠ 0 := fun w h1 h2 h3 k k1 k2 => by
      by_cases q : k = i
      · exact ⟨w, h1, q ▸ h2⟩
      · exact h3 k (by omega) k2
    by_cases a0 : zt (3 * i + 0) = 0
    · by_cases a1 : zt (3 * i + 1) = 0
      · by_cases a2 : zt (3 * i + 2) = 0
        · simp only [if_pos a0, if_pos a1, if_pos a2]
          exact Or.inl ⟨⟨i, by omega, fun w hw => by
            rcases (by omega : w = 0 ∨ w = 1 ∨ w = 2) with rfl | rfl | rfl
            · exact a0
            · exact a1
            · exact a2⟩, trivial, trivial, fun z => absurd z e1, fun _ => ⟨v0, fun z => absurd a0 z, fun _ => ⟨v1, fun z => absurd a1 z, fun _ => ⟨v2, fun z => absurd a2 z⟩⟩⟩⟩
        · simp only [if_pos a0, if_pos a1, if_neg a2]
          rcases ih (i + 1) f (by omega) (by omega) with ⟨j1, j2, j3, j4⟩ | ⟨j1, j2, j3, j4⟩
          · exact Or.inl ⟨j1, j2, j3, fun z => absurd z e1, fun _ => ⟨v0, fun z => absurd a0 z, fun _ => ⟨v1, fun z => absurd a1 z, fun _ => ⟨v2, fun _ => j4⟩⟩⟩⟩
          · exact Or.inr ⟨up 2 (by omega) a2 j1, j2, j3, fun q1 q2 => ⟨fun z => absurd z e1, fun _ => ⟨v0, fun z => absurd a0 z, fun _ => ⟨v1, fun z => absurd a1 z, fun _ => ⟨v2, fun _ => j4 q1 q2⟩⟩⟩⟩⟩
      · simp only [if_pos a0, if_neg a1]
        rcases ih (i + 1) f (by omega) (by omega) with ⟨j1, j2, j3, j4⟩ | ⟨j1, j2, j3, j4⟩
        · exact Or.inl ⟨j1, j2, j3, fun z => absurd z e1, fun _ => ⟨v0, fun z => absurd a0 z, fun _ => ⟨v1, fun _ => j4, fun z => absurd z a1⟩⟩⟩
        · exact Or.inr ⟨up 1 (by omega) a1 j1, j2, j3, fun q1 q2 => ⟨fun z => absurd z e1, fun _ => ⟨v0, fun z => absurd a0 z, fun _ => ⟨v1, fun _ => j4 q1 q2, fun z => absurd z a1⟩⟩⟩⟩
    · simp only [if_neg a0]
      rcases ih (i + 1) f (by omega) (by omega) with ⟨j1, j2, j3, j4⟩ | ⟨j1, j2, j3, j4⟩
      · exact Or.inl ⟨j1, j2, j3, fun z => absurd z e1, fun _ => ⟨v0, fun _ => j4, fun z => absurd z a0⟩⟩
      · exact Or.inr ⟨up 0 (by omega) a0 j1, j2, j3, fun q1 q2 => ⟨fun z => absurd z e1, fun _ => ⟨v0, fun _ => j4 q1 q2, fun z => absurd z a0⟩⟩⟩
theorem sh_m1 : ∀ c, c ≤ 12 → (1 : Int32) <<< (nI c &&& 31) - 1 = nI (2 ^ c - 1) := by decide +kernel
def f645 (k j : Nat) : Prop := k = 64 ∨ k = 65 ∨ (k = 61 ∧ j = 5)
theorem ch_ok (W : CwN P hc e n bt zt) {μ : fm_T} (ct : CtN n bt zt μ) : pX0_chooseFewest μ ∧
    ((gX0_chooseFewest μ = -1 ∧ uX0_chooseFewest μ = μ ∧ ∀ j, ¬ CV P hc j (LsN e n (2 ^ n - 1))) ∨
    ∃ r q, r ≤ 12 ∧ Mn P hc r (LsN e n (2 ^ n - 1)) ∧ gX0_chooseFewest μ = nI r ∧ frL f645 fN μ (uX0_chooseFewest μ) ∧ fI (uX0_chooseFewest μ) 61 5 = nI r ∧ GR P hc r (LsN e n (2 ^ n - 1)) 1 q ∧ ∀ i, i < r → fI (uX0_chooseFewest μ) 65 i = nI (q i)) := by
  have hn := W.1
  have hp := p2_12 hn
  have hp1 := Nat.two_pow_pos n
  unfold pX0_chooseFewest gX0_chooseFewest uX0_chooseFewest
  rcases ch_2 W ct n 0 fF (by omega) (fF_gt (by omega)) with ⟨⟨k, k1, k2⟩, j2, j3, j4⟩ | ⟨j1, j2, j3, j4⟩
  · rw [show nI 0 = 0 from rfl] at j2 j3 j4
    refine ⟨j4, Or.inl ⟨j2, j3, fun j z => ?_⟩⟩
    have tb : (2 ^ n - 1).testBit k = true := by rw [Nat.testBit_two_pow_sub_one]; simpa using k1
    have lt : LsN e n (2 ^ n - 1) (e k) = true := (LS_iff n).mpr ⟨k, k1, rfl, tb⟩
    obtain ⟨q, q1, q2, q3, -⟩ := CV_re j _ lt (CV_s _ _ z)
    obtain ⟨w, w1, w2⟩ := W.2.2.2.1 k q k1 q1 q2 q3
    rw [k2 w w1] at w2
    rw [← w2, W.2.2.2.2] at q2
    exact absurd q2 (by decide)
  · rw [show nI 0 = 0 from rfl] at j2 j3 j4
    obtain ⟨μ2, k1, k2, k3, k4, k5⟩ := cf_ok W (fun k hk => j1 k (Nat.zero_le _) hk) ct
    rw [k1, k2.1, sh_m1 n hn] at j2 j3 j4
    obtain ⟨r, r1, r2, r3⟩ := k3 (2 ^ n - 1) (by omega)
    have mn : Mn P hc r (LsN e n (2 ^ n - 1)) := ⟨(r3 r).mpr (Nat.le_refl _), fun m hm z => by have := (r3 m).mp z; omega⟩
    obtain ⟨⟨q, g1, g2, g3, g4, g5⟩, i2, i3⟩ := ch_73 W 239 1 fF r 0 (2 ^ n - 1) (fm_i μ2 61 5 0) (by omega) (fF_gt (by omega)) (by
      obtain ⟨h1, h2, h3⟩ := k2
      refine ⟨?_, fun c hc => ?_, fun i hi => ?_⟩
      · rw [fI_i, if_neg (by omega)]; exact h1
      · rw [fI_i, if_neg (by omega)]; exact h2 c hc
      · rw [fI_i, if_neg (by omega)]; exact h3 i hi) (fun m hm => by rw [fI_i, if_neg (by omega)]; exact k3 m hm) (by omega) mn (fun d hd hp => by
      obtain rfl : d = 0 := by omega
      rw [W.2.2.2.2] at hp
      exact absurd hp (by decide)) (by omega) (by rw [fI_i, if_pos ⟨rfl, rfl⟩]; rfl)
    rw [show nI 1 = 1 from rfl] at g2 g3 g4 g5 i2 i3
    rw [j2, j3]
    rw [Nat.zero_add] at i2 g3
    refine ⟨j4 k5 i3, Or.inr ⟨r, q, r1, mn, i2, ?_, g3, g1, fun i hi => ?_⟩⟩
    · exact ((k4.mo (fun k j z => Or.inl z) (fun _ _ z => z)).tr ((frL.rf f645 fN μ2).i (Or.inr (Or.inr ⟨rfl, rfl⟩)))).tr (g2.mo (fun k j z => Or.inr z) (fun _ _ z => z))
    · have := g5 i hi
      rw [Nat.zero_add] at this
      exact this
end
