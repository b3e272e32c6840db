def LsN (e : Nat → Nat) : Nat → Nat → Nat → Bool
  | 0, _, _ => false
  | n + 1, m, t => (m.testBit n && (e n == t)) || LsN e n m t
theorem LS_iff {e : Nat → Nat} {m t : Nat} : ∀ n, LsN e n m t = true ↔ ∃ k, k < n ∧ e k = t ∧ m.testBit k = true
  | 0 => by
    unfold LsN
    exact ⟨fun z => absurd z (by decide), fun ⟨k, h, _⟩ => absurd h (by omega)⟩
  | n + 1 => by
    unfold LsN
    rw [Bool.or_eq_true, Bool.and_eq_true, beq_iff_eq, LS_iff n]
    constructor
    · rintro (⟨h1, h2⟩ | ⟨k, h1, h2, h3⟩)
      · exact ⟨n, by omega, h2, h1⟩
      · exact ⟨k, by omega, h2, h3⟩
    · rintro ⟨k, h1, h2, h3⟩
      by_cases q : k = n
      · exact Or.inl ⟨q ▸ h3, q ▸ h2⟩
      · exact Or.inr ⟨k, by omega, h2, h3⟩
theorem LS_md {hc : Nat → Nat → Bool} {e : Nat → Nat} {n m b c : Nat} (hn : n ≤ 12) (hb : b < 4096) (h : ∀ k, k < n → b.testBit k = hc (e k) c) : LsN e n (mdn m b) = lmi hc (LsN e n m) c := by
  funext t
  unfold lmi
  apply Bool.eq_iff_iff.mpr
  rw [Bool.and_eq_true, LS_iff, LS_iff, Bool.not_eq_true']
  constructor
  · rintro ⟨k, h1, h2, h3⟩
    rw [mdn_t hb (by omega), h k h1, h2, Bool.and_eq_true, Bool.not_eq_true'] at h3
    exact ⟨⟨k, h1, h2, h3.1⟩, h3.2⟩
  · rintro ⟨⟨k, h1, h2, h3⟩, h4⟩
    refine ⟨k, h1, h2, ?_⟩
    rw [mdn_t hb (by omega), h k h1, h2, h3, h4]
    rfl
theorem tb_o {m n i : Nat} (h : m < 2 ^ n) (hi : n ≤ i) : m.testBit i = false := Nat.testBit_lt_two_pow (Nat.lt_of_lt_of_le h (Nat.pow_le_pow_right (by decide) hi))
theorem LS_0 {e : Nat → Nat} {n m : Nat} (hm : m < 2 ^ n) : (∀ t, LsN e n m t = false) ↔ m = 0 := by
  constructor
  · intro h
    apply Nat.eq_of_testBit_eq
    intro i
    rw [Nat.zero_testBit]
    by_cases hi : i < n
    · cases q : m.testBit i
      · rfl
      · have := (LS_iff (e := e) (m := m) (t := e i) n).mpr ⟨i, hi, rfl, q⟩
        rw [h] at this
        exact absurd this (by decide)
    · exact tb_o hm (by omega)
  · rintro rfl t
    cases q : LsN e n 0 t
    · rfl
    · obtain ⟨k, -, -, h⟩ := (LS_iff n).mp q
      rw [Nat.zero_testBit] at h
      exact absurd h (by decide)
theorem tb_hi {m c : Nat} (h : m < 2 ^ (c + 1)) (hb : m.testBit c = false) : m < 2 ^ c := by
  apply Nat.lt_pow_two_of_testBit
  intro i hi
  by_cases q : i = c
  · rw [q]; exact hb
  · exact tb_o h (by omega)
theorem sh_12 : ∀ c, c ≤ 12 → (1 : Int32) <<< (nI c &&& 31) = nI (2 ^ c) := by decide +kernel
theorem p2_12 {c : Nat} (h : c ≤ 12) : 2 ^ c ≤ 4096 := Nat.pow_le_pow_right (n := 2) (j := 12) (by decide) h
theorem or_p {r c : Nat} (h : r < 2 ^ c) : r ||| 2 ^ c = 2 ^ c + r := by
  have := Nat.two_pow_add_eq_or_of_lt h 1
  rw [Nat.mul_one] at this
  rw [this, Nat.or_comm]
theorem tb_c {r c : Nat} (h : r < 2 ^ c) : (2 ^ c + r).testBit c = true := by
  rw [Nat.testBit_two_pow_add_eq, tb_o h (Nat.le_refl _)]
  rfl
def CtN (n : Nat) (bt zt : Nat → Nat) (μ : fm_T) : Prop := fI μ 61 4 = nI n ∧ (∀ c, c < 240 → fI μ 62 c = nI (bt c)) ∧ (∀ i, i < 3 * n → fI μ 63 i = nI (zt i))
def CwN (P : Nat → Bool) (hc : Nat → Nat → Bool) (e : Nat → Nat) (n : Nat) (bt zt : Nat → Nat) : Prop :=
  n ≤ 12 ∧ (∀ c, c < 240 → bt c < 2 ^ n ∧ (P c = false → bt c = 0) ∧ (P c = true → ∀ k, k < n → (bt c).testBit k = hc (e k) c)) ∧
  (∀ k w, k < n → w < 3 → zt (3 * k + w) < 240 ∧ (zt (3 * k + w) ≠ 0 → P (zt (3 * k + w)) = true ∧ hc (e k) (zt (3 * k + w)) = true)) ∧
  (∀ k c, k < n → c < 240 → P c = true → hc (e k) c = true → ∃ w, w < 3 ∧ zt (3 * k + w) = c) ∧ P 0 = false
def TfN (P : Nat → Bool) (hc : Nat → Nat → Bool) (e : Nat → Nat) (n U : Nat) (μ : fm_T) : Prop := ∀ m, m < U → ∃ v, v ≤ 12 ∧ fI μ 64 m = nI v ∧ ∀ j, CV P hc j (LsN e n m) ↔ v ≤ j
def f64 (k _j : Nat) : Prop := k = 64
section
variable {P : Nat → Bool} {hc : Nat → Nat → Bool} {e : Nat → Nat} {n : Nat} {bt zt : Nat → Nat}
theorem LS_b (W : CwN P hc e n bt zt) {c m : Nat} (h1 : c < 240) (h2 : P c = true) : LsN e n (mdn m (bt c)) = lmi hc (LsN e n m) c := by
  obtain ⟨w1, w2, -⟩ := W
  obtain ⟨a1, -, a3⟩ := w2 c h1
  exact LS_md w1 (Nat.lt_of_lt_of_le a1 (p2_12 w1)) (a3 h2)
theorem md_c (W : CwN P hc e n bt zt) {c k m : Nat} (h1 : c < 240) (h2 : P c = true) (hk : k < n) (hh : hc (e k) c = true) (hm : m < 2 ^ (k + 1)) : mdn m (bt c) < 2 ^ k := by
  obtain ⟨w1, w2, -⟩ := W
  obtain ⟨a1, -, a3⟩ := w2 c h1
  apply tb_hi (Nat.lt_of_le_of_lt (mdn_le _ _) hm)
  rw [mdn_t (Nat.lt_of_lt_of_le a1 (p2_12 w1)) (by omega), a3 h2 k hk, hh]
  cases m.testBit k <;> rfl
theorem CV_bd (W : CwN P hc e n bt zt) (ha : ∀ k, k < n → ∃ w, w < 3 ∧ zt (3 * k + w) ≠ 0) : ∀ c m, c ≤ n → m < 2 ^ c → CV P hc c (LsN e n m)
  | 0, m, _, h => (LS_0 (Nat.lt_of_lt_of_le h (Nat.pow_le_pow_right (by decide) (by omega)))).mpr (by omega)
  | c + 1, m, h1, h => by
    cases q : m.testBit c
    · exact CV_s _ _ (CV_bd W ha c m (by omega) (tb_hi h q))
    · obtain ⟨w, w1, w2⟩ := ha c (by omega)
      obtain ⟨z1, z2⟩ := W.2.2.1 c w (by omega) w1
      obtain ⟨z3, z4⟩ := z2 w2
      apply CV_a z1 z3
      rw [← LS_b W z1 z3]
      exact CV_bd W ha c _ (by omega) (md_c W z1 z3 (by omega) z4 h)
theorem CT_64 {μ : fm_T} {j : Nat} {v : Int32} (h : CtN n bt zt μ) : CtN n bt zt (fm_i μ 64 j v) := by
  obtain ⟨h1, h2, h3⟩ := h
  refine ⟨?_, fun c hc => ?_, fun i hi => ?_⟩
  · rw [fI_i, if_neg (by omega)]; exact h1
  · rw [fI_i, if_neg (by omega)]; exact h2 c hc
  · rw [fI_i, if_neg (by omega)]; exact h3 i hi
theorem cf_41 (W : CwN P hc e n bt zt) {c r : Nat} (hcn : c < n) (hr : r < 2 ^ c) (x2 : Int32) : ∀ (d i f y : Nat) (μ : fm_T), i + d = 3 → d < f → CtN n bt zt μ → TfN P hc e n (2 ^ c + r) μ → y ≤ n → (∀ w, w < i → zt (3 * c + w) ≠ 0 → ∀ j, CV P hc j (lmi hc (LsN e n (2 ^ c + r)) (zt (3 * c + w))) → y ≤ j + 1) → (∀ j, y ≤ j → CV P hc j (LsN e n (2 ^ c + r))) →
    ∃ y', y' ≤ n ∧ (∀ j, CV P hc j (LsN e n (2 ^ c + r)) ↔ y' ≤ j) ∧ mX0_countFewest_h41 f μ (nI c) x2 (nI (2 ^ c + r)) (nI y) (nI i) = fm_i μ 64 (2 ^ c + r) (nI y') ∧ l2X0_countFewest_h41 f μ (nI c) x2 (nI (2 ^ c + r)) (nI y) (nI i) = x2 + 1 ∧ qX0_countFewest_h41 f μ (nI c) x2 (nI (2 ^ c + r)) (nI y) (nI i) := by
  have hn := W.1
  have hm1 : 2 ^ c + r < 2 ^ (c + 1) := by rw [Nat.pow_succ]; omega
  have hm2 : 2 ^ c + r < 4096 := Nat.lt_of_lt_of_le hm1 (p2_12 (by omega))
  have hm3 : 2 ^ c + r < 2 ^ 31 := by omega
  intro d
  induction d with
  | zero =>
    intro i f y μ h1 h2 ct tf y1 y2 y3
    obtain ⟨f, rfl⟩ : ∃ m, f = m + 1 := ⟨f - 1, by omega⟩
    obtain rfl : i = 3 := by omega
    have e3 : (3 : Int32) ≤ nI 3 := by decide
    simp only [mX0_countFewest_h41, l2X0_countFewest_h41, qX0_countFewest_h41, if_pos e3, nI_clamp hm3]
    refine ⟨y, y1, fun j => ⟨fun z => ?_, y3 j⟩, rfl, trivial, fun _ => vp_in_nI hm2 (by decide), fun z => absurd e3 z⟩
    have lt : LsN e n (2 ^ c + r) (e c) = true := (LS_iff n).mpr ⟨c, hcn, rfl, tb_c hr⟩
    cases j with
    | zero =>
      have := z (e c)
      rw [lt] at this
      exact absurd this (by decide)
    | succ j =>
      obtain ⟨q, q1, q2, q3, q4⟩ := CV_re j _ lt z
      obtain ⟨w, w1, w2⟩ := W.2.2.2.1 c q hcn q1 q2 q3
      have q0 : q ≠ 0 := fun z => by rw [z, W.2.2.2.2] at q2; exact absurd q2 (by decide)
      exact y2 w w1 (by rw [w2]; exact q0) j (by rw [w2]; exact q4)
  | succ d ih =>
    intro i f y μ h1 h2 ct tf y1 y2 y3
    obtain ⟨f, rfl⟩ : ∃ m, f = m + 1 := ⟨f - 1, by omega⟩
    have e3 : ¬ (3 : Int32) ≤ nI i := fun z => by have := (nI_leI (a := 3) (by omega) (by omega)).mp z; omega
    have ix : nI c * (3 : Int32) + nI i = nI (3 * c + i) := by rw [show (3 : Int32) = nI 3 from rfl, nI_mul, nI_add]; congr 1; omega
    have cx : 3 * c + i < 2 ^ 31 := by omega
    have v3 := ct.2.2 (3 * c + i) (by omega)
    obtain ⟨z1, z2⟩ := W.2.2.1 c i hcn (by omega)
    generalize hz : zt (3 * c + i) = z at v3 z1 z2
    have cz : z < 2 ^ 31 := by omega
    have v2 := ct.2.1 z z1
    have vb1 : bt z < 4096 := Nat.lt_of_lt_of_le (W.2.1 z z1).1 (p2_12 hn)
    have md := mdn_i hm2 vb1
    simp only [mX0_countFewest_h41, l2X0_countFewest_h41, qX0_countFewest_h41, if_neg e3, ix, nI_clamp cx, v3, nI_clamp cz, v2, md, nI_1]
    have va : vp_in (nI (3 * c + i)) 36 := vp_in_nI (by omega) (by decide)
    by_cases q : z = 0
    · have qz : nI z = 0 := by rw [q]; rfl
      simp only [if_pos qz]
      obtain ⟨y', i1, i2, i3, i4, i5⟩ := ih (i + 1) f y μ (by omega) (by omega) ct tf y1 (fun w hw hz2 j hj => by
        by_cases ww : w = i
        · rw [ww, hz] at hz2; exact absurd q hz2
        · exact y2 w (by omega) hz2 j hj) y3
      exact ⟨y', i1, i2, i3, i4, fun zz => absurd zz e3, fun _ => ⟨va, fun _ => i5, fun zz => absurd qz zz⟩⟩
    · have qz : ¬ nI z = 0 := fun zz => q (nI_inj (b := 0) (by omega) (by omega) zz)
      obtain ⟨z3, z4⟩ := z2 q
      have ml := md_c W (m := 2 ^ c + r) z1 z3 hcn z4 hm1
      have mle : LsN e n (mdn (2 ^ c + r) (bt z)) = lmi hc (LsN e n (2 ^ c + r)) z := LS_b W z1 z3
      generalize mdn (2 ^ c + r) (bt z) = m' at ml mle ⊢
      obtain ⟨v, u1, u2, u3⟩ := tf m' (by omega)
      have cm : m' < 2 ^ 31 := by omega
      rw [mle] at u3
      have lt : (nI (v + 1) < nI y) ↔ v + 1 < y := nI_ltI (by omega) (by omega)
      simp only [if_neg qz, nI_clamp cm, u2, nI_1]
      have eq : (if nI (v + 1) < nI y then nI (v + 1) else nI y) = nI (if v + 1 < y then v + 1 else y) := by
        by_cases w : v + 1 < y
        · rw [if_pos (lt.mpr w), if_pos w]
        · rw [if_neg (fun zz => w (lt.mp zz)), if_neg w]
      rw [eq]
      obtain ⟨y', i1, i2, i3, i4, i5⟩ := ih (i + 1) f (if v + 1 < y then v + 1 else y) μ (by omega) (by omega) ct tf (by split <;> omega) (fun w hw hz2 j hj => by
        by_cases ww : w = i
        · rw [ww, hz] at hj
          have := (u3 j).mp hj
          split <;> omega
        · have := y2 w (by omega) hz2 j hj
          split <;> omega) (fun j hj => by
        by_cases w : v + 1 < y
        · rw [if_pos w] at hj
          exact CV_m hj (CV_a z1 z3 ((u3 v).mpr (Nat.le_refl _)))
        · rw [if_neg w] at hj
          exact y3 j hj)
      exact ⟨y', i1, i2, i3, i4, fun zz => absurd zz e3, fun _ => ⟨va, fun zz => absurd zz qz, fun _ => ⟨vp_in_nI z1 (by decide), vp_in_nI (by omega) (by decide), i5⟩⟩⟩
theorem cf_19 (W : CwN P hc e n bt zt) (ha : ∀ k, k < n → ∃ w, w < 3 ∧ zt (3 * k + w) ≠ 0) {c : Nat} (hcn : c < n) : ∀ (d r f : Nat) (μ : fm_T), r + d = 2 ^ c → d < f → CtN n bt zt μ → TfN P hc e n (2 ^ c + r) μ →
    ∃ μ2, mX0_countFewest_h19 f μ (nI c) (nI r) = μ2 ∧ CtN n bt zt μ2 ∧ TfN P hc e n (2 ^ (c + 1)) μ2 ∧ frL f64 fN μ μ2 ∧ l1X0_countFewest_h19 f μ (nI c) (nI r) = nI (c + 1) ∧ qX0_countFewest_h19 f μ (nI c) (nI r) := by
  have hn := W.1
  have hp := p2_12 (c := c) (by omega)
  intro d
  induction d with
  | zero =>
    intro r f μ h1 h2 ct tf
    obtain ⟨f, rfl⟩ : ∃ m, f = m + 1 := ⟨f - 1, by omega⟩
    have e1 : nI (2 ^ c) ≤ nI r := (nI_leI (by omega) (by omega)).mpr (by omega)
    simp only [mX0_countFewest_h19, l1X0_countFewest_h19, qX0_countFewest_h19, sh_12 c (by omega), if_pos e1, nI_1]
    refine ⟨μ, rfl, ct, ?_, frL.rf _ _ _, trivial, fun z => absurd e1 z⟩
    rw [Nat.pow_succ, show 2 ^ c * 2 = 2 ^ c + r by omega]
    exact tf
  | succ d ih =>
    intro r f μ h1 h2 ct tf
    obtain ⟨f, rfl⟩ : ∃ m, f = m + 1 := ⟨f - 1, by omega⟩
    have e1 : ¬ nI (2 ^ c) ≤ nI r := fun z => by have := (nI_leI (by omega) (by omega)).mp z; omega
    have eo : nI r ||| nI (2 ^ c) = nI (2 ^ c + r) := by rw [or_i, or_p (by omega)]
    have hm1 : 2 ^ c + r < 2 ^ (c + 1) := by rw [Nat.pow_succ]; omega
    obtain ⟨y', i1, i2, i3, i4, i5⟩ := cf_41 W hcn (r := r) (by omega) (nI r) 3 0 fF n μ (by omega) (fF_gt (by omega)) ct tf (Nat.le_refl _) (fun w hw => absurd hw (by omega)) (fun j hj => CV_m (by omega) (CV_bd W ha (c + 1) _ (by omega) hm1))
    have i3 : mX0_countFewest_h41 fF μ (nI c) (nI r) (nI (2 ^ c + r)) (nI n) 0 = fm_i μ 64 (2 ^ c + r) (nI y') := i3
    have i4 : l2X0_countFewest_h41 fF μ (nI c) (nI r) (nI (2 ^ c + r)) (nI n) 0 = nI r + 1 := i4
    have i5 : qX0_countFewest_h41 fF μ (nI c) (nI r) (nI (2 ^ c + r)) (nI n) 0 := i5
    obtain ⟨μ2, k1, k2, k3, k4, k5, k6⟩ := ih (r + 1) f (fm_i μ 64 (2 ^ c + r) (nI y')) (by omega) (by omega) (CT_64 ct) (fun m hm => by
      rw [fI_i]
      by_cases q : m = 2 ^ c + r
      · rw [if_pos ⟨rfl, q⟩, q]
        exact ⟨y', by omega, rfl, i2⟩
      · rw [if_neg (by omega)]
        exact tf m (by omega))
    simp only [mX0_countFewest_h19, l1X0_countFewest_h19, qX0_countFewest_h19, sh_12 c (by omega), if_neg e1, eo, ct.1, i3, i4, nI_1]
    exact ⟨μ2, k1, k2, k3, ((frL.rf f64 fN μ).i rfl).tr k4, k5, fun _ => ⟨i5, k6⟩⟩
theorem cf_9 (W : CwN P hc e n bt zt) (ha : ∀ k, k < n → ∃ w, w < 3 ∧ zt (3 * k + w) ≠ 0) : ∀ (d c f : Nat) (μ : fm_T), c + d = n → d < f → CtN n bt zt μ → TfN P hc e n (2 ^ c) μ →
    ∃ μ2, mX0_countFewest_h9 f μ (nI c) = μ2 ∧ CtN n bt zt μ2 ∧ TfN P hc e n (2 ^ n) μ2 ∧ frL f64 fN μ μ2 ∧ qX0_countFewest_h9 f μ (nI c) := by
  have hn := W.1
  intro d
  induction d with
  | zero =>
    intro c f μ h1 h2 ct tf
    obtain ⟨f, rfl⟩ : ∃ m, f = m + 1 := ⟨f - 1, by omega⟩
    obtain rfl : c = n := by omega
    have e1 : nI c ≤ nI c := (nI_leI (by omega) (by omega)).mpr (by omega)
    simp only [mX0_countFewest_h9, qX0_countFewest_h9, ct.1, if_pos e1]
    exact ⟨μ, rfl, ct, tf, frL.rf _ _ _, fun z => absurd e1 z⟩
  | succ d ih =>
    intro c f μ h1 h2 ct tf
    obtain ⟨f, rfl⟩ : ∃ m, f = m + 1 := ⟨f - 1, by omega⟩
    have e1 : ¬ nI n ≤ nI c := fun z => by have := (nI_leI (by omega) (by omega)).mp z; omega
    have hp := p2_12 (c := c) (by omega)
    obtain ⟨μ1, i1, i2, i3, i4, i5, i6⟩ := cf_19 W ha (c := c) (by omega) (2 ^ c) 0 fF μ (by omega) (fF_gt (by omega)) ct tf
    have i1 : mX0_countFewest_h19 fF μ (nI c) 0 = μ1 := i1
    have i5 : l1X0_countFewest_h19 fF μ (nI c) 0 = nI (c + 1) := i5
    have i6 : qX0_countFewest_h19 fF μ (nI c) 0 := i6
    obtain ⟨μ2, k1, k2, k3, k4, k5⟩ := ih (c + 1) f μ1 (by omega) (by omega) i2 i3
    simp only [mX0_countFewest_h9, qX0_countFewest_h9, ct.1, if_neg e1, i1, i5]
    exact ⟨μ2, k1, k2, k3, i4.tr k4, fun _ => ⟨i6, k5⟩⟩
theorem cf_ok (W : CwN P hc e n bt zt) (ha : ∀ k, k < n → ∃ w, w < 3 ∧ zt (3 * k + w) ≠ 0) {μ : fm_T} (ct : CtN n bt zt μ) : ∃ μ2, uX0_countFewest μ = μ2 ∧ CtN n bt zt μ2 ∧ TfN P hc e n (2 ^ n) μ2 ∧ frL f64 fN μ μ2 ∧ pX0_countFewest μ := by
  have hn := W.1
  obtain ⟨μ2, k1, k2, k3, k4, k5⟩ := cf_9 W ha n 0 fF (fm_i μ 64 0 0) (by omega) (fF_gt (by omega)) (CT_64 ct) (fun m hm => by
    obtain rfl : m = 0 := by omega
    refine ⟨0, by omega, ?_, fun j => ⟨fun _ => Nat.zero_le _, fun _ => CV_e _ _ ((LS_0 (Nat.two_pow_pos n)).mpr rfl)⟩⟩
    rw [fI_i, if_pos ⟨rfl, rfl⟩]
    rfl)
  exact ⟨μ2, k1, k2, k3, ((frL.rf f64 fN μ).i rfl).tr k4, k5⟩
end
