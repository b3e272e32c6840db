def anN (f : Nat → Bool) : Nat → Bool
  | 0 => false
  | n + 1 => f n || anN f n
theorem an_iff {f : Nat → Bool} : ∀ n, anN f n = true ↔ ∃ i, i < n ∧ f i = true
  | 0 => ⟨fun z => absurd z Bool.false_ne_true, fun ⟨i, h, _⟩ => absurd h (by omega)⟩
  | n + 1 => by
    unfold anN
    rw [Bool.or_eq_true, an_iff n]
    constructor
    · rintro (h | ⟨i, h1, h2⟩)
      · exact ⟨n, by omega, h⟩
      · exact ⟨i, by omega, h2⟩
    · rintro ⟨i, h1, h2⟩
      by_cases q : i = n
      · exact Or.inl (q ▸ h2)
      · exact Or.inr ⟨i, by omega, h2⟩
theorem an_cg {f g : Nat → Bool} : ∀ n, (∀ i, i < n → f i = g i) → anN f n = anN g n
  | 0, _ => rfl
  | n + 1, h => by
    unfold anN
    rw [h n (by omega), an_cg n (fun i hi => h i (by omega))]
def FT2 (D n : Nat) (dk dh sh we he : Nat → Nat) (B : Nat → Bool) : Prop := (∀ i j, i < n → j < n → B i = true → B j = true → sh i = sh j) ∧ ∃ d, d < D ∧ (∀ i, i < n → B i = true → dh d ≤ he i) ∧ sm (fun i => if B i then we i else 0) n ≤ 10 * dk d
def bkN (X : Nat → Bool) (h : Nat → Nat) (k : Nat) : Nat → Bool := fun i => X i && (h i == k)
def hdN (n : Nat) (du : Nat → Nat) (X : Nat → Bool) (h : Nat → Nat) (v k : Nat) : Bool := anN (fun i => bkN X h k i && decide (du i ≤ v)) n
def cnN (n : Nat) (du : Nat → Nat) (X : Nat → Bool) (h : Nat → Nat) (M v : Nat) : Nat := sm (fun k => if hdN n du X h v k then 1 else 0) M
def SpN (D n L day : Nat) (dk dh du sh we he : Nat → Nat) (X : Nat → Bool) (M : Nat) (h : Nat → Nat) : Prop :=
  (∀ i, i < n → X i = true → h i < M) ∧ (∀ k, k < M → ∃ i, i < n ∧ bkN X h k i = true) ∧ (∀ k, k < M → FT2 D n dk dh sh we he (bkN X h k)) ∧ ∀ v, cnN n du X h M v ≤ L * (v + 1 - day)
def mkM (f : Nat → Bool) : Nat → Nat
  | 0 => 0
  | n + 1 => if f n then 2 ^ n + mkM f n else mkM f n
theorem mkM_l (f : Nat → Bool) : ∀ n, mkM f n < 2 ^ n
  | 0 => Nat.one_pos
  | n + 1 => by
    have := mkM_l f n
    unfold mkM
    rw [Nat.pow_succ]
    split <;> omega
theorem mkM_t (f : Nat → Bool) {i : Nat} : ∀ n, i < n → (mkM f n).testBit i = f i
  | 0, h => by omega
  | n + 1, h => by
    unfold mkM
    by_cases q : i = n
    · subst q
      cases z : f i
      · simp only [Bool.false_eq_true, if_false]
        exact tb_o (mkM_l f i) (Nat.le_refl _)
      · simp only [if_true]
        exact tb_c (mkM_l f i)
    · have ih : (mkM f n).testBit i = f i := mkM_t f n (by omega)
      cases z : f n
      · simp only [Bool.false_eq_true, if_false]
        exact ih
      · simp only [if_true]
        rw [Nat.testBit_two_pow_add_gt (by omega)]
        exact ih
theorem fo_ex {n y : Nat} (h : y < 2 ^ n - 1) : ∃ f, f < n ∧ (∀ i, i < f → y.testBit i = true) ∧ y.testBit f = false := by
  have g : ∀ k, k ≤ n → (∀ i, i < k → y.testBit i = true) ∨ ∃ f, f < k ∧ (∀ i, i < f → y.testBit i = true) ∧ y.testBit f = false := by
    intro k
    induction k with
    | zero => exact fun _ => Or.inl (fun i hi => absurd hi (by omega))
    | succ k ih =>
      intro hk
      rcases ih (by omega) with a | ⟨f, f1, f2, f3⟩
      · cases z : y.testBit k
        · exact Or.inr ⟨k, by omega, a, z⟩
        · refine Or.inl (fun i hi => ?_)
          by_cases q : i = k
          · rw [q]; exact z
          · exact a i (by omega)
      · exact Or.inr ⟨f, by omega, f2, f3⟩
  rcases g n (Nat.le_refl _) with a | b
  · have : y = 2 ^ n - 1 := by
      apply Nat.eq_of_testBit_eq
      intro i
      rw [Nat.testBit_two_pow_sub_one]
      by_cases q : i < n
      · rw [a i q]; simp [q]
      · rw [tb_o (n := n) (by omega) (by omega)]; simp [q]
    omega
  · exact b
section
variable {D n L day : Nat} {dk dh du sh we he : Nat → Nat}
theorem FT2_mo {B B' : Nat → Bool} (h : FT2 D n dk dh sh we he B) (hs : ∀ i, i < n → B' i = true → B i = true) : FT2 D n dk dh sh we he B' := by
  obtain ⟨h1, d, d1, d2, d3⟩ := h
  refine ⟨fun i j hi hj a b => h1 i j hi hj (hs i hi a) (hs j hj b), d, d1, fun i hi a => d2 i hi (hs i hi a), Nat.le_trans (sm_mo n fun i hi => ?_) d3⟩
  cases z : B' i
  · simp
  · rw [hs i hi z]; simp
theorem cn_le {X : Nat → Bool} {h : Nat → Nat} (v : Nat) : ∀ M, cnN n du X h M v ≤ M
  | 0 => Nat.le_refl _
  | M + 1 => by
    have := cn_le (X := X) (h := h) v M
    unfold cnN at this ⊢
    unfold sm
    split <;> omega
theorem hd_iff {X : Nat → Bool} {h : Nat → Nat} {v k : Nat} : hdN n du X h v k = true ↔ ∃ i, i < n ∧ X i = true ∧ h i = k ∧ du i ≤ v := by
  unfold hdN bkN
  rw [an_iff]
  simp only [Bool.and_eq_true, beq_iff_eq, decide_eq_true_eq]
  exact ⟨fun ⟨i, a, ⟨b, c⟩, d⟩ => ⟨i, a, b, c, d⟩, fun ⟨i, a, b, c, d⟩ => ⟨i, a, ⟨b, c⟩, d⟩⟩
theorem bk_iff {X : Nat → Bool} {h : Nat → Nat} {k i : Nat} : bkN X h k i = true ↔ X i = true ∧ h i = k := by
  unfold bkN
  rw [Bool.and_eq_true, beq_iff_eq]
theorem SP_a {X X' B : Nat → Bool} {m x0 : Nat} {h : Nat → Nat} (hs : SpN D n L day dk dh du sh we he X m h) (hX : ∀ i, i < n → X' i = (X i || B i)) (hd : ∀ i, i < n → B i = true → X i = false) (hn : ∃ i, i < n ∧ B i = true) (hf : FT2 D n dk dh sh we he B) (hm : m < L * (x0 + 1 - day)) (hx : ∀ i, i < n → B i = true → x0 ≤ du i) :
    SpN D n L day dk dh du sh we he X' (m + 1) (fun i => if B i then m else h i) := by
  obtain ⟨s1, s2, s3, s4⟩ := hs
  have ek : ∀ k, k < m → ∀ i, i < n → bkN X' (fun i => if B i then m else h i) k i = bkN X h k i := fun k hk i hi => by
    unfold bkN
    rw [hX i hi]
    cases z : B i
    · simp [z]
    · rw [hd i hi z]
      have : ¬ m = k := by omega
      simp [this, z]
  have em : ∀ i, i < n → bkN X' (fun i => if B i then m else h i) m i = B i := fun i hi => by
    unfold bkN
    rw [hX i hi]
    cases z : B i
    · cases y : X i
      · simp
      · have := s1 i hi y
        have : ¬ h i = m := by omega
        simp [this, z]
    · simp [z]
  refine ⟨fun i hi a => ?_, fun k hk => ?_, fun k hk => ?_, fun v => ?_⟩
  · rw [hX i hi] at a
    cases z : B i
    · rw [z, Bool.or_false] at a
      have := s1 i hi a
      simp only [z, Bool.false_eq_true, if_false]; omega
    · simp only [z, if_true]; omega
  · by_cases q : k = m
    · obtain ⟨i, i1, i2⟩ := hn
      exact ⟨i, i1, by rw [q, em i i1]; exact i2⟩
    · obtain ⟨i, i1, i2⟩ := s2 k (by omega)
      exact ⟨i, i1, by rw [ek k (by omega) i i1]; exact i2⟩
  · by_cases q : k = m
    · exact FT2_mo hf (fun i hi a => by rw [q, em i hi] at a; exact a)
    · exact FT2_mo (s3 k (by omega)) (fun i hi a => by rw [ek k (by omega) i hi] at a; exact a)
  · have e1 : sm (fun k => if hdN n du X' (fun i => if B i then m else h i) v k then 1 else 0) m = cnN n du X h m v := by
      unfold cnN
      apply sm_cg
      intro k hk
      have : hdN n du X' (fun i => if B i then m else h i) v k = hdN n du X h v k := an_cg n (fun i hi => by rw [ek k hk i hi])
      rw [this]
    have e2 : cnN n du X' (fun i => if B i then m else h i) (m + 1) v = cnN n du X h m v + (if hdN n du X' (fun i => if B i then m else h i) v m then 1 else 0) := by
      rw [← e1]
      rfl
    rw [e2]
    have c1 := s4 v
    have c2 := cn_le (n := n) (du := du) (X := X) (h := h) v m
    cases z : hdN n du X' (fun i => if B i then m else h i) v m
    · simp only [Bool.false_eq_true, if_false]; omega
    · obtain ⟨i, i1, i2, i3, i4⟩ := hd_iff.mp z
      have bi : B i = true := by
        rw [← em i i1]
        exact bk_iff.mpr ⟨i2, i3⟩
      have x1 := hx i i1 bi
      have : L * (x0 + 1 - day) ≤ L * (v + 1 - day) := Nat.mul_le_mul_left _ (by omega)
      simp only [if_true]
      omega
theorem SP_M {X : Nat → Bool} {M : Nat} {h : Nat → Nat} (s : SpN D n L day dk dh du sh we he X M h) : M ≤ n := by
  have ex : ∀ k, ∃ i, k < M → i < n ∧ h i = k := fun k => by
    by_cases q : k < M
    · obtain ⟨i, i1, i2⟩ := s.2.1 k q
      exact ⟨i, fun _ => ⟨i1, (bk_iff.mp i2).2⟩⟩
    · exact ⟨0, fun z => absurd z q⟩
  exact php n M (fun k => Classical.choose (ex k)) (fun i hi => (Classical.choose_spec (ex i) hi).1) (fun i j hi hj z => by
    have a := (Classical.choose_spec (ex i) hi).2
    have b := (Classical.choose_spec (ex j) hj).2
    rw [← a, ← b, z])
theorem LS_t {e : Nat → Nat} {m i : Nat} (he : ∀ i j, i < n → j < n → e i = e j → i = j) (hi : i < n) : LsN e n m (e i) = m.testBit i := by
  apply Bool.eq_iff_iff.mpr
  rw [LS_iff]
  exact ⟨fun ⟨k, k1, k2, k3⟩ => (he k i k1 hi k2) ▸ k3, fun z => ⟨i, hi, rfl, z⟩⟩
def nbN (n : Nat) (e h : Nat → Nat) (M y : Nat) : Nat := sm (fun k => if anN (fun i => y.testBit i && (h (e i) == k)) n then 1 else 0) M
theorem SP_c {e : Nat → Nat} (e1 : ∀ i, i < n → e i < n) (e2 : ∀ i j, i < n → j < n → e i = e j → i = j) (e3 : ∀ p, p < n → ∃ i, i < n ∧ e i = p) (e4 : ∀ i j, i ≤ j → j < n → du (e i) ≤ du (e j)) {T : Nat → Nat}
    (hC : ∀ y f s, y < 2 ^ n → s < 2 ^ n → f < n → (∀ i, i < f → y.testBit i = true) → y.testBit f = false → s.testBit f = true → (∀ i, i < n → s.testBit i = true → y.testBit i = false) → FT2 D n dk dh sh we he (LsN e n s) → T y < 99 → T y < L * (du (e f) + 1 - day) → T (y ||| s) ≤ T y + 1)
    {M : Nat} {h : Nat → Nat} (sp : SpN D n L day dk dh du sh we he (fun _ => true) M h) (hn : n ≤ 90) : ∀ c y, y < 2 ^ n → 2 ^ n - 1 - y ≤ c → (∀ i j, i < n → j < n → h (e i) = h (e j) → y.testBit i = true → y.testBit j = true) → (∀ i, i < n → y.testBit i = true → ∃ j, j < n ∧ h (e j) = h (e i) ∧ ∀ i', i' ≤ j → y.testBit i' = true) → T y ≤ nbN n e h M y → T (2 ^ n - 1) ≤ M := by
  have hM := SP_M sp
  obtain ⟨s1, s2, s3, s4⟩ := sp
  have nbM : ∀ y, nbN n e h M y ≤ M := fun y => by
    unfold nbN
    have : sm (fun _ => 1) M = M := by
      clear s1 s2 s3 s4 hM
      induction M with
      | zero => rfl
      | succ M ih => unfold sm; omega
    exact Nat.le_trans (sm_mo M (fun k hk => by split <;> omega)) (Nat.le_of_eq this)
  intro c
  induction c with
  | zero =>
    intro y hy hc _ _ ht
    have : y = 2 ^ n - 1 := by omega
    rw [← this]
    exact Nat.le_trans ht (nbM y)
  | succ c ih =>
    intro y hy hc cl qy ht
    by_cases ya : y < 2 ^ n - 1
    · obtain ⟨f, f1, f2, f3⟩ := fo_ex ya
      have sl := mkM_l (fun i => h (e i) == h (e f)) n
      have st : ∀ i, i < n → (mkM (fun i => h (e i) == h (e f)) n).testBit i = (h (e i) == h (e f)) := fun i hi => mkM_t _ n hi
      generalize mkM (fun i => h (e i) == h (e f)) n = s at sl st
      have hb := s1 (e f) (e1 f f1) rfl
      have sf : s.testBit f = true := by rw [st f f1]; simp
      have dis : ∀ i, i < n → s.testBit i = true → y.testBit i = false := fun i hi z => by
        rw [st i hi, beq_iff_eq] at z
        cases w : y.testBit i
        · rfl
        · rw [cl i f hi f1 z w] at f3; exact absurd f3 (by decide)
      have ft : FT2 D n dk dh sh we he (LsN e n s) := FT2_mo (s3 _ hb) (fun p hp z => by
        obtain ⟨i, i1, i2, i3⟩ := (LS_iff n).mp z
        rw [st i i1, beq_iff_eq, i2] at i3
        exact bk_iff.mpr ⟨rfl, i3⟩)
      have nlt : nbN n e h M y < cnN n du (fun _ => true) h M (du (e f)) := by
        unfold nbN cnN
        refine sm_sl M hb (fun k hk => ?_) ?_
        · cases z : anN (fun i => y.testBit i && (h (e i) == k)) n
          · simp
          · obtain ⟨i, i1, i2⟩ := (an_iff n).mp z
            rw [Bool.and_eq_true, beq_iff_eq] at i2
            obtain ⟨j, j1, j2, j3⟩ := qy i i1 i2.1
            have jf : j < f := by
              apply Decidable.byContradiction
              intro w
              rw [j3 f (by omega)] at f3
              exact absurd f3 (by decide)
            have : hdN n du (fun _ => true) h (du (e f)) k = true := hd_iff.mpr ⟨e j, e1 j j1, rfl, by rw [j2]; exact i2.2, e4 j f (by omega) f1⟩
            rw [this]; simp
        · have z1 : anN (fun i => y.testBit i && (h (e i) == h (e f))) n = false := by
            cases z : anN (fun i => y.testBit i && (h (e i) == h (e f))) n
            · rfl
            · obtain ⟨i, i1, i2⟩ := (an_iff n).mp z
              rw [Bool.and_eq_true, beq_iff_eq] at i2
              rw [cl i f i1 f1 i2.2 i2.1] at f3
              exact absurd f3 (by decide)
          have z2 : hdN n du (fun _ => true) h (du (e f)) (h (e f)) = true := hd_iff.mpr ⟨e f, e1 f f1, rfl, rfl, Nat.le_refl _⟩
          rw [z1, z2]; simp
      have c4 := s4 (du (e f))
      have c5 := cn_le (n := n) (du := du) (X := fun _ => true) (h := h) (du (e f)) M
      have step := hC y f s hy sl f1 f2 f3 sf dis ft (by omega) (by omega)
      have nb1 : nbN n e h M (y ||| s) = nbN n e h M y + 1 := by
        unfold nbN
        refine sm_one (a := h (e f)) M hb (fun k hk kne => ?_) ?_
        · have : anN (fun i => (y ||| s).testBit i && (h (e i) == k)) n = anN (fun i => y.testBit i && (h (e i) == k)) n := an_cg n (fun i hi => by
            rw [Nat.testBit_or, st i hi]
            by_cases w : h (e i) = k
            · have t : (h (e i) == h (e f)) = false := by rw [w]; exact beq_false_of_ne kne
              rw [t, Bool.or_false]
            · have t : (h (e i) == k) = false := beq_false_of_ne w
              rw [t, Bool.and_false, Bool.and_false])
          rw [this]
        · have z1 : anN (fun i => y.testBit i && (h (e i) == h (e f))) n = false := by
            cases z : anN (fun i => y.testBit i && (h (e i) == h (e f))) n
            · rfl
            · obtain ⟨i, i1, i2⟩ := (an_iff n).mp z
              rw [Bool.and_eq_true, beq_iff_eq] at i2
              rw [cl i f i1 f1 i2.2 i2.1] at f3
              exact absurd f3 (by decide)
          have z2 : anN (fun i => (y ||| s).testBit i && (h (e i) == h (e f))) n = true := (an_iff n).mpr ⟨f, f1, by rw [Nat.testBit_or, sf]; simp⟩
          rw [z1, z2]; simp
      have yl : y ||| s < 2 ^ n := Nat.or_lt_two_pow hy sl
      have yg : y < y ||| s := by
        rcases Nat.lt_or_ge y (y ||| s) with z | z
        · exact z
        · have l := Nat.left_le_or (n := y) (m := s)
          have : y = y ||| s := by omega
          have w : (y ||| s).testBit f = true := by rw [Nat.testBit_or, sf]; simp
          rw [← this, f3] at w
          exact absurd w (by decide)
      refine ih (y ||| s) yl (by omega) (fun i j hi hj hh hb => ?_) (fun i hi hb => ?_) (by omega)
      · rw [Nat.testBit_or, Bool.or_eq_true] at hb ⊢
        rcases hb with hb | hb
        · exact Or.inl (cl i j hi hj hh hb)
        · rw [st i hi, beq_iff_eq] at hb
          exact Or.inr (by rw [st j hj, beq_iff_eq, ← hh, hb])
      · rw [Nat.testBit_or, Bool.or_eq_true] at hb
        rcases hb with hb | hb
        · obtain ⟨j, j1, j2, j3⟩ := qy i hi hb
          exact ⟨j, j1, j2, fun i' hi' => by rw [Nat.testBit_or, j3 i' hi']; rfl⟩
        · rw [st i hi, beq_iff_eq] at hb
          refine ⟨f, f1, hb.symm, fun i' hi' => ?_⟩
          rw [Nat.testBit_or]
          by_cases w : i' = f
          · rw [w, sf]; simp
          · rw [f2 i' (by omega)]; rfl
    · have : y = 2 ^ n - 1 := by omega
      rw [← this]
      exact Nat.le_trans ht (nbM y)
end
