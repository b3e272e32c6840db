def isM (k T S : Nat) (E : Nat → Nat → Bool) (m : Nat → Nat) : Prop := (∀ j, j < k → S.testBit j = true → m j < T ∧ E j (m j) = true) ∧ ∀ j j', j < k → j' < k → S.testBit j = true → S.testBit j' = true → m j = m j' → j = j'
theorem nW_ex {k : Nat} {E : Nat → Nat → Bool} (hk : k ≤ 8) : ∀ T S, T ≤ 1000 → S < 2 ^ k → (nW k E 0 1000 T S ≠ 0 ↔ ∃ m, isM k T S E m)
  | 0, S, _, hS => by
    unfold nW
    constructor
    · intro h
      have e : S = 0 := Decidable.byContradiction fun z => h (if_neg z)
      subst e
      refine ⟨fun _ => 0, fun j _ t => ?_, fun j j' _ _ t => ?_⟩
      · rw [Nat.zero_testBit] at t; exact absurd t (by decide)
      · rw [Nat.zero_testBit] at t; exact absurd t (by decide)
    · rintro ⟨m, m1, m2⟩
      have e : S = 0 := by
        apply Nat.eq_of_testBit_eq
        intro i
        rw [Nat.zero_testBit]
        by_cases hi : i < k
        · cases hb : S.testBit i
          · rfl
          · exact absurd (m1 i hi hb).1 (by omega)
        · exact Nat.testBit_lt_two_pow (Nat.lt_of_lt_of_le hS (Nat.pow_le_pow_right (by decide) (by omega)))
      rw [if_pos e]
      decide
  | T + 1, S, hT, hS => by
    have ih := fun S hS => nW_ex (E := E) hk T S (by omega) hS
    have h8 : 2 ^ k ≤ 256 := Nat.pow_le_pow_right (n := 2) (j := 8) (by decide) hk
    unfold nW
    rw [if_neg (by omega)]
    constructor
    · intro h
      by_cases e : nW k E 0 1000 T S = 0
      · obtain ⟨j, hj, hn⟩ := (sm_ne k).mp (show sm (fun j => if S.testBit j && E j T then nW k E 0 1000 T (S - 2 ^ j) else 0) k ≠ 0 by omega)
        have q : (S.testBit j && E j T) = true := Decidable.byContradiction fun z => hn (if_neg z)
        have hn : nW k E 0 1000 T (S - 2 ^ j) ≠ 0 := by
          have hn' : (if (S.testBit j && E j T) = true then nW k E 0 1000 T (S - 2 ^ j) else 0) ≠ 0 := hn
          rw [if_pos q] at hn'
          exact hn'
        simp only [Bool.and_eq_true] at q
        obtain ⟨m, m1, m2⟩ := (ih (S - 2 ^ j) (Nat.lt_of_le_of_lt (Nat.sub_le _ _) hS)).mp hn
        have sb : ∀ i, i < k → i ≠ j → S.testBit i = true → (S - 2 ^ j).testBit i = true := fun i hi hne t => by
          obtain ⟨b1, -⟩ := tb_sub (i := i) (show S < 256 by omega) (by omega) (show j < 8 by omega) q.1
          rw [b1, t]
          simp [hne]
        refine ⟨fun i => if i = j then T else m i, fun i hi t => ?_, fun i i' hi hi' t t' hm => ?_⟩
        · by_cases e : i = j
          · subst e; simp only [if_true]; exact ⟨by omega, q.2⟩
          · simp only [if_neg e]
            have := m1 i hi (sb i hi e t)
            exact ⟨by omega, this.2⟩
        · by_cases e : i = j
          · by_cases e' : i' = j
            · omega
            · simp only [if_pos e, if_neg e'] at hm
              have := (m1 i' hi' (sb i' hi' e' t')).1
              omega
          · by_cases e' : i' = j
            · simp only [if_neg e, if_pos e'] at hm
              have := (m1 i hi (sb i hi e t)).1
              omega
            · simp only [if_neg e, if_neg e'] at hm
              exact m2 i i' hi hi' (sb i hi e t) (sb i' hi' e' t') hm
      · obtain ⟨m, m1, m2⟩ := (ih S hS).mp e
        exact ⟨m, fun j hj t => ⟨by have := (m1 j hj t).1; omega, (m1 j hj t).2⟩, m2⟩
    · rintro ⟨m, m1, m2⟩
      by_cases e : ∃ j, j < k ∧ S.testBit j = true ∧ m j = T
      · obtain ⟨j, hj, tj, mj⟩ := e
        have q : (S.testBit j && E j T) = true := by
          have := (m1 j hj tj).2
          rw [mj] at this
          rw [tj, this]
          rfl
        have sb : ∀ i, i < k → (S - 2 ^ j).testBit i = true → S.testBit i = true ∧ i ≠ j := fun i hi t => by
          obtain ⟨b1, -⟩ := tb_sub (i := i) (show S < 256 by omega) (by omega) (show j < 8 by omega) tj
          rw [b1] at t
          simpa using t
        have : nW k E 0 1000 T (S - 2 ^ j) ≠ 0 := (ih (S - 2 ^ j) (Nat.lt_of_le_of_lt (Nat.sub_le _ _) hS)).mpr ⟨m, fun i hi t => by
          obtain ⟨s1, s2⟩ := sb i hi t
          have := m1 i hi s1
          refine ⟨?_, this.2⟩
          have ne : m i ≠ T := fun z => s2 (m2 i j hi hj s1 tj (by omega))
          omega, fun i i' hi hi' t t' => m2 i i' hi hi' (sb i hi t).1 (sb i' hi' t').1⟩
        have p := (sm_ne (f := fun j => if S.testBit j && E j T then nW k E 0 1000 T (S - 2 ^ j) else 0) k).mpr ⟨j, hj, by
          show (if (S.testBit j && E j T) = true then nW k E 0 1000 T (S - 2 ^ j) else 0) ≠ 0
          rw [if_pos q]
          exact this⟩
        omega
      · have := (ih S hS).mpr ⟨m, fun j hj t => by
          have := m1 j hj t
          refine ⟨?_, this.2⟩
          have ne : m j ≠ T := fun z => e ⟨j, hj, t, z⟩
          omega, m2⟩
        omega
theorem php : ∀ (m n : Nat) (f : Nat → Nat), (∀ i, i < n → f i < m) → (∀ i j, i < n → j < n → f i = f j → i = j) → n ≤ m
  | 0, n, f, h, _ => by
    cases n with
    | zero => exact Nat.le_refl _
    | succ n => exact absurd (h 0 (by omega)) (by omega)
  | m + 1, n, f, h, hi => by
    cases n with
    | zero => omega
    | succ n =>
      have := php m n (fun i => if f i = m then f n else f i) (fun i hin => by
        have h1 := h i (by omega)
        have h2 := h n (by omega)
        show (if f i = m then f n else f i) < m
        by_cases e : f i = m
        · rw [if_pos e]
          have : f n ≠ m := fun z => by have := hi i n (by omega) (by omega) (by omega); omega
          omega
        · rw [if_neg e]; omega) (fun i j hin hjn he => by
        have he : (if f i = m then f n else f i) = (if f j = m then f n else f j) := he
        by_cases e1 : f i = m
        · by_cases e2 : f j = m
          · exact hi i j (by omega) (by omega) (by omega)
          · rw [if_pos e1, if_neg e2] at he
            have := hi n j (by omega) (by omega) he
            omega
        · by_cases e2 : f j = m
          · rw [if_neg e1, if_pos e2] at he
            have := hi i n (by omega) (by omega) he
            omega
          · rw [if_neg e1, if_neg e2] at he
            exact hi i j (by omega) (by omega) he)
      omega
def sqN (m co : Nat → Nat) (x : Nat) : Nat → Nat
  | 0 => m x
  | i + 1 => m (co (sqN m co x i))
theorem hall {k T x : Nat} {E : Nat → Nat → Bool} {co m : Nat → Nat} (Z : Nat → Prop) (hx : x < k) (h1 : ∀ t, t < T → E x t = true → Z t) (h2 : ∀ t, t < T → Z t → co t < k ∧ co t ≠ x ∧ ∀ t', t' < T → E (co t) t' = true → Z t') (h3 : ∀ t t', t < T → t' < T → Z t → Z t' → co t = co t' → t = t') (m1 : ∀ j, j < k → m j < T ∧ E j (m j) = true) (m2 : ∀ j j', j < k → j' < k → m j = m j' → j = j') : False := by
  have inZ : ∀ i, sqN m co x i < T ∧ Z (sqN m co x i) := fun i => by
    induction i with
    | zero => exact ⟨(m1 x hx).1, h1 _ (m1 x hx).1 (m1 x hx).2⟩
    | succ i ih =>
      obtain ⟨c1, -, c3⟩ := h2 _ ih.1 ih.2
      have := m1 _ c1
      exact ⟨this.1, c3 _ this.1 this.2⟩
  have inj : ∀ i d, sqN m co x i = sqN m co x (i + d + 1) → False := fun i => by
    induction i with
    | zero =>
      intro d h
      rw [Nat.zero_add] at h
      obtain ⟨c1, c2, -⟩ := h2 _ (inZ d).1 (inZ d).2
      exact c2 (m2 x _ hx c1 h).symm
    | succ i ih =>
      intro d h
      rw [show i + 1 + d + 1 = (i + d + 1) + 1 by omega] at h
      have h : m (co (sqN m co x i)) = m (co (sqN m co x (i + d + 1))) := h
      obtain ⟨c1, -, -⟩ := h2 _ (inZ i).1 (inZ i).2
      obtain ⟨d1, -, -⟩ := h2 _ (inZ (i + d + 1)).1 (inZ (i + d + 1)).2
      exact ih d (h3 _ _ (inZ i).1 (inZ (i + d + 1)).1 (inZ i).2 (inZ (i + d + 1)).2 (m2 _ _ c1 d1 h))
  have := php T (T + 1) (sqN m co x) (fun i _ => (inZ i).1) (fun i j _ _ h => by
    rcases Nat.lt_trichotomy i j with q | q | q
    · exact (inj i (j - i - 1) (by rw [show i + (j - i - 1) + 1 = j by omega]; exact h)).elim
    · exact q
    · exact (inj j (i - j - 1) (by rw [show j + (i - j - 1) + 1 = i by omega]; exact h.symm)).elim)
  omega
