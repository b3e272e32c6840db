def rW (X Y : Nat → Nat) (P : Nat) : Nat → Nat → Nat → Nat
  | 0, _, _ => 0
  | f + 1, R, p => if R = 0 then wyN X Y p 9 else mnF (fun a => wyN X Y p a + rW X Y P f (R - 2 ^ a) a) R P
def tW (X Y : Nat → Nat) (P R p : Nat) : Nat := rW X Y P (R + 1) R p
def tv (X Y : Nat → Nat) (P R p a : Nat) : Nat := wyN X Y p a + tW X Y P (R - 2 ^ a) a
theorem mnF_cg {v v' : Nat → Nat} {M : Nat} : ∀ k, (∀ a, a < k → M.testBit a = true → v a = v' a) → mnF v M k = mnF v' M k
  | 0, _ => rfl
  | k + 1, h => by
    have ih := mnF_cg (v := v) (v' := v') (M := M) k (fun a ha hb => h a (by omega) hb)
    unfold mnF
    rw [ih]
    by_cases t : M.testBit k = true
    · rw [h k (by omega) t]
    · rw [if_neg t, if_neg t]
theorem p2_lt {R a : Nat} (h : R ≠ 0) : R - 2 ^ a < R := Nat.sub_lt (by omega) (Nat.two_pow_pos a)
theorem rW_f {X Y : Nat → Nat} {P : Nat} : ∀ f f' R p, R < f → R < f' → rW X Y P f R p = rW X Y P f' R p
  | 0, _, _, _, h, _ => by omega
  | _ + 1, 0, _, _, _, h => by omega
  | f + 1, f' + 1, R, p, h, h' => by
    unfold rW
    by_cases e : R = 0
    · rw [if_pos e, if_pos e]
    · rw [if_neg e, if_neg e]
      refine mnF_cg P fun a _ _ => ?_
      have := p2_lt (a := a) e
      rw [rW_f f f' (R - 2 ^ a) a (by omega) (by omega)]
theorem tW_0 (X Y : Nat → Nat) (P p : Nat) : tW X Y P 0 p = wyN X Y p 9 := rfl
theorem tW_s {X Y : Nat → Nat} {P R p : Nat} (h : R ≠ 0) : tW X Y P R p = mnF (tv X Y P R p) R P := by
  unfold tW
  rw [rW, if_neg h]
  refine mnF_cg P fun a _ _ => ?_
  have := p2_lt (a := a) h
  unfold tv tW
  rw [rW_f R (R - 2 ^ a + 1) (R - 2 ^ a) a this (by omega)]
theorem mnF_lb {v : Nat → Nat} {M a : Nat} : ∀ k, a < k → M.testBit a = true → mnF v M k ≤ v a
  | 0, h, _ => by omega
  | k + 1, h, t => by
    unfold mnF
    by_cases e : a = k
    · subst e
      rw [if_pos t]
      split <;> omega
    · have ih := mnF_lb (v := v) (M := M) (a := a) k (by omega) t
      split
      · split <;> omega
      · exact ih
theorem tb_top : ∀ R, R < 512 → ∀ k, k < 9 → 2 ^ k ≤ R → R < 2 ^ (k + 1) → R.testBit k = true := by decide +kernel
theorem p2_512 {k : Nat} (h : k ≤ 9) : 2 ^ k ≤ 512 := Nat.pow_le_pow_right (n := 2) (by decide) h
theorem tW_le {X Y : Nat → Nat} (hX : ∀ j, X j ≤ 99 ∧ Y j ≤ 99) {P : Nat} (hP : P ≤ 9) : ∀ k, k ≤ P → ∀ R p, R < 2 ^ k → tW X Y P R p ≤ 198 * (k + 1)
  | 0, _, R, p, h => by
    obtain rfl : R = 0 := by omega
    have := wyN_le hX p 9
    rw [tW_0]
    omega
  | k + 1, hk, R, p, h => by
    by_cases e : R < 2 ^ k
    · have := tW_le hX hP k (by omega) R p e
      omega
    · have h9 := p2_512 (k := k + 1) (by omega)
      have t := tb_top R (by omega) k (by omega) (by omega) h
      have pp := Nat.two_pow_pos k
      rw [tW_s (by omega)]
      have l := mnF_lb (v := tv X Y P R p) (M := R) (a := k) P (by omega) t
      have i := tW_le hX hP k (by omega) (R - 2 ^ k) k (by rw [Nat.pow_succ] at h; omega)
      have := wyN_le hX p k
      unfold tv at l ⊢
      omega
theorem tv_le {X Y : Nat → Nat} (hX : ∀ j, X j ≤ 99 ∧ Y j ≤ 99) {P R : Nat} (hP : P ≤ 9) (hR : R < 2 ^ P) (p a : Nat) : tv X Y P R p a < 3000 := by
  have := tW_le hX hP P (Nat.le_refl P) (R - 2 ^ a) a (Nat.lt_of_le_of_lt (Nat.sub_le _ _) hR)
  have := wyN_le hX p a
  unfold tv
  omega
theorem amN_9 {v : Nat → Nat} {M : Nat} : ∀ k, k ≤ 9 → amN v M k = 9 → ∀ a, a < k → M.testBit a = false
  | 0, _, _, a, ha => by omega
  | k + 1, hk, h, a, ha => by
    unfold amN at h
    by_cases t : M.testBit k = true
    · rw [if_pos t] at h
      have lt := amN_lt (v := v) (M := M) k
      by_cases q : amN v M k = 9
      · rw [if_pos q] at h; omega
      · rw [if_neg q] at h
        split at h <;> omega
    · rw [if_neg t] at h
      by_cases e : a = k
      · subst e; simpa using t
      · exact amN_9 k (by omega) h a (by omega)
theorem amN_fst {v : Nat → Nat} {M : Nat} : ∀ k, k ≤ 9 → amN v M k ≠ 9 → ∀ a, a < amN v M k → M.testBit a = true → v (amN v M k) < v a
  | 0, _, h, a, _, _ => absurd rfl h
  | k + 1, hk, h, a, ha, ta => by
    unfold amN at h ha ⊢
    by_cases t : M.testBit k = true
    · rw [if_pos t] at h ha ⊢
      have lt := amN_lt (v := v) (M := M) k
      by_cases q : amN v M k = 9
      · rw [if_pos q] at ha ⊢
        have := amN_9 k (by omega) q a ha
        rw [this] at ta
        exact absurd ta (by decide)
      · rw [if_neg q] at ha ⊢
        by_cases r : v (amN v M k) ≤ v k
        · rw [if_pos r] at ha ⊢
          exact amN_fst k (by omega) q a ha ta
        · rw [if_neg r] at ha ⊢
          by_cases s : a < amN v M k
          · have := amN_fst k (by omega) q a s ta
            omega
          · have lb := mnF_lb (v := v) (M := M) (a := a) k ha ta
            have mm := amN_le k (by omega) a ha ta q
            omega
    · rw [if_neg t] at h ha ⊢
      exact amN_fst k (by omega) h a ha ta
where
  amN_le {v : Nat → Nat} {M : Nat} : ∀ k, k ≤ 9 → ∀ a, a < k → M.testBit a = true → amN v M k ≠ 9 → v (amN v M k) ≤ v a
  | 0, _, a, ha, _, _ => by omega
  | k + 1, hk, a, ha, ta, h => by
    unfold amN at h ⊢
    by_cases t : M.testBit k = true
    · rw [if_pos t] at h ⊢
      by_cases q : amN v M k = 9
      · rw [if_pos q]
        by_cases e : a = k
        · subst e; omega
        · have := amN_9 k (by omega) q a (by omega)
          rw [this] at ta
          exact absurd ta (by decide)
      · rw [if_neg q]
        by_cases r : v (amN v M k) ≤ v k
        · rw [if_pos r]
          by_cases e : a = k
          · subst e; exact r
          · exact amN_le k (by omega) a (by omega) ta q
        · rw [if_neg r]
          by_cases e : a = k
          · subst e; omega
          · have := amN_le k (by omega) a (by omega) ta q
            omega
    · rw [if_neg t] at h ⊢
      by_cases e : a = k
      · subst e; exact absurd ta t
      · exact amN_le k (by omega) a (by omega) ta h
theorem am_ok {X Y : Nat → Nat} (hX : ∀ j, X j ≤ 99 ∧ Y j ≤ 99) {P R p : Nat} (hP : P ≤ 9) (hR : R < 2 ^ P) (h0 : R ≠ 0) : amN (tv X Y P R p) R P < P ∧ R.testBit (amN (tv X Y P R p) R P) = true ∧ tW X Y P R p = tv X Y P R p (amN (tv X Y P R p) R P) := by
  have h9 := p2_512 hP
  have n9 : amN (tv X Y P R p) R P ≠ 9 := fun z => by
    have := amN_9 P hP z
    apply h0
    apply Nat.eq_of_testBit_eq
    intro i
    rw [Nat.zero_testBit]
    by_cases hi : i < P
    · exact this i hi
    · exact Nat.testBit_lt_two_pow (Nat.lt_of_lt_of_le hR (Nat.pow_le_pow_right (by decide) (by omega)))
  rcases amN_mn (v := tv X Y P R p) (M := R) P hP (fun a _ _ => by have := tv_le hX hP hR p a; omega) with ⟨z, -⟩ | ⟨-, z, -⟩
  · exact absurd z n9
  · have lt := (amN_lt (v := tv X Y P R p) (M := R) P).elim (fun z => absurd z n9) id
    exact ⟨lt.1, lt.2, (tW_s h0).trans z⟩
def ctN (M : Nat) : Nat → Nat
  | 0 => 0
  | k + 1 => (if M.testBit k then 1 else 0) + ctN M k
theorem ct_m : ∀ M, M < 512 → ∀ a, a < 9 → M.testBit a = true → ctN (M - 2 ^ a) 9 + 1 = ctN M 9 ∧ 2 ^ a ≤ M := by decide +kernel
theorem ct_f : ∀ P, P ≤ 9 → ctN (2 ^ P - 1) 9 = P := by decide +kernel
theorem cp_t {P V a : Nat} (hV : V < 2 ^ P) (ha : a < P) : (2 ^ P - 1 - V).testBit a = !V.testBit a := by
  have := Nat.testBit_two_pow_sub_succ hV a
  rw [show 2 ^ P - (V + 1) = 2 ^ P - 1 - V by omega] at this
  rw [this]
  simp [ha]
