def sm (f : Nat → Nat) : Nat → Nat
  | 0 => 0
  | n + 1 => sm f n + f n
theorem sm_cg {f g : Nat → Nat} : ∀ n, (∀ j, j < n → f j = g j) → sm f n = sm g n
  | 0, _ => rfl
  | n + 1, h => by
    unfold sm
    rw [sm_cg n (fun j hj => h j (by omega)), h n (by omega)]
theorem sm_one {f g : Nat → Nat} {a v : Nat} : ∀ n, a < n → (∀ j, j < n → j ≠ a → g j = f j) → g a = f a + v → sm g n = sm f n + v
  | 0, h, _, _ => by omega
  | n + 1, h, h1, h2 => by
    unfold sm
    by_cases e : a = n
    · subst e
      rw [sm_cg (f := g) (g := f) a (fun j hj => h1 j (by omega) (by omega)), h2]
      omega
    · rw [sm_one n (by omega) (fun j hj hn => h1 j (by omega) hn) h2, h1 n (by omega) (fun z => e z.symm)]
      omega
theorem sm_ne {f : Nat → Nat} : ∀ n, sm f n ≠ 0 ↔ ∃ j, j < n ∧ f j ≠ 0
  | 0 => ⟨fun z => absurd rfl z, fun ⟨j, hj, _⟩ => by omega⟩
  | n + 1 => by
    have ih := sm_ne (f := f) n
    unfold sm
    constructor
    · intro h
      by_cases e : f n = 0
      · obtain ⟨j, hj, h2⟩ := ih.mp (by omega)
        exact ⟨j, by omega, h2⟩
      · exact ⟨n, by omega, e⟩
    · rintro ⟨j, hj, h2⟩
      by_cases e : j = n
      · subst e; omega
      · have := ih.mpr ⟨j, by omega, h2⟩
        omega
theorem sm_add {f g : Nat → Nat} : ∀ n, sm (fun j => f j + g j) n = sm f n + sm g n
  | 0 => rfl
  | n + 1 => by
    have := sm_add (f := f) (g := g) n
    unfold sm
    omega
def nW (k : Nat) (E : Nat → Nat → Bool) (s0 sk : Nat) : Nat → Nat → Nat
  | 0, S => if S = s0 then 1 else 0
  | T + 1, S => nW k E s0 sk T S + (if T = sk then 0 else sm (fun j => if S.testBit j && E j T then nW k E s0 sk T (S - 2 ^ j) else 0) k)
def tuB (S i j : Nat) : Bool := !S.testBit j || (((S - 2 ^ j).testBit i == (S.testBit i && !(i == j))) && decide (2 ^ j ≤ S))
theorem tuB_ok : ∀ S, S < 256 → ∀ i, i < 8 → ∀ j, j < 8 → tuB S i j = true := by decide +kernel
theorem tb_sub {S i j : Nat} (hS : S < 256) (hi : i < 8) (hj : j < 8) (t : S.testBit j = true) : (S - 2 ^ j).testBit i = (S.testBit i && !(i == j)) ∧ 2 ^ j ≤ S := by
  have := tuB_ok S hS i hi j hj
  unfold tuB at this
  rw [t] at this
  simp only [Bool.not_true, Bool.false_or, Bool.and_eq_true, beq_iff_eq, decide_eq_true_eq] at this
  exact this
theorem ct_mo (S : Nat) : ∀ k d, ctN S k ≤ ctN S (k + d)
  | k, 0 => Nat.le_refl _
  | k, d + 1 => by
    have := ct_mo S k d
    rw [show k + (d + 1) = k + d + 1 by omega, ctN]
    omega
theorem bino (x : Nat) : ∀ c, (x + 1) ^ (c + 1) + (c + 1) * (x + 1) ^ c ≤ (x + 2) ^ (c + 1)
  | 0 => by simp
  | c + 1 => by
    have ih := bino x c
    have h1 : (x + 2) ^ (c + 1 + 1) = (x + 2) ^ (c + 1) * (x + 2) := Nat.pow_succ _ _
    have h2 : (x + 1) ^ (c + 1 + 1) = (x + 1) ^ (c + 1) * (x + 1) := Nat.pow_succ _ _
    have h3 : (x + 1) ^ (c + 1) = (x + 1) ^ c * (x + 1) := Nat.pow_succ _ _
    rw [h1, h2]
    have := Nat.mul_le_mul_right (x + 2) ih
    refine Nat.le_trans ?_ this
    rw [h3]
    generalize (x + 1) ^ c = p
    exact Nat.le.intro (k := (c + 1) * p) (by grind)
theorem sm_bd {S T B : Nat} {E : Nat → Nat → Bool} {f : Nat → Nat} : ∀ k, (∀ j, j < k → S.testBit j = true → f j ≤ B) → sm (fun j => if S.testBit j && E j T then f j else 0) k ≤ ctN S k * B
  | 0, _ => by simp [sm, ctN]
  | k + 1, h => by
    have ih := sm_bd (S := S) (T := T) (B := B) (E := E) (f := f) k (fun j hj => h j (by omega))
    unfold sm ctN
    by_cases t : S.testBit k = true
    · have := h k (by omega) t
      rw [if_pos t, Nat.add_mul, Nat.one_mul]
      split <;> omega
    · have tf : S.testBit k = false := by simpa using t
      rw [if_neg t, tf, Nat.zero_add]
      simp only [Bool.false_and, Bool.false_eq_true, if_false]
      omega
theorem nW_le {k s0 sk : Nat} {E : Nat → Nat → Bool} (hk : k ≤ 8) : ∀ T S, S < 256 → nW k E s0 sk T S ≤ (T + 1) ^ ctN S 9
  | 0, S, _ => by
    unfold nW
    rw [Nat.zero_add, Nat.one_pow]
    split <;> omega
  | T + 1, S, hS => by
    have ih := nW_le (s0 := s0) (sk := sk) (E := E) hk T S hS
    unfold nW
    by_cases c0 : ctN S 9 = 0
    · have z : sm (fun j => if S.testBit j && E j T then nW k E s0 sk T (S - 2 ^ j) else 0) k ≤ ctN S k * 0 := sm_bd k (fun j hj t => by
        have := (ct_m S (by omega) j (by omega) t).1
        omega)
      rw [c0] at ih ⊢
      rw [Nat.pow_zero] at ih ⊢
      split <;> omega
    · obtain ⟨c, hc⟩ : ∃ c, ctN S 9 = c + 1 := ⟨ctN S 9 - 1, by omega⟩
      have z : sm (fun j => if S.testBit j && E j T then nW k E s0 sk T (S - 2 ^ j) else 0) k ≤ ctN S k * (T + 1) ^ c := sm_bd k (fun j hj t => by
        have := (ct_m S (by omega) j (by omega) t).1
        have i := nW_le (s0 := s0) (sk := sk) (E := E) hk T (S - 2 ^ j) (Nat.lt_of_le_of_lt (Nat.sub_le _ _) hS)
        rw [show ctN (S - 2 ^ j) 9 = c by omega] at i
        exact i)
      have cm := ct_mo S k (9 - k)
      rw [show k + (9 - k) = 9 by omega, hc] at cm
      have b : (T + 1) ^ (c + 1) + (c + 1) * (T + 1) ^ c ≤ (T + 1 + 1) ^ (c + 1) := bino T c
      have z2 := Nat.mul_le_mul_right ((T + 1) ^ c) cm
      rw [hc] at ih ⊢
      split <;> omega
theorem ct_9 : ∀ S, S < 256 → ctN S 9 ≤ 8 := by decide +kernel
theorem nW_l {k s0 sk : Nat} {E : Nat → Nat → Bool} (hk : k ≤ 8) {T S : Nat} (hT : T ≤ 40) (hS : S < 256) : nW k E s0 sk T S < 8000000000000 := by
  have h1 := nW_le (s0 := s0) (sk := sk) (E := E) hk T S hS
  have h2 : (T + 1) ^ ctN S 9 ≤ 41 ^ ctN S 9 := Nat.pow_le_pow_left (by omega) _
  have h3 : 41 ^ ctN S 9 ≤ 41 ^ 8 := Nat.pow_le_pow_right (by decide) (ct_9 S hS)
  have h4 : 41 ^ 8 < 8000000000000 := by decide
  omega
def eMi (E : Nat → Nat → Bool) (i t : Nat) : Nat → Nat → Bool := fun j u => E j u && !(j == i && u == t)
theorem s2_256 {S j : Nat} (h : S < 256) : S - 2 ^ j < 256 := Nat.lt_of_le_of_lt (Nat.sub_le _ _) h
section
variable {k i t : Nat} {E : Nat → Nat → Bool}
theorem nW_z (hk : k ≤ 8) (hi : i < 8) : ∀ T S, S < 256 → S.testBit i = false → nW k E (2 ^ i) t T S = 0
  | 0, S, _, h => by
    unfold nW
    rw [if_neg]
    intro z
    rw [z, Nat.testBit_two_pow_self] at h
    exact absurd h (by decide)
  | T + 1, S, hS, h => by
    have ih := nW_z hk hi T S hS h
    have z : sm (fun j => if S.testBit j && E j T then nW k E (2 ^ i) t T (S - 2 ^ j) else 0) k = 0 := by
      apply Decidable.byContradiction
      intro n
      obtain ⟨j, hj, hn⟩ := (sm_ne k).mp n
      apply hn
      by_cases tj : S.testBit j = true
      · obtain ⟨b1, b2⟩ := tb_sub hS hi (show j < 8 by omega) tj
        rw [h, Bool.false_and] at b1
        simp only [nW_z hk hi T (S - 2 ^ j) (s2_256 hS) b1, ite_self]
      · have tf : S.testBit j = false := by simpa using tj
        simp [tf]
    unfold nW
    rw [ih, z, ite_self]
theorem nW_x (hk : k ≤ 8) : ∀ T S, T ≤ t → nW k (eMi E i t) 0 1000 T S = nW k E 0 1000 T S
  | 0, S, _ => rfl
  | T + 1, S, h => by
    unfold nW
    rw [nW_x hk T S (by omega)]
    congr 1
    split
    · rfl
    · refine sm_cg k fun j hj => ?_
      rw [nW_x hk T (S - 2 ^ j) (by omega)]
      have : eMi E i t j T = E j T := by
        unfold eMi
        have : (T == t) = false := by simp; omega
        rw [this]
        simp
      rw [this]
theorem nW_w (hk : k ≤ 8) (hi : i < 8) (ht : t < 1000) : ∀ T S, S < 256 → S.testBit i = true → T ≤ t → nW k E (2 ^ i) t T S = nW k E 0 1000 T (S - 2 ^ i)
  | 0, S, hS, h, _ => by
    obtain ⟨-, b2⟩ := tb_sub hS hi hi h
    unfold nW
    by_cases e : S = 2 ^ i
    · rw [if_pos e, if_pos (by omega)]
    · rw [if_neg e, if_neg (by omega)]
  | T + 1, S, hS, h, hT => by
    obtain ⟨b1, b2⟩ := tb_sub hS hi hi h
    unfold nW
    rw [nW_w hk hi ht T S hS h (by omega), if_neg (by omega), if_neg (by omega)]
    congr 1
    refine sm_cg k fun j hj => ?_
    by_cases e : j = i
    · subst e
      rw [b1]
      have : nW k E (2 ^ j) t T (S - 2 ^ j) = 0 := nW_z hk hi T _ (s2_256 hS) (by rw [b1]; simp)
      simp [this]
    · obtain ⟨c1, c2⟩ := tb_sub (i := j) hS (show j < 8 by omega) hi h
      have ej : (j == i) = false := by simpa using e
      rw [ej, Bool.not_false, Bool.and_true] at c1
      rw [c1]
      by_cases tj : S.testBit j = true
      · obtain ⟨d1, d2⟩ := tb_sub (i := i) hS hi (show j < 8 by omega) tj
        have ei : (i == j) = false := by simp; omega
        rw [h, ei] at d1
        rw [nW_w hk hi ht T (S - 2 ^ j) (s2_256 hS) (by rw [d1]; rfl) (by omega), show S - 2 ^ j - 2 ^ i = S - 2 ^ i - 2 ^ j by omega]
      · have tf : S.testBit j = false := by simpa using tj
        simp [tf]
theorem nW_sp (hk : k ≤ 8) (hi : i < k) (ht : t < 1000) (hE : E i t = true) : ∀ T S, T ≤ 1000 → S < 256 → nW k E 0 1000 T S = nW k (eMi E i t) 0 1000 T S + (if t < T ∧ S.testBit i = true then nW k E (2 ^ i) t T S else 0)
  | 0, S, _, _ => by
    rw [if_neg (by omega)]
    rfl
  | T + 1, S, hT, hS => by
    have i8 : i < 8 := by omega
    by_cases c1 : T < t
    · rw [if_neg (by omega), nW_x hk (T + 1) S (by omega)]
      rfl
    · by_cases c2 : T = t
      · subst c2
        have hx := nW_x (E := E) (i := i) (t := T) hk T
        by_cases b : S.testBit i = true
        · rw [if_pos ⟨by omega, b⟩, nW, nW, nW, if_neg (by omega), if_neg (by omega), if_pos rfl, hx S (Nat.le_refl T), nW_w hk i8 ht T S hS b (Nat.le_refl T)]
          rw [sm_one (f := fun j => if S.testBit j && eMi E i T j T then nW k (eMi E i T) 0 1000 T (S - 2 ^ j) else 0) (g := fun j => if S.testBit j && E j T then nW k E 0 1000 T (S - 2 ^ j) else 0) (a := i) (v := nW k E 0 1000 T (S - 2 ^ i)) k hi (fun j hj hn => by
            have : eMi E i T j T = E j T := by
              unfold eMi
              have : (j == i) = false := by simpa using hn
              rw [this]
              simp
            simp only [this, hx _ (Nat.le_refl T)]) (by
            have : eMi E i T i T = false := by unfold eMi; simp
            simp only [this, b, hE, Bool.and_false, Bool.and_true, Bool.false_eq_true, if_false, if_true, Nat.zero_add])]
          omega
        · have bf : S.testBit i = false := by simpa using b
          rw [if_neg (fun z => b z.2), nW, nW, if_neg (by omega), if_neg (by omega), hx S (Nat.le_refl T), Nat.add_zero]
          congr 1
          refine sm_cg k fun j hj => ?_
          by_cases e : j = i
          · subst e; simp [bf]
          · have : eMi E i T j T = E j T := by
              unfold eMi
              have : (j == i) = false := by simpa using e
              rw [this]
              simp
            simp only [this, hx _ (Nat.le_refl T)]
      · have ih := fun S hS => nW_sp hk hi ht hE T S (by omega) hS
        have eT : ∀ j, eMi E i t j T = E j T := fun j => by
          unfold eMi
          have : (T == t) = false := by simpa using c2
          rw [this]
          simp
        by_cases b : S.testBit i = true
        · rw [if_pos ⟨by omega, b⟩, nW, nW, nW, if_neg (by omega), if_neg (by omega), if_neg c2, ih S hS, if_pos ⟨by omega, b⟩]
          have : sm (fun j => if S.testBit j && E j T then nW k E 0 1000 T (S - 2 ^ j) else 0) k = sm (fun j => if S.testBit j && eMi E i t j T then nW k (eMi E i t) 0 1000 T (S - 2 ^ j) else 0) k + sm (fun j => if S.testBit j && E j T then nW k E (2 ^ i) t T (S - 2 ^ j) else 0) k := by
            rw [← sm_add]
            refine sm_cg k fun j hj => ?_
            simp only [eT]
            by_cases q : (S.testBit j && E j T) = true
            · rw [if_pos q, if_pos q, if_pos q]
              have tj : S.testBit j = true := by simp at q; exact q.1
              obtain ⟨d1, d2⟩ := tb_sub (i := i) hS i8 (show j < 8 by omega) tj
              rw [ih (S - 2 ^ j) (s2_256 hS)]
              by_cases e : i = j
              · subst e
                rw [b] at d1
                have d1' : (S - 2 ^ i).testBit i = false := by rw [d1]; simp
                rw [if_neg (fun z => by rw [d1'] at z; exact absurd z.2 (by decide)), nW_z hk i8 T _ (s2_256 hS) d1']
              · have ei : (i == j) = false := by simpa using e
                rw [b, ei] at d1
                rw [if_pos ⟨by omega, by rw [d1]; rfl⟩]
            · rw [if_neg q, if_neg q, if_neg q]
          omega
        · have bf : S.testBit i = false := by simpa using b
          rw [if_neg (fun z => b z.2), nW, nW, if_neg (by omega), if_neg (by omega), ih S hS, if_neg (fun z => b z.2), Nat.add_zero, Nat.add_zero]
          congr 1
          refine sm_cg k fun j hj => ?_
          simp only [eT]
          by_cases q : (S.testBit j && E j T) = true
          · rw [if_pos q, if_pos q]
            have tj : S.testBit j = true := by simp at q; exact q.1
            obtain ⟨d1, d2⟩ := tb_sub (i := i) hS i8 (show j < 8 by omega) tj
            rw [bf, Bool.false_and] at d1
            rw [ih (S - 2 ^ j) (s2_256 hS), if_neg (fun z => by rw [d1] at z; exact absurd z.2 (by decide)), Nat.add_zero]
          · rw [if_neg q, if_neg q]
end
