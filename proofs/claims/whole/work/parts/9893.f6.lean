section
variable {k T : Nat} {E : Nat → Nat → Bool}
theorem cw_49 {t : Nat} {old : Nat → Nat} (hk : k ≤ 8) (hT : T ≤ 40) (ht : t < T) (hol : ∀ S, S < 256 → old S < 2 ^ 62) (x1 : Int32) : ∀ (s n : Nat) (μ : fm_T), s ≤ 2 ^ k → s < n → FG2 k T E μ → (∀ S, S < 2 ^ k → fL μ 53 S = lN (pV k (fun j => E j t) old S s 0)) → l2X1_countWays_h49 n μ x1 (nI t) (nI s - 1) = nI (t + 1) ∧ qX1_countWays_h49 n μ x1 (nI t) (nI s - 1) ∧ frL fN f53 μ (mX1_countWays_h49 n μ x1 (nI t) (nI s - 1)) ∧ ∀ S, S < 2 ^ k → fL (mX1_countWays_h49 n μ x1 (nI t) (nI s - 1)) 53 S = lN (pV k (fun j => E j t) old S 0 0) := by
  have h8 : 2 ^ k ≤ 256 := Nat.pow_le_pow_right (n := 2) (j := 8) (by decide) hk
  intro s
  induction s with
  | zero =>
    intro n μ h1 h2 hg hi
    obtain ⟨n, rfl⟩ : ∃ m, n = m + 1 := ⟨n - 1, by omega⟩
    have e : nI 0 - 1 < 0 := by decide
    simp only [l2X1_countWays_h49, mX1_countWays_h49, qX1_countWays_h49, if_pos e, nI_1]
    exact ⟨trivial, fun z => absurd e z, frL.rf _ _ _, hi⟩
  | succ s ih =>
    intro n μ h1 h2 hg hi
    obtain ⟨n, rfl⟩ : ∃ m, n = m + 1 := ⟨n - 1, by omega⟩
    have ev : nI (s + 1) - 1 = nI s := by rw [show (1 : Int32) = nI 1 from rfl, nI_sub (by omega)]; rfl
    have e : ¬ nI s < 0 := nI_pos (by omega)
    obtain ⟨a1, a2, a3, a4⟩ := cw_56 hk hT ht (m := s) (by omega) hol x1 k 0 fF μ (by omega) (fF_gt (by omega)) hg hi
    rw [show nI 0 = 0 from rfl] at a1 a2 a3 a4
    obtain ⟨k1, k2, k3, k4⟩ := ih n (mX1_countWays_h56 fF μ x1 (nI t) (nI s) 0) (by omega) (by omega) (FG2_fr hg a3 (fun _ _ z => z.elim)) (fun S hS => by rw [a4 S hS, pV_e])
    rw [ev]
    simp only [l2X1_countWays_h49, mX1_countWays_h49, qX1_countWays_h49, if_neg e, a1]
    exact ⟨k1, fun _ => ⟨a2, k2⟩, a3.tr k3, k4⟩
theorem cw_26 (hk : k ≤ 8) (hT : T ≤ 40) : ∀ (c t n : Nat) (μ : fm_T), t + c = T → c < n → FG2 k T E μ → (∀ S, S < 2 ^ k → fL μ 53 S = lN (nW k E 0 1000 t S)) → lX1_countWays_h26 n μ (nI (2 ^ k - 1)) (nI t) = lN (nW k E 0 1000 T (2 ^ k - 1)) ∧ qX1_countWays_h26 n μ (nI (2 ^ k - 1)) (nI t) ∧ frL fN f53 μ (mX1_countWays_h26 n μ (nI (2 ^ k - 1)) (nI t)) := by
  have h8 : 2 ^ k ≤ 256 := Nat.pow_le_pow_right (n := 2) (j := 8) (by decide) hk
  have hp := Nat.two_pow_pos k
  have hf : 2 ^ k - 1 < 2 ^ 31 := by omega
  intro c
  induction c with
  | zero =>
    intro t n μ h1 h2 hg hi
    obtain ⟨n, rfl⟩ : ∃ m, n = m + 1 := ⟨n - 1, by omega⟩
    obtain rfl : t = T := by omega
    have e : nI t ≤ nI t := (nI_leI (by omega) (by omega)).mpr (by omega)
    simp only [lX1_countWays_h26, mX1_countWays_h26, qX1_countWays_h26, hg.2.1, if_pos e, nI_clamp hf]
    exact ⟨hi _ (by omega), ⟨fun _ => vp_in_nI (by omega) (by decide), fun z => absurd e z⟩, frL.rf _ _ _⟩
  | succ c ih =>
    intro t n μ h1 h2 hg hi
    obtain ⟨n, rfl⟩ : ∃ m, n = m + 1 := ⟨n - 1, by omega⟩
    have e : ¬ nI T ≤ nI t := fun z => by have := (nI_leI (by omega) (by omega)).mp z; omega
    have ht2 : t < 2 ^ 31 := by omega
    have vt : vp_in (nI t) 40 := vp_in_nI (by omega) (by decide)
    obtain ⟨f, f1, f2, f3⟩ := hg.2.2 t (by omega)
    simp only [lX1_countWays_h26, mX1_countWays_h26, qX1_countWays_h26, hg.2.1, if_neg e, nI_clamp ht2, f2]
    by_cases z : f = 0
    · have z1 : nI f = 0 := by rw [z]; rfl
      obtain ⟨n', hn'⟩ : ∃ n', fF = n' + 1 := ⟨fF - 1, by have := fF_le; omega⟩
      have em : (-1 : Int32) < 0 := by decide
      have l2 : l2X1_countWays_h49 fF μ (nI (2 ^ k - 1)) (nI t) (-1) = nI (t + 1) ∧ mX1_countWays_h49 fF μ (nI (2 ^ k - 1)) (nI t) (-1) = μ ∧ qX1_countWays_h49 fF μ (nI (2 ^ k - 1)) (nI t) (-1) := by
        rw [hn']
        simp only [l2X1_countWays_h49, mX1_countWays_h49, qX1_countWays_h49, if_pos em, nI_1]
        exact ⟨trivial, trivial, fun w => absurd em w⟩
      obtain ⟨k1, k2, k3⟩ := ih (t + 1) n μ (by omega) (by omega) hg (fun S hS => by
        rw [hi S hS, nW, if_neg (by omega)]
        have : sm (fun j => if S.testBit j && E j t then nW k E 0 1000 t (S - 2 ^ j) else 0) k = 0 := by
          apply Decidable.byContradiction
          intro w
          obtain ⟨j, hj, hw⟩ := (sm_ne k).mp w
          apply hw
          have := f3 j hj
          rw [z, Nat.zero_testBit] at this
          simp [← this]
        rw [this, Nat.add_zero])
      simp only [if_pos z1, l2.1, l2.2.1]
      exact ⟨k1, ⟨fun w => absurd w e, fun _ => ⟨vt, fun w => absurd z1 w, fun _ => ⟨l2.2.2, k2⟩⟩⟩, k3⟩
    · have z1 : ¬ nI f = 0 := fun w => z (nI_inj (b := 0) (by omega) (by decide) w)
      have hol : ∀ S, S < 256 → nW k E 0 1000 t S < 2 ^ 62 := fun S hS => by
        have := nW_l (E := E) (s0 := 0) (sk := 1000) hk (show t ≤ 40 by omega) hS
        omega
      obtain ⟨a1, a2, a3, a4⟩ := cw_49 (E := E) (t := t) (old := nW k E 0 1000 t) hk hT (by omega) hol (nI (2 ^ k - 1)) (2 ^ k) fF μ (Nat.le_refl _) (fF_gt (by omega)) hg (fun S hS => by rw [hi S hS, pV_0 hk (Nat.le_refl _) hS])
      have ef : nI (2 ^ k) - 1 = nI (2 ^ k - 1) := by rw [show (1 : Int32) = nI 1 from rfl, nI_sub (by omega)]
      rw [ef] at a1 a2 a3 a4
      obtain ⟨k1, k2, k3⟩ := ih (t + 1) n _ (by omega) (by omega) (FG2_fr hg a3 (fun _ _ z => z.elim)) (fun S hS => by rw [a4 S hS, pV_f, nW, if_neg (by omega)])
      simp only [if_neg z1, a1]
      exact ⟨k1, ⟨fun w => absurd w e, fun _ => ⟨vt, fun _ => ⟨a2, k2⟩, fun w => absurd w z1⟩⟩, a3.tr k3⟩
theorem fl_53 : ∀ (c i n : Nat) (μ : fm_T), i + c = 256 → c < n → qJ7_fill_d0a16_53_h6 n μ 0 (nI i) 256 ∧ frL fN f53 μ (mJ7_fill_d0a16_53_h6 n μ 0 (nI i) 256) ∧ ∀ S, S < 256 → fL (mJ7_fill_d0a16_53_h6 n μ 0 (nI i) 256) 53 S = if i ≤ S then 0 else fL μ 53 S := by
  intro c
  induction c with
  | zero =>
    intro i n μ h1 h2
    obtain ⟨n, rfl⟩ : ∃ m, n = m + 1 := ⟨n - 1, by omega⟩
    have e : (256 : Int32) ≤ nI i := (nI_leI (a := 256) (by omega) (by omega)).mpr (by omega)
    simp only [mJ7_fill_d0a16_53_h6, qJ7_fill_d0a16_53_h6, if_pos e]
    exact ⟨fun z => absurd e z, frL.rf _ _ _, fun S hS => by rw [if_neg (by omega)]⟩
  | succ c ih =>
    intro i n μ h1 h2
    obtain ⟨n, rfl⟩ : ∃ m, n = m + 1 := ⟨n - 1, by omega⟩
    have e : ¬ (256 : Int32) ≤ nI i := fun z => by have := (nI_leI (a := 256) (by omega) (by omega)).mp z; omega
    have hi : i < 2 ^ 31 := by omega
    obtain ⟨k1, k2, k3⟩ := ih (i + 1) n (fm_l μ 53 i 0) (by omega) (by omega)
    simp only [mJ7_fill_d0a16_53_h6, qJ7_fill_d0a16_53_h6, if_neg e, nI_clamp hi, nI_1]
    refine ⟨fun _ => ⟨vp_in_nI (by omega) (by decide), k1⟩, ((frL.rf fN f53 μ).l (k := 53) (j := i) (v := 0) rfl).tr k2, fun S hS => ?_⟩
    rw [k3 S hS, fL_l]
    by_cases q : i + 1 ≤ S
    · rw [if_pos q, if_pos (by omega)]
    · by_cases w : S = i
      · rw [if_neg q, if_pos ⟨rfl, w⟩, if_pos (by omega)]
      · rw [if_neg q, if_neg (by omega), if_neg (by omega)]
theorem cw_ok {μ : fm_T} (hk : k ≤ 8) (hT : T ≤ 40) (hg : FG2 k T E μ) : gX1_countWays μ = lN (nW k E 0 1000 T (2 ^ k - 1)) ∧ pX1_countWays μ ∧ frL fN f53 μ (uX1_countWays μ) := by
  have h8 : 2 ^ k ≤ 256 := Nat.pow_le_pow_right (n := 2) (j := 8) (by decide) hk
  obtain ⟨b1, b2, b3⟩ := fl_53 256 0 fF μ (by omega) (fF_gt (by omega))
  rw [show nI 0 = 0 from rfl] at b1 b2 b3
  have f1 : frL fN f53 μ (fm_l (uJ7_fill_d0a16_53 μ 0) 53 0 1) := b2.l rfl
  obtain ⟨k1, k2, k3⟩ := cw_26 (E := E) hk hT T 0 fF (fm_l (uJ7_fill_d0a16_53 μ 0) 53 0 1) (by omega) (fF_gt (by omega)) (FG2_fr hg f1 (fun _ _ z => z.elim)) (fun S hS => by
    rw [fL_l]
    unfold nW
    by_cases q : S = 0
    · rw [if_pos ⟨rfl, q⟩, if_pos q]; rfl
    · rw [if_neg (by omega), if_neg q]
      have := b3 S (by omega)
      rw [if_pos (by omega)] at this
      exact this)
  unfold gX1_countWays pX1_countWays uX1_countWays
  rw [hg.1, sh_512 k (by omega)]
  exact ⟨k1, ⟨b1, k2⟩, f1.tr k3⟩
end
def MG (k T : Nat) (E : Nat → Nat → Bool) (ν : fm_T) : Prop := fI ν 2 131 = nI T ∧ ∀ i, i < k → ∀ t, t < T → fI ν 17 (40 * i + t) = if E i t then 1 else 0
def skI (sk : Nat) : Int32 := if sk = 1000 then -1 else nI sk
section
variable {k T s0 sk : Nat} {E : Nat → Nat → Bool}
theorem MG_fr {ν ν' : fm_T} {A B : Nat → Nat → Prop} (h : MG k T E ν) (f : frL A B ν ν') (ha : ∀ k j, A k j → k ≠ 2 ∧ k ≠ 17) : MG k T E ν' := by
  refine ⟨(f.2.2.2 2 131 (fun z => (ha 2 131 z).1 rfl)).trans h.1, fun i hi t ht => ?_⟩
  rw [f.2.2.2 17 _ (fun z => (ha 17 _ z).2 rfl)]
  exact h.2 i hi t ht
theorem wo_86 {t m : Nat} {old : Nat → Nat} (hk : k ≤ 8) (hT : T ≤ 40) (ht : t < T) (hm : m < 2 ^ k) (x2 x3 x4 : Int32) : ∀ (c a n : Nat) (ν : fm_T), a + c = k → c < n → MG k T E ν → (∀ S, S < 2 ^ k → fL ν 19 S = lN (pV k (fun j => E j t) old S (m + 1) a)) → l6X12_waysOf_h86 n ν (nI k) x2 x3 x4 (nI t) (nI m) (nI a) = nI m - 1 ∧ qX12_waysOf_h86 n ν (nI k) x2 x3 x4 (nI t) (nI m) (nI a) ∧ frL fN f19 ν (mX12_waysOf_h86 n ν (nI k) x2 x3 x4 (nI t) (nI m) (nI a)) ∧ ∀ S, S < 2 ^ k → fL (mX12_waysOf_h86 n ν (nI k) x2 x3 x4 (nI t) (nI m) (nI a)) 19 S = lN (pV k (fun j => E j t) old S (m + 1) k) := by
  have h8 : 2 ^ k ≤ 256 := Nat.pow_le_pow_right (n := 2) (j := 8) (by decide) hk
  have ed : nI m + (-1) = nI m - 1 := by grind
  intro c
  induction c with
  | zero =>
    intro a n ν h1 h2 hg hi
    obtain ⟨n, rfl⟩ : ∃ m, n = m + 1 := ⟨n - 1, by omega⟩
    obtain rfl : a = k := by omega
    have e : nI a ≤ nI a := (nI_leI (by omega) (by omega)).mpr (by omega)
    simp only [l6X12_waysOf_h86, mX12_waysOf_h86, qX12_waysOf_h86, if_pos e, ed]
    exact ⟨trivial, fun z => absurd e z, frL.rf _ _ _, hi⟩
  | succ c ih =>
    intro a n ν h1 h2 hg hi
    obtain ⟨n, rfl⟩ : ∃ m, n = m + 1 := ⟨n - 1, by omega⟩
    have e : ¬ nI k ≤ nI a := fun z => by have := (nI_leI (by omega) (by omega)).mp z; omega
    have hm2 : m < 2 ^ 31 := by omega
    have im : fL ν 19 m = lN (old m) := by rw [hi m hm, pV_m hk (by omega)]
    have vm : vp_in (nI m) 256 := vp_in_nI (by omega) (by decide)
    have hs := hs_512 m (by omega) a (by omega)
    have e40 : (40 : Int32) * nI a + nI t = nI (40 * a + t) := by simp only [li_n, nI_mul, nI_add]
    have h40 : 40 * a + t < 2 ^ 31 := by omega
    have v40 : vp_in (nI (40 * a + t)) 320 := vp_in_nI (by omega) (by decide)
    have g17 := hg.2 a (by omega) t ht
    have n1 : ¬ (1 : Int32) = 0 := by decide
    have n2 : ¬ (0 : Int32) = 1 := by decide
    simp only [l6X12_waysOf_h86, mX12_waysOf_h86, qX12_waysOf_h86, if_neg e, gX12_has, hs, e40, nI_clamp h40, g17, nI_clamp hm2, im, nI_1]
    by_cases q : m.testBit a = true
    · obtain ⟨k1, k2, k3, k4⟩ := ih (a + 1) n ν (by omega) (by omega) hg (fun S hS => by rw [hi S hS, pV_n (Or.inl q) hk (by omega) (by omega)])
      simp only [q, if_true, if_neg n1]
      exact ⟨k1, fun _ => ⟨fun _ => k2, fun w => absurd w n1⟩, k3, k4⟩
    · have q1 : m.testBit a = false := by simpa using q
      by_cases q2 : E a t = true
      · obtain ⟨s1, -, s3⟩ := st_512 m (by omega) a (by omega) q1
        have lt : m + 2 ^ a < 2 ^ k := mo_256 k hk m (by omega) hm a (by omega) q1
        have hma : m + 2 ^ a < 2 ^ 31 := by omega
        have va : vp_in (nI (m + 2 ^ a)) 256 := vp_in_nI (by omega) (by decide)
        obtain ⟨k1, k2, k3, k4⟩ := ih (a + 1) n (fm_l ν 19 (m + 2 ^ a) (fL ν 19 (m + 2 ^ a) + lN (old m))) (by omega) (by omega) (MG_fr hg ((frL.rf fN f19 ν).l rfl) (fun _ _ z => z.elim)) (fun S hS => by
          rw [fL_l, pV_y q1 q2 hk (by omega) (by omega) (by omega)]
          by_cases w : S = m + 2 ^ a
          · rw [if_pos ⟨rfl, w⟩, if_pos w, w, hi _ lt, lN_add]
          · rw [if_neg (by omega), if_neg w]; exact hi S hS)
        simp only [q1, q2, Bool.false_eq_true, if_false, if_true, if_neg n1, if_neg n2, s1, nI_clamp hma]
        exact ⟨k1, fun _ => ⟨fun w => absurd trivial w, fun _ => ⟨v40, fun w => absurd w n1, fun _ => ⟨va, vm, va, k2⟩⟩⟩, ((frL.rf fN f19 ν).l (k := 19) (j := m + 2 ^ a) rfl).tr k3, k4⟩
      · have q2 : E a t = false := by simpa using q2
        obtain ⟨k1, k2, k3, k4⟩ := ih (a + 1) n ν (by omega) (by omega) hg (fun S hS => by rw [hi S hS, pV_n (e := fun j => E j t) (Or.inr q2) hk (by omega) (by omega)])
        simp only [q1, q2, Bool.false_eq_true, if_false, if_true, if_neg n2]
        exact ⟨k1, fun _ => ⟨fun w => absurd trivial w, fun _ => ⟨v40, fun _ => k2, fun w => absurd trivial w⟩⟩, k3, k4⟩
theorem wo_63 {t : Nat} {old : Nat → Nat} (hk : k ≤ 8) (hT : T ≤ 40) (ht : t < T) (hol : ∀ S, S < 256 → old S < 2 ^ 62) (x2 x3 x4 : Int32) : ∀ (s n : Nat) (ν : fm_T), s ≤ 2 ^ k → s < n → MG k T E ν → (∀ S, S < 2 ^ k → fL ν 19 S = lN (pV k (fun j => E j t) old S s 0)) → l5X12_waysOf_h63 n ν (nI k) x2 x3 x4 (nI t) (nI s - 1) = nI (t + 1) ∧ qX12_waysOf_h63 n ν (nI k) x2 x3 x4 (nI t) (nI s - 1) ∧ frL fN f19 ν (mX12_waysOf_h63 n ν (nI k) x2 x3 x4 (nI t) (nI s - 1)) ∧ ∀ S, S < 2 ^ k → fL (mX12_waysOf_h63 n ν (nI k) x2 x3 x4 (nI t) (nI s - 1)) 19 S = lN (pV k (fun j => E j t) old S 0 0) := by
  have h8 : 2 ^ k ≤ 256 := Nat.pow_le_pow_right (n := 2) (j := 8) (by decide) hk
  intro s
  induction s with
  | zero =>
    intro n ν h1 h2 hg hi
    obtain ⟨n, rfl⟩ : ∃ m, n = m + 1 := ⟨n - 1, by omega⟩
    have e : nI 0 - 1 < 0 := by decide
    simp only [l5X12_waysOf_h63, mX12_waysOf_h63, qX12_waysOf_h63, if_pos e, nI_1]
    exact ⟨trivial, fun z => absurd e z, frL.rf _ _ _, hi⟩
  | succ s ih =>
    intro n ν h1 h2 hg hi
    obtain ⟨n, rfl⟩ : ∃ m, n = m + 1 := ⟨n - 1, by omega⟩
    have ev : nI (s + 1) - 1 = nI s := by rw [show (1 : Int32) = nI 1 from rfl, nI_sub (by omega)]; rfl
    have ed : nI s + (-1) = nI s - 1 := by grind
    have e : ¬ nI s < 0 := nI_pos (by omega)
    have hs2 : s < 2 ^ 31 := by omega
    have os := hol s (by omega)
    have im : fL ν 19 s = lN (old s) := by rw [hi s (by omega), pV_m hk (by omega)]
    have vs : vp_in (nI s) 256 := vp_in_nI (by omega) (by decide)
    rw [ev]
    simp only [l5X12_waysOf_h63, mX12_waysOf_h63, qX12_waysOf_h63, if_neg e, nI_clamp hs2, im, l6_z (show old s < 2 ^ 63 by omega), ed]
    by_cases z : old s = 0
    · obtain ⟨k1, k2, k3, k4⟩ := ih n ν (by omega) (by omega) hg (fun S hS => by rw [hi S hS, pV_z z 0 k, pV_e])
      simp only [if_pos z]
      exact ⟨k1, fun _ => ⟨vs, fun w => absurd z w, fun _ => k2⟩, k3, k4⟩
    · obtain ⟨a1, a2, a3, a4⟩ := wo_86 (E := E) hk hT ht (m := s) (by omega) x2 x3 x4 k 0 fF ν (by omega) (fF_gt (by omega)) hg hi
      rw [show nI 0 = 0 from rfl] at a1 a2 a3 a4
      obtain ⟨k1, k2, k3, k4⟩ := ih n (mX12_waysOf_h86 fF ν (nI k) x2 x3 x4 (nI t) (nI s) 0) (by omega) (by omega) (MG_fr hg a3 (fun _ _ z => z.elim)) (fun S hS => by rw [a4 S hS, pV_e])
      simp only [if_neg z, a1]
      exact ⟨k1, fun _ => ⟨vs, fun _ => ⟨a2, k2⟩, fun w => absurd w z⟩, a3.tr k3, k4⟩
theorem wo_41 (hk : k ≤ 8) (hT : T ≤ 40) (x2 : Int32) (hsk : sk ≤ 1000) : ∀ (c t n : Nat) (ν : fm_T), t + c = T → c < n → MG k T E ν → (∀ S, S < 2 ^ k → fL ν 19 S = lN (nW k E s0 sk t S)) → lX12_waysOf_h41 n ν (nI k) x2 (skI sk) (nI (2 ^ k - 1)) (nI t) = lN (nW k E s0 sk T (2 ^ k - 1)) ∧ qX12_waysOf_h41 n ν (nI k) x2 (skI sk) (nI (2 ^ k - 1)) (nI t) ∧ frL fN f19 ν (mX12_waysOf_h41 n ν (nI k) x2 (skI sk) (nI (2 ^ k - 1)) (nI t)) := by
  have h8 : 2 ^ k ≤ 256 := Nat.pow_le_pow_right (n := 2) (j := 8) (by decide) hk
  have hp := Nat.two_pow_pos k
  have hf : 2 ^ k - 1 < 2 ^ 31 := by omega
  intro c
  induction c with
  | zero =>
    intro t n ν h1 h2 hg hi
    obtain ⟨n, rfl⟩ : ∃ m, n = m + 1 := ⟨n - 1, by omega⟩
    obtain rfl : t = T := by omega
    have e : nI t ≤ nI t := (nI_leI (by omega) (by omega)).mpr (by omega)
    simp only [lX12_waysOf_h41, mX12_waysOf_h41, qX12_waysOf_h41, gX12_tickets, hg.1, if_pos e, nI_clamp hf]
    exact ⟨hi _ (by omega), ⟨fun _ => vp_in_nI (by omega) (by decide), fun z => absurd e z⟩, frL.rf _ _ _⟩
  | succ c ih =>
    intro t n ν h1 h2 hg hi
    obtain ⟨n, rfl⟩ : ∃ m, n = m + 1 := ⟨n - 1, by omega⟩
    have e : ¬ nI T ≤ nI t := fun z => by have := (nI_leI (by omega) (by omega)).mp z; omega
    have ek : nI t = skI sk ↔ t = sk := by
      unfold skI
      by_cases q : sk = 1000
      · rw [if_pos q]
        exact ⟨fun z => absurd z (nI_m1 (by omega)), fun z => by omega⟩
      · rw [if_neg q]
        exact nI_eq (by omega) (by omega)
    simp only [lX12_waysOf_h41, mX12_waysOf_h41, qX12_waysOf_h41, gX12_tickets, hg.1, if_neg e, ek, nI_1]
    by_cases z : t = sk
    · obtain ⟨k1, k2, k3⟩ := ih (t + 1) n ν (by omega) (by omega) hg (fun S hS => by rw [hi S hS, nW, if_pos z, Nat.add_zero])
      simp only [if_pos z]
      exact ⟨k1, ⟨fun w => absurd w e, fun _ => ⟨fun w => absurd z w, fun _ => k2⟩⟩, k3⟩
    · have hol : ∀ S, S < 256 → nW k E s0 sk t S < 2 ^ 62 := fun S hS => by
        have := nW_l (E := E) (s0 := s0) (sk := sk) hk (show t ≤ 40 by omega) hS
        omega
      obtain ⟨a1, a2, a3, a4⟩ := wo_63 (E := E) (old := nW k E s0 sk t) hk hT (show t < T by omega) hol x2 (skI sk) (nI (2 ^ k - 1)) (2 ^ k) fF ν (Nat.le_refl _) (fF_gt (by omega)) hg (fun S hS => by rw [hi S hS, pV_0 hk (Nat.le_refl _) hS])
      have ef : nI (2 ^ k) - 1 = nI (2 ^ k - 1) := by rw [show (1 : Int32) = nI 1 from rfl, nI_sub (by omega)]
      rw [ef] at a1 a2 a3 a4
      obtain ⟨k1, k2, k3⟩ := ih (t + 1) n _ (by omega) (by omega) (MG_fr hg a3 (fun _ _ z => z.elim)) (fun S hS => by rw [a4 S hS, pV_f, nW, if_neg z])
      simp only [if_neg z, a1]
      exact ⟨k1, ⟨fun w => absurd w e, fun _ => ⟨fun _ => ⟨a2, k2⟩, fun w => absurd w z⟩⟩, a3.tr k3⟩
theorem wo_10 (hk : k ≤ 8) (hT : T ≤ 40) (hs0 : s0 < 2 ^ k) (hsk : sk ≤ 1000) : ∀ (c i n : Nat) (ν : fm_T), i + c = 2 ^ k → c < n → MG k T E ν → (∀ S, S < i → fL ν 19 S = 0) → lX12_waysOf_h10 n ν (nI k) (nI s0) (skI sk) (nI (2 ^ k - 1)) (nI i) = lN (nW k E s0 sk T (2 ^ k - 1)) ∧ qX12_waysOf_h10 n ν (nI k) (nI s0) (skI sk) (nI (2 ^ k - 1)) (nI i) ∧ frL fN f19 ν (mX12_waysOf_h10 n ν (nI k) (nI s0) (skI sk) (nI (2 ^ k - 1)) (nI i)) := by
  have h8 : 2 ^ k ≤ 256 := Nat.pow_le_pow_right (n := 2) (j := 8) (by decide) hk
  have hp := Nat.two_pow_pos k
  have hs2 : s0 < 2 ^ 31 := by omega
  intro c
  induction c with
  | zero =>
    intro i n ν h1 h2 hg hi
    obtain ⟨n, rfl⟩ : ∃ m, n = m + 1 := ⟨n - 1, by omega⟩
    have e : nI (2 ^ k - 1) < nI i := (nI_ltI (by omega) (by omega)).mpr (by omega)
    obtain ⟨k1, k2, k3⟩ := wo_41 (E := E) (s0 := s0) (sk := sk) hk hT (nI s0) hsk T 0 fF (fm_l ν 19 s0 1) (by omega) (fF_gt (by omega)) (MG_fr hg ((frL.rf fN f19 ν).l rfl) (fun _ _ z => z.elim)) (fun S hS => by
      rw [fL_l]
      unfold nW
      by_cases q : S = s0
      · rw [if_pos ⟨rfl, q⟩, if_pos q]; rfl
      · rw [if_neg (by omega), if_neg q, hi S (by omega)]; rfl)
    simp only [lX12_waysOf_h10, mX12_waysOf_h10, qX12_waysOf_h10, if_pos e, nI_clamp hs2]
    exact ⟨k1, ⟨fun _ => ⟨vp_in_nI (by omega) (by decide), k2⟩, fun z => absurd e z⟩, ((frL.rf fN f19 ν).l (k := 19) (j := s0) (v := 1) rfl).tr k3⟩
  | succ c ih =>
    intro i n ν h1 h2 hg hi
    obtain ⟨n, rfl⟩ : ∃ m, n = m + 1 := ⟨n - 1, by omega⟩
    have e : ¬ nI (2 ^ k - 1) < nI i := fun z => by have := (nI_ltI (by omega) (by omega)).mp z; omega
    have hi2 : i < 2 ^ 31 := by omega
    obtain ⟨k1, k2, k3⟩ := ih (i + 1) n (fm_l ν 19 i 0) (by omega) (by omega) (MG_fr hg ((frL.rf fN f19 ν).l rfl) (fun _ _ z => z.elim)) (fun S hS => by
      rw [fL_l]
      by_cases q : S = i
      · rw [if_pos ⟨rfl, q⟩]
      · rw [if_neg (by omega)]; exact hi S (by omega))
    simp only [lX12_waysOf_h10, mX12_waysOf_h10, qX12_waysOf_h10, if_neg e, nI_clamp hi2, nI_1]
    exact ⟨k1, ⟨fun z => absurd z e, fun _ => ⟨vp_in_nI (by omega) (by decide), k2⟩⟩, ((frL.rf fN f19 ν).l (k := 19) (j := i) (v := 0) rfl).tr k3⟩
theorem wo_ok {ν : fm_T} (hk : k ≤ 8) (hT : T ≤ 40) (hs0 : s0 < 2 ^ k) (hsk : sk ≤ 1000) (hg : MG k T E ν) : gX12_waysOf ν (nI k) (nI s0) (skI sk) = lN (nW k E s0 sk T (2 ^ k - 1)) ∧ pX12_waysOf ν (nI k) (nI s0) (skI sk) ∧ frL fN f19 ν (uX12_waysOf ν (nI k) (nI s0) (skI sk)) := by
  have h8 : 2 ^ k ≤ 256 := Nat.pow_le_pow_right (n := 2) (j := 8) (by decide) hk
  obtain ⟨k1, k2, k3⟩ := wo_10 (E := E) hk hT hs0 hsk (2 ^ k) 0 fF ν (by omega) (fF_gt (by omega)) hg (fun S hS => by omega)
  rw [show nI 0 = 0 from rfl] at k1 k2 k3
  unfold gX12_waysOf pX12_waysOf uX12_waysOf
  rw [sh_512 k (by omega)]
  exact ⟨k1, k2, k3⟩
end
