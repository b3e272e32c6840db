def pV (k : Nat) (e : Nat → Bool) (old : Nat → Nat) (S s a : Nat) : Nat := old S + sm (fun j => if S.testBit j && e j && (decide (s ≤ S - 2 ^ j) || (decide (S - 2 ^ j + 1 = s) && decide (j < a))) then old (S - 2 ^ j) else 0) k
section
variable {k : Nat} {e : Nat → Bool} {old : Nat → Nat}
theorem pV_0 {S s : Nat} (hk : k ≤ 8) (hs : 2 ^ k ≤ s) (hS : S < 2 ^ k) : pV k e old S s 0 = old S := by
  unfold pV
  have : sm (fun j => if S.testBit j && e j && (decide (s ≤ S - 2 ^ j) || (decide (S - 2 ^ j + 1 = s) && decide (j < 0))) then old (S - 2 ^ j) else 0) k = sm (fun _ => 0) k := sm_cg k fun j hj => by
    have : ¬ s ≤ S - 2 ^ j := fun z => by have := Nat.sub_le S (2 ^ j); omega
    simp [this]
  rw [this]
  have z : ∀ n, sm (fun _ => 0) n = 0 := fun n => by
    induction n with
    | zero => rfl
    | succ n ih => unfold sm; rw [ih]
  rw [z, Nat.add_zero]
theorem pV_e {S s : Nat} : pV k e old S (s + 1) k = pV k e old S s 0 := by
  unfold pV
  congr 1
  refine sm_cg k fun j hj => ?_
  have : (decide (s + 1 ≤ S - 2 ^ j) || (decide (S - 2 ^ j + 1 = s + 1) && decide (j < k))) = (decide (s ≤ S - 2 ^ j) || (decide (S - 2 ^ j + 1 = s) && decide (j < 0))) := by
    by_cases q : s ≤ S - 2 ^ j
    · by_cases w : s = S - 2 ^ j
      · simp [← w, hj]
      · have h1 : s + 1 ≤ S - 2 ^ j := by omega
        simp [q, h1]
    · have h1 : ¬ s + 1 ≤ S - 2 ^ j := by omega
      have h2 : ¬ S - 2 ^ j = s := by omega
      simp [q, h1, h2]
  rw [this]
theorem pV_f {S : Nat} : pV k e old S 0 0 = old S + sm (fun j => if S.testBit j && e j then old (S - 2 ^ j) else 0) k := by
  unfold pV
  congr 1
  refine sm_cg k fun j hj => ?_
  simp
theorem pV_m {m a : Nat} (hk : k ≤ 8) (hm : m < 256) : pV k e old m (m + 1) a = old m := by
  unfold pV
  have : sm (fun j => if m.testBit j && e j && (decide (m + 1 ≤ m - 2 ^ j) || (decide (m - 2 ^ j + 1 = m + 1) && decide (j < a))) then old (m - 2 ^ j) else 0) k = 0 := by
    apply Decidable.byContradiction
    intro n
    obtain ⟨j, hj, hn⟩ := (sm_ne k).mp n
    apply hn
    by_cases t : m.testBit j = true
    · have := (tb_sub (i := j) hm (by omega) (show j < 8 by omega) t).2
      have p := Nat.two_pow_pos j
      have h1 : ¬ m + 1 ≤ m - 2 ^ j := by omega
      have h2 : ¬ m - 2 ^ j = m := by omega
      simp [h1, h2]
    · have tf : m.testBit j = false := by simpa using t
      simp [tf]
  rw [this, Nat.add_zero]
theorem pV_z {m S : Nat} (h : old m = 0) : ∀ a b, pV k e old S (m + 1) a = pV k e old S (m + 1) b := by
  have : ∀ a, pV k e old S (m + 1) a = pV k e old S (m + 1) 0 := fun a => by
    unfold pV
    congr 1
    refine sm_cg k fun j hj => ?_
    by_cases q : m + 1 ≤ S - 2 ^ j
    · simp [q]
    · by_cases w : S - 2 ^ j = m
      · simp [w, h]
      · simp [q, w]
  intro a b
  rw [this a, this b]
theorem pV_n {m S a : Nat} (h : m.testBit a = true ∨ e a = false) (hk : k ≤ 8) (ha : a < k) (hS : S < 256) : pV k e old S (m + 1) (a + 1) = pV k e old S (m + 1) a := by
  unfold pV
  congr 1
  refine sm_cg k fun j hj => ?_
  by_cases q : j = a
  · subst q
    by_cases t : S.testBit j = true
    · by_cases w : S - 2 ^ j = m
      · rcases h with h | h
        · have := (tb_sub (i := j) hS (by omega) (show j < 8 by omega) t).1
          rw [w, h, t] at this
          simp at this
        · simp [h]
      · simp [w]
    · have tf : S.testBit j = false := by simpa using t
      simp [tf]
  · have : (j < a + 1) ↔ (j < a) := by omega
    simp [this]
theorem pV_y {m S a : Nat} (h1 : m.testBit a = false) (h2 : e a = true) (hk : k ≤ 8) (ha : a < k) (hm : m < 256) (hS : S < 256) : pV k e old S (m + 1) (a + 1) = if S = m + 2 ^ a then pV k e old S (m + 1) a + old m else pV k e old S (m + 1) a := by
  by_cases q : S = m + 2 ^ a
  · rw [if_pos q]
    have sb : S.testBit a = true := by rw [q]; exact (st_512 m (by omega) a (by omega) h1).2.2
    have sd : S - 2 ^ a = m := by omega
    unfold pV
    rw [Nat.add_assoc]
    congr 1
    refine sm_one (a := a) k ha (fun j hj hne => ?_) ?_
    · have : (j < a + 1) ↔ (j < a) := by omega
      simp [this]
    · simp [sb, h2, sd]
      omega
  · rw [if_neg q]
    unfold pV
    congr 1
    refine sm_cg k fun j hj => ?_
    by_cases w : j = a
    · subst w
      by_cases t : S.testBit j = true
      · have := (tb_sub (i := j) hS (by omega) (show j < 8 by omega) t).2
        have h3 : ¬ S - 2 ^ j = m := by omega
        simp [h3]
      · have tf : S.testBit j = false := by simpa using t
        simp [tf]
    · have : (j < a + 1) ↔ (j < a) := by omega
      simp [this]
end
theorem ba_1 : ∀ m, m < 256 → ∀ a, a < 8 → (nI m ^^^ (-1 : Int32)) &&& ((1 : Int32) <<< (nI a &&& 31)) = (if m.testBit a then 0 else (1 : Int32) <<< (nI a &&& 31)) ∧ nI m &&& ((1 : Int32) <<< (nI a &&& 31)) = (if m.testBit a then (1 : Int32) <<< (nI a &&& 31) else 0) ∧ ¬ (1 : Int32) <<< (nI a &&& 31) = 0 := by decide +kernel
theorem ba_2 {f m a : Nat} (hf : f < 256) (hm : m < 256) (ha : a < 8) : ((nI f &&& (nI m ^^^ (-1 : Int32))) &&& ((1 : Int32) <<< (nI a &&& 31))) = 0 ↔ (m.testBit a = true ∨ f.testBit a = false) := by
  obtain ⟨b1, -, -⟩ := ba_1 m hm a ha
  obtain ⟨-, c2, c3⟩ := ba_1 f hf a ha
  rw [Int32.and_assoc, b1]
  by_cases q : m.testBit a = true
  · rw [if_pos q, Int32.and_zero]
    exact ⟨fun _ => Or.inl q, fun _ => rfl⟩
  · rw [if_neg q, c2]
    by_cases w : f.testBit a = true
    · rw [if_pos w]
      exact ⟨fun z => absurd z c3, fun z => z.elim (fun z => absurd z q) (fun z => by rw [w] at z; exact absurd z (by decide))⟩
    · rw [if_neg w]
      exact ⟨fun _ => Or.inr (by simpa using w), fun _ => rfl⟩
theorem l6_z {n : Nat} (h : n < 2 ^ 63) : lg_cmp (lN n) 0 = 0 ↔ n = 0 := by
  rw [lg_cmp_eq, ← Int64.toInt_inj, l6_ti h]
  show (n : Int) = 0 ↔ _
  omega
def moB (k m a : Nat) : Bool := !decide (m < 2 ^ k) || !decide (a < k) || m.testBit a || decide (m + 2 ^ a < 2 ^ k)
theorem moB_ok : ∀ k, k ≤ 8 → ∀ m, m < 256 → ∀ a, a < 8 → moB k m a = true := by decide +kernel
theorem mo_256 (k : Nat) (hk : k ≤ 8) (m : Nat) (h : m < 256) (hm : m < 2 ^ k) (a : Nat) (ha : a < k) (q : m.testBit a = false) : m + 2 ^ a < 2 ^ k := by
  have := moB_ok k hk m h a (by omega)
  unfold moB at this
  rw [q] at this
  simpa [hm, ha] using this
def f53 (k j : Nat) : Prop := k = 53
def f19 (k j : Nat) : Prop := k = 19
section
variable {k T : Nat} {E : Nat → Nat → Bool} {old : Nat → Nat}
theorem cw_56 {t m : Nat} (hk : k ≤ 8) (hT : T ≤ 40) (ht : t < T) (hm : m < 2 ^ k) (hol : ∀ S, S < 256 → old S < 2 ^ 62) (x1 : Int32) : ∀ (c a n : Nat) (μ : fm_T), a + c = k → c < n → FG2 k T E μ → (∀ S, S < 2 ^ k → fL μ 53 S = lN (pV k (fun j => E j t) old S (m + 1) a)) → l3X1_countWays_h56 n μ x1 (nI t) (nI m) (nI a) = nI m - 1 ∧ qX1_countWays_h56 n μ x1 (nI t) (nI m) (nI a) ∧ frL fN f53 μ (mX1_countWays_h56 n μ x1 (nI t) (nI m) (nI a)) ∧ ∀ S, S < 2 ^ k → fL (mX1_countWays_h56 n μ x1 (nI t) (nI m) (nI a)) 53 S = lN (pV k (fun j => E j t) old S (m + 1) k) := by
  have h8 : 2 ^ k ≤ 256 := Nat.pow_le_pow_right (n := 2) (j := 8) (by decide) hk
  have ed : nI m + (-1) = nI m - 1 := by grind
  intro c
  induction c with
  | zero =>
    intro a n μ h1 h2 hg hi
    obtain ⟨n, rfl⟩ : ∃ m, n = m + 1 := ⟨n - 1, by omega⟩
    obtain rfl : a = k := by omega
    have e : nI a ≤ nI a := (nI_leI (by omega) (by omega)).mpr (by omega)
    simp only [l3X1_countWays_h56, mX1_countWays_h56, qX1_countWays_h56, hg.1, if_pos e, ed]
    exact ⟨trivial, fun z => absurd e z, frL.rf _ _ _, hi⟩
  | succ c ih =>
    intro a n μ h1 h2 hg hi
    obtain ⟨n, rfl⟩ : ∃ m, n = m + 1 := ⟨n - 1, by omega⟩
    have e : ¬ nI k ≤ nI a := fun z => by have := (nI_leI (by omega) (by omega)).mp z; omega
    have hm2 : m < 2 ^ 31 := by omega
    have ht2 : t < 2 ^ 31 := by omega
    have om := hol m (by omega)
    have im : fL μ 53 m = lN (old m) := by rw [hi m hm, pV_m hk (by omega)]
    have vm : vp_in (nI m) 256 := vp_in_nI (by omega) (by decide)
    obtain ⟨f, f1, f2, f3⟩ := hg.2.2 t ht
    have bb := ba_2 (a := a) f1 (show m < 256 by omega) (by omega)
    rw [f3 a (by omega)] at bb
    have vt : vp_in (nI t) 40 := vp_in_nI (by omega) (by decide)
    simp only [l3X1_countWays_h56, mX1_countWays_h56, qX1_countWays_h56, hg.1, if_neg e, nI_clamp hm2, nI_clamp ht2, im, l6_z (show old m < 2 ^ 63 by omega), f2, bb, ed, nI_1]
    by_cases z : old m = 0
    · simp only [if_pos z]
      exact ⟨trivial, fun _ => ⟨vm, fun q => absurd z q⟩, frL.rf _ _ _, fun S hS => by rw [hi S hS, pV_z z a k]⟩
    · simp only [if_neg z]
      by_cases q : m.testBit a = true ∨ E a t = false
      · obtain ⟨k1, k2, k3, k4⟩ := ih (a + 1) n μ (by omega) (by omega) hg (fun S hS => by rw [hi S hS, pV_n q hk (by omega) (by omega)])
        simp only [if_pos q]
        exact ⟨k1, fun _ => ⟨vm, fun _ => ⟨vt, fun _ => k2, fun w => absurd q w⟩⟩, k3, k4⟩
      · have q1 : m.testBit a = false := by cases hb : m.testBit a; rfl; exact absurd (Or.inl hb) q
        have q2 : E a t = true := by cases hb : E a t; exact absurd (Or.inr hb) q; rfl
        obtain ⟨s1, -, s3⟩ := st_512 m (by omega) a (by omega) q1
        have lt : m + 2 ^ a < 2 ^ k := mo_256 k hk m (by omega) hm a (by omega) q1
        have hma : m + 2 ^ a < 2 ^ 31 := by omega
        have va : vp_in (nI (m + 2 ^ a)) 256 := vp_in_nI (by omega) (by decide)
        obtain ⟨k1, k2, k3, k4⟩ := ih (a + 1) n (fm_l μ 53 (m + 2 ^ a) (fL μ 53 (m + 2 ^ a) + lN (old m))) (by omega) (by omega) (FG2_fr hg ((frL.rf fN f53 μ).l rfl) (fun _ _ z => z.elim)) (fun S hS => by
          rw [fL_l, pV_y q1 q2 hk (by omega) (by omega) (by omega)]
          by_cases w : S = m + 2 ^ a
          · rw [if_pos ⟨rfl, w⟩, if_pos w, w, hi _ lt, lN_add]
          · rw [if_neg (by omega), if_neg w]; exact hi S hS)
        simp only [if_neg q, s1, nI_clamp hma]
        exact ⟨k1, fun _ => ⟨vm, fun _ => ⟨vt, fun w => absurd w q, fun _ => ⟨va, vm, va, k2⟩⟩⟩, ((frL.rf fN f53 μ).l (k := 53) (j := m + 2 ^ a) rfl).tr k3, k4⟩
end
