def amN (v : Nat → Nat) (M : Nat) : Nat → Nat
  | 0 => 9
  | k + 1 => if M.testBit k then (if amN v M k = 9 then k else (if v (amN v M k) ≤ v k then amN v M k else k)) else amN v M k
theorem amN_lt {v : Nat → Nat} {M : Nat} : ∀ k, amN v M k = 9 ∨ (amN v M k < k ∧ M.testBit (amN v M k) = true)
  | 0 => Or.inl rfl
  | k + 1 => by
    have ih := amN_lt (v := v) (M := M) k
    unfold amN
    by_cases t : M.testBit k = true
    · rw [if_pos t]
      by_cases q : amN v M k = 9
      · rw [if_pos q]; exact Or.inr ⟨by omega, t⟩
      · rw [if_neg q]
        split
        · exact ih.elim (fun z => absurd z q) (fun z => Or.inr ⟨by omega, z.2⟩)
        · exact Or.inr ⟨by omega, t⟩
    · rw [if_neg t]
      exact ih.elim Or.inl (fun z => Or.inr ⟨by omega, z.2⟩)
theorem amN_mn {v : Nat → Nat} {M : Nat} : ∀ k, k ≤ 9 → (∀ a, a < k → M.testBit a = true → v a < 1000000) → (amN v M k = 9 ∧ mnF v M k = 1000000) ∨ (amN v M k ≠ 9 ∧ mnF v M k = v (amN v M k) ∧ mnF v M k < 1000000)
  | 0, _, _ => Or.inl ⟨rfl, rfl⟩
  | k + 1, hk, h => by
    have ih := amN_mn (v := v) (M := M) k (by omega) (fun a ha hb => h a (by omega) hb)
    unfold amN mnF
    by_cases t : M.testBit k = true
    · have hv := h k (by omega) t
      rw [if_pos t, if_pos t]
      rcases ih with ⟨i1, i2⟩ | ⟨i1, i2, i3⟩
      · rw [if_pos i1, i2, if_neg (by omega)]
        exact Or.inr ⟨by omega, rfl, hv⟩
      · rw [if_neg i1, i2]
        rw [i2] at i3
        by_cases q : v (amN v M k) ≤ v k
        · rw [if_pos q, if_pos q]; exact Or.inr ⟨i1, rfl, i3⟩
        · rw [if_neg q, if_neg q]; exact Or.inr ⟨by omega, rfl, hv⟩
    · rw [if_neg t, if_neg t]
      exact ih
theorem no_lp {μ : fm_T} {P M V : Nat} {v : Nat → Nat} (x2 : Int32) (hP : P ≤ 9) (hV : V < 512) (c5 : fI μ 66 5 = nI P) (hM : ∀ a, a < P → M.testBit a = !V.testBit a) (hv : ∀ a, a < P → M.testBit a = true → gX9_wayBy μ (nI V) x2 (nI a) = nI (v a) ∧ pX9_wayBy μ (nI V) x2 (nI a) ∧ v a ≤ 1000000) : ∀ (c a n : Nat) (x4 : Int32), a + c = P → c < n → (amN v M a ≠ 9 → x4 = nI (v (amN v M a))) → lX9_nextOf_h8 n μ (nI V) x2 (stI (amN v M a)) x4 (nI a) = stI (amN v M P) ∧ qX9_nextOf_h8 n μ (nI V) x2 (stI (amN v M a)) x4 (nI a) := by
  intro c
  induction c with
  | zero =>
    intro a n x4 h1 h2 h4
    obtain ⟨n, rfl⟩ : ∃ m, n = m + 1 := ⟨n - 1, by omega⟩
    obtain rfl : a = P := by omega
    have e : nI a ≤ nI a := (nI_leI (by omega) (by omega)).mpr (by omega)
    simp only [lX9_nextOf_h8, qX9_nextOf_h8, c5, if_pos e]
    exact ⟨trivial, fun z => absurd e z⟩
  | succ c ih =>
    intro a n x4 h1 h2 h4
    obtain ⟨n, rfl⟩ : ∃ m, n = m + 1 := ⟨n - 1, by omega⟩
    have e : ¬ nI P ≤ nI a := fun z => by have := (nI_leI (by omega) (by omega)).mp z; omega
    have hs := hs_512 V hV a (by omega)
    have hm := hM a (by omega)
    have hst : stI a = nI a := by unfold stI; rw [if_neg (by omega)]
    simp only [lX9_nextOf_h8, qX9_nextOf_h8, c5, if_neg e, hs, nI_1]
    by_cases t : V.testBit a = true
    · have mf : ¬ M.testBit a = true := by rw [hm, t]; simp
      have n1 : ¬ (1 : Int32) = 0 := by decide
      have am : amN v M (a + 1) = amN v M a := by rw [amN, if_neg mf]
      have ihx := ih (a + 1) n x4 (by omega) (by omega) (by rw [am]; exact h4)
      rw [am] at ihx
      simp only [t, if_true, if_neg n1]
      exact ⟨ihx.1, fun _ => ⟨fun _ => ihx.2, fun z => absurd z n1⟩⟩
    · have tf : V.testBit a = false := by simpa using t
      have mt : M.testBit a = true := by rw [hm, tf]; rfl
      obtain ⟨w1, w2, w3⟩ := hv a (by omega) mt
      simp only [tf, Bool.false_eq_true, if_false, if_true, w1]
      by_cases q : amN v M a = 9
      · have q1 : stI (amN v M a) = -1 := by rw [q]; rfl
        have am : amN v M (a + 1) = a := by rw [amN, if_pos mt, if_pos q]
        have ihx := ih (a + 1) n (nI (v a)) (by omega) (by omega) (fun _ => by rw [am])
        rw [am, hst] at ihx
        simp only [if_pos q1]
        exact ⟨ihx.1, fun _ => ⟨fun z => absurd trivial z, fun _ => ⟨w2, fun _ => ihx.2, fun z => absurd q1 z⟩⟩⟩
      · have lt := (amN_lt (v := v) (M := M) a).elim (fun z => absurd z q) id
        have q1 : ¬ stI (amN v M a) = -1 := by
          unfold stI
          rw [if_neg q]
          exact nI_m1 (by omega)
        obtain ⟨-, -, w4⟩ := hv (amN v M a) (by omega) lt.2
        have x4e := h4 q
        have km : nI (v (amN v M a)) ≤ nI (v a) ↔ v (amN v M a) ≤ v a := nI_leI (by omega) (by omega)
        simp only [if_neg q1, x4e, km]
        by_cases r : v (amN v M a) ≤ v a
        · have am : amN v M (a + 1) = amN v M a := by rw [amN, if_pos mt, if_neg q, if_pos r]
          have ihx := ih (a + 1) n (nI (v (amN v M a))) (by omega) (by omega) (fun _ => by rw [am])
          rw [am] at ihx
          simp only [if_pos r]
          exact ⟨ihx.1, fun _ => ⟨fun z => absurd trivial z, fun _ => ⟨w2, fun z => absurd z q1, fun _ => ⟨fun _ => ihx.2, fun z => absurd r z⟩⟩⟩⟩
        · have am : amN v M (a + 1) = a := by rw [amN, if_pos mt, if_neg q, if_neg r]
          have ihx := ih (a + 1) n (nI (v a)) (by omega) (by omega) (fun _ => by rw [am])
          rw [am, hst] at ihx
          simp only [if_neg r]
          exact ⟨ihx.1, fun _ => ⟨fun z => absurd trivial z, fun _ => ⟨w2, fun z => absurd z q1, fun _ => ⟨fun z => absurd z r, fun _ => ihx.2⟩⟩⟩⟩
