theorem th_c {μ : fm_T} {P a : Nat} {X Y : Nat → Nat} (hP : P ≤ 9) (ha : a < P) (hX : ∀ j, X j ≤ 99 ∧ Y j ≤ 99) (hb : ∀ j, j < P → fI μ 68 j = nI (X j) ∧ fI μ 69 j = nI (Y j)) : gX9_toHome μ (nI a) = nI (wyN X Y a 9) ∧ pX9_toHome μ (nI a) := by
  have := hX a
  have va : vp_in (nI a) 9 := vp_in_nI (by omega) (by decide)
  unfold gX9_toHome pX9_toHome wyN cor
  rw [nI_clamp (by omega), (hb a ha).1, (hb a ha).2]
  simp only [if_neg (show ¬ a = 9 by omega), if_true]
  exact ⟨di_c (x2 := 50) (y2 := 50) (by omega) (by omega) (by omega) (by omega), va, va⟩
theorem wb_c {μ : fm_T} {P V p a T : Nat} {X Y : Nat → Nat} (hP : P ≤ 9) (hV : V < 512) (hp : p < P ∨ p = 9) (ha : a < P) (hX : ∀ j, X j ≤ 99 ∧ Y j ≤ 99) (hb : ∀ j, j < P → fI μ 68 j = nI (X j) ∧ fI μ 69 j = nI (Y j)) (c5 : fI μ 66 5 = nI P) (hn : V.testBit a = false) (hT : fI μ 71 (9 * (V + 2 ^ a) + a) = nI T) : gX9_wayBy μ (nI V) (stI p) (nI a) = nI (wyN X Y p a + T) ∧ pX9_wayBy μ (nI V) (stI p) (nI a) := by
  obtain ⟨s1, s2, -⟩ := st_512 V hV a (by omega) hn
  have e1 : nI (V + 2 ^ a) * (9 : Int32) + nI a = nI (9 * (V + 2 ^ a) + a) := by
    rw [show (9 : Int32) = nI 9 from rfl, nI_mul, nI_add]
    congr 1
    omega
  have va : vp_in (nI a) 9 := vp_in_nI (by omega) (by decide)
  have vt : vp_in (nI (9 * (V + 2 ^ a) + a)) 4608 := vp_in_nI (by omega) (by decide)
  have xa := hX a
  have xp := hX p
  unfold gX9_wayBy pX9_wayBy
  rw [c5, if_neg (wi_b (by omega) ha), s1, e1, nI_clamp (by omega), nI_clamp (by omega), hT]
  by_cases q : p = 9
  · have t := th_c hP ha hX hb
    have q1 : stI p = -1 := by rw [q]; rfl
    rw [if_pos q1, t.1, nI_add]
    refine ⟨?_, fun _ => ⟨fun z => absurd q1 z, fun _ => ⟨t.2, vt⟩⟩⟩
    rw [q]
    unfold wyN
    rw [dst_c (cor X a), dst_c (cor Y a)]
  · have hpP : p < P := by omega
    have q2 : stI p = nI p := by unfold stI; rw [if_neg q]
    have q1 : ¬ stI p = -1 := by rw [q2]; exact nI_m1 (by omega)
    have vp : vp_in (nI p) 9 := vp_in_nI (by omega) (by decide)
    rw [if_neg q1, q2, nI_clamp (by omega), (hb p hpP).1, (hb p hpP).2, (hb a ha).1, (hb a ha).2, di_c (by omega) (by omega) (by omega) (by omega), nI_add]
    refine ⟨?_, fun _ => ⟨fun _ => ⟨vp, vp, va, va, vt⟩, fun z => absurd (q2.trans z) q1⟩⟩
    unfold wyN cor
    simp only [if_neg q, if_neg (show ¬ a = 9 by omega)]
