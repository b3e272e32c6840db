theorem l6_ti {n : Nat} (h : n < 2 ^ 63) : (lN n).toInt = (n : Int) := lg_ofNat_toInt h
theorem l6_lt {a b : Nat} (ha : a < 2 ^ 63) (hb : b < 2 ^ 63) : lN a < lN b ↔ a < b := by
  rw [Int64.lt_iff_toInt_lt, l6_ti ha, l6_ti hb]
  omega
theorem l6_le {a b : Nat} (ha : a < 2 ^ 63) (hb : b < 2 ^ 63) : lN a ≤ lN b ↔ a ≤ b := by
  rw [Int64.le_iff_toInt_le, l6_ti ha, l6_ti hb]
  omega
theorem nl_i {n : Nat} (h : n < 2 ^ 31) : (nI n).toInt64 = lN n := by
  apply Int64.toInt_inj.mp
  rw [Int32.toInt_toInt64, nI_toInt h, l6_ti (by omega)]
theorem amN_cg {v v' : Nat → Nat} {M : Nat} : ∀ k, k ≤ 9 → (∀ a, a < k → M.testBit a = true → v a = v' a) → amN v M k = amN v' M k
  | 0, _, _ => rfl
  | k + 1, hk, h => by
    have ih := amN_cg (v := v) (v' := v') (M := M) k (by omega) (fun a ha hb => h a (by omega) hb)
    unfold amN
    rw [ih]
    by_cases t : M.testBit k = true
    · rw [if_pos t, if_pos t]
      by_cases q : amN v' M k = 9
      · rw [if_pos q, if_pos q]
      · rw [if_neg q, if_neg q]
        have lt := (amN_lt (v := v') (M := M) k).elim (fun z => absurd z q) id
        rw [h k (by omega) t, h _ (by omega) lt.2]
    · rw [if_neg t, if_neg t]
theorem amN_n9 {v : Nat → Nat} {R : Nat} (hR : R < 64) (h0 : R ≠ 0) : amN v R 6 < 6 ∧ R.testBit (amN v R 6) = true := by
  have n9 : amN v R 6 ≠ 9 := fun z => by
    have := amN_9 6 (by omega) z
    apply h0
    apply Nat.eq_of_testBit_eq
    intro i
    rw [Nat.zero_testBit]
    by_cases hi : i < 6
    · exact this i hi
    · exact Nat.testBit_lt_two_pow (Nat.lt_of_lt_of_le hR (Nat.pow_le_pow_right (n := 2) (i := 6) (by decide) (by omega)))
  exact (amN_lt (v := v) (M := R) 6).elim (fun z => absurd z n9) id
def bW (M : Nat) (F c : Nat → Nat) : Nat → Nat → Nat
  | 0, _ => 0
  | f + 1, R => if R = 0 then 0 else (fun v : Nat → Nat => v (amN v R 6)) (fun a => c a * F (M - R) + bW M F c f (R - 2 ^ a))
def qW (M : Nat) (F c : Nat → Nat) (R : Nat) : Nat := bW M F c (R + 1) R
def qv (M : Nat) (F c : Nat → Nat) (R a : Nat) : Nat := c a * F (M - R) + qW M F c (R - 2 ^ a)
def qn (M : Nat) (F c : Nat → Nat) (R : Nat) : Nat := amN (qv M F c R) R 6
def qO (M : Nat) (F c : Nat → Nat) : Nat → Nat → Nat
  | 0, R => qn M F c R
  | i + 1, R => qO M F c i (R - 2 ^ qn M F c R)
section
variable {M : Nat} {F c : Nat → Nat}
theorem bW_f : ∀ f f' R, R < 64 → R < f → R < f' → bW M F c f R = bW M F c f' R
  | 0, _, _, _, h, _ => by omega
  | _ + 1, 0, _, _, _, h => by omega
  | f + 1, f' + 1, R, h6, h, h' => by
    unfold bW
    by_cases e : R = 0
    · rw [if_pos e, if_pos e]
    · rw [if_neg e, if_neg e]
      have q : ∀ a, (fun a => c a * F (M - R) + bW M F c f (R - 2 ^ a)) a = (fun a => c a * F (M - R) + bW M F c f' (R - 2 ^ a)) a := fun a => by
        have := p2_lt (a := a) e
        show c a * F (M - R) + bW M F c f (R - 2 ^ a) = _
        rw [bW_f f f' (R - 2 ^ a) (by omega) (by omega) (by omega)]
      rw [funext q]
theorem qW_0 : qW M F c 0 = 0 := rfl
theorem qW_s {R : Nat} (hR : R < 64) (h : R ≠ 0) : qW M F c R = qv M F c R (qn M F c R) := by
  have q : (fun a => c a * F (M - R) + bW M F c R (R - 2 ^ a)) = qv M F c R := funext fun a => by
    have := p2_lt (a := a) h
    unfold qv qW
    rw [bW_f R (R - 2 ^ a + 1) (R - 2 ^ a) (by omega) this (by omega)]
  unfold qW qn
  rw [bW, if_neg h, q]
theorem qW_le (hB : ∀ a s, c a * F s ≤ 10000000000000) : ∀ R, R < 64 → qW M F c R ≤ 10000000000000 * R := by
  intro R
  induction R using Nat.strongRecOn with
  | ind R ih =>
    intro hR
    by_cases e : R = 0
    · subst e; exact Nat.le_refl 0
    · have := p2_lt (a := qn M F c R) e
      have i := ih (R - 2 ^ qn M F c R) this (by omega)
      have b := hB (qn M F c R) (M - R)
      rw [qW_s hR e]
      unfold qv
      omega
theorem qv_le (hB : ∀ a s, c a * F s ≤ 10000000000000) {R : Nat} (hR : R < 64) (h : R ≠ 0) (a : Nat) : qv M F c R a ≤ 10000000000000 * R := by
  have := p2_lt (a := a) h
  have i := qW_le (M := M) hB (R - 2 ^ a) (by omega)
  have b := hB a (M - R)
  unfold qv
  omega
end
def bxB (M s a : Nat) : Bool := !(s &&& (63 - M) == 0) || ((decide (((nI M &&& (nI s ^^^ (-1 : Int32))) &&& ((1 : Int32) <<< (nI a &&& 31))) = 0) == !(M - s).testBit a) && (!(M - s).testBit a || (decide (nI s ||| ((1 : Int32) <<< (nI a &&& 31)) = nI (s + 2 ^ a)) && ((s + 2 ^ a) &&& (63 - M) == 0) && decide (s + 2 ^ a ≤ M) && decide (M - (s + 2 ^ a) = M - s - 2 ^ a) && M.testBit a)) && (!s.testBit a || M.testBit a))
theorem bxB_ok : ∀ M, M < 64 → ∀ s, s ≤ M → ∀ a, a < 6 → bxB M s a = true := by decide +kernel
theorem bx_64 (M : Nat) (hM : M < 64) (s : Nat) (hs : s ≤ M) (h : s &&& (63 - M) = 0) (a : Nat) (ha : a < 6) : (((nI M &&& (nI s ^^^ (-1 : Int32))) &&& ((1 : Int32) <<< (nI a &&& 31))) = 0 ↔ (M - s).testBit a = false) ∧ ((M - s).testBit a = true → nI s ||| ((1 : Int32) <<< (nI a &&& 31)) = nI (s + 2 ^ a) ∧ (s + 2 ^ a) &&& (63 - M) = 0 ∧ s + 2 ^ a ≤ M ∧ M - (s + 2 ^ a) = M - s - 2 ^ a) := by
  have q := bxB_ok M hM s hs a ha
  unfold bxB at q
  rw [h] at q
  simp only [beq_self_eq_true, Bool.not_true, Bool.false_or, Bool.and_eq_true, Bool.or_eq_true, beq_iff_eq, decide_eq_true_eq] at q
  obtain ⟨⟨q1, q2⟩, q3⟩ := q
  constructor
  · by_cases z : ((nI M &&& (nI s ^^^ (-1 : Int32))) &&& ((1 : Int32) <<< (nI a &&& 31))) = 0
    · rw [decide_eq_true z] at q1
      refine ⟨fun _ => ?_, fun _ => z⟩
      cases e : (M - s).testBit a
      · rfl
      · rw [e] at q1; exact absurd q1 (by decide)
    · rw [decide_eq_false z] at q1
      exact ⟨fun y => absurd y z, fun y => by rw [y] at q1; exact absurd q1 (by decide)⟩
  · intro t
    rw [t] at q2
    rcases q2 with q2 | q2
    · exact absurd q2 (by decide)
    · exact ⟨q2.1.1.1.1, q2.1.1.1.2, q2.1.1.2, q2.1.2⟩
theorem bs_64 (M : Nat) (hM : M < 64) (s : Nat) (hs : s ≤ M) (h : s &&& (63 - M) = 0) (a : Nat) (ha : a < 6) : (s.testBit a = true → M.testBit a = true) ∧ ((M - s).testBit a = true → M.testBit a = true) := by
  have q := bxB_ok M hM s hs a ha
  unfold bxB at q
  rw [h] at q
  simp only [beq_self_eq_true, Bool.not_true, Bool.false_or, Bool.and_eq_true, Bool.or_eq_true, beq_iff_eq, decide_eq_true_eq] at q
  obtain ⟨⟨q1, q2⟩, q3⟩ := q
  constructor
  · intro t
    rw [t] at q3
    exact q3.elim (fun z => absurd z (by decide)) id
  · intro t
    rw [t] at q2
    rcases q2 with q2 | q2
    · exact absurd q2 (by decide)
    · exact q2.2
theorem ct_64 : ∀ M, M < 64 → ctN M 9 = rk M 6 ∧ (ctN M 9 = 0 → M = 0) := by decide +kernel
theorem sM_64 : ∀ M, M < 64 → M &&& (63 - M) = 0 := by decide +kernel
def CQ (M : Nat) (F c : Nat → Nat) (m : Nat) (μ : fm_T) : Prop := fI μ 57 3 = nI M ∧ (∀ s, s ≤ M → s &&& (63 - M) = 0 → fL μ 58 s = lN (F s)) ∧ (∀ a, a < 6 → M.testBit a = true → fI μ 27 a = nI (c a)) ∧ ∀ s, m ≤ s → s ≤ M → s &&& (63 - M) = 0 → fL μ 59 s = lN (qW M F c (M - s))
section
variable {M : Nat} {F c : Nat → Nat}
theorem cw_c {μ : fm_T} {m s a : Nat} (hM : M < 64) (hc : ∀ a, c a ≤ 99) (h : CQ M F c m μ) (hs : s ≤ M) (hs2 : s &&& (63 - M) = 0) (hm : m ≤ s + 1) (ha : a < 6) (t : (M - s).testBit a = true) : gX6_costWith μ (nI s) (nI a) = lN (qv M F c (M - s) a) ∧ pX6_costWith μ (nI s) (nI a) := by
  obtain ⟨h1, h2, h3, h4⟩ := h
  obtain ⟨-, b2⟩ := bx_64 M hM s hs hs2 a ha
  obtain ⟨b3, b4, b5, b6⟩ := b2 t
  have bs := (bs_64 M hM s hs hs2 a ha).2 t
  have pa := Nat.two_pow_pos a
  have q : ¬ gX11_within μ (nI a) 0 5 = 0 := wi_y (μ := μ) (a := 0) (b := 5) (by decide) (by decide) (by omega) (by omega)
  have ca := hc a
  unfold gX6_costWith pX6_costWith
  rw [if_neg q, b3, nI_clamp (by omega), nI_clamp (by omega), nI_clamp (by omega), h3 a ha bs, nl_i (by omega), h2 s hs hs2, h4 (s + 2 ^ a) (by omega) b5 b4, b6, lN_mul, lN_add]
  unfold qv
  rw [show M - (M - s) = s by omega]
  exact ⟨rfl, fun _ => ⟨vp_in_nI (by omega) (by decide), vp_in_nI (by omega) (by decide), vp_in_nI (by omega) (by decide)⟩⟩
theorem nq_lp {μ : fm_T} {m s : Nat} (hM : M < 64) (hc : ∀ a, c a ≤ 99) (hB : ∀ a s, c a * F s ≤ 10000000000000) (h : CQ M F c m μ) (hs : s ≤ M) (hs2 : s &&& (63 - M) = 0) (hm : m ≤ s + 1) : ∀ (d a n : Nat), a + d = 6 → d < n → lX6_nextOf_h5 n μ (nI s) (stI (amN (qv M F c (M - s)) (M - s) a)) (nI a) = stI (qn M F c (M - s)) ∧ qX6_nextOf_h5 n μ (nI s) (stI (amN (qv M F c (M - s)) (M - s) a)) (nI a) := by
  intro d
  induction d with
  | zero =>
    intro a n h1 h2
    obtain ⟨n, rfl⟩ : ∃ m, n = m + 1 := ⟨n - 1, by omega⟩
    obtain rfl : a = 6 := by omega
    have e : (6 : Int32) ≤ nI 6 := by decide
    simp only [lX6_nextOf_h5, qX6_nextOf_h5, if_pos e]
    exact ⟨rfl, fun z => absurd e z⟩
  | succ d ih =>
    intro a n h1 h2
    obtain ⟨n, rfl⟩ : ∃ m, n = m + 1 := ⟨n - 1, by omega⟩
    have e : ¬ (6 : Int32) ≤ nI a := fun z => by have := (nI_leI (a := 6) (by omega) (by omega)).mp z; omega
    have ihx := ih (a + 1) n (by omega) (by omega)
    obtain ⟨b1, b2⟩ := bx_64 M hM s hs hs2 a (by omega)
    have hst : stI a = nI a := by unfold stI; rw [if_neg (by omega)]
    simp only [lX6_nextOf_h5, qX6_nextOf_h5, if_neg e, h.1, nI_1]
    by_cases t : (M - s).testBit a = true
    · have z1 : ¬ ((nI M &&& (nI s ^^^ (-1 : Int32))) &&& ((1 : Int32) <<< (nI a &&& 31))) = 0 := fun z => by rw [b1.mp z] at t; exact absurd t (by decide)
      simp only [if_neg z1]
      by_cases q : amN (qv M F c (M - s)) (M - s) a = 9
      · have q1 : stI (amN (qv M F c (M - s)) (M - s) a) = -1 := by rw [q]; rfl
        rw [amN, if_pos t, if_pos q, hst] at ihx
        simp only [if_pos q1]
        exact ⟨ihx.1, fun _ => ⟨fun z => absurd z z1, fun _ => ⟨fun _ => ihx.2, fun z => absurd q1 z⟩⟩⟩
      · obtain ⟨lt1, lt2⟩ := (amN_lt (v := qv M F c (M - s)) (M := M - s) a).elim (fun z => absurd z q) id
        rw [amN, if_pos t, if_neg q] at ihx
        have s2 : stI (amN (qv M F c (M - s)) (M - s) a) = nI (amN (qv M F c (M - s)) (M - s) a) := by unfold stI; rw [if_neg q]
        generalize amN (qv M F c (M - s)) (M - s) a = a0 at ihx s2 q lt1 lt2 ⊢
        have q1 : ¬ stI a0 = -1 := by rw [s2]; exact nI_m1 (by omega)
        obtain ⟨w1, w2⟩ := cw_c hM hc h hs hs2 hm (by omega) t
        obtain ⟨u1, u2⟩ := cw_c hM hc h hs hs2 hm (by omega) lt2
        have R0 : M - s ≠ 0 := fun z => by rw [z, Nat.zero_testBit] at t; exact absurd t (by decide)
        have k1 := qv_le (M := M) hB (R := M - s) (by omega) R0 a
        have k2 := qv_le (M := M) hB (R := M - s) (by omega) R0 a0
        have km : 0 ≤ lg_cmp (lN (qv M F c (M - s) a)) (lN (qv M F c (M - s) a0)) ↔ qv M F c (M - s) a0 ≤ qv M F c (M - s) a := by
          rw [lg_cmp_ge, l6_le (by omega) (by omega)]
        simp only [if_neg q1, w1, km]
        rw [s2, u1]
        simp only [km]
        by_cases r : qv M F c (M - s) a0 ≤ qv M F c (M - s) a
        · rw [if_pos r, s2] at ihx
          simp only [if_pos r]
          exact ⟨ihx.1, fun _ => ⟨fun z => absurd z z1, fun _ => ⟨fun z => absurd (s2.trans z) q1, fun _ => ⟨w2, u2, fun _ => ihx.2, fun z => absurd r z⟩⟩⟩⟩
        · rw [if_neg r, hst] at ihx
          simp only [if_neg r]
          exact ⟨ihx.1, fun _ => ⟨fun z => absurd z z1, fun _ => ⟨fun z => absurd (s2.trans z) q1, fun _ => ⟨w2, u2, fun z => absurd z r, fun _ => ihx.2⟩⟩⟩⟩
    · have tf : (M - s).testBit a = false := by simpa using t
      have z1 := b1.mpr tf
      rw [amN, if_neg t] at ihx
      simp only [if_pos z1]
      exact ⟨ihx.1, fun _ => ⟨fun _ => ihx.2, fun z => absurd z1 z⟩⟩
theorem nq_c {μ : fm_T} {m s : Nat} (hM : M < 64) (hc : ∀ a, c a ≤ 99) (hB : ∀ a s, c a * F s ≤ 10000000000000) (h : CQ M F c m μ) (hs : s ≤ M) (hs2 : s &&& (63 - M) = 0) (hm : m ≤ s + 1) (h0 : M - s ≠ 0) : (gX6_nextOf μ (nI s) = nI (qn M F c (M - s)) ∧ pX6_nextOf μ (nI s)) ∧ gX6_costWith μ (nI s) (nI (qn M F c (M - s))) = lN (qW M F c (M - s)) ∧ pX6_costWith μ (nI s) (nI (qn M F c (M - s))) := by
  obtain ⟨a1, a2⟩ := nq_lp hM hc hB h hs hs2 hm 6 0 fF (by omega) (fF_gt (by omega))
  obtain ⟨n1, n2⟩ := amN_n9 (v := qv M F c (M - s)) (R := M - s) (by omega) h0
  have s2 : stI (qn M F c (M - s)) = nI (qn M F c (M - s)) := by unfold stI qn; rw [if_neg (by omega)]
  rw [s2] at a1
  obtain ⟨w1, w2⟩ := cw_c hM hc h hs hs2 hm n1 n2
  rw [qW_s (by omega) h0]
  exact ⟨⟨a1, a2⟩, w1, w2⟩
end
