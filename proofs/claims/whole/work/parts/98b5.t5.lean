def LK (b : Nat → Nat) (z l last : Nat) (K A V W P : Nat → Nat) (n : Nat) (μ ν : fm_T) : Prop := TSt last K A V W n μ ∧ TM (K n) (A n) (V n) (W n) (P (n + 1)) ν ∧ MBy b z l ν ∧ fI ν 0 10 = 0
def fAc (k j : Nat) : Prop := k = 1 ∧ ((8 ≤ j ∧ j ≤ 11) ∨ j = 13 ∨ j = 14)
def fGm (k j : Nat) : Prop := k = 0 ∧ ((5 ≤ j ∧ j ≤ 11) ∨ j = 13)
def FQ (μ ν : fm_T) : Prop := fI μ 1 13 = fI ν 0 10 ∧ fI μ 1 14 = fI ν 0 11
section
variable {b : Nat → Nat} {z l last : Nat} {K A V W P : Nat → Nat}
theorem tk_f (lx : LXs b z l last K A V W P) (hb : ∀ i, i < 940 → b i ≤ 255) (hz : z ≤ 940) (hl : l ≤ 940) {n : Nat} (hn : n ≤ last) : K n ≤ 5 ∧ A n ≤ 940 ∧ (K n = 2 → V n < 25 ∧ wcN (V n) = W n ∧ vcode 7 (W n)) ∧ (K n = 3 → vcode 7 (W n) ∧ W n ≠ 0 ∧ ∀ i, i < 25 → wcN i ≠ W n) ∧ (K n = 4 → V n ≤ 999) ∧ (K n = 5 → V n ≤ 255) := by
  obtain ⟨q, q1, q2, q3, q4, q5⟩ := lx.2.1 n hn
  rcases q5 with ⟨a1, a2, a3, a4⟩ | ⟨a1, a2, a3, a4⟩ | ⟨a1, a2, a3, a4, a5, a6, a7⟩ | ⟨a1, a2, a3, a4, r1, r2, r3, r4, r5⟩
  · exact ⟨by omega, by omega, fun y => by omega, fun y => by omega, fun y => by omega, fun y => by omega⟩
  · exact ⟨by omega, by omega, fun y => by omega, fun y => by omega, fun y => by omega, fun y => by omega⟩
  · have hv := hb q (by omega)
    have k15 : K n = 5 ∨ K n = 1 := by
      rw [a7]
      split
      · exact Or.inl rfl
      · exact Or.inr rfl
    exact ⟨by omega, by omega, fun y => by omega, fun y => by omega, fun y => by omega, fun y => by omega⟩
  · rcases r5 with ⟨c1, c2, c3, c4⟩ | ⟨c1, c2, c3, c4⟩ | ⟨c1, c2, c3⟩
    · have ll : ∀ i, i < P (n + 1) - q → isLt (b (q + i)) = true := fun i hi => c1 (q + i) (by omega) (by omega)
      have vc := (cd_7 (b := b) (q := q) (n := P (n + 1) - q) (by omega) ll).1
      rw [← c3] at vc
      have nz : W n ≠ 0 := by
        rw [c3]
        obtain ⟨m, hm⟩ : ∃ m, P (n + 1) - q = m + 1 := ⟨P (n + 1) - q - 1, by omega⟩
        rw [hm]
        have := lt_iff.mp (ll m (by omega))
        have e0 : cdN b q (m + 1) = cdN b q m * 32 + (b (q + m) - 96) := rfl
        omega
      exact ⟨by omega, by omega, fun y => by
        rcases c4 with ⟨-, d2, d3⟩ | ⟨d1, -⟩
        · exact ⟨d2, d3, vc⟩
        · omega, fun y => by
        rcases c4 with ⟨d1, -⟩ | ⟨-, d2⟩
        · omega
        · exact ⟨vc, nz, d2⟩, fun y => by omega, fun y => by omega⟩
    · have h1 := nm_lt (b := b) (q := q) (n := P (n + 1) - q) (fun i hi => c1 (q + i) (by omega) (by omega))
      have h2 : 10 ^ (P (n + 1) - q) ≤ 10 ^ 3 := Nat.pow_le_pow_right (by decide) (by omega)
      exact ⟨by omega, by omega, fun y => by omega, fun y => by omega, fun y => by omega, fun y => by omega⟩
    · exact ⟨by omega, by omega, fun y => by omega, fun y => by omega, fun y => by omega, fun y => by omega⟩
variable {μ ν : fm_T} {n : Nat}
theorem lk_n (lk : LK b z l last K A V W P n μ ν) : n ≤ last := lk.1.2.2.1
theorem lk_t (lx : LXs b z l last K A V W P) (lk : LK b z l last K A V W P n μ ν) : K n ≤ 5 ∧ A n ≤ 940 ∧ (K n = 2 → V n < 25 ∧ wcN (V n) = W n ∧ vcode 7 (W n)) ∧ (K n = 3 → vcode 7 (W n) ∧ W n ≠ 0 ∧ ∀ i, i < 25 → wcN i ≠ W n) ∧ (K n = 4 → V n ≤ 999) ∧ (K n = 5 → V n ≤ 255) :=
  tk_f lx (fun i hi => (lk.2.2.1.2.2.2.2 i hi).2) lk.2.2.1.1 lk.2.2.1.2.1 (lk_n lk)
theorem lk_K (lx : LXs b z l last K A V W P) (lk : LK b z l last K A V W P n μ ν) (k : Nat) (hk : k ≤ 5) : fI μ 1 9 = nI k ↔ K n = k := by
  have t := lk_t lx lk
  rw [lk.1.2.2.2.2.2.1]
  exact nI_eq (by omega) (by omega)
theorem lk_M (lx : LXs b z l last K A V W P) (lk : LK b z l last K A V W P n μ ν) (k : Nat) (hk : k ≤ 5) : fI ν 0 7 = nI k ↔ kM (K n) = k := by
  have t := lk_t lx lk
  rw [lk.2.1.1]
  have : kM (K n) ≤ 4 := by unfold kM; repeat' split
                            all_goals omega
  exact nI_eq (by omega) (by omega)
theorem kM_2 {k : Nat} : kM k = 2 ↔ k = 2 ∨ k = 3 := by unfold kM; repeat' split
                                                        all_goals omega
theorem kM_v {k : Nat} (hk : k ≤ 5) : (kM k = 0 ↔ k = 0) ∧ (kM k = 1 ↔ k = 1) ∧ (kM k = 3 ↔ k = 4) ∧ (kM k = 4 ↔ k = 5) := by
  unfold kM
  refine ⟨?_, ?_, ?_, ?_⟩ <;> (repeat' split) <;> omega
theorem pw (lx : LXs b z l last K A V W P) (lk : LK b z l last K A V W P n μ ν) {i : Nat} (hi : i < 25) : (gX7_isWord μ (nI i) = 0 ↔ ¬ (K n = 2 ∧ V n = i)) ∧ (gX12_isWord ν (nI i) = 0 ↔ ¬ (K n = 2 ∧ V n = i)) ∧ pX12_isWord ν (nI i) := by
  obtain ⟨t1, -, t3, t4, -, -⟩ := lk_t lx lk
  have n1 : ¬ (1 : Int32) = 0 := by decide
  have c2 : fI μ 1 9 = 2 ↔ K n = 2 := lk_K lx lk 2 (by omega)
  have m2 : fI ν 0 7 = 2 ↔ kM (K n) = 2 := lk_M lx lk 2 (by omega)
  rw [kM_2] at m2
  have kw : gX12_isKey ν (gX12_wordOf ν (nI i)) = (if K n = 2 ∧ V n = i then 1 else 0) := by
    unfold gX12_isKey
    simp only [m2]
    by_cases k23 : K n = 2 ∨ K n = 3
    · have vc : vcode 7 (W n) := by
        rcases k23 with y | y
        · exact (t3 y).2.2
        · exact (t4 y).1
      have vi : vcode 7 (wcN i) := vcB_ok _ _ (wc_v i hi)
      have l1 := cv_lt 7 _ vc
      have l2 := cv_lt 7 _ vi
      have e27 : (27 : Nat) ^ 7 < 2 ^ 63 := by decide
      rw [if_pos k23, lk.2.1.2.2.2.2.2 k23, wo_m hi]
      have eq : lg_cmp (lN (conv 7 (W n))) (lN (conv 7 (wcN i))) = 0 ↔ K n = 2 ∧ V n = i := by
        rw [lG_eq (by omega) (by omega)]
        constructor
        · intro y
          have e := cv_inj 7 _ _ vc vi y
          rcases k23 with w | w
          · refine ⟨w, ?_⟩
            obtain ⟨d1, d2, -⟩ := t3 w
            exact wc_d _ d1 _ hi (d2.trans e)
          · exact absurd e.symm ((t4 w).2.2 i hi)
        · rintro ⟨w1, w2⟩
          obtain ⟨d1, d2, -⟩ := t3 w1
          rw [← d2, w2]
      by_cases y : K n = 2 ∧ V n = i
      · rw [if_pos (eq.mpr y), if_pos y]
      · rw [if_neg (fun w => y (eq.mp w)), if_neg y]
    · rw [if_neg k23, if_neg (fun y => k23 (Or.inl y.1))]
  refine ⟨?_, ?_, ?_⟩
  · unfold gX7_isWord
    simp only [c2]
    by_cases y : K n = 2
    · obtain ⟨d1, -, -⟩ := t3 y
      have v : fI μ 1 11 = nI i ↔ V n = i := by
        rw [lk.1.2.2.2.2.2.2.2.1 (Or.inl y)]
        exact nI_eq (by omega) (by omega)
      simp only [if_pos y, v]
      by_cases w : V n = i
      · rw [if_pos w]; exact ⟨fun q => absurd q n1, fun q => absurd ⟨y, w⟩ q⟩
      · rw [if_neg w]; exact ⟨fun _ q => w q.2, fun _ => rfl⟩
    · rw [if_neg y]
      exact ⟨fun _ q => y q.1, fun _ => rfl⟩
  · unfold gX12_isWord
    rw [kw]
    by_cases y : K n = 2 ∧ V n = i
    · rw [if_pos y]; exact ⟨fun q => absurd q n1, fun q => absurd y q⟩
    · rw [if_neg y]; exact ⟨fun _ => y, fun _ => rfl⟩
  · unfold pX12_isWord
    rw [kw]
    by_cases y : K n = 2 ∧ V n = i
    · rw [if_pos y]; exact Or.inr rfl
    · rw [if_neg y]; exact Or.inl rfl
theorem psg (lx : LXs b z l last K A V W P) (lk : LK b z l last K A V W P n μ ν) {c : Nat} (hc : c ≤ 255) : (gX7_isSign μ (nI c) = 0 ↔ ¬ (K n = 5 ∧ V n = c)) ∧ (gX12_isSign ν (nI c) = 0 ↔ ¬ (K n = 5 ∧ V n = c)) := by
  obtain ⟨t1, -, -, -, -, t6⟩ := lk_t lx lk
  have n1 : ¬ (1 : Int32) = 0 := by decide
  have c5 : fI μ 1 9 = 5 ↔ K n = 5 := lk_K lx lk 5 (by omega)
  have m4 : fI ν 0 7 = 4 ↔ kM (K n) = 4 := lk_M lx lk 4 (by omega)
  rw [(kM_v t1).2.2.2] at m4
  unfold gX7_isSign gX12_isSign
  simp only [c5, m4]
  by_cases y : K n = 5
  · have hv := t6 y
    have v1 : fI μ 1 11 = nI c ↔ V n = c := by
      rw [lk.1.2.2.2.2.2.2.2.1 (Or.inr (Or.inr y))]
      exact nI_eq (by omega) (by omega)
    have v2 : fI ν 0 9 = nI c ↔ V n = c := by
      rw [lk.2.1.2.2.2.1 y]
      exact nI_eq (by omega) (by omega)
    simp only [if_pos y, v1, v2]
    by_cases w : V n = c
    · simp only [if_pos w]; exact ⟨⟨fun q => absurd q n1, fun q => absurd ⟨y, w⟩ q⟩, ⟨fun q => absurd q n1, fun q => absurd ⟨y, w⟩ q⟩⟩
    · simp only [if_neg w]; exact ⟨⟨fun _ q => w q.2, fun _ => trivial⟩, ⟨fun _ q => w q.2, fun _ => trivial⟩⟩
  · simp only [if_neg y]
    exact ⟨⟨fun _ q => y q.1, fun _ => trivial⟩, ⟨fun _ q => y q.1, fun _ => trivial⟩⟩
theorem pnm (lx : LXs b z l last K A V W P) (lk : LK b z l last K A V W P n μ ν) : (gX12_isName ν = 0 ↔ ¬ K n = 3) ∧ pX12_isName ν ∧ (fI μ 1 9 = 3 ↔ K n = 3) := by
  obtain ⟨t1, -, t3, t4, -, -⟩ := lk_t lx lk
  have m2 : fI ν 0 7 = 2 ↔ kM (K n) = 2 := lk_M lx lk 2 (by omega)
  rw [kM_2] at m2
  have lp : (K n = 2 ∨ K n = 3) → ∀ (c i f : Nat), i + c = 25 → c < f → (K n = 2 → i ≤ V n) → qX12_isName_h12 f ν (nI i) ∧ (lX12_isName_h12 f ν (nI i) = 0 ↔ ¬ K n = 3) := by
    intro k23
    have vc : vcode 7 (W n) := by
      rcases k23 with y | y
      · exact (t3 y).2.2
      · exact (t4 y).1
    have l1 := cv_lt 7 _ vc
    have e27 : (27 : Nat) ^ 7 < 2 ^ 63 := by decide
    intro c
    induction c with
    | zero =>
      intro i f h1 h2 h3
      obtain ⟨f, rfl⟩ : ∃ m, f = m + 1 := ⟨f - 1, by omega⟩
      have e1 : (24 : Int32) < nI i := (nI_ltI (a := 24) (by omega) (by omega)).mpr (by omega)
      simp only [qX12_isName_h12, lX12_isName_h12, if_pos e1]
      refine ⟨fun y => absurd e1 y, fun y => absurd y (by decide), fun y => ?_⟩
      have y2 : K n = 2 := by omega
      have := (t3 y2).1
      have := h3 y2
      omega
    | succ c ih =>
      intro i f h1 h2 h3
      obtain ⟨f, rfl⟩ : ∃ m, f = m + 1 := ⟨f - 1, by omega⟩
      have e1 : ¬ (24 : Int32) < nI i := fun y => by have := (nI_ltI (a := 24) (by omega) (by omega)).mp y; omega
      have vi : vcode 7 (wcN i) := vcB_ok _ _ (wc_v i (by omega))
      have l2 := cv_lt 7 _ vi
      have eq : lg_cmp (lN (conv 7 (W n))) (lN (conv 7 (wcN i))) = 0 ↔ W n = wcN i := by
        rw [lG_eq (by omega) (by omega)]
        exact ⟨fun y => cv_inj 7 _ _ vc vi y, fun y => by rw [y]⟩
      simp only [qX12_isName_h12, lX12_isName_h12, if_neg e1, lk.2.1.2.2.2.2.2 k23, wo_m (show i < 25 by omega), eq, nI_1]
      by_cases y : W n = wcN i
      · simp only [if_pos y]
        refine ⟨fun _ q => absurd y q, fun _ k3 => (t4 k3).2.2 i (by omega) y.symm, fun _ => trivial⟩
      · simp only [if_neg y]
        obtain ⟨k1, k2⟩ := ih (i + 1) f (by omega) (by omega) (fun w => by
          have h4 := h3 w
          obtain ⟨-, d2, -⟩ := t3 w
          have : V n ≠ i := fun q => y (by rw [← d2, q])
          omega)
        exact ⟨fun _ _ => k1, k2⟩
  refine ⟨?_, ?_, lk_K lx lk 3 (by omega)⟩
  · unfold gX12_isName
    simp only [m2]
    by_cases y : K n = 2 ∨ K n = 3
    · rw [if_pos y]
      exact (lp y 25 0 fF (by omega) (fF_gt (by omega)) (fun _ => Nat.zero_le _)).2
    · rw [if_neg y]
      exact ⟨fun _ q => y (Or.inr q), fun _ => rfl⟩
  · unfold pX12_isName
    rw [m2]
    exact fun y => (lp y 25 0 fF (by omega) (fF_gt (by omega)) (fun _ => Nat.zero_le _)).1
theorem LK_f {μ' ν' : fm_T} {A1 B1 A2 B2 : Nat → Nat → Prop} (lk : LK b z l last K A V W P n μ ν) (f1 : frL A1 B1 μ μ') (f2 : frL A2 B2 ν ν') (h1 : ∀ k j, A1 k j → ¬ ((k = 1 ∧ 7 ≤ j ∧ j ≤ 11) ∨ k = 4 ∨ k = 5 ∨ k = 6)) (h2 : ∀ k j, B1 k j → ¬ (k = 7 ∨ (k = 1 ∧ j = 12))) (h3 : ∀ k j, A2 k j → ¬ ((k = 0 ∧ 3 ≤ j ∧ j ≤ 10) ∨ k = 1)) (h4 : ∀ k j, B2 k j → ¬ (k = 0 ∧ j = 12)) : LK b z l last K A V W P n μ' ν' := by
  obtain ⟨⟨s1, s2, s3, s4, s5, s6, s7, s8, s9⟩, ⟨m1, m2, m3, m4, m5, m6⟩, ⟨c1, c2, c3, c4, c5⟩, c6⟩ := lk
  have F1 : ∀ j, 7 ≤ j → j ≤ 11 → fI μ' 1 j = fI μ 1 j := fun j a b => f1.2.2.2 1 j (fun y => h1 _ _ y (Or.inl ⟨rfl, a, b⟩))
  have F2 : ∀ j, 3 ≤ j → j ≤ 10 → fI ν' 0 j = fI ν 0 j := fun j a b => f2.2.2.2 0 j (fun y => h3 _ _ y (Or.inl ⟨rfl, a, b⟩))
  refine ⟨⟨s1, by rw [F1 7 (by omega) (by omega)]; exact s2, s3, by rw [F1 8 (by omega) (by omega)]; exact s4, fun i hi => EnT_f (s5 i hi) f1 (fun a j y w => h1 _ _ y (by omega)) (fun a j y w => h2 _ _ y (by omega)), by rw [F1 9 (by omega) (by omega)]; exact s6, by rw [F1 10 (by omega) (by omega)]; exact s7, fun y => by rw [F1 11 (by omega) (by omega)]; exact s8 y, fun y => by rw [f1.2.2.1 1 12 (fun w => h2 _ _ w (Or.inr ⟨rfl, rfl⟩))]; exact s9 y⟩, ⟨by rw [F2 7 (by omega) (by omega)]; exact m1, by rw [F2 6 (by omega) (by omega)]; exact m2, fun y w => by rw [F2 5 (by omega) (by omega)]; exact m3 y w, fun y => by rw [F2 9 (by omega) (by omega)]; exact m4 y, fun y => by rw [F2 8 (by omega) (by omega)]; exact m5 y, fun y => by rw [f2.2.2.1 0 12 (fun w => h4 _ _ w ⟨rfl, rfl⟩)]; exact m6 y⟩, ⟨c1, c2, by rw [F2 3 (by omega) (by omega)]; exact c3, by rw [F2 4 (by omega) (by omega)]; exact c4, fun i hi => by rw [f2.2.2.2 1 i (fun y => h3 _ _ y (Or.inr rfl))]; exact c5 i hi⟩, by rw [F2 10 (by omega) (by omega)]; exact c6⟩
theorem pad (lx : LXs b z l last K A V W P) (lk : LK b z l last K A V W P n μ ν) (k0 : K n ≠ 0) (k1 : K n ≠ 1) : pX7_advance μ ∧ pX12_go ν ∧ frL fA1 fA1l μ (uX7_advance μ) ∧ frL fG fGl ν (uX12_go ν) ∧ LK b z l last K A V W P (n + 1) (uX7_advance μ) (uX12_go ν) := by
  have hn := lk_n lk
  have hl : n < last := by
    rcases Nat.eq_or_lt_of_le hn with y | y
    · rw [y] at k0 k1
      rcases lx.2.2.2 with w | w
      · exact absurd w k0
      · exact absurd w k1
    · exact y
  obtain ⟨a1, a2, a3⟩ := adv lk.1 hl
  obtain ⟨g1, g2, g3⟩ := go_m lk.2.2.1 (lk.2.1.2.2.1 k0 k1) (lx.2.1 (n + 1) hl)
  exact ⟨a1, g1, a2, g2, a3, g3, MBy_f lk.2.2.1 g2, by rw [g2.2.2.2 0 10 (by unfold fG; omega)]; exact lk.2.2.2⟩
theorem pfa (lx : LXs b z l last K A V W P) (lk : LK b z l last K A V W P n μ ν) (k : Nat) (hk : K n = 1 → k = 1) : frL fAc fN μ (uX7_fail μ (nI k)) ∧ frL fGm fN ν (uX12_bad ν (nI k)) ∧ FQ (uX7_fail μ (nI k)) (uX12_bad ν (nI k)) := by
  obtain ⟨t1, t2, -⟩ := lk_t lx lk
  have m1 : fI ν 0 7 = 1 ↔ kM (K n) = 1 := lk_M lx lk 1 (by omega)
  rw [(kM_v t1).2.1] at m1
  have fc : frL fAc fN μ (uX7_fail μ (nI k)) := ((frL.rf fAc fN μ).i ⟨rfl, by omega⟩).i ⟨rfl, by omega⟩
  have e : uX12_bad ν (nI k) = fm_i (fm_i ν 0 10 (nI k)) 0 11 (fI ν 0 6) := by
    unfold uX12_bad
    simp only [m1]
    by_cases y : K n = 1
    · rw [if_pos y, hk y]; rfl
    · rw [if_neg y]
  rw [e]
  refine ⟨fc, ((frL.rf fGm fN ν).i ⟨rfl, by omega⟩).i ⟨rfl, by omega⟩, ?_, ?_⟩
  · unfold uX7_fail
    rw [fI_i, if_neg (by omega), fI_i, if_pos ⟨rfl, rfl⟩, fI_i, if_neg (by omega), fI_i, if_pos ⟨rfl, rfl⟩]
  · unfold uX7_fail
    rw [fI_i, if_pos ⟨rfl, rfl⟩, fI_i, if_pos ⟨rfl, rfl⟩, lk.1.2.2.2.2.2.2.1, lk.2.1.2.1]
theorem gbad (μ : fm_T) (x : Int32) : gX12_bad μ x = 0 := by unfold gX12_bad; split <;> rfl
theorem ptn (lx : LXs b z l last K A V W P) (lk : LK b z l last K A V W P n μ ν) {lo hi : Nat} (hlh : hi ≤ 999) (hlo : lo ≤ 999) : pX7_takeNumber μ (nI lo) (nI hi) ∧ pX12_readNumber ν (nI lo) (nI hi) ∧ frL fAc fA1l μ (uX7_takeNumber μ (nI lo) (nI hi)) ∧ frL fGm fGl ν (uX12_readNumber ν (nI lo) (nI hi)) ∧
    ((gX7_takeNumber μ (nI lo) (nI hi) = -1 ∧ gX12_readNumber ν (nI lo) (nI hi) = 0 ∧ FQ (uX7_takeNumber μ (nI lo) (nI hi)) (uX12_readNumber ν (nI lo) (nI hi))) ∨
     (K n = 4 ∧ lo ≤ V n ∧ V n ≤ hi ∧ gX7_takeNumber μ (nI lo) (nI hi) = nI (V n) ∧ gX12_readNumber ν (nI lo) (nI hi) = 1 ∧ fI (uX12_readNumber ν (nI lo) (nI hi)) 0 13 = nI (V n) ∧ LK b z l last K A V W P (n + 1) (uX7_takeNumber μ (nI lo) (nI hi)) (uX12_readNumber ν (nI lo) (nI hi)))) := by
  obtain ⟨t1, -, -, -, t5, -⟩ := lk_t lx lk
  have c4 : fI μ 1 9 = 4 ↔ K n = 4 := lk_K lx lk 4 (by omega)
  have m3 : fI ν 0 7 = 3 ↔ kM (K n) = 3 := lk_M lx lk 3 (by omega)
  rw [(kM_v t1).2.2.1] at m3
  have mo1 : ∀ {M}, frL fAc fN μ M → frL fAc fA1l μ M := fun h => h.mo (fun _ _ y => y) (fun _ _ y => by unfold fN at y; exact y.elim)
  have mo2 : ∀ {M}, frL fGm fN ν M → frL fGm fGl ν M := fun h => h.mo (fun _ _ y => y) (fun _ _ y => by unfold fN at y; exact y.elim)
  have bd : ∀ x : Int32, (gX12_bad ν x = 0 ∨ gX12_bad ν x = 1) := fun x => Or.inl (gbad _ _)
  unfold pX7_takeNumber pX12_readNumber uX7_takeNumber uX12_readNumber gX7_takeNumber gX12_readNumber
  simp only [c4, m3, gbad]
  by_cases y : K n = 4
  · have hv := t5 y
    have v1 : fI μ 1 11 = nI (V n) := lk.1.2.2.2.2.2.2.2.1 (Or.inr (Or.inl y))
    have v2 : fI ν 0 8 = nI (V n) := lk.2.1.2.2.2.2.1 y
    simp only [if_pos y, v1, v2, isI (μ := μ)]
    by_cases w : gX11_within μ (nI (V n)) (nI lo) (nI hi) = 0
    · simp only [if_pos w]
      obtain ⟨f1, f2, f3⟩ := pfa lx lk 2 (fun q => by omega)
      exact ⟨fun _ q => absurd w q, ⟨fun _ => ⟨fun q => absurd w q, fun _ => Or.inl trivial⟩, fun q => absurd y q⟩, mo1 f1, mo2 f2, Or.inl ⟨trivial, trivial, f3⟩⟩
    · simp only [if_neg w]
      rw [wi_nI, nI_ltI (by omega) (by omega), nI_ltI (by omega) (by omega)] at w
      have f13 : frL (fun k j => k = 0 ∧ j = 13) fN ν (fm_i ν 0 13 (nI (V n))) := (frL.rf _ fN ν).i ⟨rfl, rfl⟩
      have lk2 := LK_f lk (frL.rf (fun _ _ => False) fN μ) f13 (fun _ _ q => q.elim) (fun _ _ q => by unfold fN at q; exact q.elim) (fun k j q => by omega) (fun _ _ q => by unfold fN at q; exact q.elim)
      obtain ⟨a1, a2, a3, a4, a5⟩ := pad lx lk2 (by omega) (by omega)
      refine ⟨fun _ _ => a1, ⟨fun _ => ⟨fun _ => a2, fun q => absurd q (by rw [wi_nI, nI_ltI (by omega) (by omega), nI_ltI (by omega) (by omega)]; exact w)⟩, fun q => absurd y q⟩, a3.mo (fun k j q => by unfold fA1 at q; unfold fAc; omega) (fun _ _ q => q), (f13.mo (fun k j q => by unfold fGm; omega) (fun _ _ q => by unfold fN at q; exact q.elim)).tr (a4.mo (fun k j q => by unfold fG at q; unfold fGm; omega) (fun _ _ q => q)), Or.inr ⟨y, by omega, by omega, trivial, trivial, ?_, a5⟩⟩
      rw [a4.2.2.2 0 13 (by unfold fG; omega), fI_i, if_pos ⟨rfl, rfl⟩]
  · simp only [if_neg y]
    obtain ⟨f1, f2, f3⟩ := pfa lx lk 1 (fun _ => rfl)
    exact ⟨fun q => absurd q y, ⟨fun q => absurd q y, fun _ => Or.inl trivial⟩, mo1 f1, mo2 f2, Or.inl ⟨trivial, trivial, f3⟩⟩
end
