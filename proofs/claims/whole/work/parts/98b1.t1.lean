def smN (b : Nat → Nat) (q : Nat) : Nat → Bool
  | 0 => true
  | n + 1 => smN b q n && (isLt (b (q + n)) == isLt (b q))
theorem sm_iff {b : Nat → Nat} {q : Nat} : ∀ n, smN b q n = true ↔ ∀ i, i < n → isLt (b (q + i)) = isLt (b q)
  | 0 => ⟨fun _ i hi => absurd hi (by omega), fun _ => rfl⟩
  | n + 1 => by
    unfold smN
    rw [Bool.and_eq_true, beq_iff_eq, sm_iff n]
    constructor
    · rintro ⟨h1, h2⟩ i hi
      by_cases e : i = n
      · rw [e]; exact h2
      · exact h1 i (by omega)
    · intro h
      exact ⟨fun i hi => h i (by omega), h n (by omega)⟩
theorem fL_lq (μ : fm_T) (k j : Nat) (v : Int64) : fL (fm_l μ k j v) k j = v := by rw [fL_l, if_pos ⟨rfl, rfl⟩]
section
variable {b : Nat → Nat} {z l q E : Nat}
theorem gs_m {ν0 ν' : fm_T} {p : Nat} (mb : MBy b z l ν') (hp : p < z) (hq : q ≤ p) (fr : frL fG fGl ν0 ν') (h5 : fI ν' 0 5 = nI p) (h6 : fI ν' 0 6 = nI q) (an : isAn (b p) = true) (hw : isLt (b q) = true → smN b q (p - q) = true → p ≤ q + 7 → fL ν' 0 12 = lN (c27N b q (p - q))) (hn : isLt (b q) = false → smN b q (p - q) = true → p ≤ q + 3 → fI ν' 0 8 = nI (nmN b q (p - q))) :
    frL fG fGl ν0 (goS ν') ∧ fI (goS ν') 0 5 = nI (p + 1) ∧ fI (goS ν') 0 6 = nI q ∧ (isLt (b q) = true → smN b q (p + 1 - q) = true → p + 1 ≤ q + 7 → fL (goS ν') 0 12 = lN (c27N b q (p + 1 - q))) ∧ (isLt (b q) = false → smN b q (p + 1 - q) = true → p + 1 ≤ q + 3 → fI (goS ν') 0 8 = nI (nmN b q (p + 1 - q))) := by
  obtain ⟨m1, m2, m3, m4, m5⟩ := mb
  have cp : p < 2 ^ 31 := by omega
  obtain ⟨b1, b2⟩ := m5 p (by omega)
  have es : nI p - nI q = nI (p - q) := nI_sub hq
  have l7 : (7 : Int32) ≤ nI (p - q) ↔ 7 ≤ p - q := nI_leI (a := 7) (by omega) (by omega)
  have l3 : (3 : Int32) ≤ nI (p - q) ↔ 3 ≤ p - q := nI_leI (a := 3) (by omega) (by omega)
  unfold goS
  rw [h5, h6, es, nI_clamp cp, b1, nI_1, nl_i (by omega)]
  simp only [l7, l3]
  have e1 : p + 1 - q = (p - q) + 1 := by omega
  have qp : q + (p - q) = p := by omega
  have W : ∀ M, (M = ν' ∨ M = fm_l ν' 0 12 ((27 : Int64) * fL ν' 0 12 + lN (b p) - 96)) → frL fG fGl ν0 M ∧ fI M 0 5 = fI ν' 0 5 ∧ fI M 0 6 = fI ν' 0 6 ∧ fI M 0 8 = fI ν' 0 8 := fun M hM => by
    rcases hM with rfl | rfl
    · exact ⟨fr, rfl, rfl, rfl⟩
    · exact ⟨fr.l ⟨rfl, rfl⟩, fI_l _ _ _ _ _ _, fI_l _ _ _ _ _ _, fI_l _ _ _ _ _ _⟩
  have hM : (if 7 ≤ p - q then ν' else fm_l ν' 0 12 ((27 : Int64) * fL ν' 0 12 + lN (b p) - 96)) = ν' ∨ (if 7 ≤ p - q then ν' else fm_l ν' 0 12 ((27 : Int64) * fL ν' 0 12 + lN (b p) - 96)) = fm_l ν' 0 12 ((27 : Int64) * fL ν' 0 12 + lN (b p) - 96) := by
    by_cases y : 7 ≤ p - q
    · exact Or.inl (if_pos y)
    · exact Or.inr (if_neg y)
  have hwd : isLt (b q) = true → smN b q (p + 1 - q) = true → p + 1 ≤ q + 7 → fL (if 7 ≤ p - q then ν' else fm_l ν' 0 12 ((27 : Int64) * fL ν' 0 12 + lN (b p) - 96)) 0 12 = lN (c27N b q (p + 1 - q)) := fun a1 a2 a3 => by
    rw [if_neg (by omega), fL_lq]
    have sp := (sm_iff _).mp a2
    have s1 : smN b q (p - q) = true := (sm_iff _).mpr (fun i hi => sp i (by omega))
    have lp : isLt (b p) = true := by
      have := sp (p - q) (by omega)
      rw [qp, a1] at this
      exact this
    have dp := lt_iff.mp lp
    rw [hw a1 s1 (by omega), e1, show (27 : Int64) = lN 27 from rfl, show (96 : Int64) = lN 96 from rfl, lN_mul, lN_add, lS_sub (by omega)]
    congr 1
    show _ = c27N b q (p - q) * 27 + (b (q + (p - q)) - 96)
    rw [qp]
    omega
  generalize (if 7 ≤ p - q then ν' else fm_l ν' 0 12 ((27 : Int64) * fL ν' 0 12 + lN (b p) - 96)) = M at hM hwd ⊢
  obtain ⟨w1, w2, w3, w4⟩ := W M hM
  by_cases y : 3 ≤ p - q
  · simp only [if_pos y]
    refine ⟨w1.i ⟨rfl, by omega, by omega⟩, by rw [fI_i, if_pos ⟨rfl, rfl⟩], by rw [fI_i, if_neg (by omega), w3]; exact h6, fun a1 a2 a3 => hwd a1 a2 a3, fun a1 a2 a3 => absurd a3 (by omega)⟩
  · simp only [if_neg y]
    refine ⟨(w1.i ⟨rfl, by omega, by omega⟩).i ⟨rfl, by omega, by omega⟩, by rw [fI_i, if_pos ⟨rfl, rfl⟩], by rw [fI_i, if_neg (by omega), fI_i, if_neg (by omega), w3]; exact h6, fun a1 a2 a3 => hwd a1 a2 a3, fun a1 a2 a3 => ?_⟩
    rw [fI_i, if_neg (by omega), fI_i, if_pos ⟨rfl, rfl⟩]
    have sp := (sm_iff _).mp a2
    have s1 : smN b q (p - q) = true := (sm_iff _).mpr (fun i hi => sp i (by omega))
    have lp : isLt (b p) = false := by
      have := sp (p - q) (by omega)
      rw [qp, a1] at this
      exact this
    have dp : isDg (b p) = true := by
      unfold isAn at an
      rw [lp, Bool.false_or] at an
      exact an
    have dp := dg_iff.mp dp
    rw [hn a1 s1 (by omega), e1, show (10 : Int32) = nI 10 from rfl, show (48 : Int32) = nI 48 from rfl, nI_mul, nI_add, nI_sub (by omega)]
    congr 1
    show _ = nmN b q (p - q) * 10 + (b (q + (p - q)) - 48)
    rw [qp]
    omega
theorem rum_g {ν0 : fm_T} (mb : MBy b z l ν0) (hE : E ≤ z) (ha : ∀ i, q ≤ i → i < E → isAn (b i) = true) (he : E = z ∨ isAn (b E) = false) (x1 : Int32) : ∀ (c p f : Nat) (ν' : fm_T) (x3 : Int32), p + c = E → c < f → q ≤ p → frL fG fGl ν0 ν' → fI ν' 0 5 = nI p → fI ν' 0 6 = nI q → (x3 = if smN b q (p - q) then 1 else 0) → (isLt (b q) = true → smN b q (p - q) = true → p ≤ q + 7 → fL ν' 0 12 = lN (c27N b q (p - q))) → (isLt (b q) = false → smN b q (p - q) = true → p ≤ q + 3 → fI ν' 0 8 = nI (nmN b q (p - q))) →
    qX12_go_h215 f ν' x1 (if isLt (b q) then 1 else 0) x3 ∧ ∃ U, mX12_go_h215 f ν' x1 (if isLt (b q) then 1 else 0) x3 = U ∧ frL fG fGl ν0 U ∧ fI U 0 5 = nI E ∧ fI U 0 6 = nI q ∧ fI U 0 7 = (if smN b q (E - q) then (if isLt (b q) then (if E ≤ q + 7 then 2 else 1) else if E ≤ q + 3 then 3 else 1) else 1) ∧ (isLt (b q) = true → smN b q (E - q) = true → E ≤ q + 7 → fL U 0 12 = lN (c27N b q (E - q))) ∧ (isLt (b q) = false → smN b q (E - q) = true → E ≤ q + 3 → fI U 0 8 = nI (nmN b q (E - q))) := by
  obtain ⟨z1, z2, z3, z4, z5⟩ := mb
  have mb : MBy b z l ν0 := ⟨z1, z2, z3, z4, z5⟩
  have n1 : ¬ (1 : Int32) = 0 := by decide
  intro c
  induction c with
  | zero =>
    intro p f ν' x3 h1 h2 hp fr h5 h6 hx hw hn
    obtain ⟨f, rfl⟩ : ∃ m, f = m + 1 := ⟨f - 1, by omega⟩
    obtain rfl : p = E := by omega
    obtain ⟨-, -, m3, m4, m5⟩ := MBy_f mb fr
    have pb : pX12_byteAt ν' (nI p) := by
      unfold pX12_byteAt
      rw [m3]
      intro y
      have : ¬ z ≤ p := fun w => y ((nI_leI (by omega) (by omega)).mpr w)
      exact vp_in_nI (by omega) (by decide)
    have g0 : gX12_isLetter ν' (gX12_byteAt ν' (nI p)) = 0 ∧ gX12_isDigit ν' (gX12_byteAt ν' (nI p)) = 0 := by
      unfold gX12_byteAt
      rw [m3]
      rcases he with he | he
      · rw [if_pos ((nI_leI (by omega) (by omega)).mpr (by omega))]
        exact ⟨by unfold gX12_isLetter; decide, by unfold gX12_isDigit; decide⟩
      · by_cases y : nI z ≤ nI p
        · rw [if_pos y]
          exact ⟨by unfold gX12_isLetter; decide, by unfold gX12_isDigit; decide⟩
        · have : ¬ z ≤ p := fun w => y ((nI_leI (by omega) (by omega)).mpr w)
          rw [if_neg y, nI_clamp (by omega), (m5 p (by omega)).1]
          obtain ⟨i1, i2⟩ := il_m (μ := ν') (m5 p (by omega)).2
          unfold isAn at he
          rw [Bool.or_eq_false_iff] at he
          rw [i1, i2, he.1, he.2]
          exact ⟨rfl, rfl⟩
    have es : nI p - nI q = nI (p - q) := nI_sub hp
    have l3 : nI (p - q) ≤ 3 ↔ p ≤ q + 3 := by rw [show (3 : Int32) = nI 3 from rfl, nI_leI (by omega) (by omega)]; omega
    have l7 : nI (p - q) ≤ 7 ↔ p ≤ q + 7 := by rw [show (7 : Int32) = nI 7 from rfl, nI_leI (by omega) (by omega)]; omega
    simp only [qX12_go_h215, mX12_go_h215, h5, h6, if_pos g0.1, if_pos g0.2, es, l3, l7]
    refine ⟨⟨pb, fun y => absurd g0.1 y, fun _ => ⟨pb, fun y => absurd g0.2 y⟩⟩, ?_⟩
    have fin : ∀ v, frL fG fGl ν0 (fm_i ν' 0 7 v) ∧ fI (fm_i ν' 0 7 v) 0 5 = nI p ∧ fI (fm_i ν' 0 7 v) 0 6 = nI q ∧ fI (fm_i ν' 0 7 v) 0 7 = v ∧ (isLt (b q) = true → smN b q (p - q) = true → p ≤ q + 7 → fL (fm_i ν' 0 7 v) 0 12 = lN (c27N b q (p - q))) ∧ (isLt (b q) = false → smN b q (p - q) = true → p ≤ q + 3 → fI (fm_i ν' 0 7 v) 0 8 = nI (nmN b q (p - q))) := fun v => ⟨fr.i ⟨rfl, by omega, by omega⟩, by rw [fI_i, if_neg (by omega)]; exact h5, by rw [fI_i, if_neg (by omega)]; exact h6, by rw [fI_i, if_pos ⟨rfl, rfl⟩], hw, fun a1 a2 a3 => by rw [fI_i, if_neg (by omega)]; exact hn a1 a2 a3⟩
    cases s : smN b q (p - q)
    · rw [s] at hx fin
      have x0 : x3 = 0 := by rw [hx]; rfl
      simp only [if_pos x0]
      obtain ⟨f1, f2, f3, f4, f5, f6⟩ := fin 1
      exact ⟨_, rfl, f1, f2, f3, f4, f5, f6⟩
    · rw [s] at hx fin
      have x0 : ¬ x3 = 0 := by rw [hx]; decide
      simp only [if_neg x0, if_true]
      cases t : isLt (b q)
      · rw [t] at fin
        simp only [Bool.false_eq_true, if_false, if_true]
        by_cases y : p ≤ q + 3
        · simp only [if_pos y]
          obtain ⟨f1, f2, f3, f4, f5, f6⟩ := fin 3
          exact ⟨_, rfl, f1, f2, f3, f4, fun a1 a2 a3 => f5 (by simpa using a1) (by simpa using a2) a3, fun a1 a2 a3 => f6 (by simpa using a1) (by simpa using a2) a3⟩
        · simp only [if_neg y]
          obtain ⟨f1, f2, f3, f4, f5, f6⟩ := fin 1
          exact ⟨_, rfl, f1, f2, f3, f4, fun a1 a2 a3 => f5 (by simpa using a1) (by simpa using a2) a3, fun a1 a2 a3 => f6 (by simpa using a1) (by simpa using a2) a3⟩
      · rw [t] at fin
        simp only [if_true, if_neg n1]
        by_cases y : p ≤ q + 7
        · simp only [if_pos y]
          obtain ⟨f1, f2, f3, f4, f5, f6⟩ := fin 2
          exact ⟨_, rfl, f1, f2, f3, f4, fun a1 a2 a3 => f5 (by simpa using a1) (by simpa using a2) a3, fun a1 a2 a3 => f6 (by simpa using a1) (by simpa using a2) a3⟩
        · simp only [if_neg y]
          obtain ⟨f1, f2, f3, f4, f5, f6⟩ := fin 1
          exact ⟨_, rfl, f1, f2, f3, f4, fun a1 a2 a3 => f5 (by simpa using a1) (by simpa using a2) a3, fun a1 a2 a3 => f6 (by simpa using a1) (by simpa using a2) a3⟩
  | succ c ih =>
    intro p f ν' x3 h1 h2 hp fr h5 h6 hx hw hn
    obtain ⟨f, rfl⟩ : ∃ m, f = m + 1 := ⟨f - 1, by omega⟩
    have mb' := MBy_f mb fr
    obtain ⟨-, -, m3, m4, m5⟩ := mb'
    have an := ha p hp (by omega)
    obtain ⟨b1, b2⟩ := m5 p (by omega)
    have gb : gX12_byteAt ν' (nI p) = nI (b p) := by
      unfold gX12_byteAt
      rw [m3, if_neg (fun y => by have := (nI_leI (by omega) (by omega)).mp y; omega), nI_clamp (by omega), b1]
    have pb : pX12_byteAt ν' (nI p) := fun _ => vp_in_nI (by omega) (by decide)
    obtain ⟨i1, i2⟩ := il_m (μ := ν') b2
    obtain ⟨s1, s2⟩ := go_st f ν' x1 (if isLt (b q) then 1 else 0) x3 (by
      rw [h5, gb, i1, i2]
      unfold isAn at an
      rw [Bool.or_eq_true] at an
      rintro ⟨y1, y2⟩
      rcases an with an | an
      · rw [an] at y1; exact absurd y1 (by decide)
      · rw [an] at y2; exact absurd y2 (by decide))
    rw [h5] at s1 s2
    rw [nI_clamp (by omega), b1, i1] at s1 s2
    obtain ⟨g1, g2, g3, g4, g5⟩ := gs_m (MBy_f mb fr) (by omega) hp fr h5 h6 an hw hn
    have ex : (if x3 = 0 then (0 : Int32) else if (if isLt (b p) = true then (1 : Int32) else 0) = (if isLt (b q) = true then 1 else 0) then 1 else 0) = if smN b q (p + 1 - q) then 1 else 0 := by
      rw [show p + 1 - q = (p - q) + 1 by omega]
      unfold smN
      rw [show q + (p - q) = p by omega, hx]
      cases smN b q (p - q) <;> cases isLt (b p) <;> cases isLt (b q) <;> decide
    rw [ex] at s1 s2
    obtain ⟨k1, k2⟩ := ih (p + 1) f (goS ν') _ (by omega) (by omega) (by omega) g1 g2 g3 rfl g4 g5
    rw [s1]
    exact ⟨s2 pb (vp_in_nI (by omega) (by decide)) k1, k2⟩
theorem skm_g {ν0 : fm_T} (mb : MBy b z l ν0) (hq : q ≤ z) : ∀ (c p f : Nat) (ν' : fm_T), p + c = q → c < f → (∀ i, p ≤ i → i < q → isBl (b i) = true) → frL fG fGl ν0 ν' → fI ν' 0 5 = nI p → ∃ f' ν2, fI ν2 0 5 = nI q ∧ frL fG fGl ν0 ν2 ∧ mX12_go_h0 f ν' = mX12_go_h0 (f' + 1) ν2 ∧ (qX12_go_h0 (f' + 1) ν2 → qX12_go_h0 f ν') := by
  intro c
  induction c with
  | zero =>
    intro p f ν' h1 h2 hb fr h5
    obtain ⟨f, rfl⟩ : ∃ m, f = m + 1 := ⟨f - 1, by omega⟩
    obtain rfl : p = q := by omega
    exact ⟨f, ν', h5, fr, rfl, id⟩
  | succ c ih =>
    intro p f ν' h1 h2 hb fr h5
    obtain ⟨f, rfl⟩ : ∃ m, f = m + 1 := ⟨f - 1, by omega⟩
    obtain ⟨k1, k2, m3, m4, m5⟩ := MBy_f mb fr
    obtain ⟨b1, b2⟩ := m5 p (by omega)
    have cp : p < 2 ^ 31 := by omega
    have e1 : ¬ nI z ≤ nI p := fun y => by have := (nI_leI (by omega) (by omega)).mp y; omega
    have v : vp_in (nI p) 940 := vp_in_nI (by omega) (by decide)
    obtain ⟨f', ν2, j1, j2, j3, j4⟩ := ih (p + 1) f (fm_i ν' 0 5 (nI (p + 1))) (by omega) (by omega) (fun i hi => hb i (by omega)) (fr.i ⟨rfl, by omega, by omega⟩) (by rw [fI_i, if_pos ⟨rfl, rfl⟩])
    refine ⟨f', ν2, j1, j2, ?_⟩
    have t32 : nI (b p) = 32 ↔ b p = 32 := nI_eq (b := 32) (by omega) (by omega)
    have t10 : nI (b p) = 10 ↔ b p = 10 := nI_eq (b := 10) (by omega) (by omega)
    rw [show mX12_go_h0 (f + 1) ν' = _ from rfl, show qX12_go_h0 (f + 1) ν' = _ from rfl]
    simp only [mX12_go_h0, qX12_go_h0, h5, m3, if_neg e1, nI_clamp cp, b1, t32, t10, nI_1]
    rcases bl_iff.mp (hb p (Nat.le_refl _) (by omega)) with y | y
    · simp only [if_pos y]
      refine ⟨j3, fun g => ⟨fun y => absurd y e1, fun _ => ⟨v, fun _ => j4 g, fun w => absurd y w⟩⟩⟩
    · have y' : ¬ b p = 32 := by omega
      simp only [if_neg y', if_pos y]
      refine ⟨j3, fun g => ⟨fun y => absurd y e1, fun _ => ⟨v, fun w => absurd w y', fun _ => ⟨v, fun w => absurd y w, fun _ => j4 g⟩⟩⟩⟩
end
