noncomputable def goX (μ : fm_T) : fm_T := (if (gX12_isLetter (fm_i μ 0 6 (fI μ 0 5)) (fI μ 1 ((fI μ 0 5).toNatClampNeg))) = 0 then (if (gX12_isDigit (fm_i μ 0 6 (fI μ 0 5)) (fI μ 1 ((fI μ 0 5).toNatClampNeg))) = 0 then (if (fI μ 1 ((fI μ 0 5).toNatClampNeg)) = 59 then (fm_i (fm_i (fm_i (fm_i μ 0 6 (fI μ 0 5)) 0 7 4) 0 9 (fI μ 1 ((fI μ 0 5).toNatClampNeg))) 0 5 ((fI μ 0 5) + 1)) else (if (fI μ 1 ((fI μ 0 5).toNatClampNeg)) = 40 then (fm_i (fm_i (fm_i (fm_i μ 0 6 (fI μ 0 5)) 0 7 4) 0 9 (fI μ 1 ((fI μ 0 5).toNatClampNeg))) 0 5 ((fI μ 0 5) + 1)) else (if (fI μ 1 ((fI μ 0 5).toNatClampNeg)) = 41 then (fm_i (fm_i (fm_i (fm_i μ 0 6 (fI μ 0 5)) 0 7 4) 0 9 (fI μ 1 ((fI μ 0 5).toNatClampNeg))) 0 5 ((fI μ 0 5) + 1)) else (if (fI μ 1 ((fI μ 0 5).toNatClampNeg)) = 60 then (fm_i (fm_i (fm_i (fm_i μ 0 6 (fI μ 0 5)) 0 7 4) 0 9 (fI μ 1 ((fI μ 0 5).toNatClampNeg))) 0 5 ((fI μ 0 5) + 1)) else (if (fI μ 1 ((fI μ 0 5).toNatClampNeg)) = 61 then (fm_i (fm_i (fm_i (fm_i μ 0 6 (fI μ 0 5)) 0 7 4) 0 9 (fI μ 1 ((fI μ 0 5).toNatClampNeg))) 0 5 ((fI μ 0 5) + 1)) else (if (fI μ 1 ((fI μ 0 5).toNatClampNeg)) = 62 then (fm_i (fm_i (fm_i (fm_i μ 0 6 (fI μ 0 5)) 0 7 4) 0 9 (fI μ 1 ((fI μ 0 5).toNatClampNeg))) 0 5 ((fI μ 0 5) + 1)) else (fm_i (fm_i (fm_i (fm_i μ 0 6 (fI μ 0 5)) 0 7 1) 0 9 (fI μ 1 ((fI μ 0 5).toNatClampNeg))) 0 5 ((fI μ 0 5) + 1)))))))) else (mX12_go_h215 fF (fm_i (fm_l (fm_i μ 0 6 (fI μ 0 5)) 0 12 0) 0 8 0) (fI μ 1 ((fI μ 0 5).toNatClampNeg)) (gX12_isLetter (fm_i μ 0 6 (fI μ 0 5)) (fI μ 1 ((fI μ 0 5).toNatClampNeg))) 1)) else (mX12_go_h215 fF (fm_i (fm_l (fm_i μ 0 6 (fI μ 0 5)) 0 12 0) 0 8 0) (fI μ 1 ((fI μ 0 5).toNatClampNeg)) (gX12_isLetter (fm_i μ 0 6 (fI μ 0 5)) (fI μ 1 ((fI μ 0 5).toNatClampNeg))) 1))
noncomputable def goQ (μ : fm_T) : Prop := ((fI μ 0 5) < (fI μ 0 3) → (vp_in (fI μ 0 5) 940) ∧ ((¬ (gX12_isLetter (fm_i μ 0 6 (fI μ 0 5)) (fI μ 1 ((fI μ 0 5).toNatClampNeg))) = 0 → qX12_go_h215 fF (fm_i (fm_l (fm_i μ 0 6 (fI μ 0 5)) 0 12 0) 0 8 0) (fI μ 1 ((fI μ 0 5).toNatClampNeg)) (gX12_isLetter (fm_i μ 0 6 (fI μ 0 5)) (fI μ 1 ((fI μ 0 5).toNatClampNeg))) 1) ∧ ((gX12_isLetter (fm_i μ 0 6 (fI μ 0 5)) (fI μ 1 ((fI μ 0 5).toNatClampNeg))) = 0 → (¬ (gX12_isDigit (fm_i μ 0 6 (fI μ 0 5)) (fI μ 1 ((fI μ 0 5).toNatClampNeg))) = 0 → qX12_go_h215 fF (fm_i (fm_l (fm_i μ 0 6 (fI μ 0 5)) 0 12 0) 0 8 0) (fI μ 1 ((fI μ 0 5).toNatClampNeg)) (gX12_isLetter (fm_i μ 0 6 (fI μ 0 5)) (fI μ 1 ((fI μ 0 5).toNatClampNeg))) 1))))
noncomputable def goT (μ : fm_T) : fm_T := (if (fI μ 0 3) ≤ (fI μ 0 4) then (if (fI μ 0 5) < (fI μ 0 3) then goX μ else (fm_i (fm_i μ 0 6 (fI μ 0 5)) 0 7 0)) else (if (fI μ 0 5) < (fI μ 0 4) then (if (fI μ 0 5) < (fI μ 0 3) then goX μ else (fm_i (fm_i μ 0 6 (fI μ 0 5)) 0 7 0)) else (fm_i (fm_i (fm_i μ 0 6 (fI μ 0 5)) 0 6 (fI μ 0 4)) 0 7 1)))
noncomputable def goP (μ : fm_T) : Prop := ((fI μ 0 3) ≤ (fI μ 0 4) → goQ μ) ∧ (¬ (fI μ 0 3) ≤ (fI μ 0 4) → ((fI μ 0 5) < (fI μ 0 4) → goQ μ))
theorem go_h (n : Nat) (μ : fm_T) : mX12_go_h0 (n + 1) μ = (if (fI μ 0 3) ≤ (fI μ 0 5) then goT μ else (if (fI μ 1 ((fI μ 0 5).toNatClampNeg)) = 32 then (mX12_go_h0 n (fm_i μ 0 5 ((fI μ 0 5) + 1))) else (if (fI μ 1 ((fI μ 0 5).toNatClampNeg)) = 10 then (mX12_go_h0 n (fm_i μ 0 5 ((fI μ 0 5) + 1))) else goT μ))) := by
  rw [mX12_go_h0]
  delta goT goX
  rfl
theorem go_q (n : Nat) (μ : fm_T) : qX12_go_h0 (n + 1) μ = (((fI μ 0 3) ≤ (fI μ 0 5) → goP μ) ∧ (¬ (fI μ 0 3) ≤ (fI μ 0 5) → (vp_in (fI μ 0 5) 940) ∧ (((fI μ 1 ((fI μ 0 5).toNatClampNeg)) = 32 → qX12_go_h0 n (fm_i μ 0 5 ((fI μ 0 5) + 1))) ∧ (¬ (fI μ 1 ((fI μ 0 5).toNatClampNeg)) = 32 → (vp_in (fI μ 0 5) 940) ∧ ((¬ (fI μ 1 ((fI μ 0 5).toNatClampNeg)) = 10 → goP μ) ∧ ((fI μ 1 ((fI μ 0 5).toNatClampNeg)) = 10 → qX12_go_h0 n (fm_i μ 0 5 ((fI μ 0 5) + 1)))))))) := by
  rw [qX12_go_h0]
  delta goP goQ
  rfl
section
variable {b : Nat → Nat} {z l q E : Nat}
theorem gx_m {ν : fm_T} {k a v w : Nat} (mb : MBy b z l ν) (hq : q < z) (h5 : fI ν 0 5 = nI q) (h : (isAn (b q) = false ∧ a = q ∧ E = q + 1 ∧ v = b q ∧ k = (if isSg (b q) then 5 else 1)) ∨ (isAn (b q) = true ∧ a = q ∧ RUN b z q E k v w)) : goQ ν ∧ frL fG fGl ν (goX ν) ∧ TM k a v w E (goX ν) := by
  have mb' := mb
  obtain ⟨m1, m2, m3, m4, m5⟩ := mb
  obtain ⟨b1, b2⟩ := m5 q (by omega)
  have cq : q < 2 ^ 31 := by omega
  have vq : vp_in (nI q) 940 := vp_in_nI (by omega) (by decide)
  unfold goQ goX
  rw [h5, nI_clamp cq, b1, m3]
  obtain ⟨i1, i2⟩ := il_m (μ := fm_i ν 0 6 (nI q)) b2
  rw [i1, i2]
  rcases h with ⟨g1, g2, g3, g4, g5⟩ | ⟨g1, g2, g3⟩
  · unfold isAn at g1
    rw [Bool.or_eq_false_iff] at g1
    rw [g1.1, g1.2]
    have t1 : nI (b q) = 59 ↔ b q = 59 := nI_eq (b := 59) (by omega) (by omega)
    have t2 : nI (b q) = 40 ↔ b q = 40 := nI_eq (b := 40) (by omega) (by omega)
    have t3 : nI (b q) = 41 ↔ b q = 41 := nI_eq (b := 41) (by omega) (by omega)
    have t4 : nI (b q) = 60 ↔ b q = 60 := nI_eq (b := 60) (by omega) (by omega)
    have t5 : nI (b q) = 61 ↔ b q = 61 := nI_eq (b := 61) (by omega) (by omega)
    have t6 : nI (b q) = 62 ↔ b q = 62 := nI_eq (b := 62) (by omega) (by omega)
    simp only [Bool.false_eq_true, if_false, if_true, t1, t2, t3, t4, t5, t6, nI_1]
    have fin : ∀ x : Int32, frL fG fGl ν (fm_i (fm_i (fm_i (fm_i ν 0 6 (nI q)) 0 7 x) 0 9 (nI (b q))) 0 5 (nI (q + 1))) ∧ (x = nI (kM k) → TM k a v w E (fm_i (fm_i (fm_i (fm_i ν 0 6 (nI q)) 0 7 x) 0 9 (nI (b q))) 0 5 (nI (q + 1)))) := fun x => by
      refine ⟨((((frL.rf fG fGl ν).i ⟨rfl, by omega, by omega⟩).i ⟨rfl, by omega, by omega⟩).i ⟨rfl, by omega, by omega⟩).i ⟨rfl, by omega, by omega⟩, fun hx => ⟨?_, ?_, fun _ _ => ?_, fun _ => ?_, fun z => ?_, fun z => ?_⟩⟩
      · rw [fI_i, if_neg (by omega), fI_i, if_neg (by omega), fI_i, if_pos ⟨rfl, rfl⟩]; exact hx
      · rw [fI_i, if_neg (by omega), fI_i, if_neg (by omega), fI_i, if_neg (by omega), fI_i, if_pos ⟨rfl, rfl⟩, g2]
      · rw [fI_i, if_pos ⟨rfl, rfl⟩, g3]
      · rw [fI_i, if_neg (by omega), fI_i, if_pos ⟨rfl, rfl⟩, g4]
      · rw [g5] at z; split at z <;> omega
      · rw [g5] at z; split at z <;> omega
    refine ⟨fun _ => ⟨vq, fun z => absurd trivial z, fun _ z => absurd trivial z⟩, ?_⟩
    cases s : isSg (b q)
    · rw [s] at g5
      have k1 : k = 1 := g5
      unfold isSg at s
      simp only [Bool.or_eq_false_iff, beq_eq_false_iff_ne] at s
      obtain ⟨⟨⟨⟨⟨s1, s2⟩, s3⟩, s4⟩, s5⟩, s6⟩ := s
      simp only [if_neg s1, if_neg s2, if_neg s3, if_neg s4, if_neg s5, if_neg s6]
      exact ⟨(fin 1).1, (fin 1).2 (by rw [k1]; rfl)⟩
    · rw [s] at g5
      have k5 : k = 5 := g5
      obtain ⟨f1, f2⟩ := fin 4
      have f2 := f2 (by rw [k5]; rfl)
      unfold isSg at s
      simp only [Bool.or_eq_true, beq_iff_eq] at s
      by_cases s1 : b q = 59
      · simp only [if_pos s1]; exact ⟨f1, f2⟩
      · by_cases s2 : b q = 40
        · simp only [if_neg s1, if_pos s2]; exact ⟨f1, f2⟩
        · by_cases s3 : b q = 41
          · simp only [if_neg s1, if_neg s2, if_pos s3]; exact ⟨f1, f2⟩
          · by_cases s4 : b q = 60
            · simp only [if_neg s1, if_neg s2, if_neg s3, if_pos s4]; exact ⟨f1, f2⟩
            · by_cases s5 : b q = 61
              · simp only [if_neg s1, if_neg s2, if_neg s3, if_neg s4, if_pos s5]; exact ⟨f1, f2⟩
              · simp only [if_neg s1, if_neg s2, if_neg s3, if_neg s4, if_neg s5, if_pos (show b q = 62 by omega)]; exact ⟨f1, f2⟩
  · obtain ⟨r1, r2, r3, r4, r5⟩ := g3
    have fr : frL fG fGl ν (fm_i (fm_l (fm_i ν 0 6 (nI q)) 0 12 0) 0 8 0) := (((frL.rf fG fGl ν).i ⟨rfl, by omega, by omega⟩).l ⟨rfl, rfl⟩).i ⟨rfl, by omega, by omega⟩
    obtain ⟨u1, U, u2, u3, u4, u5, u6, u7, u8⟩ := rum_g (q := q) mb' r2 r3 r4 (nI (b q)) (E - q) q fF (fm_i (fm_l (fm_i ν 0 6 (nI q)) 0 12 0) 0 8 0) 1 (by omega) (fF_gt (by omega)) (Nat.le_refl _) fr (by rw [fI_i, if_neg (by omega), fI_l, fI_i, if_neg (by omega)]; exact h5) (by rw [fI_i, if_neg (by omega), fI_l, fI_i, if_pos ⟨rfl, rfl⟩]) (by rw [Nat.sub_self]; rfl) (fun _ _ _ => by rw [Nat.sub_self, fL_i, fL_lq]; rfl) (fun _ _ _ => by rw [Nat.sub_self, fI_i, if_pos ⟨rfl, rfl⟩]; rfl)
    have tm : TM k a v w E U := by
      have allL : smN b q (E - q) = true → isLt (b q) = true → ∀ i, q ≤ i → i < E → isLt (b i) = true := fun s t i h1 h2 => by
        have := (sm_iff _).mp s (i - q) (by omega)
        rw [show q + (i - q) = i by omega, t] at this
        exact this
      have allD : smN b q (E - q) = true → isLt (b q) = false → ∀ i, q ≤ i → i < E → isDg (b i) = true := fun s t i h1 h2 => by
        have h3 := (sm_iff _).mp s (i - q) (by omega)
        rw [show q + (i - q) = i by omega, t] at h3
        have h4 := r3 i h1 h2
        unfold isAn at h4
        rw [h3, Bool.false_or] at h4
        exact h4
      have ld : ∀ c, isLt c = true → isDg c = false := fun c h => by
        have h1 := lt_iff.mp h
        cases y : isDg c
        · rfl
        · have := dg_iff.mp y; omega
      have dl : ∀ c, isDg c = true → isLt c = false := fun c h => by
        have h1 := dg_iff.mp h
        cases y : isLt c
        · rfl
        · have := lt_iff.mp y; omega
      rcases r5 with ⟨c1, c2, c3, c4⟩ | ⟨c1, c2, c3, c4⟩ | ⟨c1, c2, c3⟩
      · have t := c1 q (Nat.le_refl _) r1
        have s : smN b q (E - q) = true := (sm_iff _).mpr (fun i hi => by rw [t]; exact c1 (q + i) (by omega) (by omega))
        have k7 : fI U 0 7 = nI (kM k) := by
          rw [u6, if_pos s, if_pos t, if_pos c2]
          rcases c4 with ⟨y, -⟩ | ⟨y, -⟩ <;> rw [y] <;> rfl
        have cv := (cd_7 (b := b) (q := q) (n := E - q) (by omega) (fun i hi => c1 (q + i) (by omega) (by omega))).2
        exact ⟨k7, by rw [g2]; exact u5, fun _ _ => u4, fun y => by omega, fun y => by omega, fun _ => by rw [u7 t s c2, c3, cv]⟩
      · have t := dl _ (c1 q (Nat.le_refl _) r1)
        have s : smN b q (E - q) = true := (sm_iff _).mpr (fun i hi => by rw [t]; exact dl _ (c1 (q + i) (by omega) (by omega)))
        have k7 : fI U 0 7 = nI (kM k) := by
          rw [u6, if_pos s, t, if_neg (by decide), if_pos c2, c3]
          rfl
        exact ⟨k7, by rw [g2]; exact u5, fun _ _ => u4, fun y => by omega, fun _ => by rw [u8 t s c2, c4], fun y => by omega⟩
      · have k7 : fI U 0 7 = nI (kM k) := by
          rw [u6, c1]
          cases s : smN b q (E - q)
          · rfl
          · cases t : isLt (b q)
            · by_cases y : E ≤ q + 3
              · exact absurd ⟨allD s t, y⟩ c3
              · rw [if_pos rfl, if_neg (by decide), if_neg y]; rfl
            · by_cases y : E ≤ q + 7
              · exact absurd ⟨allL s t, y⟩ c2
              · rw [if_pos rfl, if_pos rfl, if_neg y]; rfl
        exact ⟨k7, by rw [g2]; exact u5, fun _ y => absurd c1 y, fun y => by omega, fun y => by omega, fun y => by omega⟩
    have n1 : ¬ (1 : Int32) = 0 := by decide
    cases t : isLt (b q)
    · have d : isDg (b q) = true := by
        unfold isAn at g1
        rw [t, Bool.false_or] at g1
        exact g1
      rw [t] at u1 u2
      rw [d]
      simp only [Bool.false_eq_true, if_false, if_true, if_neg n1] at u1 u2 ⊢
      rw [u2]
      exact ⟨fun _ => ⟨vq, fun z => absurd trivial z, fun _ _ => u1⟩, u3, tm⟩
    · rw [t] at u1 u2
      simp only [if_true, if_neg n1] at u1 u2 ⊢
      rw [u2]
      exact ⟨fun _ => ⟨vq, fun _ => u1, fun z => absurd z n1⟩, u3, tm⟩
theorem go_m {ν : fm_T} {P k a v w : Nat} (mb : MBy b z l ν) (h5 : fI ν 0 5 = nI P) (tk : TK b z l P k a v w E) : pX12_go ν ∧ frL fG fGl ν (uX12_go ν) ∧ TM k a v w E (uX12_go ν) := by
  obtain ⟨q, q1, q2, q3, q4, q5⟩ := tk
  obtain ⟨f, ν2, s1, s2, s3, s4⟩ := skm_g mb q2 (q - P) P fF ν (by omega) (fF_gt (by have := mb.1; omega)) q3 (frL.rf _ _ _) h5
  have mb2 := MBy_f mb s2
  have m1 := mb2.1
  have m2 := mb2.2.1
  have m3 := mb2.2.2.1
  have m4 := mb2.2.2.2.1
  have m5 := mb2.2.2.2.2
  have hz : nI z ≤ nI q ↔ z ≤ q := nI_leI (by omega) (by omega)
  have hl : nI z ≤ nI l ↔ z ≤ l := nI_leI (by omega) (by omega)
  have lt1 : nI q < nI l ↔ q < l := nI_ltI (by omega) (by omega)
  have lt2 : nI q < nI z ↔ q < z := nI_ltI (by omega) (by omega)
  have main : goP ν2 ∧ frL fG fGl ν2 (goT ν2) ∧ TM k a v w E (goT ν2) := by
    unfold goP goT
    rw [s1, m3, m4]
    simp only [hl, lt1, lt2]
    have wr : k = 1 → a = l → frL fG fGl ν2 (fm_i (fm_i (fm_i ν2 0 6 (nI q)) 0 6 (nI l)) 0 7 1) ∧ TM k a v w E (fm_i (fm_i (fm_i ν2 0 6 (nI q)) 0 6 (nI l)) 0 7 1) := fun k1 al => by
      refine ⟨(((frL.rf fG fGl ν2).i ⟨rfl, by omega, by omega⟩).i ⟨rfl, by omega, by omega⟩).i ⟨rfl, by omega, by omega⟩, ?_, ?_, fun _ y => absurd k1 y, fun y => by omega, fun y => by omega, fun y => by omega⟩
      · rw [fI_i, if_pos ⟨rfl, rfl⟩, k1]; rfl
      · rw [fI_i, if_neg (by omega), fI_i, if_pos ⟨rfl, rfl⟩, al]
    have en : k = 0 → a = q → frL fG fGl ν2 (fm_i (fm_i ν2 0 6 (nI q)) 0 7 0) ∧ TM k a v w E (fm_i (fm_i ν2 0 6 (nI q)) 0 7 0) := fun k1 al => by
      refine ⟨((frL.rf fG fGl ν2).i ⟨rfl, by omega, by omega⟩).i ⟨rfl, by omega, by omega⟩, ?_, ?_, fun y => absurd k1 y, fun y => by omega, fun y => by omega, fun y => by omega⟩
      · rw [fI_i, if_pos ⟨rfl, rfl⟩, k1]; rfl
      · rw [fI_i, if_neg (by omega), fI_i, if_pos ⟨rfl, rfl⟩, al]
    have gqz : ¬ q < z → goQ ν2 := fun y => by
      unfold goQ
      rw [s1, m3, lt2]
      exact fun w => absurd w y
    rcases q5 with ⟨a1, a2, a3, a4⟩ | ⟨a1, a2, a3, a4⟩ | ⟨a1, a2, a3⟩ | ⟨a1, a2, a3⟩
    · simp only [if_neg (show ¬ z ≤ l by omega), if_neg (show ¬ q < l by omega)]
      exact ⟨⟨fun y => absurd y (by omega), fun _ y => absurd y (by omega)⟩, wr a3 a4⟩
    · by_cases y : z ≤ l
      · simp only [if_pos y, if_neg (show ¬ q < z by omega)]
        exact ⟨⟨fun _ => gqz (by omega), fun w => absurd y w⟩, en a3 a4⟩
      · simp only [if_neg y, if_pos (show q < l by omega), if_neg (show ¬ q < z by omega)]
        exact ⟨⟨fun w => absurd w y, fun _ _ => gqz (by omega)⟩, en a3 a4⟩
    · obtain ⟨g1, g2, g3⟩ := gx_m mb2 a2 s1 (Or.inl a3)
      by_cases y : z ≤ l
      · simp only [if_pos y, if_pos a2]
        exact ⟨⟨fun _ => g1, fun w => absurd y w⟩, g2, g3⟩
      · simp only [if_neg y, if_pos (show q < l by omega), if_pos a2]
        exact ⟨⟨fun w => absurd w y, fun _ _ => g1⟩, g2, g3⟩
    · obtain ⟨g1, g2, g3⟩ := gx_m mb2 a2 s1 (Or.inr a3)
      by_cases y : z ≤ l
      · simp only [if_pos y, if_pos a2]
        exact ⟨⟨fun _ => g1, fun w => absurd y w⟩, g2, g3⟩
      · simp only [if_neg y, if_pos (show q < l by omega), if_pos a2]
        exact ⟨⟨fun w => absurd w y, fun _ _ => g1⟩, g2, g3⟩
  obtain ⟨n1, n2, n3⟩ := main
  have hm : mX12_go_h0 (f + 1) ν2 = goT ν2 ∧ qX12_go_h0 (f + 1) ν2 := by
    rw [go_h, go_q, s1, m3]
    by_cases y : z ≤ q
    · rw [if_pos (hz.mpr y)]
      exact ⟨rfl, fun _ => n1, fun w => absurd (hz.mpr y) w⟩
    · have y' : ¬ nI z ≤ nI q := fun w => y (hz.mp w)
      obtain ⟨b1, b2⟩ := m5 q (by omega)
      have nb : isBl (b q) = false := q4.resolve_left (by omega)
      have n32 : ¬ b q = 32 := fun w => by rw [bl_iff.mpr (Or.inl w)] at nb; exact absurd nb (by decide)
      have n10 : ¬ b q = 10 := fun w => by rw [bl_iff.mpr (Or.inr w)] at nb; exact absurd nb (by decide)
      have t32 : ¬ nI (b q) = 32 := fun w => n32 (nI_inj (b := 32) (by omega) (by omega) w)
      have t10 : ¬ nI (b q) = 10 := fun w => n10 (nI_inj (b := 10) (by omega) (by omega) w)
      rw [if_neg y', nI_clamp (by omega), b1, if_neg t32, if_neg t10]
      have v : vp_in (nI q) 940 := vp_in_nI (by omega) (by decide)
      exact ⟨rfl, fun w => absurd w y', fun _ => ⟨v, fun w => absurd w t32, fun _ => ⟨v, fun _ => n1, fun w => absurd w t10⟩⟩⟩
  have e1 : uX12_go ν = goT ν2 := s3.trans hm.1
  have e2 : pX12_go ν := s4 hm.2
  rw [e1]
  exact ⟨e2, s2.tr n2, n3⟩
end
