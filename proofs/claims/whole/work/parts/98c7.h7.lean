def fEc (k a j : Nat) : Prop := fAc a j ∨ (a = 77 ∧ 6 * k ≤ j ∧ j < 6 * k + 6)
def ChN (k : Nat) (c : Nat → Nat) (μ ν : fm_T) : Prop := ∀ s, s < 6 → fI μ 77 (6 * k + s) = nI (c s) ∧ fI ν 3 (11 + 8 * k + s) = nI (c s) ∧ c s ≤ 20
section
variable {b : Nat → Nat} {z l last : Nat} {K A V W P : Nat → Nat} {τ : sg_T}
def AgR (b : Nat → Nat) (z l last : Nat) (K A V W P : Nat → Nat) (n k : Nat) (gC gM : Int32) (U T : fm_T) : Prop := (gC = 0 ∧ gM = 0 ∧ FQ U T) ∨ (gC = 1 ∧ gM = 1 ∧ ∃ n' c, n ≤ n' ∧ LK b z l last K A V W P n' U T ∧ ChN k c U T) ∨ (gC = 0 ∧ gM = 1 ∧ ∃ n' X, LK b z l last K A V W P n' X T ∧ ¬ (K n' = 5 ∧ V n' = 59) ∧ U = uX7_fail X 1)
theorem ag_30 {k : Nat} (lx : LXs b z l last K A V W P) (hk : k < 6) (h5 : τ 0 5 ≤ 6) : ∀ (cc B n f f' : Nat) (c : Nat → Nat) (μ ν : fm_T), pc6 B + cc = 6 → B < 64 → cc < f → cc < f' → LK b z l last K A V W P n μ ν → HDs τ 0 μ ν → ChN k c μ ν →
    qX2_readAgent_h30 f μ (nI k) (nI B) (nI (pc6 B)) ∧ qX12_readAgent_h62 f' ν (nI (10 + 8 * k)) (nI B) ∧ ∃ U T, mX2_readAgent_h30 f μ (nI k) (nI B) (nI (pc6 B)) = U ∧ mX12_readAgent_h62 f' ν (nI (10 + 8 * k)) (nI B) = T ∧ frL (fEc k) fA1l μ U ∧ frL (fDm (11 + 8 * k) (16 + 8 * k)) fGl ν T ∧
    AgR b z l last K A V W P n k (lX2_readAgent_h30 f μ (nI k) (nI B) (nI (pc6 B))) (lX12_readAgent_h62 f' ν (nI (10 + 8 * k)) (nI B)) U T := by
  have ck : (nI k).toNatClampNeg = k := nI_clamp (by omega)
  have y0 : nI 0 = (0 : Int32) := rfl
  have y20 : nI 20 = (20 : Int32) := rfl
  have y59 : nI 59 = (59 : Int32) := rfl
  have ix1 : nI (10 + 8 * k) + 1 = nI (11 + 8 * k) := by rw [nI_1]; congr 1; omega
  have n10 : ¬ (1 : Int32) = 0 := by decide
  intro cc
  induction cc using Nat.strongRecOn with
  | _ cc ih =>
    intro B n f f' c μ ν h1 h2 h3 h4 lk hd ch
    obtain ⟨f, rfl⟩ : ∃ m, f = m + 1 := ⟨f - 1, by omega⟩
    obtain ⟨f', rfl⟩ : ∃ m, f' = m + 1 := ⟨f' - 1, by omega⟩
    have n6 : ¬ (6 : Int32) < nI (pc6 B) := fun y => by have := (nI_ltI (a := 6) (by omega) (by have := pc6_le B; omega)).mp y; have := pc6_le B; omega
    obtain ⟨w1, w2⟩ := psg lx lk (c := 59) (by omega)
    rw [y59] at w1 w2
    have m2 : fI ν 0 7 = 2 ↔ kM (K n) = 2 := lk_M lx lk 2 (by omega)
    rw [kM_2] at m2
    by_cases k5 : K n = 5 ∧ V n = 59
    · have c5 : ¬ gX7_isSign μ 59 = 0 := fun y => w1.mp y k5
      have m7 : ¬ fI ν 0 7 = 2 := fun y => by have := m2.mp y; omega
      simp only [qX2_readAgent_h30, mX2_readAgent_h30, lX2_readAgent_h30, qX12_readAgent_h62, mX12_readAgent_h62, lX12_readAgent_h62, if_neg n6, if_neg c5, if_neg m7]
      exact ⟨fun _ y => absurd y c5, fun y => absurd y m7, μ, ν, rfl, rfl, frL.rf _ _ _, frL.rf _ _ _, Or.inr (Or.inl ⟨rfl, rfl, n, c, by omega, lk, ch⟩)⟩
    · have c5 : gX7_isSign μ 59 = 0 := w1.mpr k5
      obtain ⟨s1, s2, s3, s4, s5⟩ := tn_ok lx lk hd (by omega) (show B < 512 by omega)
      rw [y0] at s1 s2 s3 s4 s5
      by_cases k23 : K n = 2 ∨ K n = 3
      · have m7 : fI ν 0 7 = 2 := m2.mpr k23
        simp only [qX2_readAgent_h30, mX2_readAgent_h30, lX2_readAgent_h30, qX12_readAgent_h62, mX12_readAgent_h62, lX12_readAgent_h62, if_neg n6, c5, m7, if_true, ix1]
        have hd3 := HDs_g hd s3 s4 (by unfold fAc; omega) (fun j => by unfold fA1l; omega) (by unfold fGm; omega) (fun j => by unfold fGl; omega)
        have ch1 : ChN k c (uX2_takeName μ 0 (nI B)) (uX12_readOld ν 0 (nI B)) := fun s hs => by
          rw [s3.2.2.2 77 _ (by unfold fAc; omega), s4.2.2.2 3 _ (by unfold fGm; omega)]
          exact ch s hs
        generalize uX2_takeName μ 0 (nI B) = X at s3 s5 hd3 ch1 ⊢
        generalize uX12_readOld ν 0 (nI B) = Y at s4 s5 hd3 ch1 ⊢
        rcases s5 with ⟨d1, d2, d3⟩ | ⟨j, d1, d2, d3, d4, d5, d6, d7⟩
        · simp only [d1, d2, if_true]
          exact ⟨fun _ _ => ⟨s1, fun y => absurd trivial y⟩, fun _ => ⟨s2, fun y => absurd trivial y⟩, X, Y, rfl, rfl, s3.mo (fun _ _ y => Or.inl y) (fun _ _ y => y), s4.mo (fun _ _ y => Or.inl y) (fun _ _ y => y), Or.inl ⟨rfl, rfl, d3⟩⟩
        · have dj : j < τ 0 5 := d1
          obtain ⟨g1, g2, g3⟩ := st_64p B h2 j (by omega) d2
          have ne : ¬ nI j = -1 := nI_m1 (by omega)
          have pcs : nI (pc6 B) + 1 = nI (pc6 (B + 2 ^ j)) := by rw [nI_1, g3]
          have jx : nI k * (6 : Int32) + nI j = nI (6 * k + j) := by rw [show (6 : Int32) = nI 6 from rfl, nI_mul, nI_add, Nat.mul_comm]
          have jy : nI (11 + 8 * k) + nI j = nI (11 + 8 * k + j) := nI_add _ _
          have cjx : (nI (6 * k + j)).toNatClampNeg = 6 * k + j := nI_clamp (by omega)
          have cjy : (nI (11 + 8 * k + j)).toNatClampNeg = 11 + 8 * k + j := nI_clamp (by omega)
          have vjx : vp_in (nI (6 * k + j)) 36 := vp_in_nI (by omega) (by decide)
          have vjy : vp_in (nI (11 + 8 * k + j)) 130 := vp_in_nI (by omega) (by decide)
          simp only [d4, d5, d6, if_neg ne, if_neg n10, g1, pcs, jx, jy, cjx, cjy]
          obtain ⟨t1, t2, t3, t4, t5⟩ := ptn lx d7 (lo := 0) (hi := 20) (by omega) (by omega)
          simp only [y0, y20] at t1 t2 t3 t4 t5
          have hd4 := HDs_g hd3 t3 t4 (by unfold fAc; omega) (fun j => by unfold fA1l; omega) (by unfold fGm; omega) (fun j => by unfold fGl; omega)
          have ch2 : ChN k c (uX7_takeNumber X 0 20) (uX12_readNumber Y 0 20) := fun s hs => by
            rw [t3.2.2.2 77 _ (by unfold fAc; omega), t4.2.2.2 3 _ (by unfold fGm; omega)]
            exact ch1 s hs
          have fX := s3.tr t3
          have fY := s4.tr t4
          generalize uX7_takeNumber X 0 20 = X2 at t3 t5 hd4 ch2 fX ⊢
          generalize uX12_readNumber Y 0 20 = Y2 at t4 t5 hd4 ch2 fY ⊢
          rcases t5 with ⟨a1, a2, a3⟩ | ⟨a1, a2, a3, a4, a5, a6, a7⟩
          · simp only [a1, a2, if_true]
            exact ⟨fun _ _ => ⟨s1, fun _ => ⟨t1, fun y => absurd trivial y⟩⟩, fun _ => ⟨s2, fun _ => ⟨t2, fun y => absurd trivial y⟩⟩, X2, Y2, rfl, rfl, fX.mo (fun _ _ y => Or.inl y) (fun _ _ y => y), fY.mo (fun _ _ y => Or.inl y) (fun _ _ y => y), Or.inl ⟨rfl, rfl, a3⟩⟩
          · have ne2 : ¬ nI (V (n + 1)) = -1 := nI_m1 (by omega)
            simp only [a4, a5, a6, if_neg ne2, if_neg n10]
            have p6 := pc6_le (B + 2 ^ j)
            obtain ⟨i1, i2, U, T, i3, i4, i5, i6, i7⟩ := ih (cc - 1) (by omega) (B + 2 ^ j) (n + 1 + 1) f f' (fun s => if s = j then V (n + 1) else c s) (fm_i X2 77 (6 * k + j) (nI (V (n + 1)))) (fm_i Y2 3 (11 + 8 * k + j) (nI (V (n + 1)))) (by omega) g2 (by omega) (by omega) (LK_c a7 (by omega)) (HDs_g hd4 ((frL.rf (fun a _ => a = 77) fN X2).i rfl) ((frL.rf (fun a i => a = 3 ∧ i = 11 + 8 * k + j) fN Y2).i ⟨rfl, rfl⟩) (by omega) (fun j y => by unfold fN at y; exact y) (by omega) (fun j y => by unfold fN at y; exact y)) (fun s hs => by
              dsimp only
              by_cases e : s = j
              · subst e
                rw [if_pos rfl, fI_i, if_pos ⟨rfl, rfl⟩, fI_i, if_pos ⟨rfl, rfl⟩]
                exact ⟨rfl, rfl, a3⟩
              · rw [if_neg e, fI_i, if_neg (by omega), fI_i, if_neg (by omega)]
                exact ch2 s hs)
            refine ⟨fun _ _ => ⟨s1, fun _ => ⟨t1, fun _ => ⟨vjx, i1⟩⟩⟩, fun _ => ⟨s2, fun _ => ⟨t2, fun _ => ⟨vjy, i2⟩⟩⟩, U, T, i3, i4, ((fX.mo (fun _ _ y => Or.inl y) (fun _ _ y => y)).i (Or.inr ⟨rfl, by omega, by omega⟩)).tr i5, ((fY.mo (fun _ _ y => Or.inl y) (fun _ _ y => y)).i (Or.inr ⟨rfl, by omega, by omega⟩)).tr i6, ?_⟩
            rcases i7 with q | ⟨q1, q2, n', c', q3, q4⟩ | q
            · exact Or.inl q
            · exact Or.inr (Or.inl ⟨q1, q2, n', c', by omega, q4⟩)
            · exact Or.inr (Or.inr q)
      · have m7 : ¬ fI ν 0 7 = 2 := fun y => k23 (m2.mp y)
        have c3 : ¬ fI μ 1 9 = 3 := fun y => k23 (Or.inr ((pnm lx lk).2.2.mp y))
        have eu : uX2_takeName μ 0 (nI B) = uX7_fail μ 1 := by unfold uX2_takeName; rw [if_neg c3]
        have eg : gX2_takeName μ 0 (nI B) = -1 := by unfold gX2_takeName; rw [if_neg c3]
        simp only [qX2_readAgent_h30, mX2_readAgent_h30, lX2_readAgent_h30, qX12_readAgent_h62, mX12_readAgent_h62, lX12_readAgent_h62, if_neg n6, c5, if_neg m7, if_true, eg]
        exact ⟨fun _ _ => ⟨s1, fun y => absurd trivial y⟩, fun y => absurd y m7, _, ν, rfl, rfl, s3.mo (fun _ _ y => Or.inl y) (fun _ _ y => y), frL.rf _ _ _, Or.inr (Or.inr ⟨rfl, rfl, n, μ, lk, k5, eu⟩)⟩
end
