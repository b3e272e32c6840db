section
variable {b : Nat → Nat} {z l last : Nat} {K A V W P : Nat → Nat} {n2 wi : Nat} {nm : Nat → Nat}
theorem all_15 (lx : LXs b z l last K A V W P) {rC : Nat → fm_T → Int32 → Int32 × fm_T} {qC : Nat → fm_T → Int32 → Prop} {rM : Nat → fm_T → Int32 × fm_T} {qM : Nat → fm_T → Prop} {x3 : Int32} (hp : HP b z l last K A V W P n2 nm wi (fun μ => rC 2 μ x3) (fun μ => qC 2 μ x3) (fun ν => rM 2 ν) (fun ν => qM 2 ν)) {so0 st0 : Nat} (hs0 : st0 ≤ 2 * so0) {μ0 ν0 : fm_T} : ∀ (c i so st n f f' : Nat) (μ ν : fm_T), so + c = 20 → c < f → c < f' → LK b z l last K A V W P n μ ν → RlN so st wi μ ν → CNe n2 nm μ ν → frL (fRc st0) fA1l μ0 μ → frL (fRm st0) fGl ν0 ν → so0 < so → st0 < st → i + so0 + 1 ≤ so → st + 1 ≤ st0 + 2 * (so - so0) → TG st (blk μ 85) (aNd ν) st0 st (st - 1) n2 →
    qX5_readAll_h15 rC qC f μ x3 (nI i) ∧ qX12_readAnd_h14 rM qM f' ν (nI (st - 1)) ∧ RQ b z l last K A V W P n2 so0 st0 wi (lX5_readAll_h15 rC f μ x3 (nI i)) μ0 (mX5_readAll_h15 rC f μ x3 (nI i)) (lX12_readAnd_h14 rM f' ν (nI (st - 1))) ν0 (mX12_readAnd_h14 rM f' ν (nI (st - 1))) := by
  intro c
  induction c using Nat.strongRecOn with
  | ind c ih =>
    intro i so st n f f' μ ν h1 h2 h3 lk rl cn fr1 fr2 o1 o2 o3 o4 tg
    obtain ⟨f, rfl⟩ : ∃ m, f = m + 1 := ⟨f - 1, by omega⟩
    obtain ⟨f', rfl⟩ : ∃ m, f' = m + 1 := ⟨f' - 1, by omega⟩
    have e1 : ¬ (20 : Int32) ≤ nI i := fun y => by have := (nI_leI (a := 20) (by omega) (by omega)).mp y; omega
    obtain ⟨w1, w2, w3⟩ := pw lx lk (i := 11) (by omega)
    have w1 : gX7_isWord μ 11 = 0 ↔ ¬ (K n = 2 ∧ V n = 11) := w1
    have w2 : gX12_isWord ν 11 = 0 ↔ ¬ (K n = 2 ∧ V n = 11) := w2
    have w3 : pX12_isWord ν 11 := w3
    have rl0 := rl
    obtain ⟨r1, r2, r3, r4, r5, r6, r7, r8⟩ := rl
    simp only [qX5_readAll_h15, lX5_readAll_h15, mX5_readAll_h15, qX12_readAnd_h14, lX12_readAnd_h14, mX12_readAnd_h14, if_neg e1]
    by_cases y : K n = 2 ∧ V n = 11
    · have a1 : ¬ gX7_isWord μ 11 = 0 := fun q => w1.mp q y
      have a2 : ¬ gX12_isWord ν 11 = 0 := fun q => w2.mp q y
      simp only [if_neg a1, if_neg a2]
      obtain ⟨b1, b2, b3, b4, b5⟩ := pad lx lk (by omega) (by omega)
      have rl1 : RlN so st wi (uX7_advance μ) (uX12_go ν) := ⟨by rw [b3.2.2.2 85 3 (by unfold fA1; omega)]; exact r1, by rw [b3.2.2.2 85 4 (by unfold fA1; omega)]; exact r2, by rw [b4.2.2.2 0 61 (by unfold fG; omega)]; exact r3, by rw [b4.2.2.2 0 62 (by unfold fG; omega)]; exact r4, by rw [b4.2.2.2 0 63 (by unfold fG; omega)]; exact r5, r6, r7, r8⟩
      have b3' : frL (fRc st) fA1l μ (uX7_advance μ) := b3.mo (fun _ _ q => fA1_R q) (fun _ _ q => q)
      have b4' : frL (fRm st) fGl ν (uX12_go ν) := b4.mo (fun _ _ q => fG_R q) (fun _ _ q => q)
      obtain ⟨c1, c2, c3, c4, c5⟩ := hp (n + 1) so st _ _ b5 rl1 (CNe_f cn b3' b4')
      simp only at c1 c2 c3 c4 c5
      have gr1 : frL (fRc st) fA1l μ (rC 2 (uX7_advance μ) x3).2 := b3'.tr c3
      have gr2 : frL (fRm st) fGl ν (rM 2 (uX12_go ν)).2 := b4'.tr c4
      rcases c5 with ⟨d1, d2, d3⟩ | ⟨d1, d2, n', so', st', lk', rl', p1, p2, p3, p4, p5⟩
      · simp only [if_pos d1, if_pos d2]
        exact ⟨fun _ _ => ⟨b1, c1, fun q => absurd d1 q⟩, ⟨w3, fun _ => ⟨b2, c2, fun q => absurd d2 q⟩⟩, fr1.tr (gr1.mo (fun _ _ q => fRc_m (by omega) q) (fun _ _ q => q)), fr2.tr (gr2.mo (fun _ _ q => fRm_m (by omega) q) (fun _ _ q => q)), Or.inl ⟨rfl, rfl, d3⟩⟩
      · have n1 : ¬ (1 : Int32) = 0 := by decide
        have d1' : ¬ (rC 2 (uX7_advance μ) x3).1 = 0 := by rw [d1]; exact n1
        have d2' : ¬ (rM 2 (uX12_go ν)).1 = 0 := by rw [d2]; exact n1
        simp only [if_neg d1', if_neg d2']
        generalize (rC 2 (uX7_advance μ) x3).2 = M at gr1 lk' rl' p5 ⊢
        generalize (rM 2 (uX12_go ν)).2 = N at gr2 lk' rl' p4 p5 ⊢
        obtain ⟨s1, s2, s3, s4, s5, s6, s7, s8⟩ := rl'
        have hst : st' < 40 := by omega
        obtain ⟨k1, k2⟩ := as_ok s1 hst 11 0 0
        obtain ⟨k3, k4, k5⟩ := ly_ok s3 hst 2 (nI (st - 1)) (nI (st' - 1)) 0
        rw [p4, k2, k4, k5]
        have g1 : frL (fun k j => (k = 85 ∧ (j = 3 ∨ j = 4)) ∨ (86 ≤ k ∧ k ≤ 88 ∧ st' ≤ j)) fN M (fm_i (fm_i (fm_i (fm_i M 86 st' 11) 87 st' 0) 88 st' 0) 85 3 (nI (st' + 1))) := ((((frL.rf _ fN M).i (by omega)).i (by omega)).i (by omega)).i (by omega)
        have g2 : frL (fun k j => (k = 0 ∧ j = 61) ∨ (k = 33 ∧ 4 * st' ≤ j)) fN N (fm_i (fm_i (fm_i (fm_i (fm_i N 33 (4 * st') 2) 33 (4 * st' + 1) (nI (st - 1))) 33 (4 * st' + 2) (nI (st' - 1))) 33 (4 * st' + 3) 0) 0 61 (nI (st' + 1))) := (((((frL.rf _ fN N).i (by omega)).i (by omega)).i (by omega)).i (by omega)).i (by omega)
        have v86 : fI (fm_i (fm_i (fm_i (fm_i M 86 st' 11) 87 st' 0) 88 st' 0) 85 3 (nI (st' + 1))) 86 st' = 11 := by rw [fI_i, if_neg (by omega), fI_i, if_neg (by omega), fI_i, if_neg (by omega), fI_i, if_pos ⟨rfl, rfl⟩]
        have v3 : fI (fm_i (fm_i (fm_i (fm_i M 86 st' 11) 87 st' 0) 88 st' 0) 85 3 (nI (st' + 1))) 85 3 = nI (st' + 1) := by rw [fI_i, if_pos ⟨rfl, rfl⟩]
        have v4 : fI (fm_i (fm_i (fm_i (fm_i M 86 st' 11) 87 st' 0) 88 st' 0) 85 3 (nI (st' + 1))) 85 4 = nI so' := by rw [fI_i, if_neg (by omega), fI_i, if_neg (by omega), fI_i, if_neg (by omega), fI_i, if_neg (by omega)]; exact s2
        have u0 : fI (fm_i (fm_i (fm_i (fm_i (fm_i N 33 (4 * st') 2) 33 (4 * st' + 1) (nI (st - 1))) 33 (4 * st' + 2) (nI (st' - 1))) 33 (4 * st' + 3) 0) 0 61 (nI (st' + 1))) 33 (4 * st') = 2 := by rw [fI_i, if_neg (by omega), fI_i, if_neg (by omega), fI_i, if_neg (by omega), fI_i, if_neg (by omega), fI_i, if_pos ⟨rfl, rfl⟩]
        have u1 : fI (fm_i (fm_i (fm_i (fm_i (fm_i N 33 (4 * st') 2) 33 (4 * st' + 1) (nI (st - 1))) 33 (4 * st' + 2) (nI (st' - 1))) 33 (4 * st' + 3) 0) 0 61 (nI (st' + 1))) 33 (4 * st' + 1) = nI (st - 1) := by rw [fI_i, if_neg (by omega), fI_i, if_neg (by omega), fI_i, if_neg (by omega), fI_i, if_pos ⟨rfl, rfl⟩]
        have u2 : fI (fm_i (fm_i (fm_i (fm_i (fm_i N 33 (4 * st') 2) 33 (4 * st' + 1) (nI (st - 1))) 33 (4 * st' + 2) (nI (st' - 1))) 33 (4 * st' + 3) 0) 0 61 (nI (st' + 1))) 33 (4 * st' + 2) = nI (st' - 1) := by rw [fI_i, if_neg (by omega), fI_i, if_neg (by omega), fI_i, if_pos ⟨rfl, rfl⟩]
        have u61 : fI (fm_i (fm_i (fm_i (fm_i (fm_i N 33 (4 * st') 2) 33 (4 * st' + 1) (nI (st - 1))) 33 (4 * st' + 2) (nI (st' - 1))) 33 (4 * st' + 3) 0) 0 61 (nI (st' + 1))) 0 61 = nI (st' + 1) := by rw [fI_i, if_pos ⟨rfl, rfl⟩]
        generalize fm_i (fm_i (fm_i (fm_i M 86 st' 11) 87 st' 0) 88 st' 0) 85 3 (nI (st' + 1)) = M2 at g1 v86 v3 v4 ⊢
        generalize fm_i (fm_i (fm_i (fm_i (fm_i N 33 (4 * st') 2) 33 (4 * st' + 1) (nI (st - 1))) 33 (4 * st' + 2) (nI (st' - 1))) 33 (4 * st' + 3) 0) 0 61 (nI (st' + 1)) = N2 at g2 u0 u1 u2 u61 ⊢
        have lk2 : LK b z l last K A V W P n' M2 N2 := LK_R (st' := st') lk' g1 (g2.mo (fun k j q => by omega) (fun _ _ q => q))
        have rl2 : RlN so' (st' + 1) wi M2 N2 := ⟨v3, v4, u61, by rw [g2.2.2.2 0 62 (by omega)] ; exact s4, by rw [g2.2.2.2 0 63 (by omega)]; exact s5, s6, by omega, s8⟩
        have g1' : frL (fRc st0) fA1l M M2 := g1.mo (fun k j q => by unfold fRc; omega) (fun _ _ q => fN_e q)
        have g2' : frL (fRm st0) fGl N N2 := g2.mo (fun k j q => by unfold fRm; omega) (fun _ _ q => fN_e q)
        have T1 : TG st (blk M2 85) (aNd N2) st0 st (st - 1) n2 := TG_fr (st := st) (st' := st) tg (Nat.le_refl _) (Nat.le_refl _) o2 (fun k j h1 h2 h3 => by rw [g1.2.2.2 k j (by omega), gr1.2.2.2 k j (by unfold fRc; omega)]) (fun j hj => by rw [g2.2.2.2 33 j (by omega), gr2.2.2.2 33 j (by unfold fRm; omega)])
        have T2 : TG st' (blk M2 85) (aNd N2) st st' (st' - 1) n2 := TG_fr (st := st') (st' := st') p5 (Nat.le_refl _) (Nat.le_refl _) p2 (fun k j h1 h2 h3 => g1.2.2.2 k j (by omega)) (fun j hj => g2.2.2.2 33 j (by omega))
        have T3 : TG (st' + 1) (blk M2 85) (aNd N2) st0 (st' + 1) (st' + 1 - 1) n2 := by
          have a0 : aNd N2 (2000 + 4 * (st' + 1 - 1)) = 2 := by
            show fI N2 33 (2000 + 4 * (st' + 1 - 1) - 2000) = 2
            rw [show 2000 + 4 * (st' + 1 - 1) - 2000 = 4 * st' by omega]; exact u0
          have a1 : aNd N2 (2001 + 4 * (st' + 1 - 1)) = nI (st - 1) := by
            show fI N2 33 (2001 + 4 * (st' + 1 - 1) - 2000) = nI (st - 1)
            rw [show 2001 + 4 * (st' + 1 - 1) - 2000 = 4 * st' + 1 by omega]; exact u1
          have a2 : aNd N2 (2002 + 4 * (st' + 1 - 1)) = nI (st' - 1) := by
            show fI N2 33 (2002 + 4 * (st' + 1 - 1) - 2000) = nI (st' - 1)
            rw [show 2002 + 4 * (st' + 1 - 1) - 2000 = 4 * st' + 2 by omega]; exact u2
          refine ⟨by omega, by omega, Or.inr (Or.inr (Or.inr (Or.inr (Or.inr (Or.inr (Or.inl ⟨st - 1, st' - 1, st, by omega, by omega, v86, a0, a1, a2, TG_m T1 (by omega), T2⟩))))))⟩
        obtain ⟨i1, i2, i3⟩ := ih (20 - so') (by omega) (i + 1) so' (st' + 1) n' f f' M2 N2 (by omega) (by omega) (by omega) lk2 rl2 (CNe_f (CNe_f cn gr1 gr2) g1' g2') ((fr1.tr (gr1.mo (fun _ _ q => fRc_m (by omega) q) (fun _ _ q => q))).tr g1') ((fr2.tr (gr2.mo (fun _ _ q => fRm_m (by omega) q) (fun _ _ q => q))).tr g2') (by omega) (by omega) (by omega) (by omega) T3
        rw [show st' + 1 - 1 = st' by omega] at i2 i3
        rw [nI_1]
        exact ⟨fun _ _ => ⟨b1, c1, fun _ => ⟨k1, i1⟩⟩, ⟨w3, fun _ => ⟨b2, c2, fun _ => ⟨k3, i2⟩⟩⟩, i3⟩
    · have a1 : gX7_isWord μ 11 = 0 := w1.mpr y
      have a2 : gX12_isWord ν 11 = 0 := w2.mpr y
      simp only [if_pos a1, if_pos a2]
      have g2 : frL (fun k j => (k = 0 ∧ (61 ≤ j ∧ j ≤ 64)) ∨ (k = 33 ∧ 4 * st ≤ j)) fN ν (fm_i ν 0 64 (nI (st - 1))) := (frL.rf _ fN ν).i (by omega)
      have lk2 : LK b z l last K A V W P n μ (fm_i ν 0 64 (nI (st - 1))) := LK_R (st := 0) lk (frL.rf _ _ _) g2
      exact ⟨fun _ q => absurd a1 q, ⟨w3, fun q => absurd a2 q⟩, fr1, fr2.tr (g2.mo (fun k j q => by unfold fRm; omega) (fun _ _ q => fN_e q)), Or.inr ⟨rfl, rfl, n, so, st, lk2, ⟨r1, r2, by rw [fI_i, if_neg (by omega)]; exact r3, by rw [fI_i, if_neg (by omega)]; exact r4, by rw [fI_i, if_neg (by omega)]; exact r5, r6, r7, r8⟩, o1, o2, o4, by rw [fI_i, if_pos ⟨rfl, rfl⟩], TG_fr (st := st) (st' := st) tg (Nat.le_refl _) (Nat.le_refl _) o2 (fun _ _ _ _ _ => rfl) (fun j hj => by rw [fI_i, if_neg (by omega)])⟩⟩
theorem all_HP (lx : LXs b z l last K A V W P) {f f' : Nat} {x3 : Int32} (hp : HP b z l last K A V W P n2 nm wi (fun μ => guX5_read f 2 μ x3) (fun μ => puX5_read f 2 μ x3) (fun ν => guX12_read f' 2 ν) (fun ν => puX12_read f' 2 ν)) : HP b z l last K A V W P n2 nm wi (fun μ => guX5_read (f + 1) 1 μ x3) (fun μ => puX5_read (f + 1) 1 μ x3) (fun ν => guX12_read (f' + 1) 1 ν) (fun ν => puX12_read (f' + 1) 1 ν) := by
  intro n so st μ ν lk rl cn
  obtain ⟨c1, c2, c3, c4, c5⟩ := hp n so st μ ν lk rl cn
  simp only at c1 c2 c3 c4 c5
  have n1 : ¬ (1 : Int32) = 0 := by decide
  simp only [guX5_read, puX5_read, guX12_read, puX12_read, if_neg (show ¬ (1 : Nat) = 0 by decide), if_true, pX5_readAll, gX5_readAll, uX5_readAll, pX12_readAnd, gX12_readAnd, uX12_readAnd]
  rcases c5 with ⟨d1, d2, d3⟩ | ⟨d1, d2, n', so', st', lk', rl', p1, p2, p3, p4, p5⟩
  · simp only [if_pos d1, if_pos d2]
    exact ⟨⟨c1, fun q => absurd d1 q⟩, ⟨c2, fun q => absurd d2 q⟩, c3, c4, Or.inl ⟨rfl, rfl, d3⟩⟩
  · have d1' : ¬ (guX5_read f 2 μ x3).1 = 0 := by rw [d1]; exact n1
    have d2' : ¬ (guX12_read f' 2 ν).1 = 0 := by rw [d2]; exact n1
    simp only [if_neg d1', if_neg d2']
    rw [p4]
    obtain ⟨i1, i2, i3⟩ := all_15 lx hp (so0 := so) (st0 := st) (by have := rl.2.2.2.2.2.2.1; omega) (20 - so') 0 so' st' n' fF fF _ _ (by have := rl'.2.2.2.2.2.1; omega) (fF_gt (by omega)) (fF_gt (by omega)) lk' rl' (CNe_f cn c3 c4) c3 c4 p1 p2 (by omega) p3 p5
    rw [show nI 0 = 0 from rfl] at i1 i3
    exact ⟨⟨c1, fun _ => i1⟩, ⟨c2, fun _ => i2⟩, i3⟩
theorem cnd_15 (lx : LXs b z l last K A V W P) {rC : Nat → fm_T → Int32 → Int32 × fm_T} {qC : Nat → fm_T → Int32 → Prop} {rM : Nat → fm_T → Int32 × fm_T} {qM : Nat → fm_T → Prop} {x3 : Int32} (hp : HP b z l last K A V W P n2 nm wi (fun μ => rC 1 μ x3) (fun μ => qC 1 μ x3) (fun ν => rM 1 ν) (fun ν => qM 1 ν)) {so0 st0 : Nat} (hs0 : st0 ≤ 2 * so0) {μ0 ν0 : fm_T} : ∀ (c i so st n f f' : Nat) (μ ν : fm_T), so + c = 20 → c < f → c < f' → LK b z l last K A V W P n μ ν → RlN so st wi μ ν → CNe n2 nm μ ν → frL (fRc st0) fA1l μ0 μ → frL (fRm st0) fGl ν0 ν → so0 < so → st0 < st → i + so0 + 1 ≤ so → st + 1 ≤ st0 + 2 * (so - so0) → TG st (blk μ 85) (aNd ν) st0 st (st - 1) n2 →
    qX5_readCond_h15 rC qC f μ x3 (nI i) ∧ qX12_readOr_h14 rM qM f' ν (nI (st - 1)) ∧ RQ b z l last K A V W P n2 so0 st0 wi (lX5_readCond_h15 rC f μ x3 (nI i)) μ0 (mX5_readCond_h15 rC f μ x3 (nI i)) (lX12_readOr_h14 rM f' ν (nI (st - 1))) ν0 (mX12_readOr_h14 rM f' ν (nI (st - 1))) := by
  intro c
  induction c using Nat.strongRecOn with
  | ind c ih =>
    intro i so st n f f' μ ν h1 h2 h3 lk rl cn fr1 fr2 o1 o2 o3 o4 tg
    obtain ⟨f, rfl⟩ : ∃ m, f = m + 1 := ⟨f - 1, by omega⟩
    obtain ⟨f', rfl⟩ : ∃ m, f' = m + 1 := ⟨f' - 1, by omega⟩
    have e1 : ¬ (20 : Int32) ≤ nI i := fun y => by have := (nI_leI (a := 20) (by omega) (by omega)).mp y; omega
    obtain ⟨w1, w2, w3⟩ := pw lx lk (i := 10) (by omega)
    have w1 : gX7_isWord μ 10 = 0 ↔ ¬ (K n = 2 ∧ V n = 10) := w1
    have w2 : gX12_isWord ν 10 = 0 ↔ ¬ (K n = 2 ∧ V n = 10) := w2
    have w3 : pX12_isWord ν 10 := w3
    have rl0 := rl
    obtain ⟨r1, r2, r3, r4, r5, r6, r7, r8⟩ := rl
    simp only [qX5_readCond_h15, lX5_readCond_h15, mX5_readCond_h15, qX12_readOr_h14, lX12_readOr_h14, mX12_readOr_h14, if_neg e1]
    by_cases y : K n = 2 ∧ V n = 10
    · have a1 : ¬ gX7_isWord μ 10 = 0 := fun q => w1.mp q y
      have a2 : ¬ gX12_isWord ν 10 = 0 := fun q => w2.mp q y
      simp only [if_neg a1, if_neg a2]
      obtain ⟨b1, b2, b3, b4, b5⟩ := pad lx lk (by omega) (by omega)
      have rl1 : RlN so st wi (uX7_advance μ) (uX12_go ν) := ⟨by rw [b3.2.2.2 85 3 (by unfold fA1; omega)]; exact r1, by rw [b3.2.2.2 85 4 (by unfold fA1; omega)]; exact r2, by rw [b4.2.2.2 0 61 (by unfold fG; omega)]; exact r3, by rw [b4.2.2.2 0 62 (by unfold fG; omega)]; exact r4, by rw [b4.2.2.2 0 63 (by unfold fG; omega)]; exact r5, r6, r7, r8⟩
      have b3' : frL (fRc st) fA1l μ (uX7_advance μ) := b3.mo (fun _ _ q => fA1_R q) (fun _ _ q => q)
      have b4' : frL (fRm st) fGl ν (uX12_go ν) := b4.mo (fun _ _ q => fG_R q) (fun _ _ q => q)
      obtain ⟨c1, c2, c3, c4, c5⟩ := hp (n + 1) so st _ _ b5 rl1 (CNe_f cn b3' b4')
      simp only at c1 c2 c3 c4 c5
      have gr1 : frL (fRc st) fA1l μ (rC 1 (uX7_advance μ) x3).2 := b3'.tr c3
      have gr2 : frL (fRm st) fGl ν (rM 1 (uX12_go ν)).2 := b4'.tr c4
      rcases c5 with ⟨d1, d2, d3⟩ | ⟨d1, d2, n', so', st', lk', rl', p1, p2, p3, p4, p5⟩
      · simp only [if_pos d1, if_pos d2]
        exact ⟨fun _ _ => ⟨b1, c1, fun q => absurd d1 q⟩, ⟨w3, fun _ => ⟨b2, c2, fun q => absurd d2 q⟩⟩, fr1.tr (gr1.mo (fun _ _ q => fRc_m (by omega) q) (fun _ _ q => q)), fr2.tr (gr2.mo (fun _ _ q => fRm_m (by omega) q) (fun _ _ q => q)), Or.inl ⟨rfl, rfl, d3⟩⟩
      · have n1 : ¬ (1 : Int32) = 0 := by decide
        have d1' : ¬ (rC 1 (uX7_advance μ) x3).1 = 0 := by rw [d1]; exact n1
        have d2' : ¬ (rM 1 (uX12_go ν)).1 = 0 := by rw [d2]; exact n1
        simp only [if_neg d1', if_neg d2']
        generalize (rC 1 (uX7_advance μ) x3).2 = M at gr1 lk' rl' p5 ⊢
        generalize (rM 1 (uX12_go ν)).2 = N at gr2 lk' rl' p4 p5 ⊢
        obtain ⟨s1, s2, s3, s4, s5, s6, s7, s8⟩ := rl'
        have hst : st' < 40 := by omega
        obtain ⟨k1, k2⟩ := as_ok s1 hst 10 0 0
        obtain ⟨k3, k4, k5⟩ := ly_ok s3 hst 3 (nI (st - 1)) (nI (st' - 1)) 0
        rw [p4, k2, k4, k5]
        have g1 : frL (fun k j => (k = 85 ∧ (j = 3 ∨ j = 4)) ∨ (86 ≤ k ∧ k ≤ 88 ∧ st' ≤ j)) fN M (fm_i (fm_i (fm_i (fm_i M 86 st' 10) 87 st' 0) 88 st' 0) 85 3 (nI (st' + 1))) := ((((frL.rf _ fN M).i (by omega)).i (by omega)).i (by omega)).i (by omega)
        have g2 : frL (fun k j => (k = 0 ∧ j = 61) ∨ (k = 33 ∧ 4 * st' ≤ j)) fN N (fm_i (fm_i (fm_i (fm_i (fm_i N 33 (4 * st') 3) 33 (4 * st' + 1) (nI (st - 1))) 33 (4 * st' + 2) (nI (st' - 1))) 33 (4 * st' + 3) 0) 0 61 (nI (st' + 1))) := (((((frL.rf _ fN N).i (by omega)).i (by omega)).i (by omega)).i (by omega)).i (by omega)
        have v86 : fI (fm_i (fm_i (fm_i (fm_i M 86 st' 10) 87 st' 0) 88 st' 0) 85 3 (nI (st' + 1))) 86 st' = 10 := by rw [fI_i, if_neg (by omega), fI_i, if_neg (by omega), fI_i, if_neg (by omega), fI_i, if_pos ⟨rfl, rfl⟩]
        have v3 : fI (fm_i (fm_i (fm_i (fm_i M 86 st' 10) 87 st' 0) 88 st' 0) 85 3 (nI (st' + 1))) 85 3 = nI (st' + 1) := by rw [fI_i, if_pos ⟨rfl, rfl⟩]
        have v4 : fI (fm_i (fm_i (fm_i (fm_i M 86 st' 10) 87 st' 0) 88 st' 0) 85 3 (nI (st' + 1))) 85 4 = nI so' := by rw [fI_i, if_neg (by omega), fI_i, if_neg (by omega), fI_i, if_neg (by omega), fI_i, if_neg (by omega)]; exact s2
        have u0 : fI (fm_i (fm_i (fm_i (fm_i (fm_i N 33 (4 * st') 3) 33 (4 * st' + 1) (nI (st - 1))) 33 (4 * st' + 2) (nI (st' - 1))) 33 (4 * st' + 3) 0) 0 61 (nI (st' + 1))) 33 (4 * st') = 3 := by rw [fI_i, if_neg (by omega), fI_i, if_neg (by omega), fI_i, if_neg (by omega), fI_i, if_neg (by omega), fI_i, if_pos ⟨rfl, rfl⟩]
        have u1 : fI (fm_i (fm_i (fm_i (fm_i (fm_i N 33 (4 * st') 3) 33 (4 * st' + 1) (nI (st - 1))) 33 (4 * st' + 2) (nI (st' - 1))) 33 (4 * st' + 3) 0) 0 61 (nI (st' + 1))) 33 (4 * st' + 1) = nI (st - 1) := by rw [fI_i, if_neg (by omega), fI_i, if_neg (by omega), fI_i, if_neg (by omega), fI_i, if_pos ⟨rfl, rfl⟩]
        have u2 : fI (fm_i (fm_i (fm_i (fm_i (fm_i N 33 (4 * st') 3) 33 (4 * st' + 1) (nI (st - 1))) 33 (4 * st' + 2) (nI (st' - 1))) 33 (4 * st' + 3) 0) 0 61 (nI (st' + 1))) 33 (4 * st' + 2) = nI (st' - 1) := by rw [fI_i, if_neg (by omega), fI_i, if_neg (by omega), fI_i, if_pos ⟨rfl, rfl⟩]
        have u61 : fI (fm_i (fm_i (fm_i (fm_i (fm_i N 33 (4 * st') 3) 33 (4 * st' + 1) (nI (st - 1))) 33 (4 * st' + 2) (nI (st' - 1))) 33 (4 * st' + 3) 0) 0 61 (nI (st' + 1))) 0 61 = nI (st' + 1) := by rw [fI_i, if_pos ⟨rfl, rfl⟩]
        generalize fm_i (fm_i (fm_i (fm_i M 86 st' 10) 87 st' 0) 88 st' 0) 85 3 (nI (st' + 1)) = M2 at g1 v86 v3 v4 ⊢
        generalize fm_i (fm_i (fm_i (fm_i (fm_i N 33 (4 * st') 3) 33 (4 * st' + 1) (nI (st - 1))) 33 (4 * st' + 2) (nI (st' - 1))) 33 (4 * st' + 3) 0) 0 61 (nI (st' + 1)) = N2 at g2 u0 u1 u2 u61 ⊢
        have lk2 : LK b z l last K A V W P n' M2 N2 := LK_R (st' := st') lk' g1 (g2.mo (fun k j q => by omega) (fun _ _ q => q))
        have rl2 : RlN so' (st' + 1) wi M2 N2 := ⟨v3, v4, u61, by rw [g2.2.2.2 0 62 (by omega)] ; exact s4, by rw [g2.2.2.2 0 63 (by omega)]; exact s5, s6, by omega, s8⟩
        have g1' : frL (fRc st0) fA1l M M2 := g1.mo (fun k j q => by unfold fRc; omega) (fun _ _ q => fN_e q)
        have g2' : frL (fRm st0) fGl N N2 := g2.mo (fun k j q => by unfold fRm; omega) (fun _ _ q => fN_e q)
        have T1 : TG st (blk M2 85) (aNd N2) st0 st (st - 1) n2 := TG_fr (st := st) (st' := st) tg (Nat.le_refl _) (Nat.le_refl _) o2 (fun k j h1 h2 h3 => by rw [g1.2.2.2 k j (by omega), gr1.2.2.2 k j (by unfold fRc; omega)]) (fun j hj => by rw [g2.2.2.2 33 j (by omega), gr2.2.2.2 33 j (by unfold fRm; omega)])
        have T2 : TG st' (blk M2 85) (aNd N2) st st' (st' - 1) n2 := TG_fr (st := st') (st' := st') p5 (Nat.le_refl _) (Nat.le_refl _) p2 (fun k j h1 h2 h3 => g1.2.2.2 k j (by omega)) (fun j hj => g2.2.2.2 33 j (by omega))
        have T3 : TG (st' + 1) (blk M2 85) (aNd N2) st0 (st' + 1) (st' + 1 - 1) n2 := by
          have a0 : aNd N2 (2000 + 4 * (st' + 1 - 1)) = 3 := by
            show fI N2 33 (2000 + 4 * (st' + 1 - 1) - 2000) = 3
            rw [show 2000 + 4 * (st' + 1 - 1) - 2000 = 4 * st' by omega]; exact u0
          have a1 : aNd N2 (2001 + 4 * (st' + 1 - 1)) = nI (st - 1) := by
            show fI N2 33 (2001 + 4 * (st' + 1 - 1) - 2000) = nI (st - 1)
            rw [show 2001 + 4 * (st' + 1 - 1) - 2000 = 4 * st' + 1 by omega]; exact u1
          have a2 : aNd N2 (2002 + 4 * (st' + 1 - 1)) = nI (st' - 1) := by
            show fI N2 33 (2002 + 4 * (st' + 1 - 1) - 2000) = nI (st' - 1)
            rw [show 2002 + 4 * (st' + 1 - 1) - 2000 = 4 * st' + 2 by omega]; exact u2
          refine ⟨by omega, by omega, Or.inr (Or.inr (Or.inr (Or.inr (Or.inr (Or.inr (Or.inr ⟨st - 1, st' - 1, st, by omega, by omega, v86, a0, a1, a2, TG_m T1 (by omega), T2⟩))))))⟩
        obtain ⟨i1, i2, i3⟩ := ih (20 - so') (by omega) (i + 1) so' (st' + 1) n' f f' M2 N2 (by omega) (by omega) (by omega) lk2 rl2 (CNe_f (CNe_f cn gr1 gr2) g1' g2') ((fr1.tr (gr1.mo (fun _ _ q => fRc_m (by omega) q) (fun _ _ q => q))).tr g1') ((fr2.tr (gr2.mo (fun _ _ q => fRm_m (by omega) q) (fun _ _ q => q))).tr g2') (by omega) (by omega) (by omega) (by omega) T3
        rw [show st' + 1 - 1 = st' by omega] at i2 i3
        rw [nI_1]
        exact ⟨fun _ _ => ⟨b1, c1, fun _ => ⟨k1, i1⟩⟩, ⟨w3, fun _ => ⟨b2, c2, fun _ => ⟨k3, i2⟩⟩⟩, i3⟩
    · have a1 : gX7_isWord μ 10 = 0 := w1.mpr y
      have a2 : gX12_isWord ν 10 = 0 := w2.mpr y
      simp only [if_pos a1, if_pos a2]
      have g2 : frL (fun k j => (k = 0 ∧ (61 ≤ j ∧ j ≤ 64)) ∨ (k = 33 ∧ 4 * st ≤ j)) fN ν (fm_i ν 0 64 (nI (st - 1))) := (frL.rf _ fN ν).i (by omega)
      have lk2 : LK b z l last K A V W P n μ (fm_i ν 0 64 (nI (st - 1))) := LK_R (st := 0) lk (frL.rf _ _ _) g2
      exact ⟨fun _ q => absurd a1 q, ⟨w3, fun q => absurd a2 q⟩, fr1, fr2.tr (g2.mo (fun k j q => by unfold fRm; omega) (fun _ _ q => fN_e q)), Or.inr ⟨rfl, rfl, n, so, st, lk2, ⟨r1, r2, by rw [fI_i, if_neg (by omega)]; exact r3, by rw [fI_i, if_neg (by omega)]; exact r4, by rw [fI_i, if_neg (by omega)]; exact r5, r6, r7, r8⟩, o1, o2, o4, by rw [fI_i, if_pos ⟨rfl, rfl⟩], TG_fr (st := st) (st' := st) tg (Nat.le_refl _) (Nat.le_refl _) o2 (fun _ _ _ _ _ => rfl) (fun j hj => by rw [fI_i, if_neg (by omega)])⟩⟩
theorem cnd_HP (lx : LXs b z l last K A V W P) {f f' : Nat} {x3 : Int32} (hp : HP b z l last K A V W P n2 nm wi (fun μ => guX5_read f 1 μ x3) (fun μ => puX5_read f 1 μ x3) (fun ν => guX12_read f' 1 ν) (fun ν => puX12_read f' 1 ν)) : HP b z l last K A V W P n2 nm wi (fun μ => guX5_read (f + 1) 0 μ x3) (fun μ => puX5_read (f + 1) 0 μ x3) (fun ν => guX12_read (f' + 1) 0 ν) (fun ν => puX12_read (f' + 1) 0 ν) := by
  intro n so st μ ν lk rl cn
  obtain ⟨c1, c2, c3, c4, c5⟩ := hp n so st μ ν lk rl cn
  simp only at c1 c2 c3 c4 c5
  have n1 : ¬ (1 : Int32) = 0 := by decide
  simp only [guX5_read, puX5_read, guX12_read, puX12_read, if_true, pX5_readCond, gX5_readCond, uX5_readCond, pX12_readOr, gX12_readOr, uX12_readOr]
  rcases c5 with ⟨d1, d2, d3⟩ | ⟨d1, d2, n', so', st', lk', rl', p1, p2, p3, p4, p5⟩
  · simp only [if_pos d1, if_pos d2]
    exact ⟨⟨c1, fun q => absurd d1 q⟩, ⟨c2, fun q => absurd d2 q⟩, c3, c4, Or.inl ⟨rfl, rfl, d3⟩⟩
  · have d1' : ¬ (guX5_read f 1 μ x3).1 = 0 := by rw [d1]; exact n1
    have d2' : ¬ (guX12_read f' 1 ν).1 = 0 := by rw [d2]; exact n1
    simp only [if_neg d1', if_neg d2']
    rw [p4]
    obtain ⟨i1, i2, i3⟩ := cnd_15 lx hp (so0 := so) (st0 := st) (by have := rl.2.2.2.2.2.2.1; omega) (20 - so') 0 so' st' n' fF fF _ _ (by have := rl'.2.2.2.2.2.1; omega) (fF_gt (by omega)) (fF_gt (by omega)) lk' rl' (CNe_f cn c3 c4) c3 c4 p1 p2 (by omega) p3 p5
    rw [show nI 0 = 0 from rfl] at i1 i3
    exact ⟨⟨c1, fun _ => i1⟩, ⟨c2, fun _ => i2⟩, i3⟩
end
