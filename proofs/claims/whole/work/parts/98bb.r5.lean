section
variable {b : Nat → Nat} {z l last : Nat} {K A V W P : Nat → Nat} {n2 wi : Nat} {nm : Nat → Nat}
theorem not_IQ {n so st : Nat} {μ ν μ3 ν3 : fm_T} {g1 g2 : Int32} (h : RQ b z l last K A V W P n2 so st wi g1 μ μ3 g2 ν ν3) (hst : st ≤ 2 * so) : (¬ g1 = 0 → pX5_addStep μ3 12 0 0) ∧ (¬ g2 = 0 → pX12_lays ν3 1 (fI ν3 0 64) 0 0) ∧ IQ b z l last K A V W P n2 so st wi (if g1 = 0 then 0 else 1) μ (if g1 = 0 then μ3 else uX5_addStep μ3 12 0 0) (if g2 = 0 then 0 else 1) ν (if g2 = 0 then ν3 else fm_i (uX12_lays ν3 1 (fI ν3 0 64) 0 0) 0 64 (gX12_lays ν3 1 (fI ν3 0 64) 0 0)) := by
  obtain ⟨h1, h2, h3⟩ := h
  have n1 : ¬ (1 : Int32) = 0 := by decide
  rcases h3 with ⟨d1, d2, d3⟩ | ⟨d1, d2, n', so', st', lk', rl', p1, p2, p3, p4, p5⟩
  · simp only [if_pos d1, if_pos d2]
    exact ⟨fun q => absurd d1 q, fun q => absurd d2 q, h1, h2, Or.inl ⟨rfl, rfl, d3⟩⟩
  · have d1' : ¬ g1 = 0 := by rw [d1]; exact n1
    have d2' : ¬ g2 = 0 := by rw [d2]; exact n1
    obtain ⟨r1, r2, r3, r4, r5, r6, r7, r8⟩ := rl'
    have hs : st' < 40 := by omega
    have sp := sp_ok r1 r3 hs 12 0 0 1 (nI (st' - 1)) 0 0
    simp only [if_neg d1', if_neg d2']
    rw [p4]
    have q1 := sp.1
    have q2 := sp.2.1
    have v3 := sp.2.2.1
    have v86 := sp.2.2.2.1
    have u61 := sp.2.2.2.2.2.2.1
    have u64 := sp.2.2.2.2.2.2.2.1
    have u0 := sp.2.2.2.2.2.2.2.2.1
    have u1 := sp.2.2.2.2.2.2.2.2.2.1
    generalize uX5_addStep μ3 12 0 0 = M at q1 v3 v86 ⊢
    generalize fm_i (uX12_lays ν3 1 (nI (st' - 1)) 0 0) 0 64 (gX12_lays ν3 1 (nI (st' - 1)) 0 0) = N at q2 u61 u64 u0 u1 ⊢
    have T1 : TG st' (blk M 85) (aNd N) st st' (st' - 1) n2 := TG_fr (st := st') (st' := st') p5 (Nat.le_refl _) (Nat.le_refl _) p2 (fun k j h1 h2 h3 => q1.2.2.2 k j (by omega)) (fun j hj => q2.2.2.2 33 j (by omega))
    have T3 : TG (st' + 1) (blk M 85) (aNd N) st (st' + 1) (st' + 1 - 1) n2 := by
      have a0 : aNd N (2000 + 4 * (st' + 1 - 1)) = 1 := by
        show fI N 33 (2000 + 4 * (st' + 1 - 1) - 2000) = 1
        rw [show 2000 + 4 * (st' + 1 - 1) - 2000 = 4 * st' by omega]; exact u0
      have a1 : aNd N (2001 + 4 * (st' + 1 - 1)) = nI (st' - 1) := by
        show fI N 33 (2001 + 4 * (st' + 1 - 1) - 2000) = nI (st' - 1)
        rw [show 2001 + 4 * (st' + 1 - 1) - 2000 = 4 * st' + 1 by omega]; exact u1
      exact ⟨by omega, by omega, Or.inr (Or.inr (Or.inr (Or.inr (Or.inr (Or.inl ⟨st' - 1, by omega, v86, a0, a1, T1⟩)))))⟩
    refine ⟨fun _ => (as_ok r1 hs _ _ _).1, fun _ => (ly_ok r3 hs _ _ _ _).1, h1.tr (q1.mo (fun k j q => by unfold fRc; omega) (fun _ _ q => fN_e q)), h2.tr (q2.mo (fun k j q => by unfold fRm; omega) (fun _ _ q => fN_e q)), Or.inr ⟨rfl, rfl, n', so', st' + 1, LK_R (st := st') (st' := st') lk' (q1.mo (fun k j q => by omega) (fun _ _ q => q)) (q2.mo (fun k j q => by omega) (fun _ _ q => q)), ⟨v3, by rw [q1.2.2.2 85 4 (by omega)]; exact r2, u61, by rw [q2.2.2.2 0 62 (by omega)]; exact r4, by rw [q2.2.2.2 0 63 (by omega)]; exact r5, r6, by omega, r8⟩, by omega, by omega, by omega, u64, T3⟩⟩
theorem one_st (lx : LXs b z l last K A V W P) {rC : Nat → fm_T → Int32 → Int32 × fm_T} {qC : Nat → fm_T → Int32 → Prop} {rM : Nat → fm_T → Int32 × fm_T} {qM : Nat → fm_T → Prop} (hb : wi < 8 → HP b z l last K A V W P n2 nm (wi + 1) (fun μ => rC 3 μ (nI (wi + 1))) (fun μ => qC 3 μ (nI (wi + 1))) (fun ν => rM 4 ν) (fun ν => qM 4 ν)) (ho : wi < 8 → ∀ so st μ ν n, LK b z l last K A V W P n μ ν → RlN so st (wi + 1) μ ν → CNe n2 nm μ ν → qC 2 μ (nI (wi + 1) + 1) ∧ (¬ (rC 2 μ (nI (wi + 1) + 1)).1 = 0 → pX5_addStep (rC 2 μ (nI (wi + 1) + 1)).2 12 0 0) ∧ qM 3 ν ∧ IQ b z l last K A V W P n2 so st (wi + 1) (if (rC 2 μ (nI (wi + 1) + 1)).1 = 0 then 0 else 1) μ (if (rC 2 μ (nI (wi + 1) + 1)).1 = 0 then (rC 2 μ (nI (wi + 1) + 1)).2 else uX5_addStep (rC 2 μ (nI (wi + 1) + 1)).2 12 0 0) (rM 3 ν).1 ν (rM 3 ν).2) {n so st : Nat} {μ ν : fm_T} (lk : LK b z l last K A V W P n μ ν) (rl : RlN so st wi μ ν) (cn : CNe n2 nm μ ν) : pX5_readOne rC qC μ (nI (wi + 1)) ∧ pX12_readOne rM qM ν ∧ RQ b z l last K A V W P n2 so st wi (gX5_readOne rC μ (nI (wi + 1))) μ (uX5_readOne rC μ (nI (wi + 1))) (gX12_readOne rM ν) ν (uX12_readOne rM ν) := by
  have tk := lk_t lx lk
  obtain ⟨r1, r2, r3, r4, r5, r6, r7, r8⟩ := rl
  have rl : RlN so st wi μ ν := ⟨r1, r2, r3, r4, r5, r6, r7, r8⟩
  obtain ⟨-, w12, p12⟩ := pw lx lk (i := 12) (by omega)
  obtain ⟨-, w13, p13⟩ := pw lx lk (i := 13) (by omega)
  obtain ⟨-, w14, p14⟩ := pw lx lk (i := 14) (by omega)
  obtain ⟨-, w15, p15⟩ := pw lx lk (i := 15) (by omega)
  obtain ⟨-, w16, p16⟩ := pw lx lk (i := 16) (by omega)
  obtain ⟨s40c, s40m⟩ := psg lx lk (c := 40) (by omega)
  have w12 : gX12_isWord ν 12 = 0 ↔ ¬ (K n = 2 ∧ V n = 12) := w12
  have w13 : gX12_isWord ν 13 = 0 ↔ ¬ (K n = 2 ∧ V n = 13) := w13
  have w14 : gX12_isWord ν 14 = 0 ↔ ¬ (K n = 2 ∧ V n = 14) := w14
  have w15 : gX12_isWord ν 15 = 0 ↔ ¬ (K n = 2 ∧ V n = 15) := w15
  have w16 : gX12_isWord ν 16 = 0 ↔ ¬ (K n = 2 ∧ V n = 16) := w16
  have p12 : pX12_isWord ν 12 := p12
  have p13 : pX12_isWord ν 13 := p13
  have p14 : pX12_isWord ν 14 := p14
  have p15 : pX12_isWord ν 15 := p15
  have p16 : pX12_isWord ν 16 := p16
  have s40c : gX7_isSign μ 40 = 0 ↔ ¬ (K n = 5 ∧ V n = 40) := s40c
  have s40m : gX12_isSign ν 40 = 0 ↔ ¬ (K n = 5 ∧ V n = 40) := s40m
  obtain ⟨pwh, gwh⟩ := wh_ok lx lk
  have c2 : fI μ 1 9 = 2 ↔ K n = 2 := lk_K lx lk 2 (by omega)
  have q20 : (20 : Int32) ≤ nI so ↔ so = 20 := by rw [show (20 : Int32) = nI 20 from rfl, nI_leI (by omega) (by omega)]; omega
  have q20m : nI so = 20 ↔ so = 20 := nI_eq (b := 20) (by omega) (by omega)
  have q8 : nI (wi + 1) ≤ 8 ↔ wi < 8 := by rw [show (8 : Int32) = nI 8 from rfl, nI_leI (by omega) (by omega)]; omega
  have q8m : nI wi = 8 ↔ wi = 8 := nI_eq (b := 8) (by omega) (by omega)
  have fmo : ∀ {M}, frL fAc fN μ M → frL (fRc st) fA1l μ M := fun h => h.mo (fun _ _ q => fAc_R q) (fun _ _ q => fN_e q)
  have gmo : ∀ {M}, frL fGm fN ν M → frL (fRm st) fGl ν M := fun h => h.mo (fun _ _ q => fGm_R q) (fun _ _ q => fN_e q)
  have vK : K n = 2 → fI μ 1 11 = nI (V n) ∧ (nI (V n)).toInt = (V n : Int) ∧ V n < 25 ∧ (gX11_within μ (nI (V n)) 12 24 = 0 ↔ V n < 12) := fun k2 => by
    have v25 := (tk.2.2.1 k2).1
    refine ⟨lk.1.2.2.2.2.2.2.2.1 (Or.inl k2), ti_nI (by omega), v25, ?_⟩
    rw [wi_nI, show (12 : Int32) = nI 12 from rfl, show (24 : Int32) = nI 24 from rfl, nI_ltI (by omega) (by omega), nI_ltI (by omega) (by omega)]
    omega
  have mN : gX12_whatAtHand ν = -1 ↔ ¬ (K n = 2 ∧ 17 ≤ V n) := by
    rw [gwh]
    by_cases q : K n = 2 ∧ 17 ≤ V n
    · rw [if_pos q]
      have := (vK q.1).2.2.1
      exact ⟨fun y => absurd y (nI_m1 (by omega)), fun y => absurd q y⟩
    · rw [if_neg q]; exact ⟨fun _ => q, fun _ => rfl⟩
  by_cases tok : (K n = 5 ∧ V n = 40) ∨ (K n = 2 ∧ 12 ≤ V n)
  · by_cases hg : so = 20 ∨ wi = 8
    · obtain ⟨f1, f2, f3⟩ := pfa lx lk 4 (fun q => by omega)
      have done : pX5_readOne rC qC μ (nI (wi + 1)) ∧ gX5_readOne rC μ (nI (wi + 1)) = 0 ∧ uX5_readOne rC μ (nI (wi + 1)) = uX7_fail μ 4 := by
        unfold pX5_readOne gX5_readOne uX5_readOne
        rw [r2]
        by_cases t5 : K n = 5 ∧ V n = 40
        · have e40 : ¬ gX7_isSign μ 40 = 0 := fun q => s40c.mp q t5
          by_cases h20 : so = 20
          · simp only [if_neg e40, if_pos (q20.mpr h20), gX7_fail]
            exact ⟨⟨fun _ => ⟨fun _ => Or.inl trivial, fun q => absurd (q20.mpr h20) q⟩, fun q => absurd q e40⟩, trivial, trivial⟩
          · have h20' : ¬ (20 : Int32) ≤ nI so := fun q => h20 (q20.mp q)
            have h8' : ¬ nI (wi + 1) ≤ 8 := fun q => by have := q8.mp q; omega
            simp only [if_neg e40, if_neg h20', if_neg h8', gX7_fail]
            exact ⟨⟨fun _ => ⟨fun q => absurd q h20', fun _ => ⟨fun q => absurd q h8', fun _ => Or.inl trivial⟩⟩, fun q => absurd q e40⟩, trivial, trivial⟩
        · have t2 := tok.resolve_left t5
          have e40 : gX7_isSign μ 40 = 0 := s40c.mpr t5
          obtain ⟨v1, v2, v3, v4⟩ := vK t2.1
          have ew : ¬ gX11_within μ (nI (V n)) 12 24 = 0 := fun q => by have := v4.mp q; omega
          rw [v1]
          by_cases h20 : so = 20
          · simp only [if_pos e40, if_pos (c2.mpr t2.1), if_neg ew, if_pos (q20.mpr h20), gX7_fail]
            exact ⟨⟨fun q => absurd e40 q, fun _ => ⟨fun q => absurd (c2.mpr t2.1) q, fun _ => ⟨fun _ => ⟨fun _ => Or.inl trivial, fun q => absurd (q20.mpr h20) q⟩, fun _ => Or.inl trivial⟩⟩⟩, trivial, trivial⟩
          · have h20' : ¬ (20 : Int32) ≤ nI so := fun q => h20 (q20.mp q)
            have h8' : ¬ nI (wi + 1) ≤ 8 := fun q => by have := q8.mp q; omega
            simp only [if_pos e40, if_pos (c2.mpr t2.1), if_neg ew, if_neg h20', if_neg h8', gX7_fail]
            exact ⟨⟨fun q => absurd e40 q, fun _ => ⟨fun q => absurd (c2.mpr t2.1) q, fun _ => ⟨fun _ => ⟨fun q => absurd q h20', fun _ => ⟨fun q => absurd q h8', fun _ => Or.inl trivial⟩⟩, fun _ => Or.inl trivial⟩⟩⟩, trivial, trivial⟩
      have doneM : pX12_readOne rM qM ν ∧ gX12_readOne rM ν = 0 ∧ uX12_readOne rM ν = uX12_bad ν 4 := by
        unfold pX12_readOne gX12_readOne uX12_readOne
        rw [r4, r5]
        rcases (by omega : (K n = 5 ∧ V n = 40) ∨ (K n = 2 ∧ V n = 12) ∨ (K n = 2 ∧ V n = 13) ∨ (K n = 2 ∧ V n = 14) ∨ (K n = 2 ∧ V n = 15) ∨ (K n = 2 ∧ V n = 16) ∨ (K n = 2 ∧ 17 ≤ V n)) with y | y | y | y | y | y | y
        · have h12 : gX12_isWord ν 12 = 0 := w12.mpr (by omega)
          have h13 : gX12_isWord ν 13 = 0 := w13.mpr (by omega)
          have h14 : gX12_isWord ν 14 = 0 := w14.mpr (by omega)
          have h15 : gX12_isWord ν 15 = 0 := w15.mpr (by omega)
          have h16 : gX12_isWord ν 16 = 0 := w16.mpr (by omega)
          have m40 : ¬ gX12_isSign ν 40 = 0 := fun q => s40m.mp q y
          have hwh : gX12_whatAtHand ν = -1 := mN.mpr (by omega)
          by_cases h20 : so = 20
          · have h20m : nI so = 20 := q20m.mpr h20
            simp only [h12, h13, h14, h15, h16, m40, hwh, h20m, p12, p13, p14, p15, p16, pwh, gbad, if_true, if_false, not_true_eq_false, not_false_eq_true, false_implies, true_implies, true_and, and_true, and_self, true_or, implies_true]
          · have h20m : ¬ nI so = 20 := fun q => h20 (q20m.mp q)
            have h8m : nI wi = 8 := q8m.mpr (by omega)
            simp only [h12, h13, h14, h15, h16, m40, hwh, h20m, h8m, p12, p13, p14, p15, p16, pwh, gbad, if_true, if_false, not_true_eq_false, not_false_eq_true, false_implies, true_implies, true_and, and_true, and_self, true_or, implies_true]
        · have h12 : ¬ gX12_isWord ν 12 = 0 := fun q => w12.mp q y
          have h13 : gX12_isWord ν 13 = 0 := w13.mpr (by omega)
          have h14 : gX12_isWord ν 14 = 0 := w14.mpr (by omega)
          have h15 : gX12_isWord ν 15 = 0 := w15.mpr (by omega)
          have h16 : gX12_isWord ν 16 = 0 := w16.mpr (by omega)
          have m40 : gX12_isSign ν 40 = 0 := s40m.mpr (by omega)
          have hwh : gX12_whatAtHand ν = -1 := mN.mpr (by omega)
          by_cases h20 : so = 20
          · have h20m : nI so = 20 := q20m.mpr h20
            simp only [h12, h13, h14, h15, h16, m40, hwh, h20m, p12, p13, p14, p15, p16, pwh, gbad, if_true, if_false, not_true_eq_false, not_false_eq_true, false_implies, true_implies, true_and, and_true, and_self, true_or, implies_true]
          · have h20m : ¬ nI so = 20 := fun q => h20 (q20m.mp q)
            have h8m : nI wi = 8 := q8m.mpr (by omega)
            simp only [h12, h13, h14, h15, h16, m40, hwh, h20m, h8m, p12, p13, p14, p15, p16, pwh, gbad, if_true, if_false, not_true_eq_false, not_false_eq_true, false_implies, true_implies, true_and, and_true, and_self, true_or, implies_true]
        · have h12 : gX12_isWord ν 12 = 0 := w12.mpr (by omega)
          have h13 : ¬ gX12_isWord ν 13 = 0 := fun q => w13.mp q y
          have h14 : gX12_isWord ν 14 = 0 := w14.mpr (by omega)
          have h15 : gX12_isWord ν 15 = 0 := w15.mpr (by omega)
          have h16 : gX12_isWord ν 16 = 0 := w16.mpr (by omega)
          have m40 : gX12_isSign ν 40 = 0 := s40m.mpr (by omega)
          have hwh : gX12_whatAtHand ν = -1 := mN.mpr (by omega)
          by_cases h20 : so = 20
          · have h20m : nI so = 20 := q20m.mpr h20
            simp only [h12, h13, h14, h15, h16, m40, hwh, h20m, p12, p13, p14, p15, p16, pwh, gbad, if_true, if_false, not_true_eq_false, not_false_eq_true, false_implies, true_implies, true_and, and_true, and_self, true_or, implies_true]
          · have h20m : ¬ nI so = 20 := fun q => h20 (q20m.mp q)
            have h8m : nI wi = 8 := q8m.mpr (by omega)
            simp only [h12, h13, h14, h15, h16, m40, hwh, h20m, h8m, p12, p13, p14, p15, p16, pwh, gbad, if_true, if_false, not_true_eq_false, not_false_eq_true, false_implies, true_implies, true_and, and_true, and_self, true_or, implies_true]
        · have h12 : gX12_isWord ν 12 = 0 := w12.mpr (by omega)
          have h13 : gX12_isWord ν 13 = 0 := w13.mpr (by omega)
          have h14 : ¬ gX12_isWord ν 14 = 0 := fun q => w14.mp q y
          have h15 : gX12_isWord ν 15 = 0 := w15.mpr (by omega)
          have h16 : gX12_isWord ν 16 = 0 := w16.mpr (by omega)
          have m40 : gX12_isSign ν 40 = 0 := s40m.mpr (by omega)
          have hwh : gX12_whatAtHand ν = -1 := mN.mpr (by omega)
          by_cases h20 : so = 20
          · have h20m : nI so = 20 := q20m.mpr h20
            simp only [h12, h13, h14, h15, h16, m40, hwh, h20m, p12, p13, p14, p15, p16, pwh, gbad, if_true, if_false, not_true_eq_false, not_false_eq_true, false_implies, true_implies, true_and, and_true, and_self, true_or, implies_true]
          · have h20m : ¬ nI so = 20 := fun q => h20 (q20m.mp q)
            have h8m : nI wi = 8 := q8m.mpr (by omega)
            simp only [h12, h13, h14, h15, h16, m40, hwh, h20m, h8m, p12, p13, p14, p15, p16, pwh, gbad, if_true, if_false, not_true_eq_false, not_false_eq_true, false_implies, true_implies, true_and, and_true, and_self, true_or, implies_true]
        · have h12 : gX12_isWord ν 12 = 0 := w12.mpr (by omega)
          have h13 : gX12_isWord ν 13 = 0 := w13.mpr (by omega)
          have h14 : gX12_isWord ν 14 = 0 := w14.mpr (by omega)
          have h15 : ¬ gX12_isWord ν 15 = 0 := fun q => w15.mp q y
          have h16 : gX12_isWord ν 16 = 0 := w16.mpr (by omega)
          have m40 : gX12_isSign ν 40 = 0 := s40m.mpr (by omega)
          have hwh : gX12_whatAtHand ν = -1 := mN.mpr (by omega)
          by_cases h20 : so = 20
          · have h20m : nI so = 20 := q20m.mpr h20
            simp only [h12, h13, h14, h15, h16, m40, hwh, h20m, p12, p13, p14, p15, p16, pwh, gbad, if_true, if_false, not_true_eq_false, not_false_eq_true, false_implies, true_implies, true_and, and_true, and_self, true_or, implies_true]
          · have h20m : ¬ nI so = 20 := fun q => h20 (q20m.mp q)
            have h8m : nI wi = 8 := q8m.mpr (by omega)
            simp only [h12, h13, h14, h15, h16, m40, hwh, h20m, h8m, p12, p13, p14, p15, p16, pwh, gbad, if_true, if_false, not_true_eq_false, not_false_eq_true, false_implies, true_implies, true_and, and_true, and_self, true_or, implies_true]
        · have h12 : gX12_isWord ν 12 = 0 := w12.mpr (by omega)
          have h13 : gX12_isWord ν 13 = 0 := w13.mpr (by omega)
          have h14 : gX12_isWord ν 14 = 0 := w14.mpr (by omega)
          have h15 : gX12_isWord ν 15 = 0 := w15.mpr (by omega)
          have h16 : ¬ gX12_isWord ν 16 = 0 := fun q => w16.mp q y
          have m40 : gX12_isSign ν 40 = 0 := s40m.mpr (by omega)
          have hwh : gX12_whatAtHand ν = -1 := mN.mpr (by omega)
          by_cases h20 : so = 20
          · have h20m : nI so = 20 := q20m.mpr h20
            simp only [h12, h13, h14, h15, h16, m40, hwh, h20m, p12, p13, p14, p15, p16, pwh, gbad, if_true, if_false, not_true_eq_false, not_false_eq_true, false_implies, true_implies, true_and, and_true, and_self, true_or, implies_true]
          · have h20m : ¬ nI so = 20 := fun q => h20 (q20m.mp q)
            have h8m : nI wi = 8 := q8m.mpr (by omega)
            simp only [h12, h13, h14, h15, h16, m40, hwh, h20m, h8m, p12, p13, p14, p15, p16, pwh, gbad, if_true, if_false, not_true_eq_false, not_false_eq_true, false_implies, true_implies, true_and, and_true, and_self, true_or, implies_true]
        · have h12 : gX12_isWord ν 12 = 0 := w12.mpr (by omega)
          have h13 : gX12_isWord ν 13 = 0 := w13.mpr (by omega)
          have h14 : gX12_isWord ν 14 = 0 := w14.mpr (by omega)
          have h15 : gX12_isWord ν 15 = 0 := w15.mpr (by omega)
          have h16 : gX12_isWord ν 16 = 0 := w16.mpr (by omega)
          have m40 : gX12_isSign ν 40 = 0 := s40m.mpr (by omega)
          have hwh : ¬ gX12_whatAtHand ν = -1 := fun q => mN.mp q y
          by_cases h20 : so = 20
          · have h20m : nI so = 20 := q20m.mpr h20
            simp only [h12, h13, h14, h15, h16, m40, hwh, h20m, p12, p13, p14, p15, p16, pwh, gbad, if_true, if_false, not_true_eq_false, not_false_eq_true, false_implies, true_implies, true_and, and_true, and_self, true_or, implies_true]
          · have h20m : ¬ nI so = 20 := fun q => h20 (q20m.mp q)
            have h8m : nI wi = 8 := q8m.mpr (by omega)
            simp only [h12, h13, h14, h15, h16, m40, hwh, h20m, h8m, p12, p13, p14, p15, p16, pwh, gbad, if_true, if_false, not_true_eq_false, not_false_eq_true, false_implies, true_implies, true_and, and_true, and_self, true_or, implies_true]
      rw [done.2.1, done.2.2, doneM.2.1, doneM.2.2]
      exact ⟨done.1, doneM.1, fmo f1, gmo f2, Or.inl ⟨rfl, rfl, f3⟩⟩
    · have so20 : so < 20 := by omega
      have wi8 : wi < 8 := by omega
      have h20' : ¬ (20 : Int32) ≤ nI so := fun q => by have := q20.mp q; omega
      have h20m : ¬ nI so = 20 := fun q => by have := q20m.mp q; omega
      have h8 : nI (wi + 1) ≤ 8 := q8.mpr wi8
      have h8m : ¬ nI wi = 8 := fun q => by have := q8m.mp q; omega
      have g1 : frL (fun k j => (k = 85 ∧ (j = 3 ∨ j = 4)) ∨ (86 ≤ k ∧ k ≤ 88 ∧ st ≤ j)) fN μ (fm_i μ 85 4 (nI (so + 1))) := (frL.rf _ fN μ).i (by omega)
      have g2 : frL (fun k j => (k = 0 ∧ (61 ≤ j ∧ j ≤ 64)) ∨ (k = 33 ∧ 4 * st ≤ j)) fN ν (fm_i (fm_i ν 0 62 (nI (so + 1))) 0 63 (nI (wi + 1))) := ((frL.rf _ fN ν).i (by omega)).i (by omega)
      have lk1 := LK_R lk g1 g2
      obtain ⟨b1, b2, b3, b4, lk2⟩ := pad lx lk1 (by omega) (by omega)
      have F1 : frL (fRc st) fA1l μ (uX7_advance (fm_i μ 85 4 (nI (so + 1)))) := (g1.mo (fun k j q => by unfold fRc; omega) (fun _ _ q => fN_e q)).tr (b3.mo (fun _ _ q => fA1_R q) (fun _ _ q => q))
      have F2 : frL (fRm st) fGl ν (uX12_go (fm_i (fm_i ν 0 62 (nI (so + 1))) 0 63 (nI (wi + 1)))) := (g2.mo (fun k j q => by unfold fRm; omega) (fun _ _ q => fN_e q)).tr (b4.mo (fun _ _ q => fG_R q) (fun _ _ q => q))
      have rl2 : RlN (so + 1) st (wi + 1) (uX7_advance (fm_i μ 85 4 (nI (so + 1)))) (uX12_go (fm_i (fm_i ν 0 62 (nI (so + 1))) 0 63 (nI (wi + 1)))) := ⟨by rw [b3.2.2.2 85 3 (by unfold fA1; omega), fI_i, if_neg (by omega)]; exact r1, by rw [b3.2.2.2 85 4 (by unfold fA1; omega), fI_i, if_pos ⟨rfl, rfl⟩], by rw [b4.2.2.2 0 61 (by unfold fG; omega), fI_i, if_neg (by omega), fI_i, if_neg (by omega)]; exact r3, by rw [b4.2.2.2 0 62 (by unfold fG; omega), fI_i, if_neg (by omega), fI_i, if_pos ⟨rfl, rfl⟩], by rw [b4.2.2.2 0 63 (by unfold fG; omega), fI_i, if_pos ⟨rfl, rfl⟩], by omega, by omega, by omega⟩
      have cn2 := CNe_f cn F1 F2
      unfold pX5_readOne gX5_readOne uX5_readOne pX12_readOne gX12_readOne uX12_readOne
      rw [r2, r4, r5]
      simp only [nI_1]
      generalize uX7_advance (fm_i μ 85 4 (nI (so + 1))) = M at b3 lk2 F1 rl2 cn2 ⊢
      generalize uX12_go (fm_i (fm_i ν 0 62 (nI (so + 1))) 0 63 (nI (wi + 1))) = N at b4 lk2 F2 rl2 cn2 ⊢
      rcases (by omega : (K n = 5 ∧ V n = 40) ∨ (K n = 2 ∧ V n = 12) ∨ (K n = 2 ∧ V n = 13) ∨ (K n = 2 ∧ V n = 14) ∨ (K n = 2 ∧ V n = 15) ∨ (K n = 2 ∧ V n = 16) ∨ (K n = 2 ∧ 17 ≤ V n)) with y | y | y | y | y | y | y
      · have h12 : gX12_isWord ν 12 = 0 := w12.mpr (by omega)
        have h13 : gX12_isWord ν 13 = 0 := w13.mpr (by omega)
        have h14 : gX12_isWord ν 14 = 0 := w14.mpr (by omega)
        have h15 : gX12_isWord ν 15 = 0 := w15.mpr (by omega)
        have h16 : gX12_isWord ν 16 = 0 := w16.mpr (by omega)
        have m40 : ¬ gX12_isSign ν 40 = 0 := fun q => s40m.mp q y
        have hwh : gX12_whatAtHand ν = -1 := mN.mpr (by omega)
        have e40 : ¬ gX7_isSign μ 40 = 0 := fun q => s40c.mp q y
        obtain ⟨z1, z2, z3⟩ := hb wi8 (n + 1) (so + 1) st M N lk2 rl2 cn2
        simp only at z1 z2 z3
        have iq := RQ_I z3
        obtain ⟨o1, o2⟩ := IQ_01 iq
        have fin := one_fin (n := n) (νx := ν) iq F1 F2 r8
        simp only [h12, h13, h14, h15, h16, m40, hwh, h20m, h8m, h20', h8, e40, p12, p13, p14, p15, p16, pwh, b1, b2, z1, z2, o1, o2, if_true, if_false, not_true_eq_false, not_false_eq_true, false_implies, true_implies, true_and, and_true, and_self, true_or, implies_true]
        exact fin
      · have h12 : ¬ gX12_isWord ν 12 = 0 := fun q => w12.mp q y
        have h13 : gX12_isWord ν 13 = 0 := w13.mpr (by omega)
        have h14 : gX12_isWord ν 14 = 0 := w14.mpr (by omega)
        have h15 : gX12_isWord ν 15 = 0 := w15.mpr (by omega)
        have h16 : gX12_isWord ν 16 = 0 := w16.mpr (by omega)
        have m40 : gX12_isSign ν 40 = 0 := s40m.mpr (by omega)
        have hwh : gX12_whatAtHand ν = -1 := mN.mpr (by omega)
        have e40 : gX7_isSign μ 40 = 0 := s40c.mpr (by omega)
        obtain ⟨v1, v2, v3, v4⟩ := vK y.1
        have ew : ¬ gX11_within μ (nI (V n)) 12 24 = 0 := fun q => by have := v4.mp q; omega
        have c2' : fI μ 1 9 = 2 := c2.mpr y.1
        have t12 : ((nI (V n)).toInt = 12) = True := eq_true (by rw [v2]; omega)
        have t13 : ¬ (nI (V n)).toInt = 13 := by rw [v2]; omega
        have t14 : ¬ (nI (V n)).toInt = 14 := by rw [v2]; omega
        have t15 : ¬ (nI (V n)).toInt = 15 := by rw [v2]; omega
        have t16 : ¬ (nI (V n)).toInt = 16 := by rw [v2]; omega
        have tr : ¬ ((nI (V n)).toInt < 12 ∨ 16 < (nI (V n)).toInt) := by rw [v2]; omega
        obtain ⟨z1, z2, z3, iq⟩ := ho wi8 (so + 1) st M N (n + 1) lk2 rl2 cn2
        rw [nI_1] at z1 z2 iq
        obtain ⟨o1, o2⟩ := IQ_01 iq
        have fin := one_fin (n := n) (νx := ν) iq F1 F2 r8
        simp only [h12, h13, h14, h15, h16, m40, hwh, h20m, h8m, h20', h8, e40, c2', v1, ew, t12, t13, t14, t15, t16, tr, p12, p13, p14, p15, p16, pwh, b1, b2, z1, z3, o2, if_true, if_false, not_true_eq_false, not_false_eq_true, false_implies, true_implies, true_and, and_true, and_self, true_or, implies_true]
        exact ⟨z2, fin⟩
      · have h12 : gX12_isWord ν 12 = 0 := w12.mpr (by omega)
        have h13 : ¬ gX12_isWord ν 13 = 0 := fun q => w13.mp q y
        have h14 : gX12_isWord ν 14 = 0 := w14.mpr (by omega)
        have h15 : gX12_isWord ν 15 = 0 := w15.mpr (by omega)
        have h16 : gX12_isWord ν 16 = 0 := w16.mpr (by omega)
        have m40 : gX12_isSign ν 40 = 0 := s40m.mpr (by omega)
        have hwh : gX12_whatAtHand ν = -1 := mN.mpr (by omega)
        have e40 : gX7_isSign μ 40 = 0 := s40c.mpr (by omega)
        obtain ⟨v1, v2, v3, v4⟩ := vK y.1
        have ew : ¬ gX11_within μ (nI (V n)) 12 24 = 0 := fun q => by have := v4.mp q; omega
        have c2' : fI μ 1 9 = 2 := c2.mpr y.1
        have t12 : ¬ (nI (V n)).toInt = 12 := by rw [v2]; omega
        have t13 : ((nI (V n)).toInt = 13) = True := eq_true (by rw [v2]; omega)
        have t14 : ¬ (nI (V n)).toInt = 14 := by rw [v2]; omega
        have t15 : ¬ (nI (V n)).toInt = 15 := by rw [v2]; omega
        have t16 : ¬ (nI (V n)).toInt = 16 := by rw [v2]; omega
        have tr : ¬ ((nI (V n)).toInt < 12 ∨ 16 < (nI (V n)).toInt) := by rw [v2]; omega
        obtain ⟨z1, z2, iq⟩ := lf_is lx lk2 rl2 cn2 (by omega) (by omega)
        obtain ⟨o1, o2⟩ := IQ_01 iq
        have fin := one_fin (n := n) (νx := ν) iq F1 F2 r8
        simp only [h12, h13, h14, h15, h16, m40, hwh, h20m, h8m, h20', h8, e40, c2', v1, ew, t12, t13, t14, t15, t16, tr, p12, p13, p14, p15, p16, pwh, b1, b2, z1, z2, o1, o2, if_true, if_false, not_true_eq_false, not_false_eq_true, false_implies, true_implies, true_and, and_true, and_self, true_or, implies_true]
        exact fin
      · have h12 : gX12_isWord ν 12 = 0 := w12.mpr (by omega)
        have h13 : gX12_isWord ν 13 = 0 := w13.mpr (by omega)
        have h14 : ¬ gX12_isWord ν 14 = 0 := fun q => w14.mp q y
        have h15 : gX12_isWord ν 15 = 0 := w15.mpr (by omega)
        have h16 : gX12_isWord ν 16 = 0 := w16.mpr (by omega)
        have m40 : gX12_isSign ν 40 = 0 := s40m.mpr (by omega)
        have hwh : gX12_whatAtHand ν = -1 := mN.mpr (by omega)
        have e40 : gX7_isSign μ 40 = 0 := s40c.mpr (by omega)
        obtain ⟨v1, v2, v3, v4⟩ := vK y.1
        have ew : ¬ gX11_within μ (nI (V n)) 12 24 = 0 := fun q => by have := v4.mp q; omega
        have c2' : fI μ 1 9 = 2 := c2.mpr y.1
        have t12 : ¬ (nI (V n)).toInt = 12 := by rw [v2]; omega
        have t13 : ¬ (nI (V n)).toInt = 13 := by rw [v2]; omega
        have t14 : ((nI (V n)).toInt = 14) = True := eq_true (by rw [v2]; omega)
        have t15 : ¬ (nI (V n)).toInt = 15 := by rw [v2]; omega
        have t16 : ¬ (nI (V n)).toInt = 16 := by rw [v2]; omega
        have tr : ¬ ((nI (V n)).toInt < 12 ∨ 16 < (nI (V n)).toInt) := by rw [v2]; omega
        obtain ⟨z1, z2, iq⟩ := lf_st (n2 := n2) lx lk2 rl2 (by omega) (by omega)
        obtain ⟨o1, o2⟩ := IQ_01 iq
        have fin := one_fin (n := n) (νx := ν) iq F1 F2 r8
        simp only [h12, h13, h14, h15, h16, m40, hwh, h20m, h8m, h20', h8, e40, c2', v1, ew, t12, t13, t14, t15, t16, tr, p12, p13, p14, p15, p16, pwh, b1, b2, z1, z2, o1, o2, if_true, if_false, not_true_eq_false, not_false_eq_true, false_implies, true_implies, true_and, and_true, and_self, true_or, implies_true]
        exact fin
      · have h12 : gX12_isWord ν 12 = 0 := w12.mpr (by omega)
        have h13 : gX12_isWord ν 13 = 0 := w13.mpr (by omega)
        have h14 : gX12_isWord ν 14 = 0 := w14.mpr (by omega)
        have h15 : ¬ gX12_isWord ν 15 = 0 := fun q => w15.mp q y
        have h16 : gX12_isWord ν 16 = 0 := w16.mpr (by omega)
        have m40 : gX12_isSign ν 40 = 0 := s40m.mpr (by omega)
        have hwh : gX12_whatAtHand ν = -1 := mN.mpr (by omega)
        have e40 : gX7_isSign μ 40 = 0 := s40c.mpr (by omega)
        obtain ⟨v1, v2, v3, v4⟩ := vK y.1
        have ew : ¬ gX11_within μ (nI (V n)) 12 24 = 0 := fun q => by have := v4.mp q; omega
        have c2' : fI μ 1 9 = 2 := c2.mpr y.1
        have t12 : ¬ (nI (V n)).toInt = 12 := by rw [v2]; omega
        have t13 : ¬ (nI (V n)).toInt = 13 := by rw [v2]; omega
        have t14 : ¬ (nI (V n)).toInt = 14 := by rw [v2]; omega
        have t15 : ((nI (V n)).toInt = 15) = True := eq_true (by rw [v2]; omega)
        have t16 : ¬ (nI (V n)).toInt = 16 := by rw [v2]; omega
        have tr : ¬ ((nI (V n)).toInt < 12 ∨ 16 < (nI (V n)).toInt) := by rw [v2]; omega
        have vv : nI (V n) = 15 := by rw [y.2]; rfl
        obtain ⟨z1, z2, iq⟩ := lf_fc (n2 := n2) lk2 rl2 (by omega) (by omega) (x := 15) (p := 7) (Or.inl ⟨rfl, rfl⟩)
        rw [← vv] at z1 iq
        obtain ⟨o1, o2⟩ := IQ_01 iq
        have fin := one_fin (n := n) (νx := ν) iq F1 F2 r8
        simp only [h12, h13, h14, h15, h16, m40, hwh, h20m, h8m, h20', h8, e40, c2', v1, ew, t12, t13, t14, t15, t16, tr, p12, p13, p14, p15, p16, pwh, b1, b2, z1, z2, o2, if_true, if_false, not_true_eq_false, not_false_eq_true, false_implies, true_implies, true_and, and_true, and_self, true_or, implies_true]
        exact fin
      · have h12 : gX12_isWord ν 12 = 0 := w12.mpr (by omega)
        have h13 : gX12_isWord ν 13 = 0 := w13.mpr (by omega)
        have h14 : gX12_isWord ν 14 = 0 := w14.mpr (by omega)
        have h15 : gX12_isWord ν 15 = 0 := w15.mpr (by omega)
        have h16 : ¬ gX12_isWord ν 16 = 0 := fun q => w16.mp q y
        have m40 : gX12_isSign ν 40 = 0 := s40m.mpr (by omega)
        have hwh : gX12_whatAtHand ν = -1 := mN.mpr (by omega)
        have e40 : gX7_isSign μ 40 = 0 := s40c.mpr (by omega)
        obtain ⟨v1, v2, v3, v4⟩ := vK y.1
        have ew : ¬ gX11_within μ (nI (V n)) 12 24 = 0 := fun q => by have := v4.mp q; omega
        have c2' : fI μ 1 9 = 2 := c2.mpr y.1
        have t12 : ¬ (nI (V n)).toInt = 12 := by rw [v2]; omega
        have t13 : ¬ (nI (V n)).toInt = 13 := by rw [v2]; omega
        have t14 : ¬ (nI (V n)).toInt = 14 := by rw [v2]; omega
        have t15 : ¬ (nI (V n)).toInt = 15 := by rw [v2]; omega
        have t16 : ((nI (V n)).toInt = 16) = True := eq_true (by rw [v2]; omega)
        have tr : ¬ ((nI (V n)).toInt < 12 ∨ 16 < (nI (V n)).toInt) := by rw [v2]; omega
        have vv : nI (V n) = 16 := by rw [y.2]; rfl
        obtain ⟨z1, z2, iq⟩ := lf_fc (n2 := n2) lk2 rl2 (by omega) (by omega) (x := 16) (p := 8) (Or.inr ⟨rfl, rfl⟩)
        rw [← vv] at z1 iq
        obtain ⟨o1, o2⟩ := IQ_01 iq
        have fin := one_fin (n := n) (νx := ν) iq F1 F2 r8
        simp only [h12, h13, h14, h15, h16, m40, hwh, h20m, h8m, h20', h8, e40, c2', v1, ew, t12, t13, t14, t15, t16, tr, p12, p13, p14, p15, p16, pwh, b1, b2, z1, z2, o2, if_true, if_false, not_true_eq_false, not_false_eq_true, false_implies, true_implies, true_and, and_true, and_self, true_or, implies_true]
        exact fin
      · have h12 : gX12_isWord ν 12 = 0 := w12.mpr (by omega)
        have h13 : gX12_isWord ν 13 = 0 := w13.mpr (by omega)
        have h14 : gX12_isWord ν 14 = 0 := w14.mpr (by omega)
        have h15 : gX12_isWord ν 15 = 0 := w15.mpr (by omega)
        have h16 : gX12_isWord ν 16 = 0 := w16.mpr (by omega)
        have m40 : gX12_isSign ν 40 = 0 := s40m.mpr (by omega)
        have hwh : ¬ gX12_whatAtHand ν = -1 := fun q => mN.mp q y
        have e40 : gX7_isSign μ 40 = 0 := s40c.mpr (by omega)
        obtain ⟨v1, v2, v3, v4⟩ := vK y.1
        have ew : ¬ gX11_within μ (nI (V n)) 12 24 = 0 := fun q => by have := v4.mp q; omega
        have c2' : fI μ 1 9 = 2 := c2.mpr y.1
        have t12 : ¬ (nI (V n)).toInt = 12 := by rw [v2]; omega
        have t13 : ¬ (nI (V n)).toInt = 13 := by rw [v2]; omega
        have t14 : ¬ (nI (V n)).toInt = 14 := by rw [v2]; omega
        have t15 : ¬ (nI (V n)).toInt = 15 := by rw [v2]; omega
        have t16 : ¬ (nI (V n)).toInt = 16 := by rw [v2]; omega
        have tr : (nI (V n)).toInt < 12 ∨ 16 < (nI (V n)).toInt := by rw [v2]; omega
        have vv : nI (V n) = nI (17 + (V n - 17)) := by congr 1; omega
        have gw : gX12_whatAtHand ν = nI (V n - 17) := by rw [gwh, if_pos y]
        obtain ⟨z1, z2, iq⟩ := lf_cm (n2 := n2) (w := V n - 17) lx lk2 rl2 (by omega) (by omega) (by omega)
        rw [← vv] at z1 iq
        rw [← gw] at z2 iq
        obtain ⟨o1, o2⟩ := IQ_01 iq
        have fin := one_fin (n := n) (νx := ν) iq F1 F2 r8
        simp only [h12, h13, h14, h15, h16, m40, hwh, h20m, h8m, h20', h8, e40, c2', v1, ew, t12, t13, t14, t15, t16, tr, p12, p13, p14, p15, p16, pwh, b1, b2, z1, z2, o1, o2, if_true, if_false, not_true_eq_false, not_false_eq_true, false_implies, true_implies, true_and, and_true, and_self, true_or, implies_true]
        exact fin
  · have t5 : ¬ (K n = 5 ∧ V n = 40) := fun q => tok (Or.inl q)
    have e40 : gX7_isSign μ 40 = 0 := s40c.mpr t5
    have m40 : gX12_isSign ν 40 = 0 := s40m.mpr t5
    have h12 : gX12_isWord ν 12 = 0 := w12.mpr (fun q => tok (Or.inr ⟨q.1, by omega⟩))
    have h13 : gX12_isWord ν 13 = 0 := w13.mpr (fun q => tok (Or.inr ⟨q.1, by omega⟩))
    have h14 : gX12_isWord ν 14 = 0 := w14.mpr (fun q => tok (Or.inr ⟨q.1, by omega⟩))
    have h15 : gX12_isWord ν 15 = 0 := w15.mpr (fun q => tok (Or.inr ⟨q.1, by omega⟩))
    have h16 : gX12_isWord ν 16 = 0 := w16.mpr (fun q => tok (Or.inr ⟨q.1, by omega⟩))
    have hwh : gX12_whatAtHand ν = -1 := mN.mpr (fun q => tok (Or.inr ⟨q.1, by omega⟩))
    obtain ⟨f1, f2, f3⟩ := pfa lx lk 1 (fun _ => rfl)
    have doneC : pX5_readOne rC qC μ (nI (wi + 1)) ∧ gX5_readOne rC μ (nI (wi + 1)) = 0 ∧ uX5_readOne rC μ (nI (wi + 1)) = uX7_fail μ 1 := by
      unfold pX5_readOne gX5_readOne uX5_readOne
      by_cases k2 : K n = 2
      · obtain ⟨v1, v2, v3, v4⟩ := vK k2
        have ew : gX11_within μ (nI (V n)) 12 24 = 0 := v4.mpr (by
          apply Decidable.byContradiction
          intro q
          exact tok (Or.inr ⟨k2, by omega⟩))
        rw [v1]
        simp only [if_pos e40, if_pos (c2.mpr k2), if_pos ew, gX7_fail]
        exact ⟨⟨fun q => absurd e40 q, fun _ => ⟨fun q => absurd (c2.mpr k2) q, fun _ => ⟨fun q => absurd ew q, fun _ => Or.inl trivial⟩⟩⟩, trivial, trivial⟩
      · have k2' : ¬ fI μ 1 9 = 2 := fun q => k2 (c2.mp q)
        simp only [if_pos e40, if_neg k2', gX7_fail]
        exact ⟨⟨fun q => absurd e40 q, fun _ => ⟨fun _ => Or.inl trivial, fun q => absurd q k2'⟩⟩, trivial, trivial⟩
    have doneM : pX12_readOne rM qM ν ∧ gX12_readOne rM ν = 0 ∧ uX12_readOne rM ν = uX12_bad ν 1 := by
      unfold pX12_readOne gX12_readOne uX12_readOne
      simp only [h12, h13, h14, h15, h16, m40, hwh, p12, p13, p14, p15, p16, pwh, gbad, if_true, not_true_eq_false, false_implies, true_implies, true_and, and_true, and_self, true_or]
    rw [doneC.2.1, doneC.2.2, doneM.2.1, doneM.2.2]
    exact ⟨doneC.1, doneM.1, fmo f1, gmo f2, Or.inl ⟨rfl, rfl, f3⟩⟩
end
