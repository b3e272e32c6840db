section
variable {b : Nat → Nat} {z l last : Nat} {K A V W P : Nat → Nat} {n2 wi : Nat} {nm : Nat → Nat}
theorem lf_cm (lx : LXs b z l last K A V W P) {n so st : Nat} {μ ν : fm_T} (lk : LK b z l last K A V W P n μ ν) (rl : RlN so st wi μ ν) (hso : 1 ≤ so) (hst : st + 2 ≤ 2 * so) {w : Nat} (hw : w < 8) : pX5_readCompared μ (nI (17 + w)) ∧ pX12_readWhat ν (nI w) ∧ IQ b z l last K A V W P n2 so st wi (gX5_readCompared μ (nI (17 + w))) μ (uX5_readCompared μ (nI (17 + w))) (gX12_readWhat ν (nI w)) ν (uX12_readWhat ν (nI w)) := by
  have n1 : ¬ (1 : Int32) = 0 := by decide
  have hs : st < 40 := by have := rl.2.2.2.2.2.1; omega
  obtain ⟨a1, a2⟩ := psg lx lk (c := 60) (by omega)
  obtain ⟨b1, b2⟩ := psg lx lk (c := 61) (by omega)
  obtain ⟨c1, c2⟩ := psg lx lk (c := 62) (by omega)
  have a1 : gX7_isSign μ 60 = 0 ↔ ¬ (K n = 5 ∧ V n = 60) := a1
  have a2 : gX12_isSign ν 60 = 0 ↔ ¬ (K n = 5 ∧ V n = 60) := a2
  have b1 : gX7_isSign μ 61 = 0 ↔ ¬ (K n = 5 ∧ V n = 61) := b1
  have b2 : gX12_isSign ν 61 = 0 ↔ ¬ (K n = 5 ∧ V n = 61) := b2
  have c1 : gX7_isSign μ 62 = 0 ↔ ¬ (K n = 5 ∧ V n = 62) := c1
  have c2 : gX12_isSign ν 62 = 0 ↔ ¬ (K n = 5 ∧ V n = 62) := c2
  unfold pX5_readCompared gX5_readCompared uX5_readCompared pX12_readWhat gX12_readWhat uX12_readWhat
  simp only [a1, a2, b1, b2, c1, c2, gbad, gX7_fail, ite_self]
  by_cases y : K n = 5 ∧ (V n = 60 ∨ V n = 61 ∨ V n = 62)
  · have v11 : fI μ 1 11 = nI (V n) := lk.1.2.2.2.2.2.2.2.1 (Or.inr (Or.inr y.1))
    have v9 : fI ν 0 9 = nI (V n) := lk.2.1.2.2.2.1 y.1
    obtain ⟨e1, e2, e3, e4, lk1⟩ := pad lx lk (by omega) (by omega)
    obtain ⟨t1, t2, t3, t4, t5⟩ := ptn lx lk1 (lo := 0) (hi := 999) (by omega) (by omega)
    rw [show nI 0 = 0 from rfl, show nI 999 = 999 from rfl] at t1 t2 t3 t4 t5
    have e3' : frL fAc fA1l μ (uX7_advance μ) := e3.mo (fun k j q => by unfold fA1 at q; unfold fAc; omega) (fun _ _ q => q)
    have e4' : frL fGm fGl ν (uX12_go ν) := e4.mo (fun k j q => by unfold fG at q; unfold fGm; omega) (fun _ _ q => q)
    have t3 := e3'.tr t3
    have t4 := e4'.tr t4
    have rl' := Rl_t rl t3 t4
    rw [v11, v9]
    have pa := (as_ok rl'.1 hs (nI (17 + w)) (nI (V n)) (gX7_takeNumber (uX7_advance μ) 0 999)).1
    have main : IQ b z l last K A V W P n2 so st wi (if gX7_takeNumber (uX7_advance μ) 0 999 = -1 then 0 else 1) μ (uX5_addStep (uX7_takeNumber (uX7_advance μ) 0 999) (nI (17 + w)) (nI (V n)) (gX7_takeNumber (uX7_advance μ) 0 999)) (if gX12_readNumber (uX12_go ν) 0 999 = 0 then 0 else 1) ν (if gX12_readNumber (uX12_go ν) 0 999 = 0 then uX12_readNumber (uX12_go ν) 0 999 else fm_i (uX12_lays (uX12_readNumber (uX12_go ν) 0 999) 4 (nI w) (fI (uX12_readNumber (uX12_go ν) 0 999) 0 13) (nI (V n))) 0 64 (gX12_lays (uX12_readNumber (uX12_go ν) 0 999) 4 (nI w) (fI (uX12_readNumber (uX12_go ν) 0 999) 0 13) (nI (V n)))) ∧ (¬ gX12_readNumber (uX12_go ν) 0 999 = 0 → pX12_lays (uX12_readNumber (uX12_go ν) 0 999) 4 (nI w) (fI (uX12_readNumber (uX12_go ν) 0 999) 0 13) (nI (V n))) := by
      rcases t5 with ⟨d1, d2, d3⟩ | ⟨k4, v1, v2, d1, d2, d3, lk'⟩
      · have af := ad_fr rl'.1 hs (nI (17 + w)) (nI (V n)) (gX7_takeNumber (uX7_advance μ) 0 999)
        simp only [if_pos d1, if_pos d2]
        exact ⟨⟨(t3.mo (fun _ _ q => fAc_R q) (fun _ _ q => q)).tr (af.mo (fun k j q => by unfold fRc; omega) (fun _ _ q => fN_e q)), t4.mo (fun _ _ q => fGm_R q) (fun _ _ q => q), Or.inl ⟨rfl, rfl, FQ_r d3 af (frL.rf (fun _ _ => False) fN _) (fun k j q => by omega) (fun _ _ q => q.elim)⟩⟩, fun q => absurd d2 q⟩
      · have ne : ¬ gX7_takeNumber (uX7_advance μ) 0 999 = -1 := by rw [d1]; exact nI_m1 (by omega)
        have d2' : ¬ gX12_readNumber (uX12_go ν) 0 999 = 0 := by rw [d2]; exact n1
        have sp := sp_ok rl'.1 rl'.2.2.1 hs (nI (17 + w)) (nI (V n)) (nI (V (n + 1))) 4 (nI w) (nI (V (n + 1))) (nI (V n))
        have tg := lf_TG (n2 := n2) hs sp (Or.inl ⟨w, V (n + 1), V n, rfl, hw, rfl, y.2, rfl, v2, rfl, rfl, rfl, rfl⟩)
        obtain ⟨q1, q2, q3⟩ := lff_ok lk' rl' hso hst sp tg
        simp only [if_neg ne, if_neg d2']
        rw [d1, d3]
        exact ⟨⟨(t3.mo (fun _ _ q => fAc_R q) (fun _ _ q => q)).tr q1, (t4.mo (fun _ _ q => fGm_R q) (fun _ _ q => q)).tr q2, Or.inr ⟨rfl, rfl, q3⟩⟩, fun _ => (ly_ok rl'.2.2.1 hs _ _ _ _).1⟩
    obtain ⟨main, ply⟩ := main
    by_cases y1 : V n = 60
    · have z1 : K n = 5 ∧ V n = 60 := ⟨y.1, y1⟩
      simp only [if_neg (not_not_intro z1)]
      exact ⟨⟨fun _ => ⟨e1, t1, pa⟩, fun q => absurd z1 q⟩, ⟨fun _ => ⟨e2, t2, ply⟩, fun q => absurd z1 q⟩, main⟩
    · have z1 : ¬ (K n = 5 ∧ V n = 60) := fun q => y1 q.2
      by_cases y2 : V n = 61
      · have z2 : K n = 5 ∧ V n = 61 := ⟨y.1, y2⟩
        simp only [if_pos (show ¬ _ from z1), if_neg (not_not_intro z2)]
        exact ⟨⟨fun q => absurd z1 q, fun _ => ⟨fun _ => ⟨e1, t1, pa⟩, fun q => absurd z2 q⟩⟩, ⟨fun q => absurd z1 q, fun _ => ⟨fun _ => ⟨e2, t2, ply⟩, fun q => absurd z2 q⟩⟩, main⟩
      · have z2 : ¬ (K n = 5 ∧ V n = 61) := fun q => y2 q.2
        have z3 : K n = 5 ∧ V n = 62 := ⟨y.1, by omega⟩
        simp only [if_pos (show ¬ _ from z1), if_pos (show ¬ _ from z2), if_neg (not_not_intro z3)]
        exact ⟨⟨fun q => absurd z1 q, fun _ => ⟨fun q => absurd z2 q, fun _ => ⟨fun _ => ⟨e1, t1, pa⟩, fun q => absurd z3 q⟩⟩⟩, ⟨fun q => absurd z1 q, fun _ => ⟨fun q => absurd z2 q, fun _ => ⟨fun _ => ⟨e2, t2, ply⟩, fun q => absurd z3 q⟩⟩⟩, main⟩
  · have z1 : ¬ (K n = 5 ∧ V n = 60) := fun q => y ⟨q.1, Or.inl q.2⟩
    have z2 : ¬ (K n = 5 ∧ V n = 61) := fun q => y ⟨q.1, Or.inr (Or.inl q.2)⟩
    have z3 : ¬ (K n = 5 ∧ V n = 62) := fun q => y ⟨q.1, Or.inr (Or.inr q.2)⟩
    simp only [if_pos (show ¬ _ from z1), if_pos (show ¬ _ from z2), if_pos (show ¬ _ from z3)]
    obtain ⟨f1, f2, f3⟩ := pfa lx lk 1 (fun _ => rfl)
    exact ⟨⟨fun q => absurd z1 q, fun _ => ⟨fun q => absurd z2 q, fun _ => ⟨fun q => absurd z3 q, fun _ => Or.inl trivial⟩⟩⟩, ⟨fun q => absurd z1 q, fun _ => ⟨fun q => absurd z2 q, fun _ => ⟨fun q => absurd z3 q, fun _ => Or.inl trivial⟩⟩⟩, f1.mo (fun _ _ q => fAc_R q) (fun _ _ q => fN_e q), f2.mo (fun _ _ q => fGm_R q) (fun _ _ q => fN_e q), Or.inl ⟨rfl, rfl, f3⟩⟩
theorem wh_ok (lx : LXs b z l last K A V W P) {n : Nat} {μ ν : fm_T} (lk : LK b z l last K A V W P n μ ν) : pX12_whatAtHand ν ∧ gX12_whatAtHand ν = (if K n = 2 ∧ 17 ≤ V n then nI (V n - 17) else -1) := by
  have tk := lk_t lx lk
  have lp : ∀ (c i f : Nat), i + c = 25 → c < f → 17 ≤ i → (K n = 2 → 17 ≤ V n → i ≤ V n) → qX12_whatAtHand_h3 f ν (nI i) ∧ lX12_whatAtHand_h3 f ν (nI i) = (if K n = 2 ∧ 17 ≤ V n then nI (V n - 17) else -1) := by
    intro c
    induction c with
    | zero =>
      intro i f h1 h2 h3 h4
      obtain ⟨f, rfl⟩ : ∃ m, f = m + 1 := ⟨f - 1, by omega⟩
      have e1 : (24 : Int32) < nI i := (nI_ltI (a := 24) (by omega) (by omega)).mpr (by omega)
      simp only [qX12_whatAtHand_h3, lX12_whatAtHand_h3, if_pos e1]
      refine ⟨fun q => absurd e1 q, ?_⟩
      rw [if_neg (fun q => by have := h4 q.1 q.2; have := (tk.2.2.1 q.1).1; omega)]
    | succ c ih =>
      intro i f h1 h2 h3 h4
      obtain ⟨f, rfl⟩ : ∃ m, f = m + 1 := ⟨f - 1, by omega⟩
      have e1 : ¬ (24 : Int32) < nI i := fun q => by have := (nI_ltI (a := 24) (by omega) (by omega)).mp q; omega
      obtain ⟨-, w2, w3⟩ := pw lx lk (i := i) (by omega)
      simp only [qX12_whatAtHand_h3, lX12_whatAtHand_h3, if_neg e1, w2, nI_1]
      by_cases y : K n = 2 ∧ V n = i
      · simp only [if_neg (not_not_intro y)]
        refine ⟨fun _ => ⟨w3, fun q => absurd y q⟩, ?_⟩
        rw [if_pos ⟨y.1, by omega⟩, y.2, show (17 : Int32) = nI 17 from rfl, nI_sub (by omega)]
      · simp only [if_pos (show ¬ _ from y)]
        obtain ⟨k1, k2⟩ := ih (i + 1) f (by omega) (by omega) (by omega) (fun q1 q2 => by
          have := h4 q1 q2
          have : V n ≠ i := fun q => y ⟨q1, q⟩
          omega)
        exact ⟨fun _ => ⟨w3, fun _ => k1⟩, k2⟩
  exact lp 8 17 fF (by omega) (fF_gt (by omega)) (by omega) (fun _ h => h)
theorem one_fin {so st n : Nat} {gC gM : Int32} {μ μ2 μ3 ν νx ν2 ν3 : fm_T} (h : IQ b z l last K A V W P n2 (so + 1) st (wi + 1) gC μ2 μ3 gM ν2 ν3) (f1 : frL (fRc st) fA1l μ μ2) (f2 : frL (fRm st) fGl ν ν2) (hw : wi ≤ 8) : RQ b z l last K A V W P n2 so st wi gC μ μ3 gM ν (fm_i ν3 0 63 (fI ν3 0 63 - 1)) := by
  obtain ⟨h1, h2, h3⟩ := h
  have g2 : frL (fun k j => (k = 0 ∧ (61 ≤ j ∧ j ≤ 64)) ∨ (k = 33 ∧ 4 * st ≤ j)) fN ν3 (fm_i ν3 0 63 (fI ν3 0 63 - 1)) := (frL.rf _ fN ν3).i (by omega)
  refine ⟨f1.tr h1, (f2.tr h2).tr (g2.mo (fun k j q => by unfold fRm; omega) (fun _ _ q => fN_e q)), ?_⟩
  rcases h3 with ⟨d1, d2, d3⟩ | ⟨d1, d2, n', so', st', lk', rl', p1, p2, p3, p4, p5⟩
  · exact Or.inl ⟨d1, d2, FQ_r d3 (frL.rf (fun _ _ => False) fN _) g2 (fun _ _ q => q.elim) (fun k j q => by omega)⟩
  · obtain ⟨r1, r2, r3, r4, r5, r6, r7, r8⟩ := rl'
    exact Or.inr ⟨d1, d2, n', so', st', LK_R (st := 0) lk' (frL.rf _ _ _) g2, ⟨r1, r2, by rw [fI_i, if_neg (by omega)]; exact r3, by rw [fI_i, if_neg (by omega)]; exact r4, by rw [fI_i, if_pos ⟨rfl, rfl⟩, r5]; exact nI_sub (a := wi + 1) (b := 1) (by omega), r6, r7, hw⟩, by omega, p2, by omega, by rw [fI_i, if_neg (by omega)]; exact p4, TG_fr (st := st') (st' := st') p5 (Nat.le_refl _) (Nat.le_refl _) p2 (fun _ _ _ _ _ => rfl) (fun j hj => by rw [fI_i, if_neg (by omega)])⟩
end
