theorem ok_rule : ob_rule RR := by
  rintro μ ν r0 r1 hz ⟨σ, σ0, σ1, ρ, s0, s1, h⟩
  obtain ⟨l1, l2, l3⟩ := lay1 h
  have hx := l2.2.2.2.1
  have w := RS_WR l2 l3
  have e200 : (200 : Int32) = nI 200 := rfl
  have fF0 : frL fRC fRCl μ (uX5_forget_85 μ) := ((frL.rf fRC fRCl μ).i (by unfold fRC; omega)).i (by unfold fRC; omega)
  have cb : CBy (ρ 1) (ρ 0 0) (uX5_forget_85 μ) := ⟨hx.1.2.2.1, by rw [fF0.2.2.2 1 2 (by unfold fRC; omega)]; exact hx.1.1, fun i hi => ⟨by rw [fF0.2.2.2 3 i (by unfold fRC; omega)]; exact (hx.1.2.2.2 i hi).1, (hx.1.2.2.2 i hi).2.2⟩, fun i hi => by rw [fF0.2.2.1 2 i (by unfold fRCl; omega)]; exact hx.2.2.2.2.2.2.2 i hi⟩
  obtain ⟨p1, p2, last, K, A, V, W, P, p3, lx⟩ := sr_ok (l := 200) cb (by omega)
  obtain ⟨g1, g2, g3, g4, g5, g6⟩ := mbg_ok (l := 200) (N := uX12_lay ν) hx.1.2.1 hx.1.2.2.1 (fun i hi => ⟨(hx.1.2.2.2 i hi).2.1, (hx.1.2.2.2 i hi).2.2⟩) (by omega) lx
  have r3 : fI (uX7_startReading (uX5_forget_85 μ) (nI 200)) 85 3 = 0 := by
    rw [p2.2.2.2 85 3 (by unfold fTa; omega)]
    unfold uX5_forget_85
    rw [fI_i, if_neg (by omega), fI_i, if_pos ⟨rfl, rfl⟩]
  have r4 : fI (uX7_startReading (uX5_forget_85 μ) (nI 200)) 85 4 = 0 := by
    rw [p2.2.2.2 85 4 (by unfold fTa; omega)]
    unfold uX5_forget_85
    rw [fI_i, if_pos ⟨rfl, rfl⟩]
  have fC0 : frL fRC fRCl μ (uX7_startReading (uX5_forget_85 μ) (nI 200)) := fF0.tr (p2.mo (fun k j y => by unfold fTa at y; unfold fRC; omega) (fun k j y => by unfold fTal at y; unfold fRCl; omega))
  have fM0 : frL fRM fRMl (uX12_lay ν) (uX12_begin (uX12_lay ν) (nI 200)) := g2.mo (fun k j y => by unfold fBm at y; unfold fRM; omega) (fun k j y => by unfold fGl at y; unfold fRMl; omega)
  have fM1 : frL (fun k j => (k = 0 ∧ (61 ≤ j ∧ j ≤ 64)) ∨ (k = 33 ∧ 4 * 0 ≤ j)) fN (uX12_begin (uX12_lay ν) (nI 200)) (fm_i (fm_i (fm_i (uX12_begin (uX12_lay ν) (nI 200)) 0 61 0) 0 62 0) 0 63 0) := (((frL.rf _ _ _).i (by omega)).i (by omega)).i (by omega)
  have lk0 : LK (ρ 1) (ρ 0 0) 200 last K A V W P 0 (uX7_startReading (uX5_forget_85 μ) (nI 200)) (uX12_begin (uX12_lay ν) (nI 200)) := ⟨p3, g3, g4, g6⟩
  have lk := LK_R (st := 0) lk0 (frL.rf _ _ _) fM1
  have m61 : fI (fm_i (fm_i (fm_i (uX12_begin (uX12_lay ν) (nI 200)) 0 61 0) 0 62 0) 0 63 0) 0 61 = 0 := by rw [fI_i, if_neg (by omega), fI_i, if_neg (by omega), fI_i, if_pos ⟨rfl, rfl⟩]
  have m62 : fI (fm_i (fm_i (fm_i (uX12_begin (uX12_lay ν) (nI 200)) 0 61 0) 0 62 0) 0 63 0) 0 62 = 0 := by rw [fI_i, if_neg (by omega), fI_i, if_pos ⟨rfl, rfl⟩]
  have m63 : fI (fm_i (fm_i (fm_i (uX12_begin (uX12_lay ν) (nI 200)) 0 61 0) 0 62 0) 0 63 0) 0 63 = 0 := by rw [fI_i, if_pos ⟨rfl, rfl⟩]
  have m2 : fI (fm_i (fm_i (fm_i (uX12_begin (uX12_lay ν) (nI 200)) 0 61 0) 0 62 0) 0 63 0) 0 2 = 0 := by rw [fM1.2.2.2 0 2 (by omega)]; exact g5
  have fM2 : frL fRM fRMl (uX12_lay ν) (fm_i (fm_i (fm_i (uX12_begin (uX12_lay ν) (nI 200)) 0 61 0) 0 62 0) 0 63 0) := fM0.tr (fM1.mo (fun k j y => by unfold fRM; omega) (fun k j y => fN_e y))
  unfold pX11_rule pX5_readFrom pX12_rule
  unfold gX11_rule uX11_rule vX11_rule gX12_rule uX12_rule
  unfold uX11_rule kX11_rule
  unfold gX5_readFrom uX5_readFrom
  rw [e200]
  generalize uX7_startReading (uX5_forget_85 μ) (nI 200) = C at r3 r4 fC0 lk ⊢
  generalize fm_i (fm_i (fm_i (uX12_begin (uX12_lay ν) (nI 200)) 0 61 0) 0 62 0) 0 63 0 = M at lk m61 m62 m63 m2 fM2 ⊢
  have rl : RlN 0 0 0 C M := ⟨r3, r4, m61, m62, m63, by omega, by omega, by omega⟩
  have hw := wr_hw w
  have cn : CNe (σ 0 7) (fun i => σ 22 (16 + i)) C M := by
    refine ⟨hw.1.2.2.1, ?_, ?_, fun i hi => ⟨?_, ?_, (hw.2.2.2.2.2.1 2 i (by omega) hi).1⟩, fun i j => hw.2.2.2.2.2.2 i j⟩
    · rw [fC0.2.2.2 26 2 (by unfold fRC; omega)]
      exact w.1.2.2.2.2.2.2.1 2 (by omega)
    · rw [fM2.2.2.2 2 2 (by unfold fRM; omega)]
      exact w.2.1.2.2.2.2.2.2.2.1 2 (by omega)
    · rw [fC0.2.2.1 25 _ (by unfold fRCl; omega)]
      exact w.1.2.2.2.2.2.2.2.2.2.2.2 2 i (by omega) hi
    · rw [fM2.2.2.1 5 _ (by unfold fRMl; omega)]
      exact w.2.1.2.2.2.2.2.2.2.2.2.2.2.2 2 i (by omega) hi
  obtain ⟨c1, c2, c3, c4, c5⟩ := cond_0 lx 0 0 0 C M lk rl cn
  simp only at c1 c2 c3 c4 c5
  generalize guX5_read fD 0 C 1 = U at c3 c5 ⊢
  generalize guX12_read fD 0 M = T at c4 c5 ⊢
  have fU : frL fRC fRCl μ U.2 := fC0.tr (c3.mo (fun k j y => by unfold fRc at y; unfold fRC; omega) (fun k j y => by unfold fA1l at y; unfold fRCl; omega))
  have fT : frL fRM fRMl (uX12_lay ν) T.2 := fM2.tr (c4.mo (fun k j y => by unfold fRm at y; unfold fRM; omega) (fun k j y => by unfold fGl at y; unfold fRMl; omega))
  have t2 : fI T.2 0 2 = 0 := by rw [c4.2.2.2 0 2 (by unfold fRm; omega)]; exact m2
  rcases c5 with ⟨d1, d2, d3⟩ | ⟨d1, d2, n', so, st, d3, d4, d5, d6, d7, d8, d9⟩
  · simp only [if_pos d1, if_pos d2, if_true]
    refine ⟨⟨p1, c1⟩, ⟨l1, g1, c2, fun q => absurd d2 q⟩, by rw [d3.2], fU.1, σ, σ0, σ1, rzR ρ, s0, s1, RS_rf l2 fU fT t2 d3⟩
  · have n1 : ¬ U.1 = 0 := by rw [d1]; decide
    have n2 : ¬ T.1 = 0 := by rw [d2]; decide
    have ck : fI U.2 1 9 = 0 ↔ K n' = 0 := lk_K lx d3 0 (by omega)
    have mk : fI T.2 0 7 = 0 ↔ kM (K n') = 0 := lk_M lx d3 0 (by omega)
    rw [(kM_v (lk_t lx d3).1).1] at mk
    simp only [if_neg n1, if_neg n2]
    by_cases k0 : K n' = 0
    · have q1 := ck.mpr k0
      have q2 := mk.mpr k0
      have o0 : ¬ (1 : Int32) = 0 := by decide
      simp only [if_pos q1, if_pos q2, if_neg o0]
      have f2 : frL (fun k j => k = 2 ∧ (j = 135 ∨ j = 136 ∨ (2000 ≤ j ∧ j < 2240))) fN T.2 (fm_i (fm_i T.2 2 135 1) 2 136 (fI T.2 0 64)) := ((frL.rf _ _ _).i (by omega)).i (by omega)
      have u135 : fI (fm_i (fm_i T.2 2 135 1) 2 136 (fI T.2 0 64)) 2 135 = 1 := by rw [fI_i, if_neg (by omega), fI_i, if_pos ⟨rfl, rfl⟩]
      have u136 : fI (fm_i (fm_i T.2 2 135 1) 2 136 (fI T.2 0 64)) 2 136 = nI (st - 1) := by rw [fI_i, if_pos ⟨rfl, rfl⟩]; exact d8
      generalize fm_i (fm_i T.2 2 135 1) 2 136 (fI T.2 0 64) = Q at f2 u135 u136 ⊢
      obtain ⟨h1, h2, S, h3, h4, h5⟩ := ru_83 240 fF 0 Q (by omega) (fF_gt (by omega))
      have z0 : (0 : Int32) = nI 0 := rfl
      refine ⟨⟨p1, c1⟩, ⟨l1, g1, c2, fun _ _ => h1⟩, ?_, fU.1, σ, σ0, σ1, rzR ρ, s0, s1, ?_⟩
      · show fI (fm_i (fm_i U.2 1 2 0) 0 12 0) 85 4 = _
        rw [fI_i, if_neg (by omega), fI_i, if_neg (by omega), d4.2.1, z0, h2, f2.2.2.2 0 62 (by omega), d4.2.2.2.1]
      · rw [z0, h3]
        have so20 := d4.2.2.2.2.2.1
        have st2 := d4.2.2.2.2.2.2.1
        refine RS_ru (so := so) (st := st) l2 l3 hz.1 fU fT t2 d3.2.2.2 d4.1 d4.2.1 so20 (by omega) d5 (TG_m d9 (by omega)) (f2.tr (h4.mo (fun k j y => by omega) (fun _ _ y => y))) ?_ ?_ (fun j hj => ?_)
        · rw [h4.2.2.2 2 135 (by omega)]; exact u135
        · rw [h4.2.2.2 2 136 (by omega)]; exact u136
        · rw [h5 j (by omega) hj, f2.2.2.2 33 j (by omega)]
    · have q1 : ¬ fI U.2 1 9 = 0 := fun y => k0 (ck.mp y)
      have q2 : ¬ fI T.2 0 7 = 0 := fun y => k0 (mk.mp y)
      have o0 : gX7_fail U.2 1 = 0 := rfl
      simp only [if_neg q1, if_neg q2, if_pos o0, if_true]
      obtain ⟨a1, a2, a3⟩ := pfa lx d3 1 (fun _ => rfl)
      have e1 : (1 : Int32) = nI 1 := rfl
      rw [e1]
      have fU' := fU.tr (a1.mo (A' := fRC) (B' := fRCl) (fun k j y => by unfold fAc at y; unfold fRC; omega) (fun k j y => fN_e y))
      have fT' := fT.tr (a2.mo (A' := fRM) (B' := fRMl) (fun k j y => by unfold fGm at y; unfold fRM; omega) (fun k j y => fN_e y))
      have t2' : fI (uX12_bad T.2 (nI 1)) 0 2 = 0 := by rw [a2.2.2.2 0 2 (by unfold fGm; omega)]; exact t2
      refine ⟨⟨p1, c1⟩, ⟨l1, g1, c2, fun _ q => absurd q q2⟩, by rw [a3.2], fU'.1, σ, σ0, σ1, rzR ρ, s0, s1, RS_rf l2 fU' fT' t2' a3⟩
