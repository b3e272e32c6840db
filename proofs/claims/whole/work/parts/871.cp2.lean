theorem cA_8_89 {K : Nat → Nat → Prop} {L : Prop} {μ μ' : fm_T} (h0 : CP 8 89 K L μ μ') : CP 8 89 (fun k j => K k j ∨ csA k j) L μ (uX8_copyFrom_9_90 μ') := by
  have D : 89 + 32 ≤ 8 ∨ 8 + 32 ≤ 89 := by omega
  unfold uX8_copyFrom_9_90
  have h1 : CP 8 89 _ L μ (uX11_copyRow_91_10 μ') := h0.c 2 560 (by omega) D
  generalize (uX11_copyRow_91_10 μ') = M1 at h1 ⊢
  have h2 : CP 8 89 _ L μ (uX11_copyRow_92_11 M1) := h1.c 3 240 (by omega) D
  generalize (uX11_copyRow_92_11 M1) = M2 at h2 ⊢
  have h3 : CP 8 89 _ L μ (uX11_copyRow_93_12 M2) := h2.c 4 240 (by omega) D
  generalize (uX11_copyRow_93_12 M2) = M3 at h3 ⊢
  have h4 : CP 8 89 _ L μ (uX11_copyRow_94_13 M3) := h3.c 5 240 (by omega) D
  generalize (uX11_copyRow_94_13 M3) = M4 at h4 ⊢
  have h5 : CP 8 89 _ L μ (uX11_copyRow_95_14 M4) := h4.c 6 240 (by omega) D
  generalize (uX11_copyRow_95_14 M4) = M5 at h5 ⊢
  have h6 : CP 8 89 _ L μ (fm_i M5 9 5 (fI M5 90 5)) := h5.i 1 5 _ (by omega) (h5.v D 1 5 (by omega))
  have h7 : CP 8 89 _ L μ (fm_i (fm_i M5 9 5 (fI M5 90 5)) 9 6 (fI M5 90 6)) := h6.i 1 6 _ (by omega) (h5.v D 1 6 (by omega))
  have h8 : CP 8 89 _ L μ (fm_i (fm_i (fm_i M5 9 5 (fI M5 90 5)) 9 6 (fI M5 90 6)) 9 7 (fI M5 90 7)) := h7.i 1 7 _ (by omega) (h5.v D 1 7 (by omega))
  refine h8.mo (fun k j q => ?_)
  rcases q with q | q
  · exact Or.inl (Or.inl (Or.inl (Or.inl (Or.inl (Or.inl (Or.inl (Or.inl (q))))))))
  · rcases q with q | q | q | q | q | q | q | q
    · exact Or.inl (Or.inl (Or.inl (Or.inl (Or.inl (Or.inl (Or.inl (Or.inr q)))))))
    · exact Or.inl (Or.inl (Or.inl (Or.inl (Or.inl (Or.inl (Or.inr q))))))
    · exact Or.inl (Or.inl (Or.inl (Or.inl (Or.inl (Or.inr q)))))
    · exact Or.inl (Or.inl (Or.inl (Or.inl (Or.inr q))))
    · exact Or.inl (Or.inl (Or.inl (Or.inr q)))
    · exact Or.inl (Or.inl (Or.inr q))
    · exact Or.inl (Or.inr q)
    · exact Or.inr q
theorem cB_8_89 {K : Nat → Nat → Prop} {L : Prop} {μ μ' : fm_T} (h0 : CP 8 89 K L μ μ') : CP 8 89 (fun k j => K k j ∨ csB k j) L μ (uX3_copyFrom_15_96 μ') := by
  have D : 89 + 32 ≤ 8 ∨ 8 + 32 ≤ 89 := by omega
  unfold uX3_copyFrom_15_96
  have h1 : CP 8 89 _ L μ (uX11_copyRow_97_16 μ') := h0.c 8 200 (by omega) D
  generalize (uX11_copyRow_97_16 μ') = M1 at h1 ⊢
  have h2 : CP 8 89 _ L μ (uX11_copyRow_98_17 M1) := h1.c 9 200 (by omega) D
  generalize (uX11_copyRow_98_17 M1) = M2 at h2 ⊢
  have h3 : CP 8 89 _ L μ (uX11_copyRow_99_18 M2) := h2.c 10 200 (by omega) D
  generalize (uX11_copyRow_99_18 M2) = M3 at h3 ⊢
  have h4 : CP 8 89 _ L μ (uX11_copyRow_100_19 M3) := h3.c 11 100 (by omega) D
  generalize (uX11_copyRow_100_19 M3) = M4 at h4 ⊢
  have h5 : CP 8 89 _ L μ (uX11_copyRow_101_20 M4) := h4.c 12 40 (by omega) D
  generalize (uX11_copyRow_101_20 M4) = M5 at h5 ⊢
  have h6 : CP 8 89 _ L μ (uX11_copyRow_102_21 M5) := h5.c 13 40 (by omega) D
  generalize (uX11_copyRow_102_21 M5) = M6 at h6 ⊢
  have h7 : CP 8 89 _ L μ (uX11_copyRow_103_22 M6) := h6.c 14 40 (by omega) D
  generalize (uX11_copyRow_103_22 M6) = M7 at h7 ⊢
  have h8 : CP 8 89 _ L μ (uX11_copyRow_104_23 M7) := h7.c 15 40 (by omega) D
  generalize (uX11_copyRow_104_23 M7) = M8 at h8 ⊢
  have h9 : CP 8 89 _ L μ (fm_i M8 15 8 (fI M8 96 8)) := h8.i 7 8 _ (by omega) (h8.v D 7 8 (by omega))
  refine h9.mo (fun k j q => ?_)
  rcases q with q | q
  · exact Or.inl (Or.inl (Or.inl (Or.inl (Or.inl (Or.inl (Or.inl (Or.inl (Or.inl (q)))))))))
  · rcases q with q | q | q | q | q | q | q | q | q
    · exact Or.inl (Or.inl (Or.inl (Or.inl (Or.inl (Or.inl (Or.inl (Or.inl (Or.inr q))))))))
    · exact Or.inl (Or.inl (Or.inl (Or.inl (Or.inl (Or.inl (Or.inl (Or.inr q)))))))
    · exact Or.inl (Or.inl (Or.inl (Or.inl (Or.inl (Or.inl (Or.inr q))))))
    · exact Or.inl (Or.inl (Or.inl (Or.inl (Or.inl (Or.inr q)))))
    · exact Or.inl (Or.inl (Or.inl (Or.inl (Or.inr q))))
    · exact Or.inl (Or.inl (Or.inl (Or.inr q)))
    · exact Or.inl (Or.inl (Or.inr q))
    · exact Or.inl (Or.inr q)
    · exact Or.inr q
theorem cC_8_89 {K : Nat → Nat → Prop} {L : Prop} {μ μ' : fm_T} (h0 : CP 8 89 K L μ μ') : CP 8 89 (fun k j => K k j ∨ csC k j) True μ (uX2_copyFrom_24_105 μ') := by
  have D : 89 + 32 ≤ 8 ∨ 8 + 32 ≤ 89 := by omega
  unfold uX2_copyFrom_24_105
  have h1 : CP 8 89 _ True μ (fm_d μ' 25 106 0 0 32) := h0.dl D
  generalize (fm_d μ' 25 106 0 0 32) = M1 at h1 ⊢
  have h2 : CP 8 89 _ True μ (uX11_copyRow_107_26 M1) := h1.c 18 4 (by omega) D
  generalize (uX11_copyRow_107_26 M1) = M2 at h2 ⊢
  have h3 : CP 8 89 _ True μ (uX11_copyRow_108_27 M2) := h2.c 19 6 (by omega) D
  generalize (uX11_copyRow_108_27 M2) = M3 at h3 ⊢
  have h4 : CP 8 89 _ True μ (uX11_copyRow_109_28 M3) := h3.c 20 36 (by omega) D
  generalize (uX11_copyRow_109_28 M3) = M4 at h4 ⊢
  have h5 : CP 8 89 _ True μ (uX11_copyRow_110_29 M4) := h4.c 21 8 (by omega) D
  generalize (uX11_copyRow_110_29 M4) = M5 at h5 ⊢
  have h6 : CP 8 89 _ True μ (uX11_copyRow_111_30 M5) := h5.c 22 8 (by omega) D
  generalize (uX11_copyRow_111_30 M5) = M6 at h6 ⊢
  have h7 : CP 8 89 _ True μ (uX11_copyRow_112_31 M6) := h6.c 23 8 (by omega) D
  generalize (uX11_copyRow_112_31 M6) = M7 at h7 ⊢
  have h8 : CP 8 89 _ True μ (uX11_copyRow_113_32 M7) := h7.c 24 8 (by omega) D
  generalize (uX11_copyRow_113_32 M7) = M8 at h8 ⊢
  have h9 : CP 8 89 _ True μ (uX11_copyRow_114_33 M8) := h8.c 25 4 (by omega) D
  generalize (uX11_copyRow_114_33 M8) = M9 at h9 ⊢
  have h10 : CP 8 89 _ True μ (uX11_copyRow_115_34 M9) := h9.c 26 4 (by omega) D
  generalize (uX11_copyRow_115_34 M9) = M10 at h10 ⊢
  have h11 : CP 8 89 _ True μ (uX11_copyRow_116_35 M10) := h10.c 27 4 (by omega) D
  generalize (uX11_copyRow_116_35 M10) = M11 at h11 ⊢
  refine h11.mo (fun k j q => ?_)
  rcases q with q | q
  · exact Or.inl (Or.inl (Or.inl (Or.inl (Or.inl (Or.inl (Or.inl (Or.inl (Or.inl (Or.inl (q))))))))))
  · rcases q with q | q | q | q | q | q | q | q | q | q
    · exact Or.inl (Or.inl (Or.inl (Or.inl (Or.inl (Or.inl (Or.inl (Or.inl (Or.inl (Or.inr q)))))))))
    · exact Or.inl (Or.inl (Or.inl (Or.inl (Or.inl (Or.inl (Or.inl (Or.inl (Or.inr q))))))))
    · exact Or.inl (Or.inl (Or.inl (Or.inl (Or.inl (Or.inl (Or.inl (Or.inr q)))))))
    · exact Or.inl (Or.inl (Or.inl (Or.inl (Or.inl (Or.inl (Or.inr q))))))
    · exact Or.inl (Or.inl (Or.inl (Or.inl (Or.inl (Or.inr q)))))
    · exact Or.inl (Or.inl (Or.inl (Or.inl (Or.inr q))))
    · exact Or.inl (Or.inl (Or.inl (Or.inr q)))
    · exact Or.inl (Or.inl (Or.inr q))
    · exact Or.inl (Or.inr q)
    · exact Or.inr q
theorem cE_8_89 {K : Nat → Nat → Prop} {L : Prop} {μ μ' : fm_T} (h0 : CP 8 89 K L μ μ') : CP 8 89 (fun k j => K k j ∨ csE k j) L μ (uX5_copyFrom_36_117 μ') := by
  have D : 89 + 32 ≤ 8 ∨ 8 + 32 ≤ 89 := by omega
  unfold uX5_copyFrom_36_117
  have h1 : CP 8 89 _ L μ (uX11_copyRow_118_37 μ') := h0.c 29 40 (by omega) D
  generalize (uX11_copyRow_118_37 μ') = M1 at h1 ⊢
  have h2 : CP 8 89 _ L μ (uX11_copyRow_119_38 M1) := h1.c 30 40 (by omega) D
  generalize (uX11_copyRow_119_38 M1) = M2 at h2 ⊢
  have h3 : CP 8 89 _ L μ (uX11_copyRow_120_39 M2) := h2.c 31 40 (by omega) D
  generalize (uX11_copyRow_120_39 M2) = M3 at h3 ⊢
  have h4 : CP 8 89 _ L μ (fm_i M3 36 3 (fI M3 117 3)) := h3.i 28 3 _ (by omega) (h3.v D 28 3 (by omega))
  have h5 : CP 8 89 _ L μ (fm_i (fm_i M3 36 3 (fI M3 117 3)) 36 4 (fI M3 117 4)) := h4.i 28 4 _ (by omega) (h3.v D 28 4 (by omega))
  refine h5.mo (fun k j q => ?_)
  rcases q with q | q
  · exact Or.inl (Or.inl (Or.inl (Or.inl (Or.inl (q)))))
  · rcases q with q | q | q | q | q
    · exact Or.inl (Or.inl (Or.inl (Or.inl (Or.inr q))))
    · exact Or.inl (Or.inl (Or.inl (Or.inr q)))
    · exact Or.inl (Or.inl (Or.inr q))
    · exact Or.inl (Or.inr q)
    · exact Or.inr q
theorem cp_8_89 (μ : fm_T) : CP 8 89 inR True μ (uX10_copyFrom_8_89 μ) := by
  have D : 89 + 32 ≤ 8 ∨ 8 + 32 ≤ 89 := by omega
  have h4 := cE_8_89 (cC_8_89 (cB_8_89 (cA_8_89 (CP.rf 8 89 μ))))
  unfold uX10_copyFrom_8_89
  generalize uX5_copyFrom_36_117 (uX2_copyFrom_24_105 (uX3_copyFrom_15_96 (uX8_copyFrom_9_90 μ))) = M at h4 ⊢
  have h5 : CP 8 89 _ True μ (fm_i M 8 4 (fI M 89 4)) := h4.i 0 4 _ (by omega) (h4.v D 0 4 (by omega))
  refine h5.mo (fun k j q => ?_)
  rcases q with q | q | q | q | q
  · exact Or.inl (Or.inl (Or.inl (Or.inl (Or.inr q))))
  · exact Or.inl (Or.inl (Or.inl (Or.inr q)))
  · exact Or.inl (Or.inl (Or.inr q))
  · exact Or.inl (Or.inr q)
  · exact Or.inr q
