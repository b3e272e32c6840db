theorem cA_8_121 {K : Nat → Nat → Prop} {L : Prop} {μ μ' : fm_T} (h0 : CP 8 121 K L μ μ') : CP 8 121 (fun k j => K k j ∨ csA k j) L μ (uX8_copyFrom_9_122 μ') := by
  have D : 121 + 32 ≤ 8 ∨ 8 + 32 ≤ 121 := by omega
  unfold uX8_copyFrom_9_122
  have h1 : CP 8 121 _ L μ (uX11_copyRow_123_10 μ') := h0.c 2 560 (by omega) D
  generalize (uX11_copyRow_123_10 μ') = M1 at h1 ⊢
  have h2 : CP 8 121 _ L μ (uX11_copyRow_124_11 M1) := h1.c 3 240 (by omega) D
  generalize (uX11_copyRow_124_11 M1) = M2 at h2 ⊢
  have h3 : CP 8 121 _ L μ (uX11_copyRow_125_12 M2) := h2.c 4 240 (by omega) D
  generalize (uX11_copyRow_125_12 M2) = M3 at h3 ⊢
  have h4 : CP 8 121 _ L μ (uX11_copyRow_126_13 M3) := h3.c 5 240 (by omega) D
  generalize (uX11_copyRow_126_13 M3) = M4 at h4 ⊢
  have h5 : CP 8 121 _ L μ (uX11_copyRow_127_14 M4) := h4.c 6 240 (by omega) D
  generalize (uX11_copyRow_127_14 M4) = M5 at h5 ⊢
  have h6 : CP 8 121 _ L μ (fm_i M5 9 5 (fI M5 122 5)) := h5.i 1 5 _ (by omega) (h5.v D 1 5 (by omega))
  have h7 : CP 8 121 _ L μ (fm_i (fm_i M5 9 5 (fI M5 122 5)) 9 6 (fI M5 122 6)) := h6.i 1 6 _ (by omega) (h5.v D 1 6 (by omega))
  have h8 : CP 8 121 _ L μ (fm_i (fm_i (fm_i M5 9 5 (fI M5 122 5)) 9 6 (fI M5 122 6)) 9 7 (fI M5 122 7)) := h7.i 1 7 _ (by omega) (h5.v D 1 7 (by omega))
  refine h8.mo (fun k j q => ?_)
  rcases q with q | q
  · exact Or.inl (Or.inl (Or.inl (Or.inl (Or.inl (Or.inl (Or.inl (Or.inl (q))))))))
  · rcases q with q | q | q | q | q | q | q | q
    · exact Or.inl (Or.inl (Or.inl (Or.inl (Or.inl (Or.inl (Or.inl (Or.inr q)))))))
    · exact Or.inl (Or.inl (Or.inl (Or.inl (Or.inl (Or.inl (Or.inr q))))))
    · exact Or.inl (Or.inl (Or.inl (Or.inl (Or.inl (Or.inr q)))))
    · exact Or.inl (Or.inl (Or.inl (Or.inl (Or.inr q))))
    · exact Or.inl (Or.inl (Or.inl (Or.inr q)))
    · exact Or.inl (Or.inl (Or.inr q))
    · exact Or.inl (Or.inr q)
    · exact Or.inr q
theorem cB_8_121 {K : Nat → Nat → Prop} {L : Prop} {μ μ' : fm_T} (h0 : CP 8 121 K L μ μ') : CP 8 121 (fun k j => K k j ∨ csB k j) L μ (uX3_copyFrom_15_128 μ') := by
  have D : 121 + 32 ≤ 8 ∨ 8 + 32 ≤ 121 := by omega
  unfold uX3_copyFrom_15_128
  have h1 : CP 8 121 _ L μ (uX11_copyRow_129_16 μ') := h0.c 8 200 (by omega) D
  generalize (uX11_copyRow_129_16 μ') = M1 at h1 ⊢
  have h2 : CP 8 121 _ L μ (uX11_copyRow_130_17 M1) := h1.c 9 200 (by omega) D
  generalize (uX11_copyRow_130_17 M1) = M2 at h2 ⊢
  have h3 : CP 8 121 _ L μ (uX11_copyRow_131_18 M2) := h2.c 10 200 (by omega) D
  generalize (uX11_copyRow_131_18 M2) = M3 at h3 ⊢
  have h4 : CP 8 121 _ L μ (uX11_copyRow_132_19 M3) := h3.c 11 100 (by omega) D
  generalize (uX11_copyRow_132_19 M3) = M4 at h4 ⊢
  have h5 : CP 8 121 _ L μ (uX11_copyRow_133_20 M4) := h4.c 12 40 (by omega) D
  generalize (uX11_copyRow_133_20 M4) = M5 at h5 ⊢
  have h6 : CP 8 121 _ L μ (uX11_copyRow_134_21 M5) := h5.c 13 40 (by omega) D
  generalize (uX11_copyRow_134_21 M5) = M6 at h6 ⊢
  have h7 : CP 8 121 _ L μ (uX11_copyRow_135_22 M6) := h6.c 14 40 (by omega) D
  generalize (uX11_copyRow_135_22 M6) = M7 at h7 ⊢
  have h8 : CP 8 121 _ L μ (uX11_copyRow_136_23 M7) := h7.c 15 40 (by omega) D
  generalize (uX11_copyRow_136_23 M7) = M8 at h8 ⊢
  have h9 : CP 8 121 _ L μ (fm_i M8 15 8 (fI M8 128 8)) := h8.i 7 8 _ (by omega) (h8.v D 7 8 (by omega))
  refine h9.mo (fun k j q => ?_)
  rcases q with q | q
  · exact Or.inl (Or.inl (Or.inl (Or.inl (Or.inl (Or.inl (Or.inl (Or.inl (Or.inl (q)))))))))
  · rcases q with q | q | q | q | q | q | q | q | q
    · exact Or.inl (Or.inl (Or.inl (Or.inl (Or.inl (Or.inl (Or.inl (Or.inl (Or.inr q))))))))
    · exact Or.inl (Or.inl (Or.inl (Or.inl (Or.inl (Or.inl (Or.inl (Or.inr q)))))))
    · exact Or.inl (Or.inl (Or.inl (Or.inl (Or.inl (Or.inl (Or.inr q))))))
    · exact Or.inl (Or.inl (Or.inl (Or.inl (Or.inl (Or.inr q)))))
    · exact Or.inl (Or.inl (Or.inl (Or.inl (Or.inr q))))
    · exact Or.inl (Or.inl (Or.inl (Or.inr q)))
    · exact Or.inl (Or.inl (Or.inr q))
    · exact Or.inl (Or.inr q)
    · exact Or.inr q
theorem cC_8_121 {K : Nat → Nat → Prop} {L : Prop} {μ μ' : fm_T} (h0 : CP 8 121 K L μ μ') : CP 8 121 (fun k j => K k j ∨ csC k j) True μ (uX2_copyFrom_24_137 μ') := by
  have D : 121 + 32 ≤ 8 ∨ 8 + 32 ≤ 121 := by omega
  unfold uX2_copyFrom_24_137
  have h1 : CP 8 121 _ True μ (fm_d μ' 25 138 0 0 32) := h0.dl D
  generalize (fm_d μ' 25 138 0 0 32) = M1 at h1 ⊢
  have h2 : CP 8 121 _ True μ (uX11_copyRow_139_26 M1) := h1.c 18 4 (by omega) D
  generalize (uX11_copyRow_139_26 M1) = M2 at h2 ⊢
  have h3 : CP 8 121 _ True μ (uX11_copyRow_140_27 M2) := h2.c 19 6 (by omega) D
  generalize (uX11_copyRow_140_27 M2) = M3 at h3 ⊢
  have h4 : CP 8 121 _ True μ (uX11_copyRow_141_28 M3) := h3.c 20 36 (by omega) D
  generalize (uX11_copyRow_141_28 M3) = M4 at h4 ⊢
  have h5 : CP 8 121 _ True μ (uX11_copyRow_142_29 M4) := h4.c 21 8 (by omega) D
  generalize (uX11_copyRow_142_29 M4) = M5 at h5 ⊢
  have h6 : CP 8 121 _ True μ (uX11_copyRow_143_30 M5) := h5.c 22 8 (by omega) D
  generalize (uX11_copyRow_143_30 M5) = M6 at h6 ⊢
  have h7 : CP 8 121 _ True μ (uX11_copyRow_144_31 M6) := h6.c 23 8 (by omega) D
  generalize (uX11_copyRow_144_31 M6) = M7 at h7 ⊢
  have h8 : CP 8 121 _ True μ (uX11_copyRow_145_32 M7) := h7.c 24 8 (by omega) D
  generalize (uX11_copyRow_145_32 M7) = M8 at h8 ⊢
  have h9 : CP 8 121 _ True μ (uX11_copyRow_146_33 M8) := h8.c 25 4 (by omega) D
  generalize (uX11_copyRow_146_33 M8) = M9 at h9 ⊢
  have h10 : CP 8 121 _ True μ (uX11_copyRow_147_34 M9) := h9.c 26 4 (by omega) D
  generalize (uX11_copyRow_147_34 M9) = M10 at h10 ⊢
  have h11 : CP 8 121 _ True μ (uX11_copyRow_148_35 M10) := h10.c 27 4 (by omega) D
  generalize (uX11_copyRow_148_35 M10) = M11 at h11 ⊢
  refine h11.mo (fun k j q => ?_)
  rcases q with q | q
  · exact Or.inl (Or.inl (Or.inl (Or.inl (Or.inl (Or.inl (Or.inl (Or.inl (Or.inl (Or.inl (q))))))))))
  · rcases q with q | q | q | q | q | q | q | q | q | q
    · exact Or.inl (Or.inl (Or.inl (Or.inl (Or.inl (Or.inl (Or.inl (Or.inl (Or.inl (Or.inr q)))))))))
    · exact Or.inl (Or.inl (Or.inl (Or.inl (Or.inl (Or.inl (Or.inl (Or.inl (Or.inr q))))))))
    · exact Or.inl (Or.inl (Or.inl (Or.inl (Or.inl (Or.inl (Or.inl (Or.inr q)))))))
    · exact Or.inl (Or.inl (Or.inl (Or.inl (Or.inl (Or.inl (Or.inr q))))))
    · exact Or.inl (Or.inl (Or.inl (Or.inl (Or.inl (Or.inr q)))))
    · exact Or.inl (Or.inl (Or.inl (Or.inl (Or.inr q))))
    · exact Or.inl (Or.inl (Or.inl (Or.inr q)))
    · exact Or.inl (Or.inl (Or.inr q))
    · exact Or.inl (Or.inr q)
    · exact Or.inr q
theorem cE_8_121 {K : Nat → Nat → Prop} {L : Prop} {μ μ' : fm_T} (h0 : CP 8 121 K L μ μ') : CP 8 121 (fun k j => K k j ∨ csE k j) L μ (uX5_copyFrom_36_149 μ') := by
  have D : 121 + 32 ≤ 8 ∨ 8 + 32 ≤ 121 := by omega
  unfold uX5_copyFrom_36_149
  have h1 : CP 8 121 _ L μ (uX11_copyRow_150_37 μ') := h0.c 29 40 (by omega) D
  generalize (uX11_copyRow_150_37 μ') = M1 at h1 ⊢
  have h2 : CP 8 121 _ L μ (uX11_copyRow_151_38 M1) := h1.c 30 40 (by omega) D
  generalize (uX11_copyRow_151_38 M1) = M2 at h2 ⊢
  have h3 : CP 8 121 _ L μ (uX11_copyRow_152_39 M2) := h2.c 31 40 (by omega) D
  generalize (uX11_copyRow_152_39 M2) = M3 at h3 ⊢
  have h4 : CP 8 121 _ L μ (fm_i M3 36 3 (fI M3 149 3)) := h3.i 28 3 _ (by omega) (h3.v D 28 3 (by omega))
  have h5 : CP 8 121 _ L μ (fm_i (fm_i M3 36 3 (fI M3 149 3)) 36 4 (fI M3 149 4)) := h4.i 28 4 _ (by omega) (h3.v D 28 4 (by omega))
  refine h5.mo (fun k j q => ?_)
  rcases q with q | q
  · exact Or.inl (Or.inl (Or.inl (Or.inl (Or.inl (q)))))
  · rcases q with q | q | q | q | q
    · exact Or.inl (Or.inl (Or.inl (Or.inl (Or.inr q))))
    · exact Or.inl (Or.inl (Or.inl (Or.inr q)))
    · exact Or.inl (Or.inl (Or.inr q))
    · exact Or.inl (Or.inr q)
    · exact Or.inr q
theorem cp_8_121 (μ : fm_T) : CP 8 121 inR True μ (uX10_copyFrom_8_121 μ) := by
  have D : 121 + 32 ≤ 8 ∨ 8 + 32 ≤ 121 := by omega
  have h4 := cE_8_121 (cC_8_121 (cB_8_121 (cA_8_121 (CP.rf 8 121 μ))))
  unfold uX10_copyFrom_8_121
  generalize uX5_copyFrom_36_149 (uX2_copyFrom_24_137 (uX3_copyFrom_15_128 (uX8_copyFrom_9_122 μ))) = M at h4 ⊢
  have h5 : CP 8 121 _ True μ (fm_i M 8 4 (fI M 121 4)) := h4.i 0 4 _ (by omega) (h4.v D 0 4 (by omega))
  refine h5.mo (fun k j q => ?_)
  rcases q with q | q | q | q | q
  · exact Or.inl (Or.inl (Or.inl (Or.inl (Or.inr q))))
  · exact Or.inl (Or.inl (Or.inl (Or.inr q)))
  · exact Or.inl (Or.inl (Or.inr q))
  · exact Or.inl (Or.inr q)
  · exact Or.inr q
