theorem cA_121_8 {K : Nat → Nat → Prop} {L : Prop} {μ μ' : fm_T} (h0 : CP 121 8 K L μ μ') : CP 121 8 (fun k j => K k j ∨ csA k j) L μ (uX8_copyFrom_122_9 μ') := by
  have D : 8 + 32 ≤ 121 ∨ 121 + 32 ≤ 8 := by omega
  unfold uX8_copyFrom_122_9
  have h1 : CP 121 8 _ L μ (uX11_copyRow_10_123 μ') := h0.c 2 560 (by omega) D
  generalize (uX11_copyRow_10_123 μ') = M1 at h1 ⊢
  have h2 : CP 121 8 _ L μ (uX11_copyRow_11_124 M1) := h1.c 3 240 (by omega) D
  generalize (uX11_copyRow_11_124 M1) = M2 at h2 ⊢
  have h3 : CP 121 8 _ L μ (uX11_copyRow_12_125 M2) := h2.c 4 240 (by omega) D
  generalize (uX11_copyRow_12_125 M2) = M3 at h3 ⊢
  have h4 : CP 121 8 _ L μ (uX11_copyRow_13_126 M3) := h3.c 5 240 (by omega) D
  generalize (uX11_copyRow_13_126 M3) = M4 at h4 ⊢
  have h5 : CP 121 8 _ L μ (uX11_copyRow_14_127 M4) := h4.c 6 240 (by omega) D
  generalize (uX11_copyRow_14_127 M4) = M5 at h5 ⊢
  have h6 : CP 121 8 _ L μ (fm_i M5 122 5 (fI M5 9 5)) := h5.i 1 5 _ (by omega) (h5.v D 1 5 (by omega))
  have h7 : CP 121 8 _ L μ (fm_i (fm_i M5 122 5 (fI M5 9 5)) 122 6 (fI M5 9 6)) := h6.i 1 6 _ (by omega) (h5.v D 1 6 (by omega))
  have h8 : CP 121 8 _ L μ (fm_i (fm_i (fm_i M5 122 5 (fI M5 9 5)) 122 6 (fI M5 9 6)) 122 7 (fI M5 9 7)) := h7.i 1 7 _ (by omega) (h5.v D 1 7 (by omega))
  refine h8.mo (fun k j q => ?_)
  rcases q with q | q
  · exact Or.inl (Or.inl (Or.inl (Or.inl (Or.inl (Or.inl (Or.inl (Or.inl (q))))))))
  · rcases q with q | q | q | q | q | q | q | q
    · exact Or.inl (Or.inl (Or.inl (Or.inl (Or.inl (Or.inl (Or.inl (Or.inr q)))))))
    · exact Or.inl (Or.inl (Or.inl (Or.inl (Or.inl (Or.inl (Or.inr q))))))
    · exact Or.inl (Or.inl (Or.inl (Or.inl (Or.inl (Or.inr q)))))
    · exact Or.inl (Or.inl (Or.inl (Or.inl (Or.inr q))))
    · exact Or.inl (Or.inl (Or.inl (Or.inr q)))
    · exact Or.inl (Or.inl (Or.inr q))
    · exact Or.inl (Or.inr q)
    · exact Or.inr q
theorem cB_121_8 {K : Nat → Nat → Prop} {L : Prop} {μ μ' : fm_T} (h0 : CP 121 8 K L μ μ') : CP 121 8 (fun k j => K k j ∨ csB k j) L μ (uX3_copyFrom_128_15 μ') := by
  have D : 8 + 32 ≤ 121 ∨ 121 + 32 ≤ 8 := by omega
  unfold uX3_copyFrom_128_15
  have h1 : CP 121 8 _ L μ (uX11_copyRow_16_129 μ') := h0.c 8 200 (by omega) D
  generalize (uX11_copyRow_16_129 μ') = M1 at h1 ⊢
  have h2 : CP 121 8 _ L μ (uX11_copyRow_17_130 M1) := h1.c 9 200 (by omega) D
  generalize (uX11_copyRow_17_130 M1) = M2 at h2 ⊢
  have h3 : CP 121 8 _ L μ (uX11_copyRow_18_131 M2) := h2.c 10 200 (by omega) D
  generalize (uX11_copyRow_18_131 M2) = M3 at h3 ⊢
  have h4 : CP 121 8 _ L μ (uX11_copyRow_19_132 M3) := h3.c 11 100 (by omega) D
  generalize (uX11_copyRow_19_132 M3) = M4 at h4 ⊢
  have h5 : CP 121 8 _ L μ (uX11_copyRow_20_133 M4) := h4.c 12 40 (by omega) D
  generalize (uX11_copyRow_20_133 M4) = M5 at h5 ⊢
  have h6 : CP 121 8 _ L μ (uX11_copyRow_21_134 M5) := h5.c 13 40 (by omega) D
  generalize (uX11_copyRow_21_134 M5) = M6 at h6 ⊢
  have h7 : CP 121 8 _ L μ (uX11_copyRow_22_135 M6) := h6.c 14 40 (by omega) D
  generalize (uX11_copyRow_22_135 M6) = M7 at h7 ⊢
  have h8 : CP 121 8 _ L μ (uX11_copyRow_23_136 M7) := h7.c 15 40 (by omega) D
  generalize (uX11_copyRow_23_136 M7) = M8 at h8 ⊢
  have h9 : CP 121 8 _ L μ (fm_i M8 128 8 (fI M8 15 8)) := h8.i 7 8 _ (by omega) (h8.v D 7 8 (by omega))
  refine h9.mo (fun k j q => ?_)
  rcases q with q | q
  · exact Or.inl (Or.inl (Or.inl (Or.inl (Or.inl (Or.inl (Or.inl (Or.inl (Or.inl (q)))))))))
  · rcases q with q | q | q | q | q | q | q | q | q
    · exact Or.inl (Or.inl (Or.inl (Or.inl (Or.inl (Or.inl (Or.inl (Or.inl (Or.inr q))))))))
    · exact Or.inl (Or.inl (Or.inl (Or.inl (Or.inl (Or.inl (Or.inl (Or.inr q)))))))
    · exact Or.inl (Or.inl (Or.inl (Or.inl (Or.inl (Or.inl (Or.inr q))))))
    · exact Or.inl (Or.inl (Or.inl (Or.inl (Or.inl (Or.inr q)))))
    · exact Or.inl (Or.inl (Or.inl (Or.inl (Or.inr q))))
    · exact Or.inl (Or.inl (Or.inl (Or.inr q)))
    · exact Or.inl (Or.inl (Or.inr q))
    · exact Or.inl (Or.inr q)
    · exact Or.inr q
theorem cC_121_8 {K : Nat → Nat → Prop} {L : Prop} {μ μ' : fm_T} (h0 : CP 121 8 K L μ μ') : CP 121 8 (fun k j => K k j ∨ csC k j) True μ (uX2_copyFrom_137_24 μ') := by
  have D : 8 + 32 ≤ 121 ∨ 121 + 32 ≤ 8 := by omega
  unfold uX2_copyFrom_137_24
  have h1 : CP 121 8 _ True μ (fm_d μ' 138 25 0 0 32) := h0.dl D
  generalize (fm_d μ' 138 25 0 0 32) = M1 at h1 ⊢
  have h2 : CP 121 8 _ True μ (uX11_copyRow_26_139 M1) := h1.c 18 4 (by omega) D
  generalize (uX11_copyRow_26_139 M1) = M2 at h2 ⊢
  have h3 : CP 121 8 _ True μ (uX11_copyRow_27_140 M2) := h2.c 19 6 (by omega) D
  generalize (uX11_copyRow_27_140 M2) = M3 at h3 ⊢
  have h4 : CP 121 8 _ True μ (uX11_copyRow_28_141 M3) := h3.c 20 36 (by omega) D
  generalize (uX11_copyRow_28_141 M3) = M4 at h4 ⊢
  have h5 : CP 121 8 _ True μ (uX11_copyRow_29_142 M4) := h4.c 21 8 (by omega) D
  generalize (uX11_copyRow_29_142 M4) = M5 at h5 ⊢
  have h6 : CP 121 8 _ True μ (uX11_copyRow_30_143 M5) := h5.c 22 8 (by omega) D
  generalize (uX11_copyRow_30_143 M5) = M6 at h6 ⊢
  have h7 : CP 121 8 _ True μ (uX11_copyRow_31_144 M6) := h6.c 23 8 (by omega) D
  generalize (uX11_copyRow_31_144 M6) = M7 at h7 ⊢
  have h8 : CP 121 8 _ True μ (uX11_copyRow_32_145 M7) := h7.c 24 8 (by omega) D
  generalize (uX11_copyRow_32_145 M7) = M8 at h8 ⊢
  have h9 : CP 121 8 _ True μ (uX11_copyRow_33_146 M8) := h8.c 25 4 (by omega) D
  generalize (uX11_copyRow_33_146 M8) = M9 at h9 ⊢
  have h10 : CP 121 8 _ True μ (uX11_copyRow_34_147 M9) := h9.c 26 4 (by omega) D
  generalize (uX11_copyRow_34_147 M9) = M10 at h10 ⊢
  have h11 : CP 121 8 _ True μ (uX11_copyRow_35_148 M10) := h10.c 27 4 (by omega) D
  generalize (uX11_copyRow_35_148 M10) = M11 at h11 ⊢
  refine h11.mo (fun k j q => ?_)
  rcases q with q | q
  · exact Or.inl (Or.inl (Or.inl (Or.inl (Or.inl (Or.inl (Or.inl (Or.inl (Or.inl (Or.inl (q))))))))))
  · rcases q with q | q | q | q | q | q | q | q | q | q
    · exact Or.inl (Or.inl (Or.inl (Or.inl (Or.inl (Or.inl (Or.inl (Or.inl (Or.inl (Or.inr q)))))))))
    · exact Or.inl (Or.inl (Or.inl (Or.inl (Or.inl (Or.inl (Or.inl (Or.inl (Or.inr q))))))))
    · exact Or.inl (Or.inl (Or.inl (Or.inl (Or.inl (Or.inl (Or.inl (Or.inr q)))))))
    · exact Or.inl (Or.inl (Or.inl (Or.inl (Or.inl (Or.inl (Or.inr q))))))
    · exact Or.inl (Or.inl (Or.inl (Or.inl (Or.inl (Or.inr q)))))
    · exact Or.inl (Or.inl (Or.inl (Or.inl (Or.inr q))))
    · exact Or.inl (Or.inl (Or.inl (Or.inr q)))
    · exact Or.inl (Or.inl (Or.inr q))
    · exact Or.inl (Or.inr q)
    · exact Or.inr q
theorem cE_121_8 {K : Nat → Nat → Prop} {L : Prop} {μ μ' : fm_T} (h0 : CP 121 8 K L μ μ') : CP 121 8 (fun k j => K k j ∨ csE k j) L μ (uX5_copyFrom_149_36 μ') := by
  have D : 8 + 32 ≤ 121 ∨ 121 + 32 ≤ 8 := by omega
  unfold uX5_copyFrom_149_36
  have h1 : CP 121 8 _ L μ (uX11_copyRow_37_150 μ') := h0.c 29 40 (by omega) D
  generalize (uX11_copyRow_37_150 μ') = M1 at h1 ⊢
  have h2 : CP 121 8 _ L μ (uX11_copyRow_38_151 M1) := h1.c 30 40 (by omega) D
  generalize (uX11_copyRow_38_151 M1) = M2 at h2 ⊢
  have h3 : CP 121 8 _ L μ (uX11_copyRow_39_152 M2) := h2.c 31 40 (by omega) D
  generalize (uX11_copyRow_39_152 M2) = M3 at h3 ⊢
  have h4 : CP 121 8 _ L μ (fm_i M3 149 3 (fI M3 36 3)) := h3.i 28 3 _ (by omega) (h3.v D 28 3 (by omega))
  have h5 : CP 121 8 _ L μ (fm_i (fm_i M3 149 3 (fI M3 36 3)) 149 4 (fI M3 36 4)) := h4.i 28 4 _ (by omega) (h3.v D 28 4 (by omega))
  refine h5.mo (fun k j q => ?_)
  rcases q with q | q
  · exact Or.inl (Or.inl (Or.inl (Or.inl (Or.inl (q)))))
  · rcases q with q | q | q | q | q
    · exact Or.inl (Or.inl (Or.inl (Or.inl (Or.inr q))))
    · exact Or.inl (Or.inl (Or.inl (Or.inr q)))
    · exact Or.inl (Or.inl (Or.inr q))
    · exact Or.inl (Or.inr q)
    · exact Or.inr q
theorem cp_121_8 (μ : fm_T) : CP 121 8 inR True μ (uX10_copyFrom_121_8 μ) := by
  have D : 8 + 32 ≤ 121 ∨ 121 + 32 ≤ 8 := by omega
  have h4 := cE_121_8 (cC_121_8 (cB_121_8 (cA_121_8 (CP.rf 121 8 μ))))
  unfold uX10_copyFrom_121_8
  generalize uX5_copyFrom_149_36 (uX2_copyFrom_137_24 (uX3_copyFrom_128_15 (uX8_copyFrom_122_9 μ))) = M at h4 ⊢
  have h5 : CP 121 8 _ True μ (fm_i M 121 4 (fI M 8 4)) := h4.i 0 4 _ (by omega) (h4.v D 0 4 (by omega))
  refine h5.mo (fun k j q => ?_)
  rcases q with q | q | q | q | q
  · exact Or.inl (Or.inl (Or.inl (Or.inl (Or.inr q))))
  · exact Or.inl (Or.inl (Or.inl (Or.inr q)))
  · exact Or.inl (Or.inl (Or.inr q))
  · exact Or.inl (Or.inr q)
  · exact Or.inr q
