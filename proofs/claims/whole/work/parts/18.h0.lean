def shH (r0 r1 : Nat) : Nat → fc_C := fun k => if k = 0 then (0, 11, [4, 11, 43, 44, 54, 60, 64, 69, 75, 27, 88, 0, 0]) else if k = 8 then (0, 10, [12, 18, 76, 39, 0]) else shC r0 r1 k
theorem swH {r0 r1 : Nat} {μ : fm_T} (h : μ.2.1 = shC r0 r1) : (fm_r (fm_r μ 8 2 76) 0 9 27).2.1 = shH r0 r1 := by
  funext k
  by_cases e0 : k = 0
  · subst e0; simp [fm_r, va_up, shH, hC_0 h]
  · by_cases e8 : k = 8
    · subst e8; simp [fm_r, va_up, shH, hC_8 h]
    · simp [fm_r, va_up, shH, e0, e8, h]
theorem hH_0 {r0 r1 : Nat} {μ : fm_T} (h : μ.2.1 = shH r0 r1) : μ.2.1 0 = (0, 11, [4, 11, 43, 44, 54, 60, 64, 69, 75, 27, 88, 0, 0]) := by rw [h]; rfl
theorem hH_1 {r0 r1 : Nat} {μ : fm_T} (h : μ.2.1 = shH r0 r1) : μ.2.1 1 = (0, 7, [5, 6, 0, 7, 8, 9, 10, 0, 0, 0, 0, 0, 1, 0, 0]) := by rw [h]; rfl
theorem hH_2 {r0 r1 : Nat} {μ : fm_T} (h : μ.2.1 = shH r0 r1) : μ.2.1 2 = (2, 25, []) := by rw [h]; rfl
theorem hH_3 {r0 r1 : Nat} {μ : fm_T} (h : μ.2.1 = shH r0 r1) : μ.2.1 3 = (1, 940, []) := by rw [h]; rfl
theorem hH_4 {r0 r1 : Nat} {μ : fm_T} (h : μ.2.1 = shH r0 r1) : μ.2.1 4 = (1, 941, []) := by rw [h]; rfl
theorem hH_5 {r0 r1 : Nat} {μ : fm_T} (h : μ.2.1 = shH r0 r1) : μ.2.1 5 = (1, 941, []) := by rw [h]; rfl
theorem hH_6 {r0 r1 : Nat} {μ : fm_T} (h : μ.2.1 = shH r0 r1) : μ.2.1 6 = (1, 941, []) := by rw [h]; rfl
theorem hH_7 {r0 r1 : Nat} {μ : fm_T} (h : μ.2.1 = shH r0 r1) : μ.2.1 7 = (2, 941, []) := by rw [h]; rfl
theorem hH_8 {r0 r1 : Nat} {μ : fm_T} (h : μ.2.1 = shH r0 r1) : μ.2.1 8 = (0, 10, [12, 18, 76, 39, 0]) := by rw [h]; rfl
theorem hH_9 {r0 r1 : Nat} {μ : fm_T} (h : μ.2.1 = shH r0 r1) : μ.2.1 9 = (0, 8, [13, 14, 15, 16, 17, 0, 0, 0]) := by rw [h]; rfl
theorem hH_10 {r0 r1 : Nat} {μ : fm_T} (h : μ.2.1 = shH r0 r1) : μ.2.1 10 = (1, 560, []) := by rw [h]; rfl
theorem hH_11 {r0 r1 : Nat} {μ : fm_T} (h : μ.2.1 = shH r0 r1) : μ.2.1 11 = (1, 240, []) := by rw [h]; rfl
theorem hH_12 {r0 r1 : Nat} {μ : fm_T} (h : μ.2.1 = shH r0 r1) : μ.2.1 12 = (1, 240, []) := by rw [h]; rfl
theorem hH_13 {r0 r1 : Nat} {μ : fm_T} (h : μ.2.1 = shH r0 r1) : μ.2.1 13 = (1, 240, []) := by rw [h]; rfl
theorem hH_14 {r0 r1 : Nat} {μ : fm_T} (h : μ.2.1 = shH r0 r1) : μ.2.1 14 = (1, 240, []) := by rw [h]; rfl
theorem hH_15 {r0 r1 : Nat} {μ : fm_T} (h : μ.2.1 = shH r0 r1) : μ.2.1 15 = (0, 3, [19, 20, 21, 22, 23, 24, 25, 26, 0]) := by rw [h]; rfl
theorem hH_16 {r0 r1 : Nat} {μ : fm_T} (h : μ.2.1 = shH r0 r1) : μ.2.1 16 = (1, 200, []) := by rw [h]; rfl
theorem hH_17 {r0 r1 : Nat} {μ : fm_T} (h : μ.2.1 = shH r0 r1) : μ.2.1 17 = (1, 200, []) := by rw [h]; rfl
theorem hH_18 {r0 r1 : Nat} {μ : fm_T} (h : μ.2.1 = shH r0 r1) : μ.2.1 18 = (1, 200, []) := by rw [h]; rfl
theorem hH_19 {r0 r1 : Nat} {μ : fm_T} (h : μ.2.1 = shH r0 r1) : μ.2.1 19 = (1, 100, []) := by rw [h]; rfl
theorem hH_20 {r0 r1 : Nat} {μ : fm_T} (h : μ.2.1 = shH r0 r1) : μ.2.1 20 = (1, 40, []) := by rw [h]; rfl
theorem hH_21 {r0 r1 : Nat} {μ : fm_T} (h : μ.2.1 = shH r0 r1) : μ.2.1 21 = (1, 40, []) := by rw [h]; rfl
theorem hH_22 {r0 r1 : Nat} {μ : fm_T} (h : μ.2.1 = shH r0 r1) : μ.2.1 22 = (1, 40, []) := by rw [h]; rfl
theorem hH_23 {r0 r1 : Nat} {μ : fm_T} (h : μ.2.1 = shH r0 r1) : μ.2.1 23 = (1, 40, []) := by rw [h]; rfl
theorem hH_24 {r0 r1 : Nat} {μ : fm_T} (h : μ.2.1 = shH r0 r1) : μ.2.1 24 = (0, 2, [28, 29, 30, 31, 32, 33, 34, 35, 36, 37, 38, 0, 0]) := by rw [h]; rfl
theorem hH_25 {r0 r1 : Nat} {μ : fm_T} (h : μ.2.1 = shH r0 r1) : μ.2.1 25 = (2, 32, []) := by rw [h]; rfl
theorem hH_26 {r0 r1 : Nat} {μ : fm_T} (h : μ.2.1 = shH r0 r1) : μ.2.1 26 = (1, 4, []) := by rw [h]; rfl
theorem hH_27 {r0 r1 : Nat} {μ : fm_T} (h : μ.2.1 = shH r0 r1) : μ.2.1 27 = (1, 6, []) := by rw [h]; rfl
theorem hH_28 {r0 r1 : Nat} {μ : fm_T} (h : μ.2.1 = shH r0 r1) : μ.2.1 28 = (1, 36, []) := by rw [h]; rfl
theorem hH_29 {r0 r1 : Nat} {μ : fm_T} (h : μ.2.1 = shH r0 r1) : μ.2.1 29 = (1, 8, []) := by rw [h]; rfl
theorem hH_30 {r0 r1 : Nat} {μ : fm_T} (h : μ.2.1 = shH r0 r1) : μ.2.1 30 = (1, 8, []) := by rw [h]; rfl
theorem hH_31 {r0 r1 : Nat} {μ : fm_T} (h : μ.2.1 = shH r0 r1) : μ.2.1 31 = (1, 8, []) := by rw [h]; rfl
theorem hH_32 {r0 r1 : Nat} {μ : fm_T} (h : μ.2.1 = shH r0 r1) : μ.2.1 32 = (1, 8, []) := by rw [h]; rfl
theorem hH_33 {r0 r1 : Nat} {μ : fm_T} (h : μ.2.1 = shH r0 r1) : μ.2.1 33 = (1, 4, []) := by rw [h]; rfl
theorem hH_34 {r0 r1 : Nat} {μ : fm_T} (h : μ.2.1 = shH r0 r1) : μ.2.1 34 = (1, 4, []) := by rw [h]; rfl
theorem hH_35 {r0 r1 : Nat} {μ : fm_T} (h : μ.2.1 = shH r0 r1) : μ.2.1 35 = (1, 4, []) := by rw [h]; rfl
theorem hH_36 {r0 r1 : Nat} {μ : fm_T} (h : μ.2.1 = shH r0 r1) : μ.2.1 36 = (0, 5, [40, 41, 42, 0, 0]) := by rw [h]; rfl
theorem hH_37 {r0 r1 : Nat} {μ : fm_T} (h : μ.2.1 = shH r0 r1) : μ.2.1 37 = (1, 40, []) := by rw [h]; rfl
theorem hH_38 {r0 r1 : Nat} {μ : fm_T} (h : μ.2.1 = shH r0 r1) : μ.2.1 38 = (1, 40, []) := by rw [h]; rfl
theorem hH_39 {r0 r1 : Nat} {μ : fm_T} (h : μ.2.1 = shH r0 r1) : μ.2.1 39 = (1, 40, []) := by rw [h]; rfl
theorem hH_40 {r0 r1 : Nat} {μ : fm_T} (h : μ.2.1 = shH r0 r1) : μ.2.1 40 = (4, 2, [r0, r1]) := by rw [h]; rfl
theorem hH_41 {r0 r1 : Nat} {μ : fm_T} (h : μ.2.1 = shH r0 r1) : μ.2.1 41 = (0, 4, [45, 46, 47, 48, 49, 50, 51, 52, 53, 0]) := by rw [h]; rfl
theorem hH_42 {r0 r1 : Nat} {μ : fm_T} (h : μ.2.1 = shH r0 r1) : μ.2.1 42 = (1, 10, []) := by rw [h]; rfl
theorem hH_43 {r0 r1 : Nat} {μ : fm_T} (h : μ.2.1 = shH r0 r1) : μ.2.1 43 = (1, 10, []) := by rw [h]; rfl
theorem hH_44 {r0 r1 : Nat} {μ : fm_T} (h : μ.2.1 = shH r0 r1) : μ.2.1 44 = (1, 10, []) := by rw [h]; rfl
theorem hH_45 {r0 r1 : Nat} {μ : fm_T} (h : μ.2.1 = shH r0 r1) : μ.2.1 45 = (1, 10, []) := by rw [h]; rfl
theorem hH_46 {r0 r1 : Nat} {μ : fm_T} (h : μ.2.1 = shH r0 r1) : μ.2.1 46 = (1, 1024, []) := by rw [h]; rfl
theorem hH_47 {r0 r1 : Nat} {μ : fm_T} (h : μ.2.1 = shH r0 r1) : μ.2.1 47 = (1, 1024, []) := by rw [h]; rfl
theorem hH_48 {r0 r1 : Nat} {μ : fm_T} (h : μ.2.1 = shH r0 r1) : μ.2.1 48 = (1, 1024, []) := by rw [h]; rfl
theorem hH_49 {r0 r1 : Nat} {μ : fm_T} (h : μ.2.1 = shH r0 r1) : μ.2.1 49 = (1, 1024, []) := by rw [h]; rfl
theorem hH_50 {r0 r1 : Nat} {μ : fm_T} (h : μ.2.1 = shH r0 r1) : μ.2.1 50 = (1, 1024, []) := by rw [h]; rfl
theorem hH_51 {r0 r1 : Nat} {μ : fm_T} (h : μ.2.1 = shH r0 r1) : μ.2.1 51 = (0, 1, [55, 56, 57, 58, 59, 1, 0, 0, 0]) := by rw [h]; rfl
theorem hH_52 {r0 r1 : Nat} {μ : fm_T} (h : μ.2.1 = shH r0 r1) : μ.2.1 52 = (1, 40, []) := by rw [h]; rfl
theorem hH_53 {r0 r1 : Nat} {μ : fm_T} (h : μ.2.1 = shH r0 r1) : μ.2.1 53 = (2, 256, []) := by rw [h]; rfl
theorem hH_54 {r0 r1 : Nat} {μ : fm_T} (h : μ.2.1 = shH r0 r1) : μ.2.1 54 = (1, 8, []) := by rw [h]; rfl
theorem hH_55 {r0 r1 : Nat} {μ : fm_T} (h : μ.2.1 = shH r0 r1) : μ.2.1 55 = (1, 40, []) := by rw [h]; rfl
theorem hH_56 {r0 r1 : Nat} {μ : fm_T} (h : μ.2.1 = shH r0 r1) : μ.2.1 56 = (1, 8, []) := by rw [h]; rfl
theorem hH_57 {r0 r1 : Nat} {μ : fm_T} (h : μ.2.1 = shH r0 r1) : μ.2.1 57 = (0, 6, [61, 62, 63, 0, 0]) := by rw [h]; rfl
theorem hH_58 {r0 r1 : Nat} {μ : fm_T} (h : μ.2.1 = shH r0 r1) : μ.2.1 58 = (2, 64, []) := by rw [h]; rfl
theorem hH_59 {r0 r1 : Nat} {μ : fm_T} (h : μ.2.1 = shH r0 r1) : μ.2.1 59 = (2, 64, []) := by rw [h]; rfl
theorem hH_60 {r0 r1 : Nat} {μ : fm_T} (h : μ.2.1 = shH r0 r1) : μ.2.1 60 = (1, 6, []) := by rw [h]; rfl
theorem hH_61 {r0 r1 : Nat} {μ : fm_T} (h : μ.2.1 = shH r0 r1) : μ.2.1 61 = (0, 0, [65, 66, 67, 68, 0, 0]) := by rw [h]; rfl
theorem hH_62 {r0 r1 : Nat} {μ : fm_T} (h : μ.2.1 = shH r0 r1) : μ.2.1 62 = (1, 240, []) := by rw [h]; rfl
theorem hH_63 {r0 r1 : Nat} {μ : fm_T} (h : μ.2.1 = shH r0 r1) : μ.2.1 63 = (1, 36, []) := by rw [h]; rfl
theorem hH_64 {r0 r1 : Nat} {μ : fm_T} (h : μ.2.1 = shH r0 r1) : μ.2.1 64 = (1, 4096, []) := by rw [h]; rfl
theorem hH_65 {r0 r1 : Nat} {μ : fm_T} (h : μ.2.1 = shH r0 r1) : μ.2.1 65 = (1, 12, []) := by rw [h]; rfl
theorem hH_66 {r0 r1 : Nat} {μ : fm_T} (h : μ.2.1 = shH r0 r1) : μ.2.1 66 = (0, 9, [70, 71, 72, 73, 74, 0]) := by rw [h]; rfl
theorem hH_67 {r0 r1 : Nat} {μ : fm_T} (h : μ.2.1 = shH r0 r1) : μ.2.1 67 = (1, 9, []) := by rw [h]; rfl
theorem hH_68 {r0 r1 : Nat} {μ : fm_T} (h : μ.2.1 = shH r0 r1) : μ.2.1 68 = (1, 9, []) := by rw [h]; rfl
theorem hH_69 {r0 r1 : Nat} {μ : fm_T} (h : μ.2.1 = shH r0 r1) : μ.2.1 69 = (1, 9, []) := by rw [h]; rfl
theorem hH_70 {r0 r1 : Nat} {μ : fm_T} (h : μ.2.1 = shH r0 r1) : μ.2.1 70 = (1, 9, []) := by rw [h]; rfl
theorem hH_71 {r0 r1 : Nat} {μ : fm_T} (h : μ.2.1 = shH r0 r1) : μ.2.1 71 = (1, 4608, []) := by rw [h]; rfl
theorem hH_72 {r0 r1 : Nat} {μ : fm_T} (h : μ.2.1 = shH r0 r1) : μ.2.1 72 = (1, 40, []) := by rw [h]; rfl
theorem hH_73 {r0 r1 : Nat} {μ : fm_T} (h : μ.2.1 = shH r0 r1) : μ.2.1 73 = (0, 2, [77, 78, 79, 80, 81, 82, 83, 84, 85, 86, 87, 0, 0]) := by rw [h]; rfl
theorem hH_74 {r0 r1 : Nat} {μ : fm_T} (h : μ.2.1 = shH r0 r1) : μ.2.1 74 = (2, 32, []) := by rw [h]; rfl
theorem hH_75 {r0 r1 : Nat} {μ : fm_T} (h : μ.2.1 = shH r0 r1) : μ.2.1 75 = (1, 4, []) := by rw [h]; rfl
theorem hH_76 {r0 r1 : Nat} {μ : fm_T} (h : μ.2.1 = shH r0 r1) : μ.2.1 76 = (1, 6, []) := by rw [h]; rfl
theorem hH_77 {r0 r1 : Nat} {μ : fm_T} (h : μ.2.1 = shH r0 r1) : μ.2.1 77 = (1, 36, []) := by rw [h]; rfl
theorem hH_78 {r0 r1 : Nat} {μ : fm_T} (h : μ.2.1 = shH r0 r1) : μ.2.1 78 = (1, 8, []) := by rw [h]; rfl
theorem hH_79 {r0 r1 : Nat} {μ : fm_T} (h : μ.2.1 = shH r0 r1) : μ.2.1 79 = (1, 8, []) := by rw [h]; rfl
theorem hH_80 {r0 r1 : Nat} {μ : fm_T} (h : μ.2.1 = shH r0 r1) : μ.2.1 80 = (1, 8, []) := by rw [h]; rfl
theorem hH_81 {r0 r1 : Nat} {μ : fm_T} (h : μ.2.1 = shH r0 r1) : μ.2.1 81 = (1, 8, []) := by rw [h]; rfl
theorem hH_82 {r0 r1 : Nat} {μ : fm_T} (h : μ.2.1 = shH r0 r1) : μ.2.1 82 = (1, 4, []) := by rw [h]; rfl
theorem hH_83 {r0 r1 : Nat} {μ : fm_T} (h : μ.2.1 = shH r0 r1) : μ.2.1 83 = (1, 4, []) := by rw [h]; rfl
theorem hH_84 {r0 r1 : Nat} {μ : fm_T} (h : μ.2.1 = shH r0 r1) : μ.2.1 84 = (1, 4, []) := by rw [h]; rfl
theorem hH_85 {r0 r1 : Nat} {μ : fm_T} (h : μ.2.1 = shH r0 r1) : μ.2.1 85 = (0, 5, [89, 90, 91, 0, 0]) := by rw [h]; rfl
theorem hH_86 {r0 r1 : Nat} {μ : fm_T} (h : μ.2.1 = shH r0 r1) : μ.2.1 86 = (1, 40, []) := by rw [h]; rfl
theorem hH_87 {r0 r1 : Nat} {μ : fm_T} (h : μ.2.1 = shH r0 r1) : μ.2.1 87 = (1, 40, []) := by rw [h]; rfl
theorem hH_88 {r0 r1 : Nat} {μ : fm_T} (h : μ.2.1 = shH r0 r1) : μ.2.1 88 = (1, 40, []) := by rw [h]; rfl
def shR (r0 r1 : Nat) : Nat → fc_C := fun k => if k = 0 then (0, 11, [4, 11, 43, 44, 54, 60, 64, 69, 75, 76, 39, 0, 0]) else if k = 8 then (0, 10, [12, 18, 27, 88, 0]) else shC r0 r1 k
theorem swR {r0 r1 : Nat} {μ : fm_T} (h : μ.2.1 = shC r0 r1) : (fm_r (fm_r μ 8 3 88) 0 10 39).2.1 = shR r0 r1 := by
  funext k
  by_cases e0 : k = 0
  · subst e0; simp [fm_r, va_up, shR, hC_0 h]
  · by_cases e8 : k = 8
    · subst e8; simp [fm_r, va_up, shR, hC_8 h]
    · simp [fm_r, va_up, shR, e0, e8, h]
theorem hR_0 {r0 r1 : Nat} {μ : fm_T} (h : μ.2.1 = shR r0 r1) : μ.2.1 0 = (0, 11, [4, 11, 43, 44, 54, 60, 64, 69, 75, 76, 39, 0, 0]) := by rw [h]; rfl
theorem hR_1 {r0 r1 : Nat} {μ : fm_T} (h : μ.2.1 = shR r0 r1) : μ.2.1 1 = (0, 7, [5, 6, 0, 7, 8, 9, 10, 0, 0, 0, 0, 0, 1, 0, 0]) := by rw [h]; rfl
theorem hR_2 {r0 r1 : Nat} {μ : fm_T} (h : μ.2.1 = shR r0 r1) : μ.2.1 2 = (2, 25, []) := by rw [h]; rfl
theorem hR_3 {r0 r1 : Nat} {μ : fm_T} (h : μ.2.1 = shR r0 r1) : μ.2.1 3 = (1, 940, []) := by rw [h]; rfl
theorem hR_4 {r0 r1 : Nat} {μ : fm_T} (h : μ.2.1 = shR r0 r1) : μ.2.1 4 = (1, 941, []) := by rw [h]; rfl
theorem hR_5 {r0 r1 : Nat} {μ : fm_T} (h : μ.2.1 = shR r0 r1) : μ.2.1 5 = (1, 941, []) := by rw [h]; rfl
theorem hR_6 {r0 r1 : Nat} {μ : fm_T} (h : μ.2.1 = shR r0 r1) : μ.2.1 6 = (1, 941, []) := by rw [h]; rfl
theorem hR_7 {r0 r1 : Nat} {μ : fm_T} (h : μ.2.1 = shR r0 r1) : μ.2.1 7 = (2, 941, []) := by rw [h]; rfl
theorem hR_8 {r0 r1 : Nat} {μ : fm_T} (h : μ.2.1 = shR r0 r1) : μ.2.1 8 = (0, 10, [12, 18, 27, 88, 0]) := by rw [h]; rfl
theorem hR_9 {r0 r1 : Nat} {μ : fm_T} (h : μ.2.1 = shR r0 r1) : μ.2.1 9 = (0, 8, [13, 14, 15, 16, 17, 0, 0, 0]) := by rw [h]; rfl
theorem hR_10 {r0 r1 : Nat} {μ : fm_T} (h : μ.2.1 = shR r0 r1) : μ.2.1 10 = (1, 560, []) := by rw [h]; rfl
theorem hR_11 {r0 r1 : Nat} {μ : fm_T} (h : μ.2.1 = shR r0 r1) : μ.2.1 11 = (1, 240, []) := by rw [h]; rfl
theorem hR_12 {r0 r1 : Nat} {μ : fm_T} (h : μ.2.1 = shR r0 r1) : μ.2.1 12 = (1, 240, []) := by rw [h]; rfl
theorem hR_13 {r0 r1 : Nat} {μ : fm_T} (h : μ.2.1 = shR r0 r1) : μ.2.1 13 = (1, 240, []) := by rw [h]; rfl
theorem hR_14 {r0 r1 : Nat} {μ : fm_T} (h : μ.2.1 = shR r0 r1) : μ.2.1 14 = (1, 240, []) := by rw [h]; rfl
theorem hR_15 {r0 r1 : Nat} {μ : fm_T} (h : μ.2.1 = shR r0 r1) : μ.2.1 15 = (0, 3, [19, 20, 21, 22, 23, 24, 25, 26, 0]) := by rw [h]; rfl
theorem hR_16 {r0 r1 : Nat} {μ : fm_T} (h : μ.2.1 = shR r0 r1) : μ.2.1 16 = (1, 200, []) := by rw [h]; rfl
theorem hR_17 {r0 r1 : Nat} {μ : fm_T} (h : μ.2.1 = shR r0 r1) : μ.2.1 17 = (1, 200, []) := by rw [h]; rfl
theorem hR_18 {r0 r1 : Nat} {μ : fm_T} (h : μ.2.1 = shR r0 r1) : μ.2.1 18 = (1, 200, []) := by rw [h]; rfl
theorem hR_19 {r0 r1 : Nat} {μ : fm_T} (h : μ.2.1 = shR r0 r1) : μ.2.1 19 = (1, 100, []) := by rw [h]; rfl
theorem hR_20 {r0 r1 : Nat} {μ : fm_T} (h : μ.2.1 = shR r0 r1) : μ.2.1 20 = (1, 40, []) := by rw [h]; rfl
theorem hR_21 {r0 r1 : Nat} {μ : fm_T} (h : μ.2.1 = shR r0 r1) : μ.2.1 21 = (1, 40, []) := by rw [h]; rfl
theorem hR_22 {r0 r1 : Nat} {μ : fm_T} (h : μ.2.1 = shR r0 r1) : μ.2.1 22 = (1, 40, []) := by rw [h]; rfl
theorem hR_23 {r0 r1 : Nat} {μ : fm_T} (h : μ.2.1 = shR r0 r1) : μ.2.1 23 = (1, 40, []) := by rw [h]; rfl
theorem hR_24 {r0 r1 : Nat} {μ : fm_T} (h : μ.2.1 = shR r0 r1) : μ.2.1 24 = (0, 2, [28, 29, 30, 31, 32, 33, 34, 35, 36, 37, 38, 0, 0]) := by rw [h]; rfl
theorem hR_25 {r0 r1 : Nat} {μ : fm_T} (h : μ.2.1 = shR r0 r1) : μ.2.1 25 = (2, 32, []) := by rw [h]; rfl
theorem hR_26 {r0 r1 : Nat} {μ : fm_T} (h : μ.2.1 = shR r0 r1) : μ.2.1 26 = (1, 4, []) := by rw [h]; rfl
theorem hR_27 {r0 r1 : Nat} {μ : fm_T} (h : μ.2.1 = shR r0 r1) : μ.2.1 27 = (1, 6, []) := by rw [h]; rfl
theorem hR_28 {r0 r1 : Nat} {μ : fm_T} (h : μ.2.1 = shR r0 r1) : μ.2.1 28 = (1, 36, []) := by rw [h]; rfl
theorem hR_29 {r0 r1 : Nat} {μ : fm_T} (h : μ.2.1 = shR r0 r1) : μ.2.1 29 = (1, 8, []) := by rw [h]; rfl
theorem hR_30 {r0 r1 : Nat} {μ : fm_T} (h : μ.2.1 = shR r0 r1) : μ.2.1 30 = (1, 8, []) := by rw [h]; rfl
theorem hR_31 {r0 r1 : Nat} {μ : fm_T} (h : μ.2.1 = shR r0 r1) : μ.2.1 31 = (1, 8, []) := by rw [h]; rfl
theorem hR_32 {r0 r1 : Nat} {μ : fm_T} (h : μ.2.1 = shR r0 r1) : μ.2.1 32 = (1, 8, []) := by rw [h]; rfl
theorem hR_33 {r0 r1 : Nat} {μ : fm_T} (h : μ.2.1 = shR r0 r1) : μ.2.1 33 = (1, 4, []) := by rw [h]; rfl
theorem hR_34 {r0 r1 : Nat} {μ : fm_T} (h : μ.2.1 = shR r0 r1) : μ.2.1 34 = (1, 4, []) := by rw [h]; rfl
theorem hR_35 {r0 r1 : Nat} {μ : fm_T} (h : μ.2.1 = shR r0 r1) : μ.2.1 35 = (1, 4, []) := by rw [h]; rfl
theorem hR_36 {r0 r1 : Nat} {μ : fm_T} (h : μ.2.1 = shR r0 r1) : μ.2.1 36 = (0, 5, [40, 41, 42, 0, 0]) := by rw [h]; rfl
theorem hR_37 {r0 r1 : Nat} {μ : fm_T} (h : μ.2.1 = shR r0 r1) : μ.2.1 37 = (1, 40, []) := by rw [h]; rfl
theorem hR_38 {r0 r1 : Nat} {μ : fm_T} (h : μ.2.1 = shR r0 r1) : μ.2.1 38 = (1, 40, []) := by rw [h]; rfl
theorem hR_39 {r0 r1 : Nat} {μ : fm_T} (h : μ.2.1 = shR r0 r1) : μ.2.1 39 = (1, 40, []) := by rw [h]; rfl
theorem hR_40 {r0 r1 : Nat} {μ : fm_T} (h : μ.2.1 = shR r0 r1) : μ.2.1 40 = (4, 2, [r0, r1]) := by rw [h]; rfl
theorem hR_41 {r0 r1 : Nat} {μ : fm_T} (h : μ.2.1 = shR r0 r1) : μ.2.1 41 = (0, 4, [45, 46, 47, 48, 49, 50, 51, 52, 53, 0]) := by rw [h]; rfl
theorem hR_42 {r0 r1 : Nat} {μ : fm_T} (h : μ.2.1 = shR r0 r1) : μ.2.1 42 = (1, 10, []) := by rw [h]; rfl
theorem hR_43 {r0 r1 : Nat} {μ : fm_T} (h : μ.2.1 = shR r0 r1) : μ.2.1 43 = (1, 10, []) := by rw [h]; rfl
theorem hR_44 {r0 r1 : Nat} {μ : fm_T} (h : μ.2.1 = shR r0 r1) : μ.2.1 44 = (1, 10, []) := by rw [h]; rfl
theorem hR_45 {r0 r1 : Nat} {μ : fm_T} (h : μ.2.1 = shR r0 r1) : μ.2.1 45 = (1, 10, []) := by rw [h]; rfl
theorem hR_46 {r0 r1 : Nat} {μ : fm_T} (h : μ.2.1 = shR r0 r1) : μ.2.1 46 = (1, 1024, []) := by rw [h]; rfl
theorem hR_47 {r0 r1 : Nat} {μ : fm_T} (h : μ.2.1 = shR r0 r1) : μ.2.1 47 = (1, 1024, []) := by rw [h]; rfl
theorem hR_48 {r0 r1 : Nat} {μ : fm_T} (h : μ.2.1 = shR r0 r1) : μ.2.1 48 = (1, 1024, []) := by rw [h]; rfl
theorem hR_49 {r0 r1 : Nat} {μ : fm_T} (h : μ.2.1 = shR r0 r1) : μ.2.1 49 = (1, 1024, []) := by rw [h]; rfl
theorem hR_50 {r0 r1 : Nat} {μ : fm_T} (h : μ.2.1 = shR r0 r1) : μ.2.1 50 = (1, 1024, []) := by rw [h]; rfl
theorem hR_51 {r0 r1 : Nat} {μ : fm_T} (h : μ.2.1 = shR r0 r1) : μ.2.1 51 = (0, 1, [55, 56, 57, 58, 59, 1, 0, 0, 0]) := by rw [h]; rfl
theorem hR_52 {r0 r1 : Nat} {μ : fm_T} (h : μ.2.1 = shR r0 r1) : μ.2.1 52 = (1, 40, []) := by rw [h]; rfl
theorem hR_53 {r0 r1 : Nat} {μ : fm_T} (h : μ.2.1 = shR r0 r1) : μ.2.1 53 = (2, 256, []) := by rw [h]; rfl
theorem hR_54 {r0 r1 : Nat} {μ : fm_T} (h : μ.2.1 = shR r0 r1) : μ.2.1 54 = (1, 8, []) := by rw [h]; rfl
theorem hR_55 {r0 r1 : Nat} {μ : fm_T} (h : μ.2.1 = shR r0 r1) : μ.2.1 55 = (1, 40, []) := by rw [h]; rfl
theorem hR_56 {r0 r1 : Nat} {μ : fm_T} (h : μ.2.1 = shR r0 r1) : μ.2.1 56 = (1, 8, []) := by rw [h]; rfl
theorem hR_57 {r0 r1 : Nat} {μ : fm_T} (h : μ.2.1 = shR r0 r1) : μ.2.1 57 = (0, 6, [61, 62, 63, 0, 0]) := by rw [h]; rfl
theorem hR_58 {r0 r1 : Nat} {μ : fm_T} (h : μ.2.1 = shR r0 r1) : μ.2.1 58 = (2, 64, []) := by rw [h]; rfl
theorem hR_59 {r0 r1 : Nat} {μ : fm_T} (h : μ.2.1 = shR r0 r1) : μ.2.1 59 = (2, 64, []) := by rw [h]; rfl
theorem hR_60 {r0 r1 : Nat} {μ : fm_T} (h : μ.2.1 = shR r0 r1) : μ.2.1 60 = (1, 6, []) := by rw [h]; rfl
theorem hR_61 {r0 r1 : Nat} {μ : fm_T} (h : μ.2.1 = shR r0 r1) : μ.2.1 61 = (0, 0, [65, 66, 67, 68, 0, 0]) := by rw [h]; rfl
theorem hR_62 {r0 r1 : Nat} {μ : fm_T} (h : μ.2.1 = shR r0 r1) : μ.2.1 62 = (1, 240, []) := by rw [h]; rfl
theorem hR_63 {r0 r1 : Nat} {μ : fm_T} (h : μ.2.1 = shR r0 r1) : μ.2.1 63 = (1, 36, []) := by rw [h]; rfl
theorem hR_64 {r0 r1 : Nat} {μ : fm_T} (h : μ.2.1 = shR r0 r1) : μ.2.1 64 = (1, 4096, []) := by rw [h]; rfl
theorem hR_65 {r0 r1 : Nat} {μ : fm_T} (h : μ.2.1 = shR r0 r1) : μ.2.1 65 = (1, 12, []) := by rw [h]; rfl
theorem hR_66 {r0 r1 : Nat} {μ : fm_T} (h : μ.2.1 = shR r0 r1) : μ.2.1 66 = (0, 9, [70, 71, 72, 73, 74, 0]) := by rw [h]; rfl
theorem hR_67 {r0 r1 : Nat} {μ : fm_T} (h : μ.2.1 = shR r0 r1) : μ.2.1 67 = (1, 9, []) := by rw [h]; rfl
theorem hR_68 {r0 r1 : Nat} {μ : fm_T} (h : μ.2.1 = shR r0 r1) : μ.2.1 68 = (1, 9, []) := by rw [h]; rfl
theorem hR_69 {r0 r1 : Nat} {μ : fm_T} (h : μ.2.1 = shR r0 r1) : μ.2.1 69 = (1, 9, []) := by rw [h]; rfl
theorem hR_70 {r0 r1 : Nat} {μ : fm_T} (h : μ.2.1 = shR r0 r1) : μ.2.1 70 = (1, 9, []) := by rw [h]; rfl
theorem hR_71 {r0 r1 : Nat} {μ : fm_T} (h : μ.2.1 = shR r0 r1) : μ.2.1 71 = (1, 4608, []) := by rw [h]; rfl
theorem hR_72 {r0 r1 : Nat} {μ : fm_T} (h : μ.2.1 = shR r0 r1) : μ.2.1 72 = (1, 40, []) := by rw [h]; rfl
theorem hR_73 {r0 r1 : Nat} {μ : fm_T} (h : μ.2.1 = shR r0 r1) : μ.2.1 73 = (0, 2, [77, 78, 79, 80, 81, 82, 83, 84, 85, 86, 87, 0, 0]) := by rw [h]; rfl
theorem hR_74 {r0 r1 : Nat} {μ : fm_T} (h : μ.2.1 = shR r0 r1) : μ.2.1 74 = (2, 32, []) := by rw [h]; rfl
theorem hR_75 {r0 r1 : Nat} {μ : fm_T} (h : μ.2.1 = shR r0 r1) : μ.2.1 75 = (1, 4, []) := by rw [h]; rfl
theorem hR_76 {r0 r1 : Nat} {μ : fm_T} (h : μ.2.1 = shR r0 r1) : μ.2.1 76 = (1, 6, []) := by rw [h]; rfl
theorem hR_77 {r0 r1 : Nat} {μ : fm_T} (h : μ.2.1 = shR r0 r1) : μ.2.1 77 = (1, 36, []) := by rw [h]; rfl
theorem hR_78 {r0 r1 : Nat} {μ : fm_T} (h : μ.2.1 = shR r0 r1) : μ.2.1 78 = (1, 8, []) := by rw [h]; rfl
theorem hR_79 {r0 r1 : Nat} {μ : fm_T} (h : μ.2.1 = shR r0 r1) : μ.2.1 79 = (1, 8, []) := by rw [h]; rfl
theorem hR_80 {r0 r1 : Nat} {μ : fm_T} (h : μ.2.1 = shR r0 r1) : μ.2.1 80 = (1, 8, []) := by rw [h]; rfl
theorem hR_81 {r0 r1 : Nat} {μ : fm_T} (h : μ.2.1 = shR r0 r1) : μ.2.1 81 = (1, 8, []) := by rw [h]; rfl
theorem hR_82 {r0 r1 : Nat} {μ : fm_T} (h : μ.2.1 = shR r0 r1) : μ.2.1 82 = (1, 4, []) := by rw [h]; rfl
theorem hR_83 {r0 r1 : Nat} {μ : fm_T} (h : μ.2.1 = shR r0 r1) : μ.2.1 83 = (1, 4, []) := by rw [h]; rfl
theorem hR_84 {r0 r1 : Nat} {μ : fm_T} (h : μ.2.1 = shR r0 r1) : μ.2.1 84 = (1, 4, []) := by rw [h]; rfl
theorem hR_85 {r0 r1 : Nat} {μ : fm_T} (h : μ.2.1 = shR r0 r1) : μ.2.1 85 = (0, 5, [89, 90, 91, 0, 0]) := by rw [h]; rfl
theorem hR_86 {r0 r1 : Nat} {μ : fm_T} (h : μ.2.1 = shR r0 r1) : μ.2.1 86 = (1, 40, []) := by rw [h]; rfl
theorem hR_87 {r0 r1 : Nat} {μ : fm_T} (h : μ.2.1 = shR r0 r1) : μ.2.1 87 = (1, 40, []) := by rw [h]; rfl
theorem hR_88 {r0 r1 : Nat} {μ : fm_T} (h : μ.2.1 = shR r0 r1) : μ.2.1 88 = (1, 40, []) := by rw [h]; rfl
