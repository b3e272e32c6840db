def shCl (r0 r1 : Nat) : List fc_C := [(0, 11, [4, 11, 43, 44, 54, 60, 64, 69, 75, 76, 88, 0, 0]), (0, 7, [5, 6, 0, 7, 8, 9, 10, 0, 0, 0, 0, 0, 1, 0, 0]), (2, 25, []), (1, 940, []), (1, 941, []), (1, 941, []), (1, 941, []), (2, 941, []), (0, 10, [12, 18, 27, 39, 0]), (0, 8, [13, 14, 15, 16, 17, 0, 0, 0]), (1, 560, []), (1, 240, []), (1, 240, []), (1, 240, []), (1, 240, []), (0, 3, [19, 20, 21, 22, 23, 24, 25, 26, 0]), (1, 200, []), (1, 200, []), (1, 200, []), (1, 100, []), (1, 40, []), (1, 40, []), (1, 40, []), (1, 40, []), (0, 2, [28, 29, 30, 31, 32, 33, 34, 35, 36, 37, 38, 0, 0]), (2, 32, []), (1, 4, []), (1, 6, []), (1, 36, []), (1, 8, []), (1, 8, []), (1, 8, []), (1, 8, []), (1, 4, []), (1, 4, []), (1, 4, []), (0, 5, [40, 41, 42, 0, 0]), (1, 40, []), (1, 40, []), (1, 40, []), (4, 2, [r0, r1]), (0, 4, [45, 46, 47, 48, 49, 50, 51, 52, 53, 0]), (1, 10, []), (1, 10, []), (1, 10, []), (1, 10, []), (1, 1024, []), (1, 1024, []), (1, 1024, []), (1, 1024, []), (1, 1024, []), (0, 1, [55, 56, 57, 58, 59, 1, 0, 0, 0]), (1, 40, []), (2, 256, []), (1, 8, []), (1, 40, []), (1, 8, []), (0, 6, [61, 62, 63, 0, 0]), (2, 64, []), (2, 64, []), (1, 6, []), (0, 0, [65, 66, 67, 68, 0, 0]), (1, 240, []), (1, 36, []), (1, 4096, []), (1, 12, []), (0, 9, [70, 71, 72, 73, 74, 0]), (1, 9, []), (1, 9, []), (1, 9, []), (1, 9, []), (1, 4608, []), (1, 40, []), (0, 2, [77, 78, 79, 80, 81, 82, 83, 84, 85, 86, 87, 0, 0]), (2, 32, []), (1, 4, []), (1, 6, []), (1, 36, []), (1, 8, []), (1, 8, []), (1, 8, []), (1, 8, []), (1, 4, []), (1, 4, []), (1, 4, []), (0, 5, [89, 90, 91, 0, 0]), (1, 40, []), (1, 40, []), (1, 40, []), (0, 10, [93, 99, 108, 120, 0]), (0, 8, [94, 95, 96, 97, 98, 0, 0, 0]), (1, 560, []), (1, 240, []), (1, 240, []), (1, 240, []), (1, 240, []), (0, 3, [100, 101, 102, 103, 104, 105, 106, 107, 0]), (1, 200, []), (1, 200, []), (1, 200, []), (1, 100, []), (1, 40, []), (1, 40, []), (1, 40, []), (1, 40, []), (0, 2, [109, 110, 111, 112, 113, 114, 115, 116, 117, 118, 119, 0, 0]), (2, 32, []), (1, 4, []), (1, 6, []), (1, 36, []), (1, 8, []), (1, 8, []), (1, 8, []), (1, 8, []), (1, 4, []), (1, 4, []), (1, 4, []), (0, 5, [121, 122, 123, 0, 0]), (1, 40, []), (1, 40, []), (1, 40, []), (0, 10, [125, 131, 140, 152, 0]), (0, 8, [126, 127, 128, 129, 130, 0, 0, 0]), (1, 560, []), (1, 240, []), (1, 240, []), (1, 240, []), (1, 240, []), (0, 3, [132, 133, 134, 135, 136, 137, 138, 139, 0]), (1, 200, []), (1, 200, []), (1, 200, []), (1, 100, []), (1, 40, []), (1, 40, []), (1, 40, []), (1, 40, []), (0, 2, [141, 142, 143, 144, 145, 146, 147, 148, 149, 150, 151, 0, 0]), (2, 32, []), (1, 4, []), (1, 6, []), (1, 36, []), (1, 8, []), (1, 8, []), (1, 8, []), (1, 8, []), (1, 4, []), (1, 4, []), (1, 4, []), (0, 5, [153, 154, 155, 0, 0]), (1, 40, []), (1, 40, []), (1, 40, [])]
def shC (r0 r1 : Nat) : Nat → fc_C := fun k => (shCl r0 r1).getD k (9, 0, [])
def shMl : List fc_C := [(0, 12, [0, 4, 0, 0, 0, 0, 0, 0, 0, 0, 0, 0, 1, 0, 5, 6, 7, 8, 9, 10, 11, 0, 0, 12, 13, 14, 15, 16, 17, 18, 19, 0, 0, 0, 0, 20, 21, 22, 23, 0, 24, 25, 26, 27, 1, 0, 0, 28, 0, 29, 30, 31, 32, 0, 0, 33, 34, 35, 0, 0, 36, 0, 0, 0, 0]), (1, 940, []), (1, 2560, []), (1, 130, []), (1, 5120, []), (2, 24, []), (2, 24, []), (2, 48, []), (3, 2, []), (1, 10, []), (1, 10, []), (1, 10, []), (1, 10, []), (1, 10, []), (1, 10, []), (1, 10, []), (1, 10, []), (3, 320, []), (2, 256, []), (2, 256, []), (1, 8, []), (2, 6, []), (1, 6, []), (1, 6, []), (1, 6, []), (1, 40, []), (1, 36, []), (1, 36, []), (1, 12, []), (1, 12, []), (1, 4608, []), (1, 9, []), (1, 9, []), (1, 240, [])]
def shM : Nat → fc_C := fun k => shMl.getD k (9, 0, [])
theorem hC_0 {r0 r1 : Nat} {μ : fm_T} (h : μ.2.1 = shC r0 r1) : μ.2.1 0 = (0, 11, [4, 11, 43, 44, 54, 60, 64, 69, 75, 76, 88, 0, 0]) := by rw [h]; rfl
theorem hC_1 {r0 r1 : Nat} {μ : fm_T} (h : μ.2.1 = shC r0 r1) : μ.2.1 1 = (0, 7, [5, 6, 0, 7, 8, 9, 10, 0, 0, 0, 0, 0, 1, 0, 0]) := by rw [h]; rfl
theorem hC_2 {r0 r1 : Nat} {μ : fm_T} (h : μ.2.1 = shC r0 r1) : μ.2.1 2 = (2, 25, []) := by rw [h]; rfl
theorem hC_3 {r0 r1 : Nat} {μ : fm_T} (h : μ.2.1 = shC r0 r1) : μ.2.1 3 = (1, 940, []) := by rw [h]; rfl
theorem hC_4 {r0 r1 : Nat} {μ : fm_T} (h : μ.2.1 = shC r0 r1) : μ.2.1 4 = (1, 941, []) := by rw [h]; rfl
theorem hC_5 {r0 r1 : Nat} {μ : fm_T} (h : μ.2.1 = shC r0 r1) : μ.2.1 5 = (1, 941, []) := by rw [h]; rfl
theorem hC_6 {r0 r1 : Nat} {μ : fm_T} (h : μ.2.1 = shC r0 r1) : μ.2.1 6 = (1, 941, []) := by rw [h]; rfl
theorem hC_7 {r0 r1 : Nat} {μ : fm_T} (h : μ.2.1 = shC r0 r1) : μ.2.1 7 = (2, 941, []) := by rw [h]; rfl
theorem hC_8 {r0 r1 : Nat} {μ : fm_T} (h : μ.2.1 = shC r0 r1) : μ.2.1 8 = (0, 10, [12, 18, 27, 39, 0]) := by rw [h]; rfl
theorem hC_9 {r0 r1 : Nat} {μ : fm_T} (h : μ.2.1 = shC r0 r1) : μ.2.1 9 = (0, 8, [13, 14, 15, 16, 17, 0, 0, 0]) := by rw [h]; rfl
theorem hC_10 {r0 r1 : Nat} {μ : fm_T} (h : μ.2.1 = shC r0 r1) : μ.2.1 10 = (1, 560, []) := by rw [h]; rfl
theorem hC_11 {r0 r1 : Nat} {μ : fm_T} (h : μ.2.1 = shC r0 r1) : μ.2.1 11 = (1, 240, []) := by rw [h]; rfl
theorem hC_12 {r0 r1 : Nat} {μ : fm_T} (h : μ.2.1 = shC r0 r1) : μ.2.1 12 = (1, 240, []) := by rw [h]; rfl
theorem hC_13 {r0 r1 : Nat} {μ : fm_T} (h : μ.2.1 = shC r0 r1) : μ.2.1 13 = (1, 240, []) := by rw [h]; rfl
theorem hC_14 {r0 r1 : Nat} {μ : fm_T} (h : μ.2.1 = shC r0 r1) : μ.2.1 14 = (1, 240, []) := by rw [h]; rfl
theorem hC_15 {r0 r1 : Nat} {μ : fm_T} (h : μ.2.1 = shC r0 r1) : μ.2.1 15 = (0, 3, [19, 20, 21, 22, 23, 24, 25, 26, 0]) := by rw [h]; rfl
theorem hC_16 {r0 r1 : Nat} {μ : fm_T} (h : μ.2.1 = shC r0 r1) : μ.2.1 16 = (1, 200, []) := by rw [h]; rfl
theorem hC_17 {r0 r1 : Nat} {μ : fm_T} (h : μ.2.1 = shC r0 r1) : μ.2.1 17 = (1, 200, []) := by rw [h]; rfl
theorem hC_18 {r0 r1 : Nat} {μ : fm_T} (h : μ.2.1 = shC r0 r1) : μ.2.1 18 = (1, 200, []) := by rw [h]; rfl
theorem hC_19 {r0 r1 : Nat} {μ : fm_T} (h : μ.2.1 = shC r0 r1) : μ.2.1 19 = (1, 100, []) := by rw [h]; rfl
theorem hC_20 {r0 r1 : Nat} {μ : fm_T} (h : μ.2.1 = shC r0 r1) : μ.2.1 20 = (1, 40, []) := by rw [h]; rfl
theorem hC_21 {r0 r1 : Nat} {μ : fm_T} (h : μ.2.1 = shC r0 r1) : μ.2.1 21 = (1, 40, []) := by rw [h]; rfl
theorem hC_22 {r0 r1 : Nat} {μ : fm_T} (h : μ.2.1 = shC r0 r1) : μ.2.1 22 = (1, 40, []) := by rw [h]; rfl
theorem hC_23 {r0 r1 : Nat} {μ : fm_T} (h : μ.2.1 = shC r0 r1) : μ.2.1 23 = (1, 40, []) := by rw [h]; rfl
theorem hC_24 {r0 r1 : Nat} {μ : fm_T} (h : μ.2.1 = shC r0 r1) : μ.2.1 24 = (0, 2, [28, 29, 30, 31, 32, 33, 34, 35, 36, 37, 38, 0, 0]) := by rw [h]; rfl
theorem hC_25 {r0 r1 : Nat} {μ : fm_T} (h : μ.2.1 = shC r0 r1) : μ.2.1 25 = (2, 32, []) := by rw [h]; rfl
theorem hC_26 {r0 r1 : Nat} {μ : fm_T} (h : μ.2.1 = shC r0 r1) : μ.2.1 26 = (1, 4, []) := by rw [h]; rfl
theorem hC_27 {r0 r1 : Nat} {μ : fm_T} (h : μ.2.1 = shC r0 r1) : μ.2.1 27 = (1, 6, []) := by rw [h]; rfl
theorem hC_28 {r0 r1 : Nat} {μ : fm_T} (h : μ.2.1 = shC r0 r1) : μ.2.1 28 = (1, 36, []) := by rw [h]; rfl
theorem hC_29 {r0 r1 : Nat} {μ : fm_T} (h : μ.2.1 = shC r0 r1) : μ.2.1 29 = (1, 8, []) := by rw [h]; rfl
theorem hC_30 {r0 r1 : Nat} {μ : fm_T} (h : μ.2.1 = shC r0 r1) : μ.2.1 30 = (1, 8, []) := by rw [h]; rfl
theorem hC_31 {r0 r1 : Nat} {μ : fm_T} (h : μ.2.1 = shC r0 r1) : μ.2.1 31 = (1, 8, []) := by rw [h]; rfl
theorem hC_32 {r0 r1 : Nat} {μ : fm_T} (h : μ.2.1 = shC r0 r1) : μ.2.1 32 = (1, 8, []) := by rw [h]; rfl
theorem hC_33 {r0 r1 : Nat} {μ : fm_T} (h : μ.2.1 = shC r0 r1) : μ.2.1 33 = (1, 4, []) := by rw [h]; rfl
theorem hC_34 {r0 r1 : Nat} {μ : fm_T} (h : μ.2.1 = shC r0 r1) : μ.2.1 34 = (1, 4, []) := by rw [h]; rfl
theorem hC_35 {r0 r1 : Nat} {μ : fm_T} (h : μ.2.1 = shC r0 r1) : μ.2.1 35 = (1, 4, []) := by rw [h]; rfl
theorem hC_36 {r0 r1 : Nat} {μ : fm_T} (h : μ.2.1 = shC r0 r1) : μ.2.1 36 = (0, 5, [40, 41, 42, 0, 0]) := by rw [h]; rfl
theorem hC_37 {r0 r1 : Nat} {μ : fm_T} (h : μ.2.1 = shC r0 r1) : μ.2.1 37 = (1, 40, []) := by rw [h]; rfl
theorem hC_38 {r0 r1 : Nat} {μ : fm_T} (h : μ.2.1 = shC r0 r1) : μ.2.1 38 = (1, 40, []) := by rw [h]; rfl
theorem hC_39 {r0 r1 : Nat} {μ : fm_T} (h : μ.2.1 = shC r0 r1) : μ.2.1 39 = (1, 40, []) := by rw [h]; rfl
theorem hC_40 {r0 r1 : Nat} {μ : fm_T} (h : μ.2.1 = shC r0 r1) : μ.2.1 40 = (4, 2, [r0, r1]) := by rw [h]; rfl
theorem hC_41 {r0 r1 : Nat} {μ : fm_T} (h : μ.2.1 = shC r0 r1) : μ.2.1 41 = (0, 4, [45, 46, 47, 48, 49, 50, 51, 52, 53, 0]) := by rw [h]; rfl
theorem hC_42 {r0 r1 : Nat} {μ : fm_T} (h : μ.2.1 = shC r0 r1) : μ.2.1 42 = (1, 10, []) := by rw [h]; rfl
theorem hC_43 {r0 r1 : Nat} {μ : fm_T} (h : μ.2.1 = shC r0 r1) : μ.2.1 43 = (1, 10, []) := by rw [h]; rfl
theorem hC_44 {r0 r1 : Nat} {μ : fm_T} (h : μ.2.1 = shC r0 r1) : μ.2.1 44 = (1, 10, []) := by rw [h]; rfl
theorem hC_45 {r0 r1 : Nat} {μ : fm_T} (h : μ.2.1 = shC r0 r1) : μ.2.1 45 = (1, 10, []) := by rw [h]; rfl
theorem hC_46 {r0 r1 : Nat} {μ : fm_T} (h : μ.2.1 = shC r0 r1) : μ.2.1 46 = (1, 1024, []) := by rw [h]; rfl
theorem hC_47 {r0 r1 : Nat} {μ : fm_T} (h : μ.2.1 = shC r0 r1) : μ.2.1 47 = (1, 1024, []) := by rw [h]; rfl
theorem hC_48 {r0 r1 : Nat} {μ : fm_T} (h : μ.2.1 = shC r0 r1) : μ.2.1 48 = (1, 1024, []) := by rw [h]; rfl
theorem hC_49 {r0 r1 : Nat} {μ : fm_T} (h : μ.2.1 = shC r0 r1) : μ.2.1 49 = (1, 1024, []) := by rw [h]; rfl
theorem hC_50 {r0 r1 : Nat} {μ : fm_T} (h : μ.2.1 = shC r0 r1) : μ.2.1 50 = (1, 1024, []) := by rw [h]; rfl
theorem hC_51 {r0 r1 : Nat} {μ : fm_T} (h : μ.2.1 = shC r0 r1) : μ.2.1 51 = (0, 1, [55, 56, 57, 58, 59, 1, 0, 0, 0]) := by rw [h]; rfl
theorem hC_52 {r0 r1 : Nat} {μ : fm_T} (h : μ.2.1 = shC r0 r1) : μ.2.1 52 = (1, 40, []) := by rw [h]; rfl
theorem hC_53 {r0 r1 : Nat} {μ : fm_T} (h : μ.2.1 = shC r0 r1) : μ.2.1 53 = (2, 256, []) := by rw [h]; rfl
theorem hC_54 {r0 r1 : Nat} {μ : fm_T} (h : μ.2.1 = shC r0 r1) : μ.2.1 54 = (1, 8, []) := by rw [h]; rfl
theorem hC_55 {r0 r1 : Nat} {μ : fm_T} (h : μ.2.1 = shC r0 r1) : μ.2.1 55 = (1, 40, []) := by rw [h]; rfl
theorem hC_56 {r0 r1 : Nat} {μ : fm_T} (h : μ.2.1 = shC r0 r1) : μ.2.1 56 = (1, 8, []) := by rw [h]; rfl
theorem hC_57 {r0 r1 : Nat} {μ : fm_T} (h : μ.2.1 = shC r0 r1) : μ.2.1 57 = (0, 6, [61, 62, 63, 0, 0]) := by rw [h]; rfl
theorem hC_58 {r0 r1 : Nat} {μ : fm_T} (h : μ.2.1 = shC r0 r1) : μ.2.1 58 = (2, 64, []) := by rw [h]; rfl
theorem hC_59 {r0 r1 : Nat} {μ : fm_T} (h : μ.2.1 = shC r0 r1) : μ.2.1 59 = (2, 64, []) := by rw [h]; rfl
theorem hC_60 {r0 r1 : Nat} {μ : fm_T} (h : μ.2.1 = shC r0 r1) : μ.2.1 60 = (1, 6, []) := by rw [h]; rfl
theorem hC_61 {r0 r1 : Nat} {μ : fm_T} (h : μ.2.1 = shC r0 r1) : μ.2.1 61 = (0, 0, [65, 66, 67, 68, 0, 0]) := by rw [h]; rfl
theorem hC_62 {r0 r1 : Nat} {μ : fm_T} (h : μ.2.1 = shC r0 r1) : μ.2.1 62 = (1, 240, []) := by rw [h]; rfl
theorem hC_63 {r0 r1 : Nat} {μ : fm_T} (h : μ.2.1 = shC r0 r1) : μ.2.1 63 = (1, 36, []) := by rw [h]; rfl
theorem hC_64 {r0 r1 : Nat} {μ : fm_T} (h : μ.2.1 = shC r0 r1) : μ.2.1 64 = (1, 4096, []) := by rw [h]; rfl
theorem hC_65 {r0 r1 : Nat} {μ : fm_T} (h : μ.2.1 = shC r0 r1) : μ.2.1 65 = (1, 12, []) := by rw [h]; rfl
theorem hC_66 {r0 r1 : Nat} {μ : fm_T} (h : μ.2.1 = shC r0 r1) : μ.2.1 66 = (0, 9, [70, 71, 72, 73, 74, 0]) := by rw [h]; rfl
theorem hC_67 {r0 r1 : Nat} {μ : fm_T} (h : μ.2.1 = shC r0 r1) : μ.2.1 67 = (1, 9, []) := by rw [h]; rfl
theorem hC_68 {r0 r1 : Nat} {μ : fm_T} (h : μ.2.1 = shC r0 r1) : μ.2.1 68 = (1, 9, []) := by rw [h]; rfl
theorem hC_69 {r0 r1 : Nat} {μ : fm_T} (h : μ.2.1 = shC r0 r1) : μ.2.1 69 = (1, 9, []) := by rw [h]; rfl
theorem hC_70 {r0 r1 : Nat} {μ : fm_T} (h : μ.2.1 = shC r0 r1) : μ.2.1 70 = (1, 9, []) := by rw [h]; rfl
theorem hC_71 {r0 r1 : Nat} {μ : fm_T} (h : μ.2.1 = shC r0 r1) : μ.2.1 71 = (1, 4608, []) := by rw [h]; rfl
theorem hC_72 {r0 r1 : Nat} {μ : fm_T} (h : μ.2.1 = shC r0 r1) : μ.2.1 72 = (1, 40, []) := by rw [h]; rfl
theorem hC_73 {r0 r1 : Nat} {μ : fm_T} (h : μ.2.1 = shC r0 r1) : μ.2.1 73 = (0, 2, [77, 78, 79, 80, 81, 82, 83, 84, 85, 86, 87, 0, 0]) := by rw [h]; rfl
theorem hC_74 {r0 r1 : Nat} {μ : fm_T} (h : μ.2.1 = shC r0 r1) : μ.2.1 74 = (2, 32, []) := by rw [h]; rfl
theorem hC_75 {r0 r1 : Nat} {μ : fm_T} (h : μ.2.1 = shC r0 r1) : μ.2.1 75 = (1, 4, []) := by rw [h]; rfl
theorem hC_76 {r0 r1 : Nat} {μ : fm_T} (h : μ.2.1 = shC r0 r1) : μ.2.1 76 = (1, 6, []) := by rw [h]; rfl
theorem hC_77 {r0 r1 : Nat} {μ : fm_T} (h : μ.2.1 = shC r0 r1) : μ.2.1 77 = (1, 36, []) := by rw [h]; rfl
theorem hC_78 {r0 r1 : Nat} {μ : fm_T} (h : μ.2.1 = shC r0 r1) : μ.2.1 78 = (1, 8, []) := by rw [h]; rfl
theorem hC_79 {r0 r1 : Nat} {μ : fm_T} (h : μ.2.1 = shC r0 r1) : μ.2.1 79 = (1, 8, []) := by rw [h]; rfl
theorem hC_80 {r0 r1 : Nat} {μ : fm_T} (h : μ.2.1 = shC r0 r1) : μ.2.1 80 = (1, 8, []) := by rw [h]; rfl
theorem hC_81 {r0 r1 : Nat} {μ : fm_T} (h : μ.2.1 = shC r0 r1) : μ.2.1 81 = (1, 8, []) := by rw [h]; rfl
theorem hC_82 {r0 r1 : Nat} {μ : fm_T} (h : μ.2.1 = shC r0 r1) : μ.2.1 82 = (1, 4, []) := by rw [h]; rfl
theorem hC_83 {r0 r1 : Nat} {μ : fm_T} (h : μ.2.1 = shC r0 r1) : μ.2.1 83 = (1, 4, []) := by rw [h]; rfl
theorem hC_84 {r0 r1 : Nat} {μ : fm_T} (h : μ.2.1 = shC r0 r1) : μ.2.1 84 = (1, 4, []) := by rw [h]; rfl
theorem hC_85 {r0 r1 : Nat} {μ : fm_T} (h : μ.2.1 = shC r0 r1) : μ.2.1 85 = (0, 5, [89, 90, 91, 0, 0]) := by rw [h]; rfl
theorem hC_86 {r0 r1 : Nat} {μ : fm_T} (h : μ.2.1 = shC r0 r1) : μ.2.1 86 = (1, 40, []) := by rw [h]; rfl
theorem hC_87 {r0 r1 : Nat} {μ : fm_T} (h : μ.2.1 = shC r0 r1) : μ.2.1 87 = (1, 40, []) := by rw [h]; rfl
theorem hC_88 {r0 r1 : Nat} {μ : fm_T} (h : μ.2.1 = shC r0 r1) : μ.2.1 88 = (1, 40, []) := by rw [h]; rfl
theorem hC_89 {r0 r1 : Nat} {μ : fm_T} (h : μ.2.1 = shC r0 r1) : μ.2.1 89 = (0, 10, [93, 99, 108, 120, 0]) := by rw [h]; rfl
theorem hC_90 {r0 r1 : Nat} {μ : fm_T} (h : μ.2.1 = shC r0 r1) : μ.2.1 90 = (0, 8, [94, 95, 96, 97, 98, 0, 0, 0]) := by rw [h]; rfl
theorem hC_91 {r0 r1 : Nat} {μ : fm_T} (h : μ.2.1 = shC r0 r1) : μ.2.1 91 = (1, 560, []) := by rw [h]; rfl
theorem hC_92 {r0 r1 : Nat} {μ : fm_T} (h : μ.2.1 = shC r0 r1) : μ.2.1 92 = (1, 240, []) := by rw [h]; rfl
theorem hC_93 {r0 r1 : Nat} {μ : fm_T} (h : μ.2.1 = shC r0 r1) : μ.2.1 93 = (1, 240, []) := by rw [h]; rfl
theorem hC_94 {r0 r1 : Nat} {μ : fm_T} (h : μ.2.1 = shC r0 r1) : μ.2.1 94 = (1, 240, []) := by rw [h]; rfl
theorem hC_95 {r0 r1 : Nat} {μ : fm_T} (h : μ.2.1 = shC r0 r1) : μ.2.1 95 = (1, 240, []) := by rw [h]; rfl
theorem hC_96 {r0 r1 : Nat} {μ : fm_T} (h : μ.2.1 = shC r0 r1) : μ.2.1 96 = (0, 3, [100, 101, 102, 103, 104, 105, 106, 107, 0]) := by rw [h]; rfl
theorem hC_97 {r0 r1 : Nat} {μ : fm_T} (h : μ.2.1 = shC r0 r1) : μ.2.1 97 = (1, 200, []) := by rw [h]; rfl
theorem hC_98 {r0 r1 : Nat} {μ : fm_T} (h : μ.2.1 = shC r0 r1) : μ.2.1 98 = (1, 200, []) := by rw [h]; rfl
theorem hC_99 {r0 r1 : Nat} {μ : fm_T} (h : μ.2.1 = shC r0 r1) : μ.2.1 99 = (1, 200, []) := by rw [h]; rfl
theorem hC_100 {r0 r1 : Nat} {μ : fm_T} (h : μ.2.1 = shC r0 r1) : μ.2.1 100 = (1, 100, []) := by rw [h]; rfl
theorem hC_101 {r0 r1 : Nat} {μ : fm_T} (h : μ.2.1 = shC r0 r1) : μ.2.1 101 = (1, 40, []) := by rw [h]; rfl
theorem hC_102 {r0 r1 : Nat} {μ : fm_T} (h : μ.2.1 = shC r0 r1) : μ.2.1 102 = (1, 40, []) := by rw [h]; rfl
theorem hC_103 {r0 r1 : Nat} {μ : fm_T} (h : μ.2.1 = shC r0 r1) : μ.2.1 103 = (1, 40, []) := by rw [h]; rfl
theorem hC_104 {r0 r1 : Nat} {μ : fm_T} (h : μ.2.1 = shC r0 r1) : μ.2.1 104 = (1, 40, []) := by rw [h]; rfl
theorem hC_105 {r0 r1 : Nat} {μ : fm_T} (h : μ.2.1 = shC r0 r1) : μ.2.1 105 = (0, 2, [109, 110, 111, 112, 113, 114, 115, 116, 117, 118, 119, 0, 0]) := by rw [h]; rfl
theorem hC_106 {r0 r1 : Nat} {μ : fm_T} (h : μ.2.1 = shC r0 r1) : μ.2.1 106 = (2, 32, []) := by rw [h]; rfl
theorem hC_107 {r0 r1 : Nat} {μ : fm_T} (h : μ.2.1 = shC r0 r1) : μ.2.1 107 = (1, 4, []) := by rw [h]; rfl
theorem hC_108 {r0 r1 : Nat} {μ : fm_T} (h : μ.2.1 = shC r0 r1) : μ.2.1 108 = (1, 6, []) := by rw [h]; rfl
theorem hC_109 {r0 r1 : Nat} {μ : fm_T} (h : μ.2.1 = shC r0 r1) : μ.2.1 109 = (1, 36, []) := by rw [h]; rfl
theorem hC_110 {r0 r1 : Nat} {μ : fm_T} (h : μ.2.1 = shC r0 r1) : μ.2.1 110 = (1, 8, []) := by rw [h]; rfl
theorem hC_111 {r0 r1 : Nat} {μ : fm_T} (h : μ.2.1 = shC r0 r1) : μ.2.1 111 = (1, 8, []) := by rw [h]; rfl
theorem hC_112 {r0 r1 : Nat} {μ : fm_T} (h : μ.2.1 = shC r0 r1) : μ.2.1 112 = (1, 8, []) := by rw [h]; rfl
theorem hC_113 {r0 r1 : Nat} {μ : fm_T} (h : μ.2.1 = shC r0 r1) : μ.2.1 113 = (1, 8, []) := by rw [h]; rfl
theorem hC_114 {r0 r1 : Nat} {μ : fm_T} (h : μ.2.1 = shC r0 r1) : μ.2.1 114 = (1, 4, []) := by rw [h]; rfl
theorem hC_115 {r0 r1 : Nat} {μ : fm_T} (h : μ.2.1 = shC r0 r1) : μ.2.1 115 = (1, 4, []) := by rw [h]; rfl
theorem hC_116 {r0 r1 : Nat} {μ : fm_T} (h : μ.2.1 = shC r0 r1) : μ.2.1 116 = (1, 4, []) := by rw [h]; rfl
theorem hC_117 {r0 r1 : Nat} {μ : fm_T} (h : μ.2.1 = shC r0 r1) : μ.2.1 117 = (0, 5, [121, 122, 123, 0, 0]) := by rw [h]; rfl
theorem hC_118 {r0 r1 : Nat} {μ : fm_T} (h : μ.2.1 = shC r0 r1) : μ.2.1 118 = (1, 40, []) := by rw [h]; rfl
theorem hC_119 {r0 r1 : Nat} {μ : fm_T} (h : μ.2.1 = shC r0 r1) : μ.2.1 119 = (1, 40, []) := by rw [h]; rfl
theorem hC_120 {r0 r1 : Nat} {μ : fm_T} (h : μ.2.1 = shC r0 r1) : μ.2.1 120 = (1, 40, []) := by rw [h]; rfl
theorem hC_121 {r0 r1 : Nat} {μ : fm_T} (h : μ.2.1 = shC r0 r1) : μ.2.1 121 = (0, 10, [125, 131, 140, 152, 0]) := by rw [h]; rfl
theorem hC_122 {r0 r1 : Nat} {μ : fm_T} (h : μ.2.1 = shC r0 r1) : μ.2.1 122 = (0, 8, [126, 127, 128, 129, 130, 0, 0, 0]) := by rw [h]; rfl
theorem hC_123 {r0 r1 : Nat} {μ : fm_T} (h : μ.2.1 = shC r0 r1) : μ.2.1 123 = (1, 560, []) := by rw [h]; rfl
theorem hC_124 {r0 r1 : Nat} {μ : fm_T} (h : μ.2.1 = shC r0 r1) : μ.2.1 124 = (1, 240, []) := by rw [h]; rfl
theorem hC_125 {r0 r1 : Nat} {μ : fm_T} (h : μ.2.1 = shC r0 r1) : μ.2.1 125 = (1, 240, []) := by rw [h]; rfl
theorem hC_126 {r0 r1 : Nat} {μ : fm_T} (h : μ.2.1 = shC r0 r1) : μ.2.1 126 = (1, 240, []) := by rw [h]; rfl
theorem hC_127 {r0 r1 : Nat} {μ : fm_T} (h : μ.2.1 = shC r0 r1) : μ.2.1 127 = (1, 240, []) := by rw [h]; rfl
theorem hC_128 {r0 r1 : Nat} {μ : fm_T} (h : μ.2.1 = shC r0 r1) : μ.2.1 128 = (0, 3, [132, 133, 134, 135, 136, 137, 138, 139, 0]) := by rw [h]; rfl
theorem hC_129 {r0 r1 : Nat} {μ : fm_T} (h : μ.2.1 = shC r0 r1) : μ.2.1 129 = (1, 200, []) := by rw [h]; rfl
theorem hC_130 {r0 r1 : Nat} {μ : fm_T} (h : μ.2.1 = shC r0 r1) : μ.2.1 130 = (1, 200, []) := by rw [h]; rfl
theorem hC_131 {r0 r1 : Nat} {μ : fm_T} (h : μ.2.1 = shC r0 r1) : μ.2.1 131 = (1, 200, []) := by rw [h]; rfl
theorem hC_132 {r0 r1 : Nat} {μ : fm_T} (h : μ.2.1 = shC r0 r1) : μ.2.1 132 = (1, 100, []) := by rw [h]; rfl
theorem hC_133 {r0 r1 : Nat} {μ : fm_T} (h : μ.2.1 = shC r0 r1) : μ.2.1 133 = (1, 40, []) := by rw [h]; rfl
theorem hC_134 {r0 r1 : Nat} {μ : fm_T} (h : μ.2.1 = shC r0 r1) : μ.2.1 134 = (1, 40, []) := by rw [h]; rfl
theorem hC_135 {r0 r1 : Nat} {μ : fm_T} (h : μ.2.1 = shC r0 r1) : μ.2.1 135 = (1, 40, []) := by rw [h]; rfl
theorem hC_136 {r0 r1 : Nat} {μ : fm_T} (h : μ.2.1 = shC r0 r1) : μ.2.1 136 = (1, 40, []) := by rw [h]; rfl
theorem hC_137 {r0 r1 : Nat} {μ : fm_T} (h : μ.2.1 = shC r0 r1) : μ.2.1 137 = (0, 2, [141, 142, 143, 144, 145, 146, 147, 148, 149, 150, 151, 0, 0]) := by rw [h]; rfl
theorem hC_138 {r0 r1 : Nat} {μ : fm_T} (h : μ.2.1 = shC r0 r1) : μ.2.1 138 = (2, 32, []) := by rw [h]; rfl
theorem hC_139 {r0 r1 : Nat} {μ : fm_T} (h : μ.2.1 = shC r0 r1) : μ.2.1 139 = (1, 4, []) := by rw [h]; rfl
theorem hC_140 {r0 r1 : Nat} {μ : fm_T} (h : μ.2.1 = shC r0 r1) : μ.2.1 140 = (1, 6, []) := by rw [h]; rfl
theorem hC_141 {r0 r1 : Nat} {μ : fm_T} (h : μ.2.1 = shC r0 r1) : μ.2.1 141 = (1, 36, []) := by rw [h]; rfl
theorem hC_142 {r0 r1 : Nat} {μ : fm_T} (h : μ.2.1 = shC r0 r1) : μ.2.1 142 = (1, 8, []) := by rw [h]; rfl
theorem hC_143 {r0 r1 : Nat} {μ : fm_T} (h : μ.2.1 = shC r0 r1) : μ.2.1 143 = (1, 8, []) := by rw [h]; rfl
theorem hC_144 {r0 r1 : Nat} {μ : fm_T} (h : μ.2.1 = shC r0 r1) : μ.2.1 144 = (1, 8, []) := by rw [h]; rfl
theorem hC_145 {r0 r1 : Nat} {μ : fm_T} (h : μ.2.1 = shC r0 r1) : μ.2.1 145 = (1, 8, []) := by rw [h]; rfl
theorem hC_146 {r0 r1 : Nat} {μ : fm_T} (h : μ.2.1 = shC r0 r1) : μ.2.1 146 = (1, 4, []) := by rw [h]; rfl
theorem hC_147 {r0 r1 : Nat} {μ : fm_T} (h : μ.2.1 = shC r0 r1) : μ.2.1 147 = (1, 4, []) := by rw [h]; rfl
theorem hC_148 {r0 r1 : Nat} {μ : fm_T} (h : μ.2.1 = shC r0 r1) : μ.2.1 148 = (1, 4, []) := by rw [h]; rfl
theorem hC_149 {r0 r1 : Nat} {μ : fm_T} (h : μ.2.1 = shC r0 r1) : μ.2.1 149 = (0, 5, [153, 154, 155, 0, 0]) := by rw [h]; rfl
theorem hC_150 {r0 r1 : Nat} {μ : fm_T} (h : μ.2.1 = shC r0 r1) : μ.2.1 150 = (1, 40, []) := by rw [h]; rfl
theorem hC_151 {r0 r1 : Nat} {μ : fm_T} (h : μ.2.1 = shC r0 r1) : μ.2.1 151 = (1, 40, []) := by rw [h]; rfl
theorem hC_152 {r0 r1 : Nat} {μ : fm_T} (h : μ.2.1 = shC r0 r1) : μ.2.1 152 = (1, 40, []) := by rw [h]; rfl
theorem hM_0 {μ : fm_T} (h : μ.2.1 = shM) : μ.2.1 0 = (0, 12, [0, 4, 0, 0, 0, 0, 0, 0, 0, 0, 0, 0, 1, 0, 5, 6, 7, 8, 9, 10, 11, 0, 0, 12, 13, 14, 15, 16, 17, 18, 19, 0, 0, 0, 0, 20, 21, 22, 23, 0, 24, 25, 26, 27, 1, 0, 0, 28, 0, 29, 30, 31, 32, 0, 0, 33, 34, 35, 0, 0, 36, 0, 0, 0, 0]) := by rw [h]; rfl
theorem hM_1 {μ : fm_T} (h : μ.2.1 = shM) : μ.2.1 1 = (1, 940, []) := by rw [h]; rfl
theorem hM_2 {μ : fm_T} (h : μ.2.1 = shM) : μ.2.1 2 = (1, 2560, []) := by rw [h]; rfl
theorem hM_3 {μ : fm_T} (h : μ.2.1 = shM) : μ.2.1 3 = (1, 130, []) := by rw [h]; rfl
theorem hM_4 {μ : fm_T} (h : μ.2.1 = shM) : μ.2.1 4 = (1, 5120, []) := by rw [h]; rfl
theorem hM_5 {μ : fm_T} (h : μ.2.1 = shM) : μ.2.1 5 = (2, 24, []) := by rw [h]; rfl
theorem hM_6 {μ : fm_T} (h : μ.2.1 = shM) : μ.2.1 6 = (2, 24, []) := by rw [h]; rfl
theorem hM_7 {μ : fm_T} (h : μ.2.1 = shM) : μ.2.1 7 = (2, 48, []) := by rw [h]; rfl
theorem hM_8 {μ : fm_T} (h : μ.2.1 = shM) : μ.2.1 8 = (3, 2, []) := by rw [h]; rfl
theorem hM_9 {μ : fm_T} (h : μ.2.1 = shM) : μ.2.1 9 = (1, 10, []) := by rw [h]; rfl
theorem hM_10 {μ : fm_T} (h : μ.2.1 = shM) : μ.2.1 10 = (1, 10, []) := by rw [h]; rfl
theorem hM_11 {μ : fm_T} (h : μ.2.1 = shM) : μ.2.1 11 = (1, 10, []) := by rw [h]; rfl
theorem hM_12 {μ : fm_T} (h : μ.2.1 = shM) : μ.2.1 12 = (1, 10, []) := by rw [h]; rfl
theorem hM_13 {μ : fm_T} (h : μ.2.1 = shM) : μ.2.1 13 = (1, 10, []) := by rw [h]; rfl
theorem hM_14 {μ : fm_T} (h : μ.2.1 = shM) : μ.2.1 14 = (1, 10, []) := by rw [h]; rfl
theorem hM_15 {μ : fm_T} (h : μ.2.1 = shM) : μ.2.1 15 = (1, 10, []) := by rw [h]; rfl
theorem hM_16 {μ : fm_T} (h : μ.2.1 = shM) : μ.2.1 16 = (1, 10, []) := by rw [h]; rfl
theorem hM_17 {μ : fm_T} (h : μ.2.1 = shM) : μ.2.1 17 = (3, 320, []) := by rw [h]; rfl
theorem hM_18 {μ : fm_T} (h : μ.2.1 = shM) : μ.2.1 18 = (2, 256, []) := by rw [h]; rfl
theorem hM_19 {μ : fm_T} (h : μ.2.1 = shM) : μ.2.1 19 = (2, 256, []) := by rw [h]; rfl
theorem hM_20 {μ : fm_T} (h : μ.2.1 = shM) : μ.2.1 20 = (1, 8, []) := by rw [h]; rfl
theorem hM_21 {μ : fm_T} (h : μ.2.1 = shM) : μ.2.1 21 = (2, 6, []) := by rw [h]; rfl
theorem hM_22 {μ : fm_T} (h : μ.2.1 = shM) : μ.2.1 22 = (1, 6, []) := by rw [h]; rfl
theorem hM_23 {μ : fm_T} (h : μ.2.1 = shM) : μ.2.1 23 = (1, 6, []) := by rw [h]; rfl
theorem hM_24 {μ : fm_T} (h : μ.2.1 = shM) : μ.2.1 24 = (1, 6, []) := by rw [h]; rfl
theorem hM_25 {μ : fm_T} (h : μ.2.1 = shM) : μ.2.1 25 = (1, 40, []) := by rw [h]; rfl
theorem hM_26 {μ : fm_T} (h : μ.2.1 = shM) : μ.2.1 26 = (1, 36, []) := by rw [h]; rfl
theorem hM_27 {μ : fm_T} (h : μ.2.1 = shM) : μ.2.1 27 = (1, 36, []) := by rw [h]; rfl
theorem hM_28 {μ : fm_T} (h : μ.2.1 = shM) : μ.2.1 28 = (1, 12, []) := by rw [h]; rfl
theorem hM_29 {μ : fm_T} (h : μ.2.1 = shM) : μ.2.1 29 = (1, 12, []) := by rw [h]; rfl
theorem hM_30 {μ : fm_T} (h : μ.2.1 = shM) : μ.2.1 30 = (1, 4608, []) := by rw [h]; rfl
theorem hM_31 {μ : fm_T} (h : μ.2.1 = shM) : μ.2.1 31 = (1, 9, []) := by rw [h]; rfl
theorem hM_32 {μ : fm_T} (h : μ.2.1 = shM) : μ.2.1 32 = (1, 9, []) := by rw [h]; rfl
theorem hM_33 {μ : fm_T} (h : μ.2.1 = shM) : μ.2.1 33 = (1, 240, []) := by rw [h]; rfl
abbrev sC : fs_T := ([(0, .int), (1, .long), (3, .object "CoatWorks$Works")], [("CoatWorks$House", "MOST_OF_SORT", [6, 6, 8, 4]), ("CoatWorks$House", "UNTOLD_SETTING", [2, 30, 20, 150]), ("CoatWorks$House", "LEAST_SETTING", [1, 1, 0, 100]), ("CoatWorks$House", "MOST_SETTING", [4, 99, 99, 300])])
abbrev sM : fs_T := ([(0, .int), (1, .long), (2, .boolean)], [])
theorem fm_i_sh (μ : fm_T) (k j : Nat) (v : Int32) : (fm_i μ k j v).2.1 = μ.2.1 := by cases μ; rfl
theorem fm_ite (c : Prop) [Decidable c] (a b : fm_T) : (if c then a else b).2.1 = if c then a.2.1 else b.2.1 := by split <;> rfl
theorem exF : ∃ n : Nat, 100000 ≤ n := ⟨_, Nat.le_refl _⟩
noncomputable def fF : Nat := Classical.choose exF
theorem fF_le : 100000 ≤ fF := Classical.choose_spec exF
theorem fm_l_sh (μ : fm_T) (k j : Nat) (v : Int64) : (fm_l μ k j v).2.1 = μ.2.1 := by cases μ; rfl
theorem fm_i_s0 (μ : fm_T) (k j : Nat) (v : Int32) : (fm_i μ k j v).2.2.1 k j = v := by simp [fm_i, va_up, upd]
theorem fm_l_s0 (μ : fm_T) (k j : Nat) (v : Int64) : (fm_l μ k j v).2.2.2 k j = v := by simp [fm_l, va_up, vp_updL]
