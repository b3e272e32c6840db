theorem kfX0_30 : fk_F RX0 30 TX0 6 5 := ⟨by decide, Or.inl (fg_c2 216 (by decide +kernel) (by decide +kernel))⟩
theorem kfX9_11 : fk_F RX9 11 TX9 6 0 := ⟨by decide, Or.inl (fg_c2 237 (by decide +kernel) (by decide +kernel))⟩
theorem kfX9_15 : fk_F RX9 15 TX9 6 1 := ⟨by decide, Or.inl (fg_c2 238 (by decide +kernel) (by decide +kernel))⟩
theorem kfX9_18 : fk_F RX9 18 TX9 6 2 := ⟨by decide, Or.inl (fg_c2 239 (by decide +kernel) (by decide +kernel))⟩
theorem kfX9_21 : fk_F RX9 21 TX9 6 3 := ⟨by decide, Or.inl (fg_c3 0 (by decide +kernel) (by decide +kernel))⟩
theorem kfX9_24 : fk_F RX9 24 TX9 6 4 := ⟨by decide, Or.inl (fg_c3 2 (by decide +kernel) (by decide +kernel))⟩
theorem kfX9_27 : fk_F RX9 27 TX9 6 5 := ⟨by decide, Or.inl (fg_c3 3 (by decide +kernel) (by decide +kernel))⟩
theorem kfX11_10 : fk_F RX11 10 TX11 13 0 := ⟨by decide, Or.inl (fg_c3 22 (by decide +kernel) (by decide +kernel))⟩
theorem kfX11_19 : fk_F RX11 19 TX11 13 1 := ⟨by decide, Or.inl (fg_c3 23 (by decide +kernel) (by decide +kernel))⟩
theorem kfX11_23 : fk_F RX11 23 TX11 13 2 := ⟨by decide, Or.inl (fg_c3 24 (by decide +kernel) (by decide +kernel))⟩
theorem kfX11_30 : fk_F RX11 30 TX11 13 3 := ⟨by decide, Or.inl (fg_c3 25 (by decide +kernel) (by decide +kernel))⟩
theorem kfX11_37 : fk_F RX11 37 TX11 13 4 := ⟨by decide, Or.inl (fg_c3 26 (by decide +kernel) (by decide +kernel))⟩
theorem kfX11_44 : fk_F RX11 44 TX11 13 5 := ⟨by decide, Or.inl (fg_c3 27 (by decide +kernel) (by decide +kernel))⟩
theorem kfX11_51 : fk_F RX11 51 TX11 13 6 := ⟨by decide, Or.inl (fg_c3 28 (by decide +kernel) (by decide +kernel))⟩
theorem kfX11_58 : fk_F RX11 58 TX11 13 7 := ⟨by decide, Or.inl (fg_c3 29 (by decide +kernel) (by decide +kernel))⟩
theorem kfX11_64 : fk_F RX11 64 TX11 13 8 := ⟨by decide, Or.inl (fg_c3 30 (by decide +kernel) (by decide +kernel))⟩
theorem kfX11_71 : fk_F RX11 71 TX11 13 9 := ⟨by decide, Or.inl (fg_c3 31 (by decide +kernel) (by decide +kernel))⟩
theorem kfX11_78 : fk_F RX11 78 TX11 13 10 := ⟨by decide, Or.inl (fg_c3 32 (by decide +kernel) (by decide +kernel))⟩
theorem kfX11_82 : fk_F RX11 82 TX11 13 11 := ⟨by decide, Or.inl (fg_c3 33 (by decide +kernel) (by decide +kernel))⟩
theorem kfX11_86 : fk_F RX11 86 TX11 13 12 := ⟨by decide, Or.inl (fg_c3 34 (by decide +kernel) (by decide +kernel))⟩
theorem kfX12_111 : fk_F RX12 111 TX12 65 0 := ⟨by decide, Or.inl (fg_c6 101 (by decide +kernel) (by decide +kernel))⟩
theorem kfX12_7 : fk_F RX12 7 TX12 65 1 := ⟨by decide, Or.inl (fg_c6 102 (by decide +kernel) (by decide +kernel))⟩
theorem kfX12_115 : fk_F RX12 115 TX12 65 2 := ⟨by decide, Or.inl (fg_c6 103 (by decide +kernel) (by decide +kernel))⟩
theorem kfX12_122 : fk_F RX12 122 TX12 65 3 := ⟨by decide, Or.inl (fg_c6 104 (by decide +kernel) (by decide +kernel))⟩
theorem kfX12_131 : fk_F RX12 131 TX12 65 4 := ⟨by decide, Or.inl (fg_c6 105 (by decide +kernel) (by decide +kernel))⟩
theorem kfX12_125 : fk_F RX12 125 TX12 65 5 := ⟨by decide, Or.inl (fg_c6 106 (by decide +kernel) (by decide +kernel))⟩
theorem kfX12_128 : fk_F RX12 128 TX12 65 6 := ⟨by decide, Or.inl (fg_c6 107 (by decide +kernel) (by decide +kernel))⟩
theorem kfX12_134 : fk_F RX12 134 TX12 65 7 := ⟨by decide, Or.inl (fg_c6 108 (by decide +kernel) (by decide +kernel))⟩
theorem kfX12_151 : fk_F RX12 151 TX12 65 8 := ⟨by decide, Or.inl (fg_c6 109 (by decide +kernel) (by decide +kernel))⟩
theorem kfX12_144 : fk_F RX12 144 TX12 65 9 := ⟨by decide, Or.inl (fg_c6 110 (by decide +kernel) (by decide +kernel))⟩
theorem kfX12_162 : fk_F RX12 162 TX12 65 10 := ⟨by decide, Or.inl (fg_c6 111 (by decide +kernel) (by decide +kernel))⟩
theorem kfX12_165 : fk_F RX12 165 TX12 65 11 := ⟨by decide, Or.inl (fg_c6 112 (by decide +kernel) (by decide +kernel))⟩
theorem kfX12_147 : fk_F RX12 147 TX12 65 12 := ⟨by decide, Or.inl (fg_c6 113 (by decide +kernel) (by decide +kernel))⟩
theorem kfX12_175 : fk_F RX12 175 TX12 65 13 := ⟨by decide, Or.inl (fg_c6 114 (by decide +kernel) (by decide +kernel))⟩
theorem kfX12_13 : fk_F RX12 13 TX12 65 14 := ⟨by decide, Or.inl (fg_c6 115 (by decide +kernel) (by decide +kernel))⟩
theorem kfX12_16 : fk_F RX12 16 TX12 65 15 := ⟨by decide, Or.inl (fg_c6 116 (by decide +kernel) (by decide +kernel))⟩
theorem kfX12_19 : fk_F RX12 19 TX12 65 16 := ⟨by decide, Or.inl (fg_c6 117 (by decide +kernel) (by decide +kernel))⟩
theorem kfX12_22 : fk_F RX12 22 TX12 65 17 := ⟨by decide, Or.inl (fg_c6 118 (by decide +kernel) (by decide +kernel))⟩
theorem kfX12_26 : fk_F RX12 26 TX12 65 18 := ⟨by decide, Or.inl (fg_c6 119 (by decide +kernel) (by decide +kernel))⟩
theorem kfX12_29 : fk_F RX12 29 TX12 65 19 := ⟨by decide, Or.inl (fg_c6 120 (by decide +kernel) (by decide +kernel))⟩
theorem kfX12_32 : fk_F RX12 32 TX12 65 20 := ⟨by decide, Or.inl (fg_c6 121 (by decide +kernel) (by decide +kernel))⟩
theorem kfX12_204 : fk_F RX12 204 TX12 65 21 := ⟨by decide, Or.inl (fg_c6 122 (by decide +kernel) (by decide +kernel))⟩
theorem kfX12_232 : fk_F RX12 232 TX12 65 22 := ⟨by decide, Or.inl (fg_c6 123 (by decide +kernel) (by decide +kernel))⟩
theorem kfX12_36 : fk_F RX12 36 TX12 65 23 := ⟨by decide, Or.inl (fg_c6 124 (by decide +kernel) (by decide +kernel))⟩
theorem kfX12_39 : fk_F RX12 39 TX12 65 24 := ⟨by decide, Or.inl (fg_c6 125 (by decide +kernel) (by decide +kernel))⟩
theorem kfX12_42 : fk_F RX12 42 TX12 65 25 := ⟨by decide, Or.inl (fg_c6 126 (by decide +kernel) (by decide +kernel))⟩
theorem kfX12_45 : fk_F RX12 45 TX12 65 26 := ⟨by decide, Or.inl (fg_c6 127 (by decide +kernel) (by decide +kernel))⟩
theorem kfX12_48 : fk_F RX12 48 TX12 65 27 := ⟨by decide, Or.inl (fg_c6 128 (by decide +kernel) (by decide +kernel))⟩
theorem kfX12_51 : fk_F RX12 51 TX12 65 28 := ⟨by decide, Or.inl (fg_c6 129 (by decide +kernel) (by decide +kernel))⟩
theorem kfX12_54 : fk_F RX12 54 TX12 65 29 := ⟨by decide, Or.inl (fg_c6 130 (by decide +kernel) (by decide +kernel))⟩
theorem kfX12_57 : fk_F RX12 57 TX12 65 30 := ⟨by decide, Or.inl (fg_c6 131 (by decide +kernel) (by decide +kernel))⟩
theorem kfX12_303 : fk_F RX12 303 TX12 65 31 := ⟨by decide, Or.inl (fg_c6 132 (by decide +kernel) (by decide +kernel))⟩
theorem kfX12_294 : fk_F RX12 294 TX12 65 32 := ⟨by decide, Or.inl (fg_c6 133 (by decide +kernel) (by decide +kernel))⟩
theorem kfX12_300 : fk_F RX12 300 TX12 65 33 := ⟨by decide, Or.inl (fg_c6 134 (by decide +kernel) (by decide +kernel))⟩
theorem kfX12_297 : fk_F RX12 297 TX12 65 34 := ⟨by decide, Or.inl (fg_c6 135 (by decide +kernel) (by decide +kernel))⟩
theorem kfX12_60 : fk_F RX12 60 TX12 65 35 := ⟨by decide, Or.inl (fg_c6 136 (by decide +kernel) (by decide +kernel))⟩
theorem kfX12_63 : fk_F RX12 63 TX12 65 36 := ⟨by decide, Or.inl (fg_c6 137 (by decide +kernel) (by decide +kernel))⟩
theorem kfX12_66 : fk_F RX12 66 TX12 65 37 := ⟨by decide, Or.inl (fg_c6 138 (by decide +kernel) (by decide +kernel))⟩
theorem kfX12_69 : fk_F RX12 69 TX12 65 38 := ⟨by decide, Or.inl (fg_c6 139 (by decide +kernel) (by decide +kernel))⟩
theorem kfX12_336 : fk_F RX12 336 TX12 65 39 := ⟨by decide, Or.inl (fg_c6 140 (by decide +kernel) (by decide +kernel))⟩
theorem kfX12_72 : fk_F RX12 72 TX12 65 40 := ⟨by decide, Or.inl (fg_c6 141 (by decide +kernel) (by decide +kernel))⟩
theorem kfX12_75 : fk_F RX12 75 TX12 65 41 := ⟨by decide, Or.inl (fg_c6 142 (by decide +kernel) (by decide +kernel))⟩
theorem kfX12_78 : fk_F RX12 78 TX12 65 42 := ⟨by decide, Or.inl (fg_c6 143 (by decide +kernel) (by decide +kernel))⟩
theorem kfX12_81 : fk_F RX12 81 TX12 65 43 := ⟨by decide, Or.inl (fg_c6 144 (by decide +kernel) (by decide +kernel))⟩
theorem kfX12_347 : fk_F RX12 347 TX12 65 44 := ⟨by decide, Or.inl (fg_c6 145 (by decide +kernel) (by decide +kernel))⟩
theorem kfX12_360 : fk_F RX12 360 TX12 65 45 := ⟨by decide, Or.inl (fg_c6 146 (by decide +kernel) (by decide +kernel))⟩
theorem kfX12_339 : fk_F RX12 339 TX12 65 46 := ⟨by decide, Or.inl (fg_c6 147 (by decide +kernel) (by decide +kernel))⟩
theorem kfX12_84 : fk_F RX12 84 TX12 65 47 := ⟨by decide, Or.inl (fg_c6 148 (by decide +kernel) (by decide +kernel))⟩
theorem kfX12_377 : fk_F RX12 377 TX12 65 48 := ⟨by decide, Or.inl (fg_c6 149 (by decide +kernel) (by decide +kernel))⟩
theorem kfX12_87 : fk_F RX12 87 TX12 65 49 := ⟨by decide, Or.inl (fg_c6 150 (by decide +kernel) (by decide +kernel))⟩
theorem kfX12_90 : fk_F RX12 90 TX12 65 50 := ⟨by decide, Or.inl (fg_c6 151 (by decide +kernel) (by decide +kernel))⟩
theorem kfX12_93 : fk_F RX12 93 TX12 65 51 := ⟨by decide, Or.inl (fg_c6 152 (by decide +kernel) (by decide +kernel))⟩
theorem kfX12_96 : fk_F RX12 96 TX12 65 52 := ⟨by decide, Or.inl (fg_c6 153 (by decide +kernel) (by decide +kernel))⟩
theorem kfX12_392 : fk_F RX12 392 TX12 65 53 := ⟨by decide, Or.inl (fg_c6 154 (by decide +kernel) (by decide +kernel))⟩
theorem kfX12_389 : fk_F RX12 389 TX12 65 54 := ⟨by decide, Or.inl (fg_c6 155 (by decide +kernel) (by decide +kernel))⟩
theorem kfX12_99 : fk_F RX12 99 TX12 65 55 := ⟨by decide, Or.inl (fg_c6 156 (by decide +kernel) (by decide +kernel))⟩
theorem kfX12_102 : fk_F RX12 102 TX12 65 56 := ⟨by decide, Or.inl (fg_c6 157 (by decide +kernel) (by decide +kernel))⟩
theorem kfX12_105 : fk_F RX12 105 TX12 65 57 := ⟨by decide, Or.inl (fg_c6 158 (by decide +kernel) (by decide +kernel))⟩
theorem kfX12_418 : fk_F RX12 418 TX12 65 58 := ⟨by decide, Or.inl (fg_c6 159 (by decide +kernel) (by decide +kernel))⟩
theorem kfX12_424 : fk_F RX12 424 TX12 65 59 := ⟨by decide, Or.inl (fg_c6 160 (by decide +kernel) (by decide +kernel))⟩
theorem kfX12_108 : fk_F RX12 108 TX12 65 60 := ⟨by decide, Or.inl (fg_c6 161 (by decide +kernel) (by decide +kernel))⟩
theorem kfX12_427 : fk_F RX12 427 TX12 65 61 := ⟨by decide, Or.inl (fg_c6 162 (by decide +kernel) (by decide +kernel))⟩
theorem kfX12_446 : fk_F RX12 446 TX12 65 62 := ⟨by decide, Or.inl (fg_c6 163 (by decide +kernel) (by decide +kernel))⟩
theorem kfX12_449 : fk_F RX12 449 TX12 65 63 := ⟨by decide, Or.inl (fg_c6 164 (by decide +kernel) (by decide +kernel))⟩
theorem kfX12_433 : fk_F RX12 433 TX12 65 64 := ⟨by decide, Or.inl (fg_c6 165 (by decide +kernel) (by decide +kernel))⟩
theorem kfX11_89 : fk_F RX11 89 TX7 15 2 := ⟨by decide, Or.inr ⟨"CoatWorks", fg_d1 99 (by decide +kernel) (by decide +kernel)⟩⟩
theorem kfX2_86 : fk_F RX2 86 TX7 15 9 := ⟨by decide, Or.inr ⟨"CoatWorks", fg_d1 107 (by decide +kernel) (by decide +kernel)⟩⟩
theorem kfX5_45 : fk_F RX5 45 TX7 15 9 := ⟨by decide, Or.inr ⟨"CoatWorks", fg_d1 108 (by decide +kernel) (by decide +kernel)⟩⟩
theorem kfX2_93 : fk_F RX2 93 TX7 15 11 := ⟨by decide, Or.inr ⟨"CoatWorks", fg_d1 111 (by decide +kernel) (by decide +kernel)⟩⟩
theorem kfX5_72 : fk_F RX5 72 TX7 15 11 := ⟨by decide, Or.inr ⟨"CoatWorks", fg_d1 112 (by decide +kernel) (by decide +kernel)⟩⟩
theorem kfX2_131 : fk_F RX2 131 TX7 15 12 := ⟨by decide, Or.inr ⟨"CoatWorks", fg_d1 114 (by decide +kernel) (by decide +kernel)⟩⟩
theorem kfX5_94 : fk_F RX5 94 TX7 15 12 := ⟨by decide, Or.inr ⟨"CoatWorks", fg_d1 115 (by decide +kernel) (by decide +kernel)⟩⟩
theorem kfX11_100 : fk_F RX11 100 TX7 15 13 := ⟨by decide, Or.inr ⟨"CoatWorks", fg_d1 117 (by decide +kernel) (by decide +kernel)⟩⟩
theorem kfX11_103 : fk_F RX11 103 TX7 15 14 := ⟨by decide, Or.inr ⟨"CoatWorks", fg_d1 119 (by decide +kernel) (by decide +kernel)⟩⟩
theorem kfX11_137 : fk_F RX11 137 TX8 8 5 := ⟨by decide, Or.inr ⟨"CoatWorks", fg_d1 172 (by decide +kernel) (by decide +kernel)⟩⟩
theorem kfX11_389 : fk_F RX11 389 TX8 8 6 := ⟨by decide, Or.inr ⟨"CoatWorks", fg_d1 174 (by decide +kernel) (by decide +kernel)⟩⟩
theorem kfX11_325 : fk_F RX11 325 TX8 8 7 := ⟨by decide, Or.inr ⟨"CoatWorks", fg_d1 176 (by decide +kernel) (by decide +kernel)⟩⟩
theorem kfX11_300 : fk_F RX11 300 TX3 9 3 := ⟨by decide, Or.inr ⟨"CoatWorks", fg_d1 211 (by decide +kernel) (by decide +kernel)⟩⟩
theorem kfX11_202 : fk_F RX11 202 TX3 9 4 := ⟨by decide, Or.inr ⟨"CoatWorks", fg_d1 213 (by decide +kernel) (by decide +kernel)⟩⟩
theorem kfX11_205 : fk_F RX11 205 TX3 9 5 := ⟨by decide, Or.inr ⟨"CoatWorks", fg_d1 215 (by decide +kernel) (by decide +kernel)⟩⟩
theorem kfX11_368 : fk_F RX11 368 TX3 9 6 := ⟨by decide, Or.inr ⟨"CoatWorks", fg_d1 217 (by decide +kernel) (by decide +kernel)⟩⟩
theorem kfX11_371 : fk_F RX11 371 TX3 9 7 := ⟨by decide, Or.inr ⟨"CoatWorks", fg_d1 219 (by decide +kernel) (by decide +kernel)⟩⟩
theorem kfX11_357 : fk_F RX11 357 TX3 9 8 := ⟨by decide, Or.inr ⟨"CoatWorks", fg_d1 221 (by decide +kernel) (by decide +kernel)⟩⟩
theorem kfX6_31 : fk_F RX6 31 TX2 13 1 := ⟨by decide, Or.inr ⟨"CoatWorks", fg_d2 18 (by decide +kernel) (by decide +kernel)⟩⟩
theorem kfX11_138 : fk_F RX11 138 TX2 13 1 := ⟨by decide, Or.inr ⟨"CoatWorks", fg_d2 19 (by decide +kernel) (by decide +kernel)⟩⟩
theorem kfX6_55 : fk_F RX6 55 TX2 13 2 := ⟨by decide, Or.inr ⟨"CoatWorks", fg_d2 21 (by decide +kernel) (by decide +kernel)⟩⟩
theorem kfX6_40 : fk_F RX6 40 TX2 13 3 := ⟨by decide, Or.inr ⟨"CoatWorks", fg_d2 23 (by decide +kernel) (by decide +kernel)⟩⟩
theorem kfX11_199 : fk_F RX11 199 TX2 13 10 := ⟨by decide, Or.inr ⟨"CoatWorks", fg_d2 31 (by decide +kernel) (by decide +kernel)⟩⟩
theorem kfX11_131 : fk_F RX11 131 TX2 13 12 := ⟨by decide, Or.inr ⟨"CoatWorks", fg_d2 34 (by decide +kernel) (by decide +kernel)⟩⟩
theorem kfX11_318 : fk_F RX11 318 TX5 5 4 := ⟨by decide, Or.inr ⟨"CoatWorks", fg_d2 73 (by decide +kernel) (by decide +kernel)⟩⟩
theorem kfX11_115 : fk_F RX11 115 TX10 5 0 := ⟨by decide, Or.inr ⟨"CoatWorks", fg_d2 86 (by decide +kernel) (by decide +kernel)⟩⟩
theorem kfX11_122 : fk_F RX11 122 TX10 5 1 := ⟨by decide, Or.inr ⟨"CoatWorks", fg_d2 88 (by decide +kernel) (by decide +kernel)⟩⟩
theorem kfX11_106 : fk_F RX11 106 TX10 5 2 := ⟨by decide, Or.inr ⟨"CoatWorks", fg_d2 90 (by decide +kernel) (by decide +kernel)⟩⟩
theorem kfX11_109 : fk_F RX11 109 TX10 5 3 := ⟨by decide, Or.inr ⟨"CoatWorks", fg_d2 92 (by decide +kernel) (by decide +kernel)⟩⟩
theorem kfX11_134 : fk_F RX11 134 TX10 5 4 := ⟨by decide, Or.inr ⟨"CoatWorks", fg_d2 94 (by decide +kernel) (by decide +kernel)⟩⟩
theorem kfX11_273 : fk_F RX11 273 TX1 9 4 := ⟨by decide, Or.inr ⟨"CoatWorks", fg_d2 155 (by decide +kernel) (by decide +kernel)⟩⟩
theorem kfX11_270 : fk_F RX11 270 TX1 9 8 := ⟨by decide, Or.inr ⟨"CoatWorks", fg_d2 160 (by decide +kernel) (by decide +kernel)⟩⟩
theorem kfX11_286 : fk_F RX11 286 TX6 5 2 := ⟨by decide, Or.inr ⟨"CoatWorks", fg_d2 189 (by decide +kernel) (by decide +kernel)⟩⟩
theorem kfX11_283 : fk_F RX11 283 TX6 5 4 := ⟨by decide, Or.inr ⟨"CoatWorks", fg_d2 192 (by decide +kernel) (by decide +kernel)⟩⟩
theorem kfX11_348 : fk_F RX11 348 TX0 6 3 := ⟨by decide, Or.inr ⟨"CoatWorks", fg_d2 214 (by decide +kernel) (by decide +kernel)⟩⟩
theorem kfX11_345 : fk_F RX11 345 TX0 6 5 := ⟨by decide, Or.inr ⟨"CoatWorks", fg_d2 217 (by decide +kernel) (by decide +kernel)⟩⟩
theorem kfX11_384 : fk_F RX11 384 TX9 6 3 := ⟨by decide, Or.inr ⟨"CoatWorks", fg_d3 1 (by decide +kernel) (by decide +kernel)⟩⟩
theorem kfX11_381 : fk_F RX11 381 TX9 6 5 := ⟨by decide, Or.inr ⟨"CoatWorks", fg_d3 4 (by decide +kernel) (by decide +kernel)⟩⟩
set_option maxRecDepth 100000 in
theorem kmX0_init : fk_M mX0_init 0 := ⟨by decide +kernel, fg_c2 208 rfl rfl, fg_c1 16 (by decide +kernel) (by decide +kernel), by decide +kernel, by decide +kernel, by decide⟩
set_option maxRecDepth 100000 in
theorem kmX0_start : fk_M mX0_start 0 := ⟨by decide +kernel, fg_c5 130 rfl rfl, fg_c1 16 (by decide +kernel) (by decide +kernel), by decide +kernel, by decide +kernel, by decide⟩
set_option maxRecDepth 100000 in
theorem kmX0_beginClaim : fk_M mX0_beginClaim 0 := ⟨by decide +kernel, fg_c5 135 rfl rfl, fg_c1 16 (by decide +kernel) (by decide +kernel), by decide +kernel, by decide +kernel, by decide⟩
set_option maxRecDepth 100000 in
theorem kmX0_addCause : fk_M mX0_addCause 2 := ⟨by decide +kernel, fg_c5 139 rfl rfl, fg_c1 16 (by decide +kernel) (by decide +kernel), by decide +kernel, by decide +kernel, by decide⟩
set_option maxRecDepth 100000 in
theorem kmX0_chooseFewest : fk_M mX0_chooseFewest 0 := ⟨by decide +kernel, fg_c5 144 rfl rfl, fg_c1 16 (by decide +kernel) (by decide +kernel), by decide +kernel, by decide +kernel, by decide⟩
set_option maxRecDepth 100000 in
theorem kmX0_countFewest : fk_M mX0_countFewest 0 := ⟨by decide +kernel, fg_c5 148 rfl rfl, fg_c1 16 (by decide +kernel) (by decide +kernel), by decide +kernel, by decide +kernel, by decide⟩
set_option maxRecDepth 100000 in
theorem kmX1_init : fk_M mX1_init 0 := ⟨by decide +kernel, fg_c2 148 rfl rfl, fg_c1 14 (by decide +kernel) (by decide +kernel), by decide +kernel, by decide +kernel, by decide⟩
set_option maxRecDepth 100000 in
theorem kmX1_start : fk_M mX1_start 2 := ⟨by decide +kernel, fg_c4 147 rfl rfl, fg_c1 14 (by decide +kernel) (by decide +kernel), by decide +kernel, by decide +kernel, by decide⟩
set_option maxRecDepth 100000 in
theorem kmX1_allow : fk_M mX1_allow 2 := ⟨by decide +kernel, fg_c4 160 rfl rfl, fg_c1 14 (by decide +kernel) (by decide +kernel), by decide +kernel, by decide +kernel, by decide⟩
set_option maxRecDepth 100000 in
theorem kmX1_countWays : fk_M mX1_countWays 0 := ⟨by decide +kernel, fg_c4 165 rfl rfl, fg_c1 14 (by decide +kernel) (by decide +kernel), by decide +kernel, by decide +kernel, by decide⟩
set_option maxRecDepth 100000 in
theorem kmX1_settleSure : fk_M mX1_settleSure 0 := ⟨by decide +kernel, fg_c4 172 rfl rfl, fg_c1 14 (by decide +kernel) (by decide +kernel), by decide +kernel, by decide +kernel, by decide⟩
set_option maxRecDepth 100000 in
theorem kmX1_settleOne : fk_M mX1_settleOne 2 := ⟨by decide +kernel, fg_c4 180 rfl rfl, fg_c1 14 (by decide +kernel) (by decide +kernel), by decide +kernel, by decide +kernel, by decide⟩
set_option maxRecDepth 100000 in
theorem kmX1_findOwner : fk_M mX1_findOwner 2 := ⟨by decide +kernel, fg_c4 176 rfl rfl, fg_c1 14 (by decide +kernel) (by decide +kernel), by decide +kernel, by decide +kernel, by decide⟩
set_option maxRecDepth 100000 in
theorem kmX2_init : fk_M mX2_init 0 := ⟨by decide +kernel, fg_c2 5 rfl rfl, fg_c1 11 (by decide +kernel) (by decide +kernel), by decide +kernel, by decide +kernel, by decide⟩
set_option maxRecDepth 100000 in
theorem kmX2_copyFrom : fk_M mX2_copyFrom 1 := ⟨by decide +kernel, fg_c5 238 rfl rfl, fg_c1 11 (by decide +kernel) (by decide +kernel), by decide +kernel, by decide +kernel, by decide⟩
set_option maxRecDepth 100000 in
theorem kmX2_forgetAll : fk_M mX2_forgetAll 0 := ⟨by decide +kernel, fg_c3 85 rfl rfl, fg_c1 11 (by decide +kernel) (by decide +kernel), by decide +kernel, by decide +kernel, by decide⟩
set_option maxRecDepth 100000 in
theorem kmX2_readFrom : fk_M mX2_readFrom 1 := ⟨by decide +kernel, fg_c3 81 rfl rfl, fg_c1 11 (by decide +kernel) (by decide +kernel), by decide +kernel, by decide +kernel, by decide⟩
set_option maxRecDepth 100000 in
theorem kmX2_readLine : fk_M mX2_readLine 1 := ⟨by decide +kernel, fg_c3 132 rfl rfl, fg_c1 11 (by decide +kernel) (by decide +kernel), by decide +kernel, by decide +kernel, by decide⟩
set_option maxRecDepth 100000 in
theorem kmX2_readSetting : fk_M mX2_readSetting 2 := ⟨by decide +kernel, fg_c3 188 rfl rfl, fg_c1 11 (by decide +kernel) (by decide +kernel), by decide +kernel, by decide +kernel, by decide⟩
set_option maxRecDepth 100000 in
theorem kmX2_readThing : fk_M mX2_readThing 2 := ⟨by decide +kernel, fg_c3 140 rfl rfl, fg_c1 11 (by decide +kernel) (by decide +kernel), by decide +kernel, by decide +kernel, by decide⟩
set_option maxRecDepth 100000 in
theorem kmX2_readAgent : fk_M mX2_readAgent 2 := ⟨by decide +kernel, fg_c3 158 rfl rfl, fg_c1 11 (by decide +kernel) (by decide +kernel), by decide +kernel, by decide +kernel, by decide⟩
set_option maxRecDepth 100000 in
theorem kmX2_readCloth : fk_M mX2_readCloth 2 := ⟨by decide +kernel, fg_c3 176 rfl rfl, fg_c1 11 (by decide +kernel) (by decide +kernel), by decide +kernel, by decide +kernel, by decide⟩
set_option maxRecDepth 100000 in
theorem kmX2_readDrum : fk_M mX2_readDrum 2 := ⟨by decide +kernel, fg_c3 184 rfl rfl, fg_c1 11 (by decide +kernel) (by decide +kernel), by decide +kernel, by decide +kernel, by decide⟩
set_option maxRecDepth 100000 in
theorem kmX2_takeName : fk_M mX2_takeName 3 := ⟨by decide +kernel, fg_c3 172 rfl rfl, fg_c1 11 (by decide +kernel) (by decide +kernel), by decide +kernel, by decide +kernel, by decide⟩
set_option maxRecDepth 100000 in
theorem kmX2_isTold : fk_M mX2_isTold 1 := ⟨by decide +kernel, fg_c3 150 rfl rfl, fg_c1 11 (by decide +kernel) (by decide +kernel), by decide +kernel, by decide +kernel, by decide⟩
set_option maxRecDepth 100000 in
theorem kmX2_numberOf : fk_M mX2_numberOf 2 := ⟨by decide +kernel, fg_c3 154 rfl rfl, fg_c1 11 (by decide +kernel) (by decide +kernel), by decide +kernel, by decide +kernel, by decide⟩
set_option maxRecDepth 100000 in
theorem kmX2_isCloth : fk_M mX2_isCloth 1 := ⟨by decide +kernel, fg_c3 235 rfl rfl, fg_c1 11 (by decide +kernel) (by decide +kernel), by decide +kernel, by decide +kernel, by decide⟩
set_option maxRecDepth 100000 in
theorem kmX2_costOf : fk_M mX2_costOf 2 := ⟨by decide +kernel, fg_c3 231 rfl rfl, fg_c1 11 (by decide +kernel) (by decide +kernel), by decide +kernel, by decide +kernel, by decide⟩
set_option maxRecDepth 100000 in
theorem kmX2_heatOfCloth : fk_M mX2_heatOfCloth 1 := ⟨by decide +kernel, fg_c4 91 rfl rfl, fg_c1 11 (by decide +kernel) (by decide +kernel), by decide +kernel, by decide +kernel, by decide⟩
set_option maxRecDepth 100000 in
theorem kmX2_bleeds : fk_M mX2_bleeds 1 := ⟨by decide +kernel, fg_c5 16 rfl rfl, fg_c1 11 (by decide +kernel) (by decide +kernel), by decide +kernel, by decide +kernel, by decide⟩
set_option maxRecDepth 100000 in
theorem kmX2_usableOn : fk_M mX2_usableOn 1 := ⟨by decide +kernel, fg_c4 196 rfl rfl, fg_c1 11 (by decide +kernel) (by decide +kernel), by decide +kernel, by decide +kernel, by decide⟩
set_option maxRecDepth 100000 in
theorem kmX2_heatOfDrum : fk_M mX2_heatOfDrum 1 := ⟨by decide +kernel, fg_c5 29 rfl rfl, fg_c1 11 (by decide +kernel) (by decide +kernel), by decide +kernel, by decide +kernel, by decide⟩
set_option maxRecDepth 100000 in
theorem kmX2_hasDrumFor : fk_M mX2_hasDrumFor 2 := ⟨by decide +kernel, fg_c4 104 rfl rfl, fg_c1 11 (by decide +kernel) (by decide +kernel), by decide +kernel, by decide +kernel, by decide⟩
set_option maxRecDepth 100000 in
theorem kmX3_init : fk_M mX3_init 0 := ⟨by decide +kernel, fg_c1 198 rfl rfl, fg_c1 9 (by decide +kernel) (by decide +kernel), by decide +kernel, by decide +kernel, by decide⟩
set_option maxRecDepth 100000 in
theorem kmX3_forgetAllButPlaces : fk_M mX3_forgetAllButPlaces 0 := ⟨by decide +kernel, fg_c1 203 rfl rfl, fg_c1 9 (by decide +kernel) (by decide +kernel), by decide +kernel, by decide +kernel, by decide⟩
set_option maxRecDepth 100000 in
theorem kmX3_copyFrom : fk_M mX3_copyFrom 1 := ⟨by decide +kernel, fg_c5 233 rfl rfl, fg_c1 9 (by decide +kernel) (by decide +kernel), by decide +kernel, by decide +kernel, by decide⟩
set_option maxRecDepth 100000 in
theorem kmX3_drumOf : fk_M mX3_drumOf 1 := ⟨by decide +kernel, fg_c5 24 rfl rfl, fg_c1 9 (by decide +kernel) (by decide +kernel), by decide +kernel, by decide +kernel, by decide⟩
set_option maxRecDepth 100000 in
theorem kmX3_addBookDay : fk_M mX3_addBookDay 3 := ⟨by decide +kernel, fg_c5 161 rfl rfl, fg_c1 9 (by decide +kernel) (by decide +kernel), by decide +kernel, by decide +kernel, by decide⟩
set_option maxRecDepth 100000 in
theorem kmX3_lostOn : fk_M mX3_lostOn 1 := ⟨by decide +kernel, fg_c5 173 rfl rfl, fg_c1 9 (by decide +kernel) (by decide +kernel), by decide +kernel, by decide +kernel, by decide⟩
set_option maxRecDepth 100000 in
theorem kmX3_firstBroken : fk_M mX3_firstBroken 1 := ⟨by decide +kernel, fg_c5 169 rfl rfl, fg_c1 9 (by decide +kernel) (by decide +kernel), by decide +kernel, by decide +kernel, by decide⟩
set_option maxRecDepth 100000 in
theorem kmX4_init : fk_M mX4_init 0 := ⟨by decide +kernel, fg_c2 111 rfl rfl, fg_c1 13 (by decide +kernel) (by decide +kernel), by decide +kernel, by decide +kernel, by decide⟩
set_option maxRecDepth 100000 in
theorem kmX4_forgetAll : fk_M mX4_forgetAll 0 := ⟨by decide +kernel, fg_c4 83 rfl rfl, fg_c1 13 (by decide +kernel) (by decide +kernel), by decide +kernel, by decide +kernel, by decide⟩
set_option maxRecDepth 100000 in
theorem kmX4_insert : fk_M mX4_insert 4 := ⟨by decide +kernel, fg_c4 95 rfl rfl, fg_c1 13 (by decide +kernel) (by decide +kernel), by decide +kernel, by decide +kernel, by decide⟩
set_option maxRecDepth 100000 in
theorem kmX4_findFits : fk_M mX4_findFits 1 := ⟨by decide +kernel, fg_c4 99 rfl rfl, fg_c1 13 (by decide +kernel) (by decide +kernel), by decide +kernel, by decide +kernel, by decide⟩
set_option maxRecDepth 100000 in
theorem kmX4_fewestFrom : fk_M mX4_fewestFrom 2 := ⟨by decide +kernel, fg_c4 108 rfl rfl, fg_c1 13 (by decide +kernel) (by decide +kernel), by decide +kernel, by decide +kernel, by decide⟩
set_option maxRecDepth 100000 in
theorem kmX4_firstOutside : fk_M mX4_firstOutside 1 := ⟨by decide +kernel, fg_c4 113 rfl rfl, fg_c1 13 (by decide +kernel) (by decide +kernel), by decide +kernel, by decide +kernel, by decide⟩
set_option maxRecDepth 100000 in
theorem kmX4_addLoads : fk_M mX4_addLoads 3 := ⟨by decide +kernel, fg_c4 117 rfl rfl, fg_c1 13 (by decide +kernel) (by decide +kernel), by decide +kernel, by decide +kernel, by decide⟩
set_option maxRecDepth 100000 in
theorem kmX4_latestStart : fk_M mX4_latestStart 2 := ⟨by decide +kernel, fg_c4 129 rfl rfl, fg_c1 13 (by decide +kernel) (by decide +kernel), by decide +kernel, by decide +kernel, by decide⟩
set_option maxRecDepth 100000 in
theorem kmX4_fitsEach : fk_M mX4_fitsEach 0 := ⟨by decide +kernel, fg_c4 133 rfl rfl, fg_c1 13 (by decide +kernel) (by decide +kernel), by decide +kernel, by decide +kernel, by decide⟩
set_option maxRecDepth 100000 in
theorem kmX5_init : fk_M mX5_init 0 := ⟨by decide +kernel, fg_c2 66 rfl rfl, fg_c1 12 (by decide +kernel) (by decide +kernel), by decide +kernel, by decide +kernel, by decide⟩
set_option maxRecDepth 100000 in
theorem kmX5_forget : fk_M mX5_forget 0 := ⟨by decide +kernel, fg_c3 196 rfl rfl, fg_c1 12 (by decide +kernel) (by decide +kernel), by decide +kernel, by decide +kernel, by decide⟩
set_option maxRecDepth 100000 in
theorem kmX5_copyFrom : fk_M mX5_copyFrom 1 := ⟨by decide +kernel, fg_c6 3 rfl rfl, fg_c1 12 (by decide +kernel) (by decide +kernel), by decide +kernel, by decide +kernel, by decide⟩
set_option maxRecDepth 100000 in
theorem kmX5_readFrom : fk_M mX5_readFrom 2 := ⟨by decide +kernel, fg_c5 41 rfl rfl, fg_c1 12 (by decide +kernel) (by decide +kernel), by decide +kernel, by decide +kernel, by decide⟩
set_option maxRecDepth 100000 in
theorem kmX5_readCond : fk_M mX5_readCond 3 := ⟨by decide +kernel, fg_c5 47 rfl rfl, fg_c1 12 (by decide +kernel) (by decide +kernel), by decide +kernel, by decide +kernel, by decide⟩
set_option maxRecDepth 100000 in
theorem kmX5_readAll : fk_M mX5_readAll 3 := ⟨by decide +kernel, fg_c5 51 rfl rfl, fg_c1 12 (by decide +kernel) (by decide +kernel), by decide +kernel, by decide +kernel, by decide⟩
set_option maxRecDepth 100000 in
theorem kmX5_readOne : fk_M mX5_readOne 3 := ⟨by decide +kernel, fg_c5 55 rfl rfl, fg_c1 12 (by decide +kernel) (by decide +kernel), by decide +kernel, by decide +kernel, by decide⟩
set_option maxRecDepth 100000 in
theorem kmX5_readBracket : fk_M mX5_readBracket 3 := ⟨by decide +kernel, fg_c5 63 rfl rfl, fg_c1 12 (by decide +kernel) (by decide +kernel), by decide +kernel, by decide +kernel, by decide⟩
set_option maxRecDepth 100000 in
theorem kmX5_readIs : fk_M mX5_readIs 2 := ⟨by decide +kernel, fg_c5 71 rfl rfl, fg_c1 12 (by decide +kernel) (by decide +kernel), by decide +kernel, by decide +kernel, by decide⟩
set_option maxRecDepth 100000 in
theorem kmX5_readCompared : fk_M mX5_readCompared 2 := ⟨by decide +kernel, fg_c5 81 rfl rfl, fg_c1 12 (by decide +kernel) (by decide +kernel), by decide +kernel, by decide +kernel, by decide⟩
set_option maxRecDepth 100000 in
theorem kmX5_readStands : fk_M mX5_readStands 1 := ⟨by decide +kernel, fg_c5 76 rfl rfl, fg_c1 12 (by decide +kernel) (by decide +kernel), by decide +kernel, by decide +kernel, by decide⟩
set_option maxRecDepth 100000 in
theorem kmX5_addStep : fk_M mX5_addStep 3 := ⟨by decide +kernel, fg_c5 67 rfl rfl, fg_c1 12 (by decide +kernel) (by decide +kernel), by decide +kernel, by decide +kernel, by decide⟩
set_option maxRecDepth 100000 in
theorem kmX5_holdsFor : fk_M mX5_holdsFor 3 := ⟨by decide +kernel, fg_c5 90 rfl rfl, fg_c1 12 (by decide +kernel) (by decide +kernel), by decide +kernel, by decide +kernel, by decide⟩
set_option maxRecDepth 100000 in
theorem kmX5_isTrue : fk_M mX5_isTrue 4 := ⟨by decide +kernel, fg_c5 94 rfl rfl, fg_c1 12 (by decide +kernel) (by decide +kernel), by decide +kernel, by decide +kernel, by decide⟩
set_option maxRecDepth 100000 in
theorem kmX5_measure : fk_M mX5_measure 4 := ⟨by decide +kernel, fg_c5 98 rfl rfl, fg_c1 12 (by decide +kernel) (by decide +kernel), by decide +kernel, by decide +kernel, by decide⟩
set_option maxRecDepth 100000 in
theorem kmX6_init : fk_M mX6_init 0 := ⟨by decide +kernel, fg_c2 184 rfl rfl, fg_c1 15 (by decide +kernel) (by decide +kernel), by decide +kernel, by decide +kernel, by decide⟩
set_option maxRecDepth 100000 in
theorem kmX6_findFailures : fk_M mX6_findFailures 3 := ⟨by decide +kernel, fg_c4 200 rfl rfl, fg_c1 15 (by decide +kernel) (by decide +kernel), by decide +kernel, by decide +kernel, by decide⟩
set_option maxRecDepth 100000 in
theorem kmX6_findOrder : fk_M mX6_findOrder 1 := ⟨by decide +kernel, fg_c4 205 rfl rfl, fg_c1 15 (by decide +kernel) (by decide +kernel), by decide +kernel, by decide +kernel, by decide⟩
set_option maxRecDepth 100000 in
theorem kmX6_nextOf : fk_M mX6_nextOf 2 := ⟨by decide +kernel, fg_c4 209 rfl rfl, fg_c1 15 (by decide +kernel) (by decide +kernel), by decide +kernel, by decide +kernel, by decide⟩
set_option maxRecDepth 100000 in
theorem kmX6_costWith : fk_M mX6_costWith 3 := ⟨by decide +kernel, fg_c4 213 rfl rfl, fg_c1 15 (by decide +kernel) (by decide +kernel), by decide +kernel, by decide +kernel, by decide⟩
set_option maxRecDepth 100000 in
theorem kmX6_mostOut : fk_M mX6_mostOut 1 := ⟨by decide +kernel, fg_c4 226 rfl rfl, fg_c1 15 (by decide +kernel) (by decide +kernel), by decide +kernel, by decide +kernel, by decide⟩
set_option maxRecDepth 100000 in
theorem kmX7_init : fk_M mX7_init 0 := ⟨by decide +kernel, fg_c1 38 rfl rfl, fg_c1 2 (by decide +kernel) (by decide +kernel), by decide +kernel, by decide +kernel, by decide⟩
set_option maxRecDepth 100000 in
theorem kmX7_codesOf : fk_M mX7_codesOf 1 := ⟨by decide +kernel, fg_c1 43 rfl rfl, fg_c1 2 (by decide +kernel) (by decide +kernel), by decide +kernel, by decide +kernel, by decide⟩
set_option maxRecDepth 100000 in
theorem kmX7_withLetter : fk_M mX7_withLetter 2 := ⟨by decide +kernel, fg_c1 94 rfl rfl, fg_c1 2 (by decide +kernel) (by decide +kernel), by decide +kernel, by decide +kernel, by decide⟩
set_option maxRecDepth 100000 in
theorem kmX7_append : fk_M mX7_append 1 := ⟨by decide +kernel, fg_c3 69 rfl rfl, fg_c1 2 (by decide +kernel) (by decide +kernel), by decide +kernel, by decide +kernel, by decide⟩
set_option maxRecDepth 100000 in
theorem kmX7_byteAt : fk_M mX7_byteAt 1 := ⟨by decide +kernel, fg_c4 87 rfl rfl, fg_c1 2 (by decide +kernel) (by decide +kernel), by decide +kernel, by decide +kernel, by decide⟩
set_option maxRecDepth 100000 in
theorem kmX7_takeAll : fk_M mX7_takeAll 0 := ⟨by decide +kernel, fg_c4 79 rfl rfl, fg_c1 2 (by decide +kernel) (by decide +kernel), by decide +kernel, by decide +kernel, by decide⟩
set_option maxRecDepth 100000 in
theorem kmX7_startReading : fk_M mX7_startReading 1 := ⟨by decide +kernel, fg_c3 99 rfl rfl, fg_c1 2 (by decide +kernel) (by decide +kernel), by decide +kernel, by decide +kernel, by decide⟩
set_option maxRecDepth 100000 in
theorem kmX7_readToken : fk_M mX7_readToken 2 := ⟨by decide +kernel, fg_c3 107 rfl rfl, fg_c1 2 (by decide +kernel) (by decide +kernel), by decide +kernel, by decide +kernel, by decide⟩
set_option maxRecDepth 100000 in
theorem kmX7_readRun : fk_M mX7_readRun 2 := ⟨by decide +kernel, fg_c3 117 rfl rfl, fg_c1 2 (by decide +kernel) (by decide +kernel), by decide +kernel, by decide +kernel, by decide⟩
set_option maxRecDepth 100000 in
theorem kmX7_setWord : fk_M mX7_setWord 2 := ⟨by decide +kernel, fg_c3 121 rfl rfl, fg_c1 2 (by decide +kernel) (by decide +kernel), by decide +kernel, by decide +kernel, by decide⟩
set_option maxRecDepth 100000 in
theorem kmX7_advance : fk_M mX7_advance 0 := ⟨by decide +kernel, fg_c3 128 rfl rfl, fg_c1 2 (by decide +kernel) (by decide +kernel), by decide +kernel, by decide +kernel, by decide⟩
set_option maxRecDepth 100000 in
theorem kmX7_isBlank : fk_M mX7_isBlank 1 := ⟨by decide +kernel, fg_c3 103 rfl rfl, fg_c1 2 (by decide +kernel) (by decide +kernel), by decide +kernel, by decide +kernel, by decide⟩
set_option maxRecDepth 100000 in
theorem kmX7_isLetter : fk_M mX7_isLetter 1 := ⟨by decide +kernel, fg_c3 110 rfl rfl, fg_c1 2 (by decide +kernel) (by decide +kernel), by decide +kernel, by decide +kernel, by decide⟩
set_option maxRecDepth 100000 in
theorem kmX7_isFigure : fk_M mX7_isFigure 1 := ⟨by decide +kernel, fg_c3 113 rfl rfl, fg_c1 2 (by decide +kernel) (by decide +kernel), by decide +kernel, by decide +kernel, by decide⟩
set_option maxRecDepth 100000 in
theorem kmX7_isSignByte : fk_M mX7_isSignByte 1 := ⟨by decide +kernel, fg_c3 124 rfl rfl, fg_c1 2 (by decide +kernel) (by decide +kernel), by decide +kernel, by decide +kernel, by decide⟩
set_option maxRecDepth 100000 in
theorem kmX7_isWord : fk_M mX7_isWord 1 := ⟨by decide +kernel, fg_c3 180 rfl rfl, fg_c1 2 (by decide +kernel) (by decide +kernel), by decide +kernel, by decide +kernel, by decide⟩
set_option maxRecDepth 100000 in
theorem kmX7_isSign : fk_M mX7_isSign 1 := ⟨by decide +kernel, fg_c3 168 rfl rfl, fg_c1 2 (by decide +kernel) (by decide +kernel), by decide +kernel, by decide +kernel, by decide⟩
set_option maxRecDepth 100000 in
theorem kmX7_fail : fk_M mX7_fail 1 := ⟨by decide +kernel, fg_c3 136 rfl rfl, fg_c1 2 (by decide +kernel) (by decide +kernel), by decide +kernel, by decide +kernel, by decide⟩
set_option maxRecDepth 100000 in
theorem kmX7_takeNumber : fk_M mX7_takeNumber 2 := ⟨by decide +kernel, fg_c3 162 rfl rfl, fg_c1 2 (by decide +kernel) (by decide +kernel), by decide +kernel, by decide +kernel, by decide⟩
set_option maxRecDepth 100000 in
theorem kmX8_init : fk_M mX8_init 0 := ⟨by decide +kernel, fg_c1 164 rfl rfl, fg_c1 8 (by decide +kernel) (by decide +kernel), by decide +kernel, by decide +kernel, by decide⟩
set_option maxRecDepth 100000 in
theorem kmX8_forgetAll : fk_M mX8_forgetAll 0 := ⟨by decide +kernel, fg_c3 200 rfl rfl, fg_c1 8 (by decide +kernel) (by decide +kernel), by decide +kernel, by decide +kernel, by decide⟩
set_option maxRecDepth 100000 in
theorem kmX8_copyFrom : fk_M mX8_copyFrom 1 := ⟨by decide +kernel, fg_c5 228 rfl rfl, fg_c1 8 (by decide +kernel) (by decide +kernel), by decide +kernel, by decide +kernel, by decide⟩
set_option maxRecDepth 100000 in
theorem kmX8_of : fk_M mX8_of 2 := ⟨by decide +kernel, fg_c4 7 rfl rfl, fg_c1 8 (by decide +kernel) (by decide +kernel), by decide +kernel, by decide +kernel, by decide⟩
set_option maxRecDepth 100000 in
theorem kmX8_set : fk_M mX8_set 3 := ⟨by decide +kernel, fg_c3 225 rfl rfl, fg_c1 8 (by decide +kernel) (by decide +kernel), by decide +kernel, by decide +kernel, by decide⟩
set_option maxRecDepth 100000 in
theorem kmX8_addEmpty : fk_M mX8_addEmpty 0 := ⟨by decide +kernel, fg_c3 221 rfl rfl, fg_c1 8 (by decide +kernel) (by decide +kernel), by decide +kernel, by decide +kernel, by decide⟩
set_option maxRecDepth 100000 in
theorem kmX8_addNews : fk_M mX8_addNews 4 := ⟨by decide +kernel, fg_c4 11 rfl rfl, fg_c1 8 (by decide +kernel) (by decide +kernel), by decide +kernel, by decide +kernel, by decide⟩
set_option maxRecDepth 100000 in
theorem kmX8_standing : fk_M mX8_standing 3 := ⟨by decide +kernel, fg_c4 23 rfl rfl, fg_c1 8 (by decide +kernel) (by decide +kernel), by decide +kernel, by decide +kernel, by decide⟩
set_option maxRecDepth 100000 in
theorem kmX8_isOpen : fk_M mX8_isOpen 1 := ⟨by decide +kernel, fg_c4 35 rfl rfl, fg_c1 8 (by decide +kernel) (by decide +kernel), by decide +kernel, by decide +kernel, by decide⟩
set_option maxRecDepth 100000 in
theorem kmX8_isCleaned : fk_M mX8_isCleaned 1 := ⟨by decide +kernel, fg_c5 110 rfl rfl, fg_c1 8 (by decide +kernel) (by decide +kernel), by decide +kernel, by decide +kernel, by decide⟩
set_option maxRecDepth 100000 in
theorem kmX8_wasDoneTwice : fk_M mX8_wasDoneTwice 1 := ⟨by decide +kernel, fg_c4 43 rfl rfl, fg_c1 8 (by decide +kernel) (by decide +kernel), by decide +kernel, by decide +kernel, by decide⟩
set_option maxRecDepth 100000 in
theorem kmX8_daysToCounter : fk_M mX8_daysToCounter 2 := ⟨by decide +kernel, fg_c4 63 rfl rfl, fg_c1 8 (by decide +kernel) (by decide +kernel), by decide +kernel, by decide +kernel, by decide⟩
set_option maxRecDepth 100000 in
theorem kmX8_withLoad : fk_M mX8_withLoad 1 := ⟨by decide +kernel, fg_c5 102 rfl rfl, fg_c1 8 (by decide +kernel) (by decide +kernel), by decide +kernel, by decide +kernel, by decide⟩
set_option maxRecDepth 100000 in
theorem kmX9_init : fk_M mX9_init 0 := ⟨by decide +kernel, fg_c2 235 rfl rfl, fg_c1 17 (by decide +kernel) (by decide +kernel), by decide +kernel, by decide +kernel, by decide⟩
set_option maxRecDepth 100000 in
theorem kmX9_start : fk_M mX9_start 0 := ⟨by decide +kernel, fg_c5 185 rfl rfl, fg_c1 17 (by decide +kernel) (by decide +kernel), by decide +kernel, by decide +kernel, by decide⟩
set_option maxRecDepth 100000 in
theorem kmX9_addStop : fk_M mX9_addStop 3 := ⟨by decide +kernel, fg_c5 189 rfl rfl, fg_c1 17 (by decide +kernel) (by decide +kernel), by decide +kernel, by decide +kernel, by decide⟩
set_option maxRecDepth 100000 in
theorem kmX9_findRound : fk_M mX9_findRound 0 := ⟨by decide +kernel, fg_c5 193 rfl rfl, fg_c1 17 (by decide +kernel) (by decide +kernel), by decide +kernel, by decide +kernel, by decide⟩
set_option maxRecDepth 100000 in
theorem kmX9_nextOf : fk_M mX9_nextOf 2 := ⟨by decide +kernel, fg_c5 207 rfl rfl, fg_c1 17 (by decide +kernel) (by decide +kernel), by decide +kernel, by decide +kernel, by decide⟩
set_option maxRecDepth 100000 in
theorem kmX9_wayBy : fk_M mX9_wayBy 3 := ⟨by decide +kernel, fg_c5 211 rfl rfl, fg_c1 17 (by decide +kernel) (by decide +kernel), by decide +kernel, by decide +kernel, by decide⟩
set_option maxRecDepth 100000 in
theorem kmX9_toHome : fk_M mX9_toHome 1 := ⟨by decide +kernel, fg_c5 197 rfl rfl, fg_c1 17 (by decide +kernel) (by decide +kernel), by decide +kernel, by decide +kernel, by decide⟩
set_option maxRecDepth 100000 in
theorem kmX9_distance : fk_M mX9_distance 4 := ⟨by decide +kernel, fg_c5 200 rfl rfl, fg_c1 17 (by decide +kernel) (by decide +kernel), by decide +kernel, by decide +kernel, by decide⟩
set_option maxRecDepth 100000 in
theorem kmX10_init : fk_M mX10_init 0 := ⟨by decide +kernel, fg_c1 158 rfl rfl, fg_c1 7 (by decide +kernel) (by decide +kernel), by decide +kernel, by decide +kernel, by decide⟩
set_option maxRecDepth 100000 in
theorem kmX10_copyFrom : fk_M mX10_copyFrom 1 := ⟨by decide +kernel, fg_c5 224 rfl rfl, fg_c1 7 (by decide +kernel) (by decide +kernel), by decide +kernel, by decide +kernel, by decide⟩
set_option maxRecDepth 100000 in
theorem kmX11_init : fk_M mX11_init 0 := ⟨by decide +kernel, fg_c1 30 rfl rfl, fg_c1 1 (by decide +kernel) (by decide +kernel), by decide +kernel, by decide +kernel, by decide⟩
set_option maxRecDepth 100000 in
theorem kmX11_feed : fk_M mX11_feed 5 := ⟨by decide +kernel, fg_c3 65 rfl rfl, fg_c1 1 (by decide +kernel) (by decide +kernel), by decide +kernel, by decide +kernel, by decide⟩
set_option maxRecDepth 100000 in
theorem kmX11_end : fk_M mX11_end 1 := ⟨by decide +kernel, fg_c3 73 rfl rfl, fg_c1 1 (by decide +kernel) (by decide +kernel), by decide +kernel, by decide +kernel, by decide⟩
set_option maxRecDepth 100000 in
theorem kmX11_house : fk_M mX11_house 0 := ⟨by decide +kernel, fg_c3 77 rfl rfl, fg_c1 1 (by decide +kernel) (by decide +kernel), by decide +kernel, by decide +kernel, by decide⟩
set_option maxRecDepth 100000 in
theorem kmX11_fault : fk_M mX11_fault 0 := ⟨by decide +kernel, fg_c3 205 rfl rfl, fg_c1 1 (by decide +kernel) (by decide +kernel), by decide +kernel, by decide +kernel, by decide⟩
set_option maxRecDepth 100000 in
theorem kmX11_later : fk_M mX11_later 1 := ⟨by decide +kernel, fg_c3 209 rfl rfl, fg_c1 1 (by decide +kernel) (by decide +kernel), by decide +kernel, by decide +kernel, by decide⟩
set_option maxRecDepth 100000 in
theorem kmX11_ticket : fk_M mX11_ticket 6 := ⟨by decide +kernel, fg_c3 213 rfl rfl, fg_c1 1 (by decide +kernel) (by decide +kernel), by decide +kernel, by decide +kernel, by decide⟩
set_option maxRecDepth 100000 in
theorem kmX11_about : fk_M mX11_about 2 := ⟨by decide +kernel, fg_c6 20 rfl rfl, fg_c1 1 (by decide +kernel) (by decide +kernel), by decide +kernel, by decide +kernel, by decide⟩
set_option maxRecDepth 100000 in
theorem kmX11_news : fk_M mX11_news 3 := ⟨by decide +kernel, fg_c3 239 rfl rfl, fg_c1 1 (by decide +kernel) (by decide +kernel), by decide +kernel, by decide +kernel, by decide⟩
set_option maxRecDepth 100000 in
theorem kmX11_stands : fk_M mX11_stands 3 := ⟨by decide +kernel, fg_c4 16 rfl rfl, fg_c1 1 (by decide +kernel) (by decide +kernel), by decide +kernel, by decide +kernel, by decide⟩
set_option maxRecDepth 100000 in
theorem kmX11_open : fk_M mX11_open 1 := ⟨by decide +kernel, fg_c4 27 rfl rfl, fg_c1 1 (by decide +kernel) (by decide +kernel), by decide +kernel, by decide +kernel, by decide⟩
set_option maxRecDepth 100000 in
theorem kmX11_opened : fk_M mX11_opened 2 := ⟨by decide +kernel, fg_c4 31 rfl rfl, fg_c1 1 (by decide +kernel) (by decide +kernel), by decide +kernel, by decide +kernel, by decide⟩
set_option maxRecDepth 100000 in
theorem kmX11_twice : fk_M mX11_twice 1 := ⟨by decide +kernel, fg_c4 39 rfl rfl, fg_c1 1 (by decide +kernel) (by decide +kernel), by decide +kernel, by decide +kernel, by decide⟩
set_option maxRecDepth 100000 in
theorem kmX11_unfetched : fk_M mX11_unfetched 2 := ⟨by decide +kernel, fg_c4 47 rfl rfl, fg_c1 1 (by decide +kernel) (by decide +kernel), by decide +kernel, by decide +kernel, by decide⟩
set_option maxRecDepth 100000 in
theorem kmX11_isUnfetched : fk_M mX11_isUnfetched 2 := ⟨by decide +kernel, fg_c4 51 rfl rfl, fg_c1 1 (by decide +kernel) (by decide +kernel), by decide +kernel, by decide +kernel, by decide⟩
set_option maxRecDepth 100000 in
theorem kmX11_contract : fk_M mX11_contract 3 := ⟨by decide +kernel, fg_c4 55 rfl rfl, fg_c1 1 (by decide +kernel) (by decide +kernel), by decide +kernel, by decide +kernel, by decide⟩
set_option maxRecDepth 100000 in
theorem kmX11_owed : fk_M mX11_owed 1 := ⟨by decide +kernel, fg_c4 59 rfl rfl, fg_c1 1 (by decide +kernel) (by decide +kernel), by decide +kernel, by decide +kernel, by decide⟩
set_option maxRecDepth 100000 in
theorem kmX11_loads : fk_M mX11_loads 0 := ⟨by decide +kernel, fg_c4 71 rfl rfl, fg_c1 1 (by decide +kernel) (by decide +kernel), by decide +kernel, by decide +kernel, by decide⟩
set_option maxRecDepth 100000 in
theorem kmX11_hurry : fk_M mX11_hurry 0 := ⟨by decide +kernel, fg_c4 121 rfl rfl, fg_c1 1 (by decide +kernel) (by decide +kernel), by decide +kernel, by decide +kernel, by decide⟩
set_option maxRecDepth 100000 in
theorem kmX11_patience : fk_M mX11_patience 0 := ⟨by decide +kernel, fg_c4 125 rfl rfl, fg_c1 1 (by decide +kernel) (by decide +kernel), by decide +kernel, by decide +kernel, by decide⟩
set_option maxRecDepth 100000 in
theorem kmX11_takePlanned : fk_M mX11_takePlanned 1 := ⟨by decide +kernel, fg_c4 75 rfl rfl, fg_c1 1 (by decide +kernel) (by decide +kernel), by decide +kernel, by decide +kernel, by decide⟩
set_option maxRecDepth 100000 in
theorem kmX11_found : fk_M mX11_found 0 := ⟨by decide +kernel, fg_c4 138 rfl rfl, fg_c1 1 (by decide +kernel) (by decide +kernel), by decide +kernel, by decide +kernel, by decide⟩
set_option maxRecDepth 100000 in
theorem kmX11_isCoatAsTold : fk_M mX11_isCoatAsTold 1 := ⟨by decide +kernel, fg_c4 143 rfl rfl, fg_c1 1 (by decide +kernel) (by decide +kernel), by decide +kernel, by decide +kernel, by decide⟩
set_option maxRecDepth 100000 in
theorem kmX11_fits : fk_M mX11_fits 2 := ⟨by decide +kernel, fg_c4 153 rfl rfl, fg_c1 1 (by decide +kernel) (by decide +kernel), by decide +kernel, by decide +kernel, by decide⟩
set_option maxRecDepth 100000 in
theorem kmX11_isDigit : fk_M mX11_isDigit 2 := ⟨by decide +kernel, fg_c4 156 rfl rfl, fg_c1 1 (by decide +kernel) (by decide +kernel), by decide +kernel, by decide +kernel, by decide⟩
set_option maxRecDepth 100000 in
theorem kmX11_sure : fk_M mX11_sure 1 := ⟨by decide +kernel, fg_c4 184 rfl rfl, fg_c1 1 (by decide +kernel) (by decide +kernel), by decide +kernel, by decide +kernel, by decide⟩
set_option maxRecDepth 100000 in
theorem kmX11_best : fk_M mX11_best 1 := ⟨by decide +kernel, fg_c4 188 rfl rfl, fg_c1 1 (by decide +kernel) (by decide +kernel), by decide +kernel, by decide +kernel, by decide⟩
set_option maxRecDepth 100000 in
theorem kmX11_bestAt : fk_M mX11_bestAt 1 := ⟨by decide +kernel, fg_c4 218 rfl rfl, fg_c1 1 (by decide +kernel) (by decide +kernel), by decide +kernel, by decide +kernel, by decide⟩
set_option maxRecDepth 100000 in
theorem kmX11_out : fk_M mX11_out 2 := ⟨by decide +kernel, fg_c4 222 rfl rfl, fg_c1 1 (by decide +kernel) (by decide +kernel), by decide +kernel, by decide +kernel, by decide⟩
set_option maxRecDepth 100000 in
theorem kmX11_takeStain : fk_M mX11_takeStain 1 := ⟨by decide +kernel, fg_c4 192 rfl rfl, fg_c1 1 (by decide +kernel) (by decide +kernel), by decide +kernel, by decide +kernel, by decide⟩
set_option maxRecDepth 100000 in
theorem kmX11_loaded : fk_M mX11_loaded 2 := ⟨by decide +kernel, fg_c5 0 rfl rfl, fg_c1 1 (by decide +kernel) (by decide +kernel), by decide +kernel, by decide +kernel, by decide⟩
set_option maxRecDepth 100000 in
theorem kmX11_drum : fk_M mX11_drum 2 := ⟨by decide +kernel, fg_c5 4 rfl rfl, fg_c1 1 (by decide +kernel) (by decide +kernel), by decide +kernel, by decide +kernel, by decide⟩
set_option maxRecDepth 100000 in
theorem kmX11_run : fk_M mX11_run 1 := ⟨by decide +kernel, fg_c5 8 rfl rfl, fg_c1 1 (by decide +kernel) (by decide +kernel), by decide +kernel, by decide +kernel, by decide⟩
set_option maxRecDepth 100000 in
theorem kmX11_hasRun : fk_M mX11_hasRun 1 := ⟨by decide +kernel, fg_c5 12 rfl rfl, fg_c1 1 (by decide +kernel) (by decide +kernel), by decide +kernel, by decide +kernel, by decide⟩
set_option maxRecDepth 100000 in
theorem kmX11_recall : fk_M mX11_recall 2 := ⟨by decide +kernel, fg_c5 20 rfl rfl, fg_c1 1 (by decide +kernel) (by decide +kernel), by decide +kernel, by decide +kernel, by decide⟩
set_option maxRecDepth 100000 in
theorem kmX11_recalled : fk_M mX11_recalled 1 := ⟨by decide +kernel, fg_c5 33 rfl rfl, fg_c1 1 (by decide +kernel) (by decide +kernel), by decide +kernel, by decide +kernel, by decide⟩
set_option maxRecDepth 100000 in
theorem kmX11_rule : fk_M mX11_rule 0 := ⟨by decide +kernel, fg_c5 37 rfl rfl, fg_c1 1 (by decide +kernel) (by decide +kernel), by decide +kernel, by decide +kernel, by decide⟩
set_option maxRecDepth 100000 in
theorem kmX11_meets : fk_M mX11_meets 1 := ⟨by decide +kernel, fg_c5 86 rfl rfl, fg_c1 1 (by decide +kernel) (by decide +kernel), by decide +kernel, by decide +kernel, by decide⟩
set_option maxRecDepth 100000 in
theorem kmX11_claim : fk_M mX11_claim 1 := ⟨by decide +kernel, fg_c5 106 rfl rfl, fg_c1 1 (by decide +kernel) (by decide +kernel), by decide +kernel, by decide +kernel, by decide⟩
set_option maxRecDepth 100000 in
theorem kmX11_possible : fk_M mX11_possible 1 := ⟨by decide +kernel, fg_c5 114 rfl rfl, fg_c1 1 (by decide +kernel) (by decide +kernel), by decide +kernel, by decide +kernel, by decide⟩
set_option maxRecDepth 100000 in
theorem kmX11_causes : fk_M mX11_causes 0 := ⟨by decide +kernel, fg_c5 126 rfl rfl, fg_c1 1 (by decide +kernel) (by decide +kernel), by decide +kernel, by decide +kernel, by decide⟩
set_option maxRecDepth 100000 in
theorem kmX11_cause : fk_M mX11_cause 1 := ⟨by decide +kernel, fg_c5 153 rfl rfl, fg_c1 1 (by decide +kernel) (by decide +kernel), by decide +kernel, by decide +kernel, by decide⟩
set_option maxRecDepth 100000 in
theorem kmX11_isPossible : fk_M mX11_isPossible 1 := ⟨by decide +kernel, fg_c5 118 rfl rfl, fg_c1 1 (by decide +kernel) (by decide +kernel), by decide +kernel, by decide +kernel, by decide⟩
set_option maxRecDepth 100000 in
theorem kmX11_hasCause : fk_M mX11_hasCause 2 := ⟨by decide +kernel, fg_c5 122 rfl rfl, fg_c1 1 (by decide +kernel) (by decide +kernel), by decide +kernel, by decide +kernel, by decide⟩
set_option maxRecDepth 100000 in
theorem kmX11_solvent : fk_M mX11_solvent 3 := ⟨by decide +kernel, fg_c5 157 rfl rfl, fg_c1 1 (by decide +kernel) (by decide +kernel), by decide +kernel, by decide +kernel, by decide⟩
set_option maxRecDepth 100000 in
theorem kmX11_lost : fk_M mX11_lost 1 := ⟨by decide +kernel, fg_c6 92 rfl rfl, fg_c1 1 (by decide +kernel) (by decide +kernel), by decide +kernel, by decide +kernel, by decide⟩
set_option maxRecDepth 100000 in
theorem kmX11_broken : fk_M mX11_broken 0 := ⟨by decide +kernel, fg_c5 165 rfl rfl, fg_c1 1 (by decide +kernel) (by decide +kernel), by decide +kernel, by decide +kernel, by decide⟩
set_option maxRecDepth 100000 in
theorem kmX11_place : fk_M mX11_place 3 := ⟨by decide +kernel, fg_c5 177 rfl rfl, fg_c1 1 (by decide +kernel) (by decide +kernel), by decide +kernel, by decide +kernel, by decide⟩
set_option maxRecDepth 100000 in
theorem kmX11_round : fk_M mX11_round 0 := ⟨by decide +kernel, fg_c5 181 rfl rfl, fg_c1 1 (by decide +kernel) (by decide +kernel), by decide +kernel, by decide +kernel, by decide⟩
set_option maxRecDepth 100000 in
theorem kmX11_roundAt : fk_M mX11_roundAt 1 := ⟨by decide +kernel, fg_c5 216 rfl rfl, fg_c1 1 (by decide +kernel) (by decide +kernel), by decide +kernel, by decide +kernel, by decide⟩
set_option maxRecDepth 100000 in
theorem kmX11_image : fk_M mX11_image 1 := ⟨by decide +kernel, fg_c5 220 rfl rfl, fg_c1 1 (by decide +kernel) (by decide +kernel), by decide +kernel, by decide +kernel, by decide⟩
set_option maxRecDepth 100000 in
theorem kmX11_restore : fk_M mX11_restore 1 := ⟨by decide +kernel, fg_c6 8 rfl rfl, fg_c1 1 (by decide +kernel) (by decide +kernel), by decide +kernel, by decide +kernel, by decide⟩
set_option maxRecDepth 100000 in
theorem kmX11_count : fk_M mX11_count 1 := ⟨by decide +kernel, fg_c6 12 rfl rfl, fg_c1 1 (by decide +kernel) (by decide +kernel), by decide +kernel, by decide +kernel, by decide⟩
set_option maxRecDepth 100000 in
theorem kmX11_within : fk_M mX11_within 3 := ⟨by decide +kernel, fg_c3 143 rfl rfl, fg_c1 1 (by decide +kernel) (by decide +kernel), by decide +kernel, by decide +kernel, by decide⟩
set_option maxRecDepth 100000 in
theorem kmX11_isDay : fk_M mX11_isDay 1 := ⟨by decide +kernel, fg_c4 19 rfl rfl, fg_c1 1 (by decide +kernel) (by decide +kernel), by decide +kernel, by decide +kernel, by decide⟩
set_option maxRecDepth 100000 in
theorem kmX11_isCounter : fk_M mX11_isCounter 1 := ⟨by decide +kernel, fg_c3 217 rfl rfl, fg_c1 1 (by decide +kernel) (by decide +kernel), by decide +kernel, by decide +kernel, by decide⟩
set_option maxRecDepth 100000 in
theorem kmX11_isTicket : fk_M mX11_isTicket 1 := ⟨by decide +kernel, fg_c4 3 rfl rfl, fg_c1 1 (by decide +kernel) (by decide +kernel), by decide +kernel, by decide +kernel, by decide⟩
set_option maxRecDepth 100000 in
theorem kmX11_copyRow : fk_M mX11_copyRow 2 := ⟨by decide +kernel, fg_c3 89 rfl rfl, fg_c1 1 (by decide +kernel) (by decide +kernel), by decide +kernel, by decide +kernel, by decide⟩
set_option maxRecDepth 100000 in
theorem kmX12_init : fk_M mX12_init 0 := ⟨by decide +kernel, fg_c6 99 rfl rfl, fg_c1 18 (by decide +kernel) (by decide +kernel), by decide +kernel, by decide +kernel, by decide⟩
set_option maxRecDepth 100000 in
theorem kmX12_thrown : fk_M mX12_thrown 0 := ⟨by decide +kernel, fg_c7 61 rfl rfl, fg_c1 18 (by decide +kernel) (by decide +kernel), by decide +kernel, by decide +kernel, by decide⟩
set_option maxRecDepth 100000 in
theorem kmX12_refuse : fk_M mX12_refuse 0 := ⟨by decide +kernel, fg_c7 225 rfl rfl, fg_c1 18 (by decide +kernel) (by decide +kernel), by decide +kernel, by decide +kernel, by decide⟩
set_option maxRecDepth 100000 in
theorem kmX12_come : fk_M mX12_come 1 := ⟨by decide +kernel, fg_c7 69 rfl rfl, fg_c1 18 (by decide +kernel) (by decide +kernel), by decide +kernel, by decide +kernel, by decide⟩
set_option maxRecDepth 100000 in
theorem kmX12_feed : fk_M mX12_feed 5 := ⟨by decide +kernel, fg_c7 65 rfl rfl, fg_c1 18 (by decide +kernel) (by decide +kernel), by decide +kernel, by decide +kernel, by decide⟩
set_option maxRecDepth 100000 in
theorem kmX12_end : fk_M mX12_end 1 := ⟨by decide +kernel, fg_c7 73 rfl rfl, fg_c1 18 (by decide +kernel) (by decide +kernel), by decide +kernel, by decide +kernel, by decide⟩
set_option maxRecDepth 100000 in
theorem kmX12_take : fk_M mX12_take 0 := ⟨by decide +kernel, fg_c7 96 rfl rfl, fg_c1 18 (by decide +kernel) (by decide +kernel), by decide +kernel, by decide +kernel, by decide⟩
set_option maxRecDepth 100000 in
theorem kmX12_isIn : fk_M mX12_isIn 3 := ⟨by decide +kernel, fg_c7 147 rfl rfl, fg_c1 18 (by decide +kernel) (by decide +kernel), by decide +kernel, by decide +kernel, by decide⟩
set_option maxRecDepth 100000 in
theorem kmX12_has : fk_M mX12_has 2 := ⟨by decide +kernel, fg_c7 140 rfl rfl, fg_c1 18 (by decide +kernel) (by decide +kernel), by decide +kernel, by decide +kernel, by decide⟩
set_option maxRecDepth 100000 in
theorem kmX12_byteAt : fk_M mX12_byteAt 1 := ⟨by decide +kernel, fg_c7 110 rfl rfl, fg_c1 18 (by decide +kernel) (by decide +kernel), by decide +kernel, by decide +kernel, by decide⟩
set_option maxRecDepth 100000 in
theorem kmX12_isDigit : fk_M mX12_isDigit 1 := ⟨by decide +kernel, fg_c7 106 rfl rfl, fg_c1 18 (by decide +kernel) (by decide +kernel), by decide +kernel, by decide +kernel, by decide⟩
set_option maxRecDepth 100000 in
theorem kmX12_isLetter : fk_M mX12_isLetter 1 := ⟨by decide +kernel, fg_c7 103 rfl rfl, fg_c1 18 (by decide +kernel) (by decide +kernel), by decide +kernel, by decide +kernel, by decide⟩
set_option maxRecDepth 100000 in
theorem kmX12_go : fk_M mX12_go 0 := ⟨by decide +kernel, fg_c7 100 rfl rfl, fg_c1 18 (by decide +kernel) (by decide +kernel), by decide +kernel, by decide +kernel, by decide⟩
set_option maxRecDepth 100000 in
theorem kmX12_spelt : fk_M mX12_spelt 4 := ⟨by decide +kernel, fg_c7 126 rfl rfl, fg_c1 18 (by decide +kernel) (by decide +kernel), by decide +kernel, by decide +kernel, by decide⟩
set_option maxRecDepth 100000 in
theorem kmX12_on : fk_M mX12_on 4 := ⟨by decide +kernel, fg_c7 129 rfl rfl, fg_c1 18 (by decide +kernel) (by decide +kernel), by decide +kernel, by decide +kernel, by decide⟩
set_option maxRecDepth 100000 in
theorem kmX12_isKey : fk_M mX12_isKey 1 := ⟨by decide +kernel, fg_c7 133 rfl rfl, fg_c1 18 (by decide +kernel) (by decide +kernel), by decide +kernel, by decide +kernel, by decide⟩
set_option maxRecDepth 100000 in
theorem kmX12_isSign : fk_M mX12_isSign 1 := ⟨by decide +kernel, fg_c7 155 rfl rfl, fg_c1 18 (by decide +kernel) (by decide +kernel), by decide +kernel, by decide +kernel, by decide⟩
set_option maxRecDepth 100000 in
theorem kmX12_bad : fk_M mX12_bad 1 := ⟨by decide +kernel, fg_c7 137 rfl rfl, fg_c1 18 (by decide +kernel) (by decide +kernel), by decide +kernel, by decide +kernel, by decide⟩
set_option maxRecDepth 100000 in
theorem kmX12_readNumber : fk_M mX12_readNumber 2 := ⟨by decide +kernel, fg_c7 144 rfl rfl, fg_c1 18 (by decide +kernel) (by decide +kernel), by decide +kernel, by decide +kernel, by decide⟩
set_option maxRecDepth 100000 in
theorem kmX12_readEnd : fk_M mX12_readEnd 0 := ⟨by decide +kernel, fg_c7 151 rfl rfl, fg_c1 18 (by decide +kernel) (by decide +kernel), by decide +kernel, by decide +kernel, by decide⟩
set_option maxRecDepth 100000 in
theorem kmX12_begin : fk_M mX12_begin 1 := ⟨by decide +kernel, fg_c7 92 rfl rfl, fg_c1 18 (by decide +kernel) (by decide +kernel), by decide +kernel, by decide +kernel, by decide⟩
set_option maxRecDepth 100000 in
theorem kmX12_wordOf : fk_M mX12_wordOf 1 := ⟨by decide +kernel, fg_c7 123 rfl rfl, fg_c1 18 (by decide +kernel) (by decide +kernel), by decide +kernel, by decide +kernel, by decide⟩
set_option maxRecDepth 100000 in
theorem kmX12_isWord : fk_M mX12_isWord 1 := ⟨by decide +kernel, fg_c7 120 rfl rfl, fg_c1 18 (by decide +kernel) (by decide +kernel), by decide +kernel, by decide +kernel, by decide⟩
set_option maxRecDepth 100000 in
theorem kmX12_isName : fk_M mX12_isName 0 := ⟨by decide +kernel, fg_c7 166 rfl rfl, fg_c1 18 (by decide +kernel) (by decide +kernel), by decide +kernel, by decide +kernel, by decide⟩
set_option maxRecDepth 100000 in
theorem kmX12_lay : fk_M mX12_lay 0 := ⟨by decide +kernel, fg_c7 81 rfl rfl, fg_c1 18 (by decide +kernel) (by decide +kernel), by decide +kernel, by decide +kernel, by decide⟩
set_option maxRecDepth 100000 in
theorem kmX12_standard : fk_M mX12_standard 1 := ⟨by decide +kernel, fg_c7 84 rfl rfl, fg_c1 18 (by decide +kernel) (by decide +kernel), by decide +kernel, by decide +kernel, by decide⟩
set_option maxRecDepth 100000 in
theorem kmX12_empty : fk_M mX12_empty 0 := ⟨by decide +kernel, fg_c7 88 rfl rfl, fg_c1 18 (by decide +kernel) (by decide +kernel), by decide +kernel, by decide +kernel, by decide⟩
set_option maxRecDepth 100000 in
theorem kmX12_base : fk_M mX12_base 1 := ⟨by decide +kernel, fg_c7 173 rfl rfl, fg_c1 18 (by decide +kernel) (by decide +kernel), by decide +kernel, by decide +kernel, by decide⟩
set_option maxRecDepth 100000 in
theorem kmX12_most : fk_M mX12_most 1 := ⟨by decide +kernel, fg_c7 158 rfl rfl, fg_c1 18 (by decide +kernel) (by decide +kernel), by decide +kernel, by decide +kernel, by decide⟩
set_option maxRecDepth 100000 in
theorem kmX12_findRead : fk_M mX12_findRead 1 := ⟨by decide +kernel, fg_c7 170 rfl rfl, fg_c1 18 (by decide +kernel) (by decide +kernel), by decide +kernel, by decide +kernel, by decide⟩
set_option maxRecDepth 100000 in
theorem kmX12_readNew : fk_M mX12_readNew 1 := ⟨by decide +kernel, fg_c7 162 rfl rfl, fg_c1 18 (by decide +kernel) (by decide +kernel), by decide +kernel, by decide +kernel, by decide⟩
set_option maxRecDepth 100000 in
theorem kmX12_readOld : fk_M mX12_readOld 2 := ⟨by decide +kernel, fg_c7 181 rfl rfl, fg_c1 18 (by decide +kernel) (by decide +kernel), by decide +kernel, by decide +kernel, by decide⟩
set_option maxRecDepth 100000 in
theorem kmX12_readLine : fk_M mX12_readLine 0 := ⟨by decide +kernel, fg_c7 116 rfl rfl, fg_c1 18 (by decide +kernel) (by decide +kernel), by decide +kernel, by decide +kernel, by decide⟩
set_option maxRecDepth 100000 in
theorem kmX12_readAgent : fk_M mX12_readAgent 0 := ⟨by decide +kernel, fg_c7 177 rfl rfl, fg_c1 18 (by decide +kernel) (by decide +kernel), by decide +kernel, by decide +kernel, by decide⟩
set_option maxRecDepth 100000 in
theorem kmX12_readCloth : fk_M mX12_readCloth 0 := ⟨by decide +kernel, fg_c7 185 rfl rfl, fg_c1 18 (by decide +kernel) (by decide +kernel), by decide +kernel, by decide +kernel, by decide⟩
set_option maxRecDepth 100000 in
theorem kmX12_readDrum : fk_M mX12_readDrum 0 := ⟨by decide +kernel, fg_c7 189 rfl rfl, fg_c1 18 (by decide +kernel) (by decide +kernel), by decide +kernel, by decide +kernel, by decide⟩
set_option maxRecDepth 100000 in
theorem kmX12_house : fk_M mX12_house 0 := ⟨by decide +kernel, fg_c7 77 rfl rfl, fg_c1 18 (by decide +kernel) (by decide +kernel), by decide +kernel, by decide +kernel, by decide⟩
set_option maxRecDepth 100000 in
theorem kmX12_fault : fk_M mX12_fault 0 := ⟨by decide +kernel, fg_c7 193 rfl rfl, fg_c1 18 (by decide +kernel) (by decide +kernel), by decide +kernel, by decide +kernel, by decide⟩
set_option maxRecDepth 100000 in
theorem kmX12_later : fk_M mX12_later 1 := ⟨by decide +kernel, fg_c7 197 rfl rfl, fg_c1 18 (by decide +kernel) (by decide +kernel), by decide +kernel, by decide +kernel, by decide⟩
set_option maxRecDepth 100000 in
theorem kmX12_today : fk_M mX12_today 0 := ⟨by decide +kernel, fg_c7 205 rfl rfl, fg_c1 18 (by decide +kernel) (by decide +kernel), by decide +kernel, by decide +kernel, by decide⟩
set_option maxRecDepth 100000 in
theorem kmX12_tickets : fk_M mX12_tickets 0 := ⟨by decide +kernel, fg_c7 209 rfl rfl, fg_c1 18 (by decide +kernel) (by decide +kernel), by decide +kernel, by decide +kernel, by decide⟩
set_option maxRecDepth 100000 in
theorem kmX12_of : fk_M mX12_of 2 := ⟨by decide +kernel, fg_c7 229 rfl rfl, fg_c1 18 (by decide +kernel) (by decide +kernel), by decide +kernel, by decide +kernel, by decide⟩
set_option maxRecDepth 100000 in
theorem kmX12_clothOf : fk_M mX12_clothOf 2 := ⟨by decide +kernel, fg_c7 213 rfl rfl, fg_c1 18 (by decide +kernel) (by decide +kernel), by decide +kernel, by decide +kernel, by decide⟩
set_option maxRecDepth 100000 in
theorem kmX12_isTicket : fk_M mX12_isTicket 1 := ⟨by decide +kernel, fg_c7 221 rfl rfl, fg_c1 18 (by decide +kernel) (by decide +kernel), by decide +kernel, by decide +kernel, by decide⟩
set_option maxRecDepth 100000 in
theorem kmX12_ticket : fk_M mX12_ticket 6 := ⟨by decide +kernel, fg_c7 201 rfl rfl, fg_c1 18 (by decide +kernel) (by decide +kernel), by decide +kernel, by decide +kernel, by decide⟩
set_option maxRecDepth 100000 in
theorem kmX12_about : fk_M mX12_about 2 := ⟨by decide +kernel, fg_c7 217 rfl rfl, fg_c1 18 (by decide +kernel) (by decide +kernel), by decide +kernel, by decide +kernel, by decide⟩
set_option maxRecDepth 100000 in
theorem kmX12_news : fk_M mX12_news 3 := ⟨by decide +kernel, fg_c7 233 rfl rfl, fg_c1 18 (by decide +kernel) (by decide +kernel), by decide +kernel, by decide +kernel, by decide⟩
set_option maxRecDepth 100000 in
theorem kmX12_standsOn : fk_M mX12_standsOn 3 := ⟨by decide +kernel, fg_c8 1 rfl rfl, fg_c1 18 (by decide +kernel) (by decide +kernel), by decide +kernel, by decide +kernel, by decide⟩
set_option maxRecDepth 100000 in
theorem kmX12_standsNow : fk_M mX12_standsNow 1 := ⟨by decide +kernel, fg_c8 9 rfl rfl, fg_c1 18 (by decide +kernel) (by decide +kernel), by decide +kernel, by decide +kernel, by decide⟩
set_option maxRecDepth 100000 in
theorem kmX12_isOpen : fk_M mX12_isOpen 1 := ⟨by decide +kernel, fg_c8 58 rfl rfl, fg_c1 18 (by decide +kernel) (by decide +kernel), by decide +kernel, by decide +kernel, by decide⟩
set_option maxRecDepth 100000 in
theorem kmX12_stands : fk_M mX12_stands 3 := ⟨by decide +kernel, fg_c7 237 rfl rfl, fg_c1 18 (by decide +kernel) (by decide +kernel), by decide +kernel, by decide +kernel, by decide⟩
set_option maxRecDepth 100000 in
theorem kmX12_open : fk_M mX12_open 1 := ⟨by decide +kernel, fg_c8 5 rfl rfl, fg_c1 18 (by decide +kernel) (by decide +kernel), by decide +kernel, by decide +kernel, by decide⟩
set_option maxRecDepth 100000 in
theorem kmX12_drumsFor : fk_M mX12_drumsFor 2 := ⟨by decide +kernel, fg_c8 37 rfl rfl, fg_c1 18 (by decide +kernel) (by decide +kernel), by decide +kernel, by decide +kernel, by decide⟩
set_option maxRecDepth 100000 in
theorem kmX12_bigEnough : fk_M mX12_bigEnough 2 := ⟨by decide +kernel, fg_c8 33 rfl rfl, fg_c1 18 (by decide +kernel) (by decide +kernel), by decide +kernel, by decide +kernel, by decide⟩
set_option maxRecDepth 100000 in
theorem kmX12_canBeDone : fk_M mX12_canBeDone 0 := ⟨by decide +kernel, fg_c8 29 rfl rfl, fg_c1 18 (by decide +kernel) (by decide +kernel), by decide +kernel, by decide +kernel, by decide⟩
set_option maxRecDepth 100000 in
theorem kmX12_part : fk_M mX12_part 1 := ⟨by decide +kernel, fg_c8 25 rfl rfl, fg_c1 18 (by decide +kernel) (by decide +kernel), by decide +kernel, by decide +kernel, by decide⟩
set_option maxRecDepth 100000 in
theorem kmX12_fewestFrom : fk_M mX12_fewestFrom 1 := ⟨by decide +kernel, fg_c8 21 rfl rfl, fg_c1 18 (by decide +kernel) (by decide +kernel), by decide +kernel, by decide +kernel, by decide⟩
set_option maxRecDepth 100000 in
theorem kmX12_takesTickets : fk_M mX12_takesTickets 0 := ⟨by decide +kernel, fg_c8 17 rfl rfl, fg_c1 18 (by decide +kernel) (by decide +kernel), by decide +kernel, by decide +kernel, by decide⟩
set_option maxRecDepth 100000 in
theorem kmX12_loads : fk_M mX12_loads 0 := ⟨by decide +kernel, fg_c8 13 rfl rfl, fg_c1 18 (by decide +kernel) (by decide +kernel), by decide +kernel, by decide +kernel, by decide⟩
set_option maxRecDepth 100000 in
theorem kmX12_hurry : fk_M mX12_hurry 0 := ⟨by decide +kernel, fg_c8 41 rfl rfl, fg_c1 18 (by decide +kernel) (by decide +kernel), by decide +kernel, by decide +kernel, by decide⟩
set_option maxRecDepth 100000 in
theorem kmX12_patience : fk_M mX12_patience 0 := ⟨by decide +kernel, fg_c8 45 rfl rfl, fg_c1 18 (by decide +kernel) (by decide +kernel), by decide +kernel, by decide +kernel, by decide⟩
set_option maxRecDepth 100000 in
theorem kmX12_isFitting : fk_M mX12_isFitting 2 := ⟨by decide +kernel, fg_c8 54 rfl rfl, fg_c1 18 (by decide +kernel) (by decide +kernel), by decide +kernel, by decide +kernel, by decide⟩
set_option maxRecDepth 100000 in
theorem kmX12_waysOf : fk_M mX12_waysOf 3 := ⟨by decide +kernel, fg_c8 62 rfl rfl, fg_c1 18 (by decide +kernel) (by decide +kernel), by decide +kernel, by decide +kernel, by decide⟩
set_option maxRecDepth 100000 in
theorem kmX12_found : fk_M mX12_found 0 := ⟨by decide +kernel, fg_c8 49 rfl rfl, fg_c1 18 (by decide +kernel) (by decide +kernel), by decide +kernel, by decide +kernel, by decide⟩
set_option maxRecDepth 100000 in
theorem kmX12_sure : fk_M mX12_sure 1 := ⟨by decide +kernel, fg_c8 66 rfl rfl, fg_c1 18 (by decide +kernel) (by decide +kernel), by decide +kernel, by decide +kernel, by decide⟩
set_option maxRecDepth 100000 in
theorem kmX12_chanceOf : fk_M mX12_chanceOf 2 := ⟨by decide +kernel, fg_c8 86 rfl rfl, fg_c1 18 (by decide +kernel) (by decide +kernel), by decide +kernel, by decide +kernel, by decide⟩
set_option maxRecDepth 100000 in
theorem kmX12_takesStain : fk_M mX12_takesStain 1 := ⟨by decide +kernel, fg_c8 74 rfl rfl, fg_c1 18 (by decide +kernel) (by decide +kernel), by decide +kernel, by decide +kernel, by decide⟩
set_option maxRecDepth 100000 in
theorem kmX12_fails : fk_M mX12_fails 1 := ⟨by decide +kernel, fg_c8 82 rfl rfl, fg_c1 18 (by decide +kernel) (by decide +kernel), by decide +kernel, by decide +kernel, by decide⟩
set_option maxRecDepth 100000 in
theorem kmX12_tryOrder : fk_M mX12_tryOrder 3 := ⟨by decide +kernel, fg_c8 78 rfl rfl, fg_c1 18 (by decide +kernel) (by decide +kernel), by decide +kernel, by decide +kernel, by decide⟩
set_option maxRecDepth 100000 in
theorem kmX12_best : fk_M mX12_best 1 := ⟨by decide +kernel, fg_c8 70 rfl rfl, fg_c1 18 (by decide +kernel) (by decide +kernel), by decide +kernel, by decide +kernel, by decide⟩
set_option maxRecDepth 100000 in
theorem kmX12_bestAt : fk_M mX12_bestAt 1 := ⟨by decide +kernel, fg_c8 91 rfl rfl, fg_c1 18 (by decide +kernel) (by decide +kernel), by decide +kernel, by decide +kernel, by decide⟩
set_option maxRecDepth 100000 in
theorem kmX12_bits : fk_M mX12_bits 1 := ⟨by decide +kernel, fg_c8 99 rfl rfl, fg_c1 18 (by decide +kernel) (by decide +kernel), by decide +kernel, by decide +kernel, by decide⟩
set_option maxRecDepth 100000 in
theorem kmX12_out : fk_M mX12_out 2 := ⟨by decide +kernel, fg_c8 95 rfl rfl, fg_c1 18 (by decide +kernel) (by decide +kernel), by decide +kernel, by decide +kernel, by decide⟩
set_option maxRecDepth 100000 in
theorem kmX12_isTwice : fk_M mX12_isTwice 1 := ⟨by decide +kernel, fg_c8 107 rfl rfl, fg_c1 18 (by decide +kernel) (by decide +kernel), by decide +kernel, by decide +kernel, by decide⟩
set_option maxRecDepth 100000 in
theorem kmX12_twice : fk_M mX12_twice 1 := ⟨by decide +kernel, fg_c8 103 rfl rfl, fg_c1 18 (by decide +kernel) (by decide +kernel), by decide +kernel, by decide +kernel, by decide⟩
set_option maxRecDepth 100000 in
theorem kmX12_contract : fk_M mX12_contract 3 := ⟨by decide +kernel, fg_c8 111 rfl rfl, fg_c1 18 (by decide +kernel) (by decide +kernel), by decide +kernel, by decide +kernel, by decide⟩
set_option maxRecDepth 100000 in
theorem kmX12_cameTo : fk_M mX12_cameTo 1 := ⟨by decide +kernel, fg_c8 119 rfl rfl, fg_c1 18 (by decide +kernel) (by decide +kernel), by decide +kernel, by decide +kernel, by decide⟩
set_option maxRecDepth 100000 in
theorem kmX12_owed : fk_M mX12_owed 1 := ⟨by decide +kernel, fg_c8 115 rfl rfl, fg_c1 18 (by decide +kernel) (by decide +kernel), by decide +kernel, by decide +kernel, by decide⟩
set_option maxRecDepth 100000 in
theorem kmX12_drum : fk_M mX12_drum 2 := ⟨by decide +kernel, fg_c8 123 rfl rfl, fg_c1 18 (by decide +kernel) (by decide +kernel), by decide +kernel, by decide +kernel, by decide⟩
set_option maxRecDepth 100000 in
theorem kmX12_isRun : fk_M mX12_isRun 1 := ⟨by decide +kernel, fg_c8 131 rfl rfl, fg_c1 18 (by decide +kernel) (by decide +kernel), by decide +kernel, by decide +kernel, by decide⟩
set_option maxRecDepth 100000 in
theorem kmX12_run : fk_M mX12_run 1 := ⟨by decide +kernel, fg_c8 127 rfl rfl, fg_c1 18 (by decide +kernel) (by decide +kernel), by decide +kernel, by decide +kernel, by decide⟩
set_option maxRecDepth 100000 in
theorem kmX12_recall : fk_M mX12_recall 2 := ⟨by decide +kernel, fg_c8 135 rfl rfl, fg_c1 18 (by decide +kernel) (by decide +kernel), by decide +kernel, by decide +kernel, by decide⟩
set_option maxRecDepth 100000 in
theorem kmX12_recalled : fk_M mX12_recalled 1 := ⟨by decide +kernel, fg_c8 139 rfl rfl, fg_c1 18 (by decide +kernel) (by decide +kernel), by decide +kernel, by decide +kernel, by decide⟩
set_option maxRecDepth 100000 in
theorem kmX12_loaded : fk_M mX12_loaded 2 := ⟨by decide +kernel, fg_c8 143 rfl rfl, fg_c1 18 (by decide +kernel) (by decide +kernel), by decide +kernel, by decide +kernel, by decide⟩
set_option maxRecDepth 100000 in
theorem kmX12_isClaimed : fk_M mX12_isClaimed 1 := ⟨by decide +kernel, fg_c8 151 rfl rfl, fg_c1 18 (by decide +kernel) (by decide +kernel), by decide +kernel, by decide +kernel, by decide⟩
set_option maxRecDepth 100000 in
theorem kmX12_claim : fk_M mX12_claim 1 := ⟨by decide +kernel, fg_c8 147 rfl rfl, fg_c1 18 (by decide +kernel) (by decide +kernel), by decide +kernel, by decide +kernel, by decide⟩
set_option maxRecDepth 100000 in
theorem kmX12_hasCause : fk_M mX12_hasCause 2 := ⟨by decide +kernel, fg_c8 163 rfl rfl, fg_c1 18 (by decide +kernel) (by decide +kernel), by decide +kernel, by decide +kernel, by decide⟩
set_option maxRecDepth 100000 in
theorem kmX12_isPossible : fk_M mX12_isPossible 1 := ⟨by decide +kernel, fg_c8 159 rfl rfl, fg_c1 18 (by decide +kernel) (by decide +kernel), by decide +kernel, by decide +kernel, by decide⟩
set_option maxRecDepth 100000 in
theorem kmX12_possible : fk_M mX12_possible 1 := ⟨by decide +kernel, fg_c8 155 rfl rfl, fg_c1 18 (by decide +kernel) (by decide +kernel), by decide +kernel, by decide +kernel, by decide⟩
set_option maxRecDepth 100000 in
theorem kmX12_chooses : fk_M mX12_chooses 4 := ⟨by decide +kernel, fg_c8 175 rfl rfl, fg_c1 18 (by decide +kernel) (by decide +kernel), by decide +kernel, by decide +kernel, by decide⟩
set_option maxRecDepth 100000 in
theorem kmX12_addCause : fk_M mX12_addCause 1 := ⟨by decide +kernel, fg_c8 171 rfl rfl, fg_c1 18 (by decide +kernel) (by decide +kernel), by decide +kernel, by decide +kernel, by decide⟩
set_option maxRecDepth 100000 in
theorem kmX12_causes : fk_M mX12_causes 0 := ⟨by decide +kernel, fg_c8 167 rfl rfl, fg_c1 18 (by decide +kernel) (by decide +kernel), by decide +kernel, by decide +kernel, by decide⟩
set_option maxRecDepth 100000 in
theorem kmX12_cause : fk_M mX12_cause 1 := ⟨by decide +kernel, fg_c8 179 rfl rfl, fg_c1 18 (by decide +kernel) (by decide +kernel), by decide +kernel, by decide +kernel, by decide⟩
set_option maxRecDepth 100000 in
theorem kmX12_solvent : fk_M mX12_solvent 3 := ⟨by decide +kernel, fg_c8 183 rfl rfl, fg_c1 18 (by decide +kernel) (by decide +kernel), by decide +kernel, by decide +kernel, by decide⟩
set_option maxRecDepth 100000 in
theorem kmX12_lostOn : fk_M mX12_lostOn 1 := ⟨by decide +kernel, fg_c8 191 rfl rfl, fg_c1 18 (by decide +kernel) (by decide +kernel), by decide +kernel, by decide +kernel, by decide⟩
set_option maxRecDepth 100000 in
theorem kmX12_lost : fk_M mX12_lost 1 := ⟨by decide +kernel, fg_c8 187 rfl rfl, fg_c1 18 (by decide +kernel) (by decide +kernel), by decide +kernel, by decide +kernel, by decide⟩
set_option maxRecDepth 100000 in
theorem kmX12_broken : fk_M mX12_broken 0 := ⟨by decide +kernel, fg_c8 195 rfl rfl, fg_c1 18 (by decide +kernel) (by decide +kernel), by decide +kernel, by decide +kernel, by decide⟩
set_option maxRecDepth 100000 in
theorem kmX12_place : fk_M mX12_place 3 := ⟨by decide +kernel, fg_c8 199 rfl rfl, fg_c1 18 (by decide +kernel) (by decide +kernel), by decide +kernel, by decide +kernel, by decide⟩
set_option maxRecDepth 100000 in
theorem kmX12_gap : fk_M mX12_gap 2 := ⟨by decide +kernel, fg_c8 219 rfl rfl, fg_c1 18 (by decide +kernel) (by decide +kernel), by decide +kernel, by decide +kernel, by decide⟩
set_option maxRecDepth 100000 in
theorem kmX12_xOf : fk_M mX12_xOf 1 := ⟨by decide +kernel, fg_c8 216 rfl rfl, fg_c1 18 (by decide +kernel) (by decide +kernel), by decide +kernel, by decide +kernel, by decide⟩
set_option maxRecDepth 100000 in
theorem kmX12_yOf : fk_M mX12_yOf 1 := ⟨by decide +kernel, fg_c8 223 rfl rfl, fg_c1 18 (by decide +kernel) (by decide +kernel), by decide +kernel, by decide +kernel, by decide⟩
set_option maxRecDepth 100000 in
theorem kmX12_way : fk_M mX12_way 2 := ⟨by decide +kernel, fg_c8 212 rfl rfl, fg_c1 18 (by decide +kernel) (by decide +kernel), by decide +kernel, by decide +kernel, by decide⟩
set_option maxRecDepth 100000 in
theorem kmX12_onFrom : fk_M mX12_onFrom 2 := ⟨by decide +kernel, fg_c8 208 rfl rfl, fg_c1 18 (by decide +kernel) (by decide +kernel), by decide +kernel, by decide +kernel, by decide⟩
set_option maxRecDepth 100000 in
theorem kmX12_round : fk_M mX12_round 0 := ⟨by decide +kernel, fg_c8 203 rfl rfl, fg_c1 18 (by decide +kernel) (by decide +kernel), by decide +kernel, by decide +kernel, by decide⟩
set_option maxRecDepth 100000 in
theorem kmX12_roundAt : fk_M mX12_roundAt 1 := ⟨by decide +kernel, fg_c8 227 rfl rfl, fg_c1 18 (by decide +kernel) (by decide +kernel), by decide +kernel, by decide +kernel, by decide⟩
set_option maxRecDepth 100000 in
theorem kmX12_unfetched : fk_M mX12_unfetched 2 := ⟨by decide +kernel, fg_c8 231 rfl rfl, fg_c1 18 (by decide +kernel) (by decide +kernel), by decide +kernel, by decide +kernel, by decide⟩
set_option maxRecDepth 100000 in
theorem kmX12_lays : fk_M mX12_lays 4 := ⟨by decide +kernel, fg_c9 23 rfl rfl, fg_c1 18 (by decide +kernel) (by decide +kernel), by decide +kernel, by decide +kernel, by decide⟩
set_option maxRecDepth 100000 in
theorem kmX12_readOr : fk_M mX12_readOr 0 := ⟨by decide +kernel, fg_c8 239 rfl rfl, fg_c1 18 (by decide +kernel) (by decide +kernel), by decide +kernel, by decide +kernel, by decide⟩
set_option maxRecDepth 100000 in
theorem kmX12_readAnd : fk_M mX12_readAnd 0 := ⟨by decide +kernel, fg_c9 3 rfl rfl, fg_c1 18 (by decide +kernel) (by decide +kernel), by decide +kernel, by decide +kernel, by decide⟩
set_option maxRecDepth 100000 in
theorem kmX12_whatAtHand : fk_M mX12_whatAtHand 0 := ⟨by decide +kernel, fg_c9 11 rfl rfl, fg_c1 18 (by decide +kernel) (by decide +kernel), by decide +kernel, by decide +kernel, by decide⟩
set_option maxRecDepth 100000 in
theorem kmX12_readOne : fk_M mX12_readOne 0 := ⟨by decide +kernel, fg_c9 7 rfl rfl, fg_c1 18 (by decide +kernel) (by decide +kernel), by decide +kernel, by decide +kernel, by decide⟩
set_option maxRecDepth 100000 in
theorem kmX12_readNot : fk_M mX12_readNot 0 := ⟨by decide +kernel, fg_c9 19 rfl rfl, fg_c1 18 (by decide +kernel) (by decide +kernel), by decide +kernel, by decide +kernel, by decide⟩
set_option maxRecDepth 100000 in
theorem kmX12_readBracket : fk_M mX12_readBracket 0 := ⟨by decide +kernel, fg_c9 15 rfl rfl, fg_c1 18 (by decide +kernel) (by decide +kernel), by decide +kernel, by decide +kernel, by decide⟩
set_option maxRecDepth 100000 in
theorem kmX12_readWhat : fk_M mX12_readWhat 1 := ⟨by decide +kernel, fg_c9 27 rfl rfl, fg_c1 18 (by decide +kernel) (by decide +kernel), by decide +kernel, by decide +kernel, by decide⟩
set_option maxRecDepth 100000 in
theorem kmX12_readPlain : fk_M mX12_readPlain 1 := ⟨by decide +kernel, fg_c9 31 rfl rfl, fg_c1 18 (by decide +kernel) (by decide +kernel), by decide +kernel, by decide +kernel, by decide⟩
set_option maxRecDepth 100000 in
theorem kmX12_rule : fk_M mX12_rule 0 := ⟨by decide +kernel, fg_c8 235 rfl rfl, fg_c1 18 (by decide +kernel) (by decide +kernel), by decide +kernel, by decide +kernel, by decide⟩
set_option maxRecDepth 100000 in
theorem kmX12_valueOf : fk_M mX12_valueOf 2 := ⟨by decide +kernel, fg_c9 43 rfl rfl, fg_c1 18 (by decide +kernel) (by decide +kernel), by decide +kernel, by decide +kernel, by decide⟩
set_option maxRecDepth 100000 in
theorem kmX12_isSo : fk_M mX12_isSo 2 := ⟨by decide +kernel, fg_c9 39 rfl rfl, fg_c1 18 (by decide +kernel) (by decide +kernel), by decide +kernel, by decide +kernel, by decide⟩
set_option maxRecDepth 100000 in
theorem kmX12_meets : fk_M mX12_meets 1 := ⟨by decide +kernel, fg_c9 35 rfl rfl, fg_c1 18 (by decide +kernel) (by decide +kernel), by decide +kernel, by decide +kernel, by decide⟩
set_option maxRecDepth 100000 in
theorem kmX12_image : fk_M mX12_image 1 := ⟨by decide +kernel, fg_c9 47 rfl rfl, fg_c1 18 (by decide +kernel) (by decide +kernel), by decide +kernel, by decide +kernel, by decide⟩
set_option maxRecDepth 100000 in
theorem kmX12_restore : fk_M mX12_restore 1 := ⟨by decide +kernel, fg_c9 51 rfl rfl, fg_c1 18 (by decide +kernel) (by decide +kernel), by decide +kernel, by decide +kernel, by decide⟩
set_option maxRecDepth 100000 in
theorem kmX12_count : fk_M mX12_count 1 := ⟨by decide +kernel, fg_c9 55 rfl rfl, fg_c1 18 (by decide +kernel) (by decide +kernel), by decide +kernel, by decide +kernel, by decide⟩
set_option maxRecDepth 100000 in
theorem kmJ6_bitCount_0f7a4 : fk_M mJ6_bitCount_0f7a4 1 := ⟨by decide +kernel, fg_c4 229 rfl rfl, fg_c1 25 (by decide +kernel) (by decide +kernel), by decide +kernel, by decide +kernel, by decide⟩
set_option maxRecDepth 100000 in
theorem kmJ0_length_8abf5 : fk_M mJ0_length_8abf5 0 := ⟨by decide +kernel, fg_c1 47 rfl rfl, fg_c1 3 (by decide +kernel) (by decide +kernel), by decide +kernel, by decide +kernel, by decide⟩
set_option maxRecDepth 100000 in
theorem kmJ0_charAt_5068e : fk_M mJ0_charAt_5068e 1 := ⟨by decide +kernel, fg_c1 57 rfl rfl, fg_c1 3 (by decide +kernel) (by decide +kernel), by decide +kernel, by decide +kernel, by decide⟩
set_option maxRecDepth 100000 in
theorem kmJ0_coder_7d493 : fk_M mJ0_coder_7d493 0 := ⟨by decide +kernel, fg_c1 51 rfl rfl, fg_c1 3 (by decide +kernel) (by decide +kernel), by decide +kernel, by decide +kernel, by decide⟩
set_option maxRecDepth 100000 in
theorem kmJ0_isLatin1_aae02 : fk_M mJ0_isLatin1_aae02 0 := ⟨by decide +kernel, fg_c1 61 rfl rfl, fg_c1 3 (by decide +kernel) (by decide +kernel), by decide +kernel, by decide +kernel, by decide⟩
