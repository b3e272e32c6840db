theorem fg_m1 {w : Cond} (h : w ∈ tables_1_1) : w ∈ lw_tbl := List.mem_append_right _ (show w ∈ tables_1 from List.mem_append_left _ h)
theorem fg_c1 {w : Cond} (i : Nat) (h : tables_1_1[i]? = some w) (hg : goodWord w = true) : w ∈ fg_l := List.mem_filter.mpr ⟨fg_m1 (List.mem_of_getElem? h), hg⟩
theorem fg_d1 {w : Cond} (i : Nat) (h : tables_1_1[i]? = some w) (hg : fg_n w = true) : w ∈ fg_h := List.mem_filter.mpr ⟨fg_m1 (List.mem_of_getElem? h), hg⟩
theorem fg_m2 {w : Cond} (h : w ∈ tables_1_2) : w ∈ lw_tbl := List.mem_append_right _ (show w ∈ tables_1 from List.mem_append_right _ (List.mem_append_left _ h))
theorem fg_c2 {w : Cond} (i : Nat) (h : tables_1_2[i]? = some w) (hg : goodWord w = true) : w ∈ fg_l := List.mem_filter.mpr ⟨fg_m2 (List.mem_of_getElem? h), hg⟩
theorem fg_d2 {w : Cond} (i : Nat) (h : tables_1_2[i]? = some w) (hg : fg_n w = true) : w ∈ fg_h := List.mem_filter.mpr ⟨fg_m2 (List.mem_of_getElem? h), hg⟩
theorem fg_m3 {w : Cond} (h : w ∈ tables_1_3) : w ∈ lw_tbl := List.mem_append_right _ (show w ∈ tables_1 from List.mem_append_right _ (List.mem_append_right _ (List.mem_append_left _ h)))
theorem fg_c3 {w : Cond} (i : Nat) (h : tables_1_3[i]? = some w) (hg : goodWord w = true) : w ∈ fg_l := List.mem_filter.mpr ⟨fg_m3 (List.mem_of_getElem? h), hg⟩
theorem fg_d3 {w : Cond} (i : Nat) (h : tables_1_3[i]? = some w) (hg : fg_n w = true) : w ∈ fg_h := List.mem_filter.mpr ⟨fg_m3 (List.mem_of_getElem? h), hg⟩
theorem fg_m4 {w : Cond} (h : w ∈ tables_1_4) : w ∈ lw_tbl := List.mem_append_right _ (show w ∈ tables_1 from List.mem_append_right _ (List.mem_append_right _ (List.mem_append_right _ (List.mem_append_left _ h))))
theorem fg_c4 {w : Cond} (i : Nat) (h : tables_1_4[i]? = some w) (hg : goodWord w = true) : w ∈ fg_l := List.mem_filter.mpr ⟨fg_m4 (List.mem_of_getElem? h), hg⟩
theorem fg_d4 {w : Cond} (i : Nat) (h : tables_1_4[i]? = some w) (hg : fg_n w = true) : w ∈ fg_h := List.mem_filter.mpr ⟨fg_m4 (List.mem_of_getElem? h), hg⟩
theorem fg_m5 {w : Cond} (h : w ∈ tables_1_5) : w ∈ lw_tbl := List.mem_append_right _ (show w ∈ tables_1 from List.mem_append_right _ (List.mem_append_right _ (List.mem_append_right _ (List.mem_append_right _ (List.mem_append_left _ h)))))
theorem fg_c5 {w : Cond} (i : Nat) (h : tables_1_5[i]? = some w) (hg : goodWord w = true) : w ∈ fg_l := List.mem_filter.mpr ⟨fg_m5 (List.mem_of_getElem? h), hg⟩
theorem fg_d5 {w : Cond} (i : Nat) (h : tables_1_5[i]? = some w) (hg : fg_n w = true) : w ∈ fg_h := List.mem_filter.mpr ⟨fg_m5 (List.mem_of_getElem? h), hg⟩
theorem fg_m6 {w : Cond} (h : w ∈ tables_1_6) : w ∈ lw_tbl := List.mem_append_right _ (show w ∈ tables_1 from List.mem_append_right _ (List.mem_append_right _ (List.mem_append_right _ (List.mem_append_right _ (List.mem_append_right _ (List.mem_append_left _ h))))))
theorem fg_c6 {w : Cond} (i : Nat) (h : tables_1_6[i]? = some w) (hg : goodWord w = true) : w ∈ fg_l := List.mem_filter.mpr ⟨fg_m6 (List.mem_of_getElem? h), hg⟩
theorem fg_d6 {w : Cond} (i : Nat) (h : tables_1_6[i]? = some w) (hg : fg_n w = true) : w ∈ fg_h := List.mem_filter.mpr ⟨fg_m6 (List.mem_of_getElem? h), hg⟩
theorem fg_m7 {w : Cond} (h : w ∈ tables_1_7) : w ∈ lw_tbl := List.mem_append_right _ (show w ∈ tables_1 from List.mem_append_right _ (List.mem_append_right _ (List.mem_append_right _ (List.mem_append_right _ (List.mem_append_right _ (List.mem_append_right _ (List.mem_append_left _ h)))))))
theorem fg_c7 {w : Cond} (i : Nat) (h : tables_1_7[i]? = some w) (hg : goodWord w = true) : w ∈ fg_l := List.mem_filter.mpr ⟨fg_m7 (List.mem_of_getElem? h), hg⟩
theorem fg_d7 {w : Cond} (i : Nat) (h : tables_1_7[i]? = some w) (hg : fg_n w = true) : w ∈ fg_h := List.mem_filter.mpr ⟨fg_m7 (List.mem_of_getElem? h), hg⟩
theorem fg_m8 {w : Cond} (h : w ∈ tables_1_8) : w ∈ lw_tbl := List.mem_append_right _ (show w ∈ tables_1 from List.mem_append_right _ (List.mem_append_right _ (List.mem_append_right _ (List.mem_append_right _ (List.mem_append_right _ (List.mem_append_right _ (List.mem_append_right _ (List.mem_append_left _ h))))))))
theorem fg_c8 {w : Cond} (i : Nat) (h : tables_1_8[i]? = some w) (hg : goodWord w = true) : w ∈ fg_l := List.mem_filter.mpr ⟨fg_m8 (List.mem_of_getElem? h), hg⟩
theorem fg_d8 {w : Cond} (i : Nat) (h : tables_1_8[i]? = some w) (hg : fg_n w = true) : w ∈ fg_h := List.mem_filter.mpr ⟨fg_m8 (List.mem_of_getElem? h), hg⟩
theorem fg_m9 {w : Cond} (h : w ∈ tables_1_9) : w ∈ lw_tbl := List.mem_append_right _ (show w ∈ tables_1 from List.mem_append_right _ (List.mem_append_right _ (List.mem_append_right _ (List.mem_append_right _ (List.mem_append_right _ (List.mem_append_right _ (List.mem_append_right _ (List.mem_append_right _ (h)))))))))
theorem fg_c9 {w : Cond} (i : Nat) (h : tables_1_9[i]? = some w) (hg : goodWord w = true) : w ∈ fg_l := List.mem_filter.mpr ⟨fg_m9 (List.mem_of_getElem? h), hg⟩
theorem fg_d9 {w : Cond} (i : Nat) (h : tables_1_9[i]? = some w) (hg : fg_n w = true) : w ∈ fg_h := List.mem_filter.mpr ⟨fg_m9 (List.mem_of_getElem? h), hg⟩
