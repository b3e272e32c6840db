section LCASES
variable {p : Program} {l : Launch} {e : Env} {s : State} {m : MethodId} {below : List Frame} {meth : Method} {c : Code} {H : Heap} {locs : List Loc} {cells slots : Nat}
variable {b L : Nat} {xs : Nat → Int32} {D : va_G} {cy : Nat → ClassId} {ad am ad0 : Nat → Nat} {ao : Nat} {o : Nat → Int64} {μ ν : fm_T} {ls : Array Slot} {x4 : Int32} {RR : fm_T → fm_T → Prop}
set_option maxHeartbeats 4000000 in
set_option maxRecDepth 20000 in
theorem lc_4 (hl : l.stackTraces = false) (hO : ob_all RR) (C0 : lz_C p s m meth c b L xs D cy ad0) (hR : RR μ ν) (ha : ∀ k, 4000 ≤ k → ad k = ad0 k) (hm : ∀ k, 4000 ≤ k → am k = ad0 k) (hI : lz_I (fun q => s.heap.size ≤ q) D cy ad am ao μ ν o H) (hS : va_S (fun q => s.heap.size ≤ q) s.heap H locs) (hL : lv_has ls 7 [(0, .ref b), (1, .ref (ad 0)), (2, .ref (am 0)), (3, .ref ao), (4, .int x4)]) (hin : ∀ j : Nat, j < 7 → vp_in (x4 + nI j) L) (hcs : cells + 40 ≤ 601024 ∧ slots + 3000 ≤ 7293034)
    (K0 : lz_K p l e s m below meth c b D cy ad0 ao x4 RR (cells + 40) (slots + 3000)) : W p l e room_1 s m #[Value.ref b] below meth c H locs cells slots (lw_Z below #[Value.ref b] s) (F0 m 348 ls []) := by
  obtain ⟨hx, hb, hr, hml, hown, hts, hX, hbl, hlocks, hgv⟩ := C0.1
  have hbA : ¬ (fun q : Nat => s.heap.size ≤ q) b := Nat.not_le.mpr hbl
  obtain ⟨⟨r0, r1, hz⟩, hν, hn34⟩ := hO.1 μ ν hR
  have hμ := hz.1
  have h89 : 89 ≤ μ.1 := lz_r89 hz
  have hi1 : vp_in (x4 + 1) L := hin 1 (by decide)
  obtain ⟨hpC, hpM, hg, hRR⟩ := hO.2.2.2.2.2.1 μ ν (xs (x4 + 1).toNatClampNeg) hR
  refine lv_aload_n hx hb dL_law_348 rfl (lv_at hL 1 rfl) ?_
  refine lv_aload_n hx hb dL_law_349 rfl (lv_at hL 0 rfl) ?_
  refine lv_iload hx hb dL_law_350 (lv_at hL 4 rfl) ?_
  refine lv_iconst (v := 1) hx hb dL_law_352 rfl ?_
  refine lv_iadd hx hb dL_law_353 ?_
  refine va_sld hx hb hX hbl hbA hS hi1 dL_law_354 ?_
  refine lz_callC (as := [.int (xs (x4 + 1).toNatClampNeg)]) (rest := []) C0 ha hI hS dL_law_355 kvL_42 kmX11_later (d2 := 0) (by decide) rfl hμ (by omega) rfl rfl rfl (fs_c trivial (fun _ h => by cases h)) (Nat.le_of_ble_eq_true rfl) (Nat.le_of_ble_eq_true rfl) hL.1 (mc2 := 0) (ms2 := 0) ⟨by omega, by omega⟩ (wX11_later (μ := μ) hμ (xs (x4 + 1).toNatClampNeg)) ?_
  rintro v μ' ad' H' locs' ⟨hv1, hv2⟩ - ha2 hI2 hS2
  rw [hv1]
  rw [hv2] at hI2
  have e0 : ad' 0 = ad 0 := ha2 0 (Or.inl (by omega))
  show W p l e room_1 s m #[Value.ref b] below meth c H' locs' (cells + 0) (slots + 0) _ (F0 m 358 ls [.int (gX11_later μ (xs (x4 + 1).toNatClampNeg))])
  have hS := hS2
  refine lv_aload_n hx hb dL_law_358 rfl (lv_at hL 2 rfl) ?_
  refine lv_aload_n hx hb dL_law_359 rfl (lv_at hL 0 rfl) ?_
  refine lv_iload hx hb dL_law_360 (lv_at hL 4 rfl) ?_
  refine lv_iconst (v := 1) hx hb dL_law_362 rfl ?_
  refine lv_iadd hx hb dL_law_363 ?_
  refine va_sld hx hb hX hbl hbA hS hi1 dL_law_364 ?_
  refine lz_callM (as := [.int (xs (x4 + 1).toNatClampNeg)]) (rest := [.int (gX11_later μ (xs (x4 + 1).toNatClampNeg))]) C0 hm hI2 hS dL_law_365 kvL_45 kmX12_later (d2 := 2) (by decide) rfl hν (by omega) rfl rfl rfl (fs_c trivial (fun _ h => by cases h)) (Nat.le_of_ble_eq_true rfl) (Nat.le_of_ble_eq_true rfl) hL.1 (mc2 := 0) (ms2 := 0) ⟨by omega, by omega⟩ (wX12_later (μ := ν) hν (xs (x4 + 1).toNatClampNeg) hpM) ?_
  rintro v ν' am' H2 locs2 ⟨hv1, hv2⟩ - hm2 hI3 hS3
  rw [hv1]
  rw [hv2] at hI3
  have f0 : am' 0 = am 0 := hm2 0 (Or.inl (by omega))
  show W p l e room_1 s m #[Value.ref b] below meth c H2 locs2 (cells + 0) (slots + 0) _ (F0 m 368 ls [.int (gX12_later ν (xs (x4 + 1).toNatClampNeg)), .int (gX11_later μ (xs (x4 + 1).toNatClampNeg))])
  refine W.widen (k := cells + 40) (n := slots + 3000) (by omega) (by omega) ?_
  refine lv_icmp_eq (tgt := 1521) hx hb dL_law_368 rfl (fun _ => ?_) (fun hq => absurd hg hq)
  exact K0 ls ad' am' _ _ o H2 locs2 (by rw [e0, f0]; exact hL) (fun k hk => (ha2 k (Or.inr hk)).trans (ha k hk)) (fun k hk => (hm2 k (Or.inr hk)).trans (hm k hk)) hRR hI3 hS3
set_option maxHeartbeats 4000000 in
set_option maxRecDepth 20000 in
theorem lc_10 (hl : l.stackTraces = false) (hO : ob_all RR) (C0 : lz_C p s m meth c b L xs D cy ad0) (hR : RR μ ν) (ha : ∀ k, 4000 ≤ k → ad k = ad0 k) (hm : ∀ k, 4000 ≤ k → am k = ad0 k) (hI : lz_I (fun q => s.heap.size ≤ q) D cy ad am ao μ ν o H) (hS : va_S (fun q => s.heap.size ≤ q) s.heap H locs) (hL : lv_has ls 7 [(0, .ref b), (1, .ref (ad 0)), (2, .ref (am 0)), (3, .ref ao), (4, .int x4)]) (hin : ∀ j : Nat, j < 7 → vp_in (x4 + nI j) L) (hcs : cells + 40 ≤ 601024 ∧ slots + 3000 ≤ 7293034)
    (K0 : lz_K p l e s m below meth c b D cy ad0 ao x4 RR (cells + 40) (slots + 3000)) : W p l e room_1 s m #[Value.ref b] below meth c H locs cells slots (lw_Z below #[Value.ref b] s) (F0 m 651 ls []) := by
  obtain ⟨hx, hb, hr, hml, hown, hts, hX, hbl, hlocks, hgv⟩ := C0.1
  have hbA : ¬ (fun q : Nat => s.heap.size ≤ q) b := Nat.not_le.mpr hbl
  obtain ⟨⟨r0, r1, hz⟩, hν, hn34⟩ := hO.1 μ ν hR
  have hμ := hz.1
  have h89 : 89 ≤ μ.1 := lz_r89 hz
  obtain ⟨hpC, hpM, hg, hRR⟩ := hO.2.2.2.2.2.2.2.2.2.2.2.1 μ ν hR
  refine lv_aload_n hx hb dL_law_651 rfl (lv_at hL 1 rfl) ?_
  refine lz_callC (as := []) (rest := []) C0 ha hI hS dL_law_652 kvL_73 kmX11_loads (d2 := 4) (by decide) rfl hμ (by omega) rfl rfl rfl (fun _ h => by cases h) (Nat.le_of_ble_eq_true rfl) (Nat.le_of_ble_eq_true rfl) hL.1 (mc2 := 0) (ms2 := 0) ⟨by omega, by omega⟩ (wX11_loads (μ := μ) hμ hpC) ?_
  rintro v μ' ad' H' locs' ⟨hv1, hv2⟩ - ha2 hI2 hS2
  rw [hv1]
  rw [hv2] at hI2
  have e0 : ad' 0 = ad 0 := ha2 0 (Or.inl (by omega))
  show W p l e room_1 s m #[Value.ref b] below meth c H' locs' (cells + 0) (slots + 0) _ (F0 m 655 ls [.int (gX11_loads μ)])
  have hS := hS2
  refine lv_aload_n hx hb dL_law_655 rfl (lv_at hL 2 rfl) ?_
  refine lz_callM (as := []) (rest := [.int (gX11_loads μ)]) C0 hm hI2 hS dL_law_656 kvL_76 kmX12_loads (d2 := (8 * fD + 2)) (by rw [fD_eq]; decide) rfl hν (by omega) rfl rfl rfl (fun _ h => by cases h) (Nat.le_of_ble_eq_true rfl) (Nat.le_of_ble_eq_true rfl) hL.1 (mc2 := 0) (ms2 := 0) ⟨by omega, by omega⟩ (wX12_loads (μ := ν) hν hpM) ?_
  rintro v ν' am' H2 locs2 ⟨hv1, hv2⟩ - hm2 hI3 hS3
  rw [hv1]
  rw [hv2] at hI3
  have f0 : am' 0 = am 0 := hm2 0 (Or.inl (by omega))
  show W p l e room_1 s m #[Value.ref b] below meth c H2 locs2 (cells + 0) (slots + 0) _ (F0 m 659 ls [.int (gX12_loads ν), .int (gX11_loads μ)])
  refine W.widen (k := cells + 40) (n := slots + 3000) (by omega) (by omega) ?_
  refine lv_icmp_eq (tgt := 1521) hx hb dL_law_659 rfl (fun _ => ?_) (fun hq => absurd hg hq)
  exact K0 ls ad' am' _ _ o H2 locs2 (by rw [e0, f0]; exact hL) (fun k hk => (ha2 k (Or.inr hk)).trans (ha k hk)) (fun k hk => (hm2 k (Or.inr hk)).trans (hm k hk)) hRR hI3 hS3
set_option maxHeartbeats 4000000 in
set_option maxRecDepth 20000 in
theorem lc_16 (hl : l.stackTraces = false) (hO : ob_all RR) (C0 : lz_C p s m meth c b L xs D cy ad0) (hR : RR μ ν) (ha : ∀ k, 4000 ≤ k → ad k = ad0 k) (hm : ∀ k, 4000 ≤ k → am k = ad0 k) (hI : lz_I (fun q => s.heap.size ≤ q) D cy ad am ao μ ν o H) (hS : va_S (fun q => s.heap.size ≤ q) s.heap H locs) (hL : lv_has ls 7 [(0, .ref b), (1, .ref (ad 0)), (2, .ref (am 0)), (3, .ref ao), (4, .int x4)]) (hin : ∀ j : Nat, j < 7 → vp_in (x4 + nI j) L) (hcs : cells + 40 ≤ 601024 ∧ slots + 3000 ≤ 7293034)
    (K0 : lz_K p l e s m below meth c b D cy ad0 ao x4 RR (cells + 40) (slots + 3000)) : W p l e room_1 s m #[Value.ref b] below meth c H locs cells slots (lw_Z below #[Value.ref b] s) (F0 m 767 ls []) := by
  obtain ⟨hx, hb, hr, hml, hown, hts, hX, hbl, hlocks, hgv⟩ := C0.1
  have hbA : ¬ (fun q : Nat => s.heap.size ≤ q) b := Nat.not_le.mpr hbl
  obtain ⟨⟨r0, r1, hz⟩, hν, hn34⟩ := hO.1 μ ν hR
  have hμ := hz.1
  have h89 : 89 ≤ μ.1 := lz_r89 hz
  have hi1 : vp_in (x4 + 1) L := hin 1 (by decide)
  have hi2 : vp_in (x4 + 2) L := hin 2 (by decide)
  obtain ⟨hpC, hpM, hg, hRR⟩ := hO.2.2.2.2.2.2.2.2.2.2.2.2.2.2.2.2.2.1 μ ν (xs (x4 + 1).toNatClampNeg) (xs (x4 + 2).toNatClampNeg) hR
  refine lv_aload_n hx hb dL_law_767 rfl (lv_at hL 1 rfl) ?_
  refine lv_aload_n hx hb dL_law_768 rfl (lv_at hL 0 rfl) ?_
  refine lv_iload hx hb dL_law_769 (lv_at hL 4 rfl) ?_
  refine lv_iconst (v := 1) hx hb dL_law_771 rfl ?_
  refine lv_iadd hx hb dL_law_772 ?_
  refine va_sld hx hb hX hbl hbA hS hi1 dL_law_773 ?_
  refine lv_aload_n hx hb dL_law_774 rfl (lv_at hL 0 rfl) ?_
  refine lv_iload hx hb dL_law_775 (lv_at hL 4 rfl) ?_
  refine lv_iconst (v := 2) hx hb dL_law_777 rfl ?_
  refine lv_iadd hx hb dL_law_778 ?_
  refine va_sld hx hb hX hbl hbA hS hi2 dL_law_779 ?_
  refine lz_callC (as := [.int (xs (x4 + 1).toNatClampNeg), .int (xs (x4 + 2).toNatClampNeg)]) (rest := []) C0 ha hI hS dL_law_780 kvL_99 kmX11_out (d2 := 4) (by decide) rfl hμ (by omega) rfl rfl rfl (fs_c trivial (fs_c trivial (fun _ h => by cases h))) (Nat.le_of_ble_eq_true rfl) (Nat.le_of_ble_eq_true rfl) hL.1 (mc2 := 0) (ms2 := 0) ⟨by omega, by omega⟩ (wX11_out (μ := μ) hμ (xs (x4 + 1).toNatClampNeg) (xs (x4 + 2).toNatClampNeg) hpC) ?_
  rintro v μ' ad' H' locs' ⟨hv1, hv2⟩ - ha2 hI2 hS2
  rw [hv1]
  rw [hv2] at hI2
  have e0 : ad' 0 = ad 0 := ha2 0 (Or.inl (by omega))
  show W p l e room_1 s m #[Value.ref b] below meth c H' locs' (cells + 0) (slots + 0) _ (F0 m 783 ls [.long (gX11_out μ (xs (x4 + 1).toNatClampNeg) (xs (x4 + 2).toNatClampNeg))])
  have hS := hS2
  refine lv_aload_n hx hb dL_law_783 rfl (lv_at hL 2 rfl) ?_
  refine lv_aload_n hx hb dL_law_784 rfl (lv_at hL 0 rfl) ?_
  refine lv_iload hx hb dL_law_785 (lv_at hL 4 rfl) ?_
  refine lv_iconst (v := 1) hx hb dL_law_787 rfl ?_
  refine lv_iadd hx hb dL_law_788 ?_
  refine va_sld hx hb hX hbl hbA hS hi1 dL_law_789 ?_
  refine lv_aload_n hx hb dL_law_790 rfl (lv_at hL 0 rfl) ?_
  refine lv_iload hx hb dL_law_791 (lv_at hL 4 rfl) ?_
  refine lv_iconst (v := 2) hx hb dL_law_793 rfl ?_
  refine lv_iadd hx hb dL_law_794 ?_
  refine va_sld hx hb hX hbl hbA hS hi2 dL_law_795 ?_
  refine lz_callM (as := [.int (xs (x4 + 1).toNatClampNeg), .int (xs (x4 + 2).toNatClampNeg)]) (rest := [.long (gX11_out μ (xs (x4 + 1).toNatClampNeg) (xs (x4 + 2).toNatClampNeg))]) C0 hm hI2 hS dL_law_796 kvL_103 kmX12_out (d2 := 3) (by decide) rfl hν (by omega) rfl rfl rfl (fs_c trivial (fs_c trivial (fun _ h => by cases h))) (Nat.le_of_ble_eq_true rfl) (Nat.le_of_ble_eq_true rfl) hL.1 (mc2 := 0) (ms2 := 0) ⟨by omega, by omega⟩ (wX12_out (μ := ν) hν (xs (x4 + 1).toNatClampNeg) (xs (x4 + 2).toNatClampNeg) hpM) ?_
  rintro v ν' am' H2 locs2 ⟨hv1, hv2⟩ - hm2 hI3 hS3
  rw [hv1]
  rw [hv2] at hI3
  have f0 : am' 0 = am 0 := hm2 0 (Or.inl (by omega))
  show W p l e room_1 s m #[Value.ref b] below meth c H2 locs2 (cells + 0) (slots + 0) _ (F0 m 799 ls [.long (gX12_out ν (xs (x4 + 1).toNatClampNeg) (xs (x4 + 2).toNatClampNeg)), .long (gX11_out μ (xs (x4 + 1).toNatClampNeg) (xs (x4 + 2).toNatClampNeg))])
  refine W.widen (k := cells + 40) (n := slots + 3000) (by omega) (by omega) ?_
  refine W.lcmp hx hb dL_law_799 ?_
  rw [hg, lg_cmp_self]
  refine lv_if_eq (tgt := 1521) hx hb dL_law_800 rfl (fun _ => ?_) (fun hq => absurd rfl hq)
  exact K0 ls ad' am' _ _ o H2 locs2 (by rw [e0, f0]; exact hL) (fun k hk => (ha2 k (Or.inr hk)).trans (ha k hk)) (fun k hk => (hm2 k (Or.inr hk)).trans (hm k hk)) hRR hI3 hS3
set_option maxHeartbeats 4000000 in
set_option maxRecDepth 20000 in
theorem lc_22 (hl : l.stackTraces = false) (hO : ob_all RR) (C0 : lz_C p s m meth c b L xs D cy ad0) (hR : RR μ ν) (ha : ∀ k, 4000 ≤ k → ad k = ad0 k) (hm : ∀ k, 4000 ≤ k → am k = ad0 k) (hI : lz_I (fun q => s.heap.size ≤ q) D cy ad am ao μ ν o H) (hS : va_S (fun q => s.heap.size ≤ q) s.heap H locs) (hL : lv_has ls 7 [(0, .ref b), (1, .ref (ad 0)), (2, .ref (am 0)), (3, .ref ao), (4, .int x4)]) (hin : ∀ j : Nat, j < 7 → vp_in (x4 + nI j) L) (hcs : cells + 40 ≤ 601024 ∧ slots + 3000 ≤ 7293034)
    (K0 : lz_K p l e s m below meth c b D cy ad0 ao x4 RR (cells + 40) (slots + 3000)) : W p l e room_1 s m #[Value.ref b] below meth c H locs cells slots (lw_Z below #[Value.ref b] s) (F0 m 954 ls []) := by
  obtain ⟨hx, hb, hr, hml, hown, hts, hX, hbl, hlocks, hgv⟩ := C0.1
  have hbA : ¬ (fun q : Nat => s.heap.size ≤ q) b := Nat.not_le.mpr hbl
  obtain ⟨⟨r0, r1, hz⟩, hν, hn34⟩ := hO.1 μ ν hR
  have hμ := hz.1
  have h89 : 89 ≤ μ.1 := lz_r89 hz
  have hi1 : vp_in (x4 + 1) L := hin 1 (by decide)
  obtain ⟨hpC, hpM, hg, hRR⟩ := hO.2.2.2.2.2.2.2.2.2.2.2.2.2.2.2.2.2.2.2.2.2.2.2.1 μ ν (xs (x4 + 1).toNatClampNeg) hR
  refine lv_aload_n hx hb dL_law_954 rfl (lv_at hL 1 rfl) ?_
  refine lv_aload_n hx hb dL_law_955 rfl (lv_at hL 0 rfl) ?_
  refine lv_iload hx hb dL_law_956 (lv_at hL 4 rfl) ?_
  refine lv_iconst (v := 1) hx hb dL_law_958 rfl ?_
  refine lv_iadd hx hb dL_law_959 ?_
  refine va_sld hx hb hX hbl hbA hS hi1 dL_law_960 ?_
  refine lz_callC (as := [.int (xs (x4 + 1).toNatClampNeg)]) (rest := []) C0 ha hI hS dL_law_961 kvL_126 kmX11_run (d2 := 4) (by decide) rfl hμ (by omega) rfl rfl rfl (fs_c trivial (fun _ h => by cases h)) (Nat.le_of_ble_eq_true rfl) (Nat.le_of_ble_eq_true rfl) hL.1 (mc2 := 0) (ms2 := 0) ⟨by omega, by omega⟩ (wX11_run (μ := μ) hμ (xs (x4 + 1).toNatClampNeg) hpC) ?_
  rintro v μ' ad' H' locs' ⟨hv1, hv2⟩ - ha2 hI2 hS2
  rw [hv1]
  rw [hv2] at hI2
  have e0 : ad' 0 = ad 0 := ha2 0 (Or.inl (by omega))
  show W p l e room_1 s m #[Value.ref b] below meth c H' locs' (cells + 0) (slots + 0) _ (F0 m 964 ls [.int (gX11_run μ (xs (x4 + 1).toNatClampNeg))])
  have hS := hS2
  refine lv_aload_n hx hb dL_law_964 rfl (lv_at hL 2 rfl) ?_
  refine lv_aload_n hx hb dL_law_965 rfl (lv_at hL 0 rfl) ?_
  refine lv_iload hx hb dL_law_966 (lv_at hL 4 rfl) ?_
  refine lv_iconst (v := 1) hx hb dL_law_968 rfl ?_
  refine lv_iadd hx hb dL_law_969 ?_
  refine va_sld hx hb hX hbl hbA hS hi1 dL_law_970 ?_
  refine lz_callM (as := [.int (xs (x4 + 1).toNatClampNeg)]) (rest := [.int (gX11_run μ (xs (x4 + 1).toNatClampNeg))]) C0 hm hI2 hS dL_law_971 kvL_129 kmX12_run (d2 := 2) (by decide) rfl hν (by omega) rfl rfl rfl (fs_c trivial (fun _ h => by cases h)) (Nat.le_of_ble_eq_true rfl) (Nat.le_of_ble_eq_true rfl) hL.1 (mc2 := 0) (ms2 := 0) ⟨by omega, by omega⟩ (wX12_run (μ := ν) hν (xs (x4 + 1).toNatClampNeg) hpM) ?_
  rintro v ν' am' H2 locs2 ⟨hv1, hv2⟩ - hm2 hI3 hS3
  rw [hv1]
  rw [hv2] at hI3
  have f0 : am' 0 = am 0 := hm2 0 (Or.inl (by omega))
  show W p l e room_1 s m #[Value.ref b] below meth c H2 locs2 (cells + 0) (slots + 0) _ (F0 m 974 ls [.int (gX12_run ν (xs (x4 + 1).toNatClampNeg)), .int (gX11_run μ (xs (x4 + 1).toNatClampNeg))])
  refine W.widen (k := cells + 40) (n := slots + 3000) (by omega) (by omega) ?_
  refine lv_icmp_eq (tgt := 1521) hx hb dL_law_974 rfl (fun _ => ?_) (fun hq => absurd hg hq)
  exact K0 ls ad' am' _ _ o H2 locs2 (by rw [e0, f0]; exact hL) (fun k hk => (ha2 k (Or.inr hk)).trans (ha k hk)) (fun k hk => (hm2 k (Or.inr hk)).trans (hm k hk)) hRR hI3 hS3
set_option maxHeartbeats 4000000 in
set_option maxRecDepth 20000 in
theorem lc_28 (hl : l.stackTraces = false) (hO : ob_all RR) (C0 : lz_C p s m meth c b L xs D cy ad0) (hR : RR μ ν) (ha : ∀ k, 4000 ≤ k → ad k = ad0 k) (hm : ∀ k, 4000 ≤ k → am k = ad0 k) (hI : lz_I (fun q => s.heap.size ≤ q) D cy ad am ao μ ν o H) (hS : va_S (fun q => s.heap.size ≤ q) s.heap H locs) (hL : lv_has ls 7 [(0, .ref b), (1, .ref (ad 0)), (2, .ref (am 0)), (3, .ref ao), (4, .int x4)]) (hin : ∀ j : Nat, j < 7 → vp_in (x4 + nI j) L) (hcs : cells + 40 ≤ 601024 ∧ slots + 3000 ≤ 7293034)
    (K0 : lz_K p l e s m below meth c b D cy ad0 ao x4 RR (cells + 40) (slots + 3000)) : W p l e room_1 s m #[Value.ref b] below meth c H locs cells slots (lw_Z below #[Value.ref b] s) (F0 m 1116 ls []) := by
  obtain ⟨hx, hb, hr, hml, hown, hts, hX, hbl, hlocks, hgv⟩ := C0.1
  have hbA : ¬ (fun q : Nat => s.heap.size ≤ q) b := Nat.not_le.mpr hbl
  obtain ⟨⟨r0, r1, hz⟩, hν, hn34⟩ := hO.1 μ ν hR
  have hμ := hz.1
  have h89 : 89 ≤ μ.1 := lz_r89 hz
  have hi1 : vp_in (x4 + 1) L := hin 1 (by decide)
  obtain ⟨hpC, hpM, hg, hRR⟩ := hO.2.2.2.2.2.2.2.2.2.2.2.2.2.2.2.2.2.2.2.2.2.2.2.2.2.2.2.2.2.1 μ ν (xs (x4 + 1).toNatClampNeg) hR
  refine lv_aload_n hx hb dL_law_1116 rfl (lv_at hL 1 rfl) ?_
  refine lv_aload_n hx hb dL_law_1117 rfl (lv_at hL 0 rfl) ?_
  refine lv_iload hx hb dL_law_1118 (lv_at hL 4 rfl) ?_
  refine lv_iconst (v := 1) hx hb dL_law_1120 rfl ?_
  refine lv_iadd hx hb dL_law_1121 ?_
  refine va_sld hx hb hX hbl hbA hS hi1 dL_law_1122 ?_
  refine lz_callC (as := [.int (xs (x4 + 1).toNatClampNeg)]) (rest := []) C0 ha hI hS dL_law_1123 kvL_150 kmX11_claim (d2 := 3) (by decide) rfl hμ (by omega) rfl rfl rfl (fs_c trivial (fun _ h => by cases h)) (Nat.le_of_ble_eq_true rfl) (Nat.le_of_ble_eq_true rfl) hL.1 (mc2 := 0) (ms2 := 0) ⟨by omega, by omega⟩ (wX11_claim (μ := μ) hμ (xs (x4 + 1).toNatClampNeg) hpC) ?_
  rintro v μ' ad' H' locs' ⟨hv1, hv2⟩ - ha2 hI2 hS2
  rw [hv1]
  rw [hv2] at hI2
  have e0 : ad' 0 = ad 0 := ha2 0 (Or.inl (by omega))
  show W p l e room_1 s m #[Value.ref b] below meth c H' locs' (cells + 0) (slots + 0) _ (F0 m 1126 ls [.int (gX11_claim μ (xs (x4 + 1).toNatClampNeg))])
  have hS := hS2
  refine lv_aload_n hx hb dL_law_1126 rfl (lv_at hL 2 rfl) ?_
  refine lv_aload_n hx hb dL_law_1127 rfl (lv_at hL 0 rfl) ?_
  refine lv_iload hx hb dL_law_1128 (lv_at hL 4 rfl) ?_
  refine lv_iconst (v := 1) hx hb dL_law_1130 rfl ?_
  refine lv_iadd hx hb dL_law_1131 ?_
  refine va_sld hx hb hX hbl hbA hS hi1 dL_law_1132 ?_
  refine lz_callM (as := [.int (xs (x4 + 1).toNatClampNeg)]) (rest := [.int (gX11_claim μ (xs (x4 + 1).toNatClampNeg))]) C0 hm hI2 hS dL_law_1133 kvL_153 kmX12_claim (d2 := 2) (by decide) rfl hν (by omega) rfl rfl rfl (fs_c trivial (fun _ h => by cases h)) (Nat.le_of_ble_eq_true rfl) (Nat.le_of_ble_eq_true rfl) hL.1 (mc2 := 0) (ms2 := 0) ⟨by omega, by omega⟩ (wX12_claim (μ := ν) hν (xs (x4 + 1).toNatClampNeg) hpM) ?_
  rintro v ν' am' H2 locs2 ⟨hv1, hv2⟩ - hm2 hI3 hS3
  rw [hv1]
  rw [hv2] at hI3
  have f0 : am' 0 = am 0 := hm2 0 (Or.inl (by omega))
  show W p l e room_1 s m #[Value.ref b] below meth c H2 locs2 (cells + 0) (slots + 0) _ (F0 m 1136 ls [.int (gX12_claim ν (xs (x4 + 1).toNatClampNeg)), .int (gX11_claim μ (xs (x4 + 1).toNatClampNeg))])
  refine W.widen (k := cells + 40) (n := slots + 3000) (by omega) (by omega) ?_
  refine lv_icmp_eq (tgt := 1521) hx hb dL_law_1136 rfl (fun _ => ?_) (fun hq => absurd hg hq)
  exact K0 ls ad' am' _ _ o H2 locs2 (by rw [e0, f0]; exact hL) (fun k hk => (ha2 k (Or.inr hk)).trans (ha k hk)) (fun k hk => (hm2 k (Or.inr hk)).trans (hm k hk)) hRR hI3 hS3
set_option maxHeartbeats 4000000 in
set_option maxRecDepth 20000 in
theorem lc_34 (hl : l.stackTraces = false) (hO : ob_all RR) (C0 : lz_C p s m meth c b L xs D cy ad0) (hR : RR μ ν) (ha : ∀ k, 4000 ≤ k → ad k = ad0 k) (hm : ∀ k, 4000 ≤ k → am k = ad0 k) (hI : lz_I (fun q => s.heap.size ≤ q) D cy ad am ao μ ν o H) (hS : va_S (fun q => s.heap.size ≤ q) s.heap H locs) (hL : lv_has ls 7 [(0, .ref b), (1, .ref (ad 0)), (2, .ref (am 0)), (3, .ref ao), (4, .int x4)]) (hin : ∀ j : Nat, j < 7 → vp_in (x4 + nI j) L) (hcs : cells + 40 ≤ 601024 ∧ slots + 3000 ≤ 7293034)
    (K0 : lz_K p l e s m below meth c b D cy ad0 ao x4 RR (cells + 40) (slots + 3000)) : W p l e room_1 s m #[Value.ref b] below meth c H locs cells slots (lw_Z below #[Value.ref b] s) (F0 m 1309 ls []) := by
  obtain ⟨hx, hb, hr, hml, hown, hts, hX, hbl, hlocks, hgv⟩ := C0.1
  have hbA : ¬ (fun q : Nat => s.heap.size ≤ q) b := Nat.not_le.mpr hbl
  obtain ⟨⟨r0, r1, hz⟩, hν, hn34⟩ := hO.1 μ ν hR
  have hμ := hz.1
  have h89 : 89 ≤ μ.1 := lz_r89 hz
  obtain ⟨hpC, hpM, hg, hRR⟩ := hO.2.2.2.2.2.2.2.2.2.2.2.2.2.2.2.2.2.2.2.2.2.2.2.2.2.2.2.2.2.2.2.2.2.2.2.1 μ ν hR
  refine lv_aload_n hx hb dL_law_1309 rfl (lv_at hL 1 rfl) ?_
  refine lz_callC (as := []) (rest := []) C0 ha hI hS dL_law_1310 kvL_174 kmX11_broken (d2 := 3) (by decide) rfl hμ (by omega) rfl rfl rfl (fun _ h => by cases h) (Nat.le_of_ble_eq_true rfl) (Nat.le_of_ble_eq_true rfl) hL.1 (mc2 := 0) (ms2 := 0) ⟨by omega, by omega⟩ (wX11_broken (μ := μ) hμ hpC) ?_
  rintro v μ' ad' H' locs' ⟨hv1, hv2⟩ - ha2 hI2 hS2
  rw [hv1]
  rw [hv2] at hI2
  have e0 : ad' 0 = ad 0 := ha2 0 (Or.inl (by omega))
  show W p l e room_1 s m #[Value.ref b] below meth c H' locs' (cells + 0) (slots + 0) _ (F0 m 1313 ls [.int (gX11_broken μ)])
  have hS := hS2
  refine lv_aload_n hx hb dL_law_1313 rfl (lv_at hL 2 rfl) ?_
  refine lz_callM (as := []) (rest := [.int (gX11_broken μ)]) C0 hm hI2 hS dL_law_1314 kvL_177 kmX12_broken (d2 := 2) (by decide) rfl hν (by omega) rfl rfl rfl (fun _ h => by cases h) (Nat.le_of_ble_eq_true rfl) (Nat.le_of_ble_eq_true rfl) hL.1 (mc2 := 0) (ms2 := 0) ⟨by omega, by omega⟩ (wX12_broken (μ := ν) hν hpM) ?_
  rintro v ν' am' H2 locs2 ⟨hv1, hv2⟩ - hm2 hI3 hS3
  rw [hv1]
  rw [hv2] at hI3
  have f0 : am' 0 = am 0 := hm2 0 (Or.inl (by omega))
  show W p l e room_1 s m #[Value.ref b] below meth c H2 locs2 (cells + 0) (slots + 0) _ (F0 m 1317 ls [.int (gX12_broken ν), .int (gX11_broken μ)])
  refine W.widen (k := cells + 40) (n := slots + 3000) (by omega) (by omega) ?_
  refine lv_icmp_eq (tgt := 1521) hx hb dL_law_1317 rfl (fun _ => ?_) (fun hq => absurd hg hq)
  exact K0 ls ad' am' _ _ o H2 locs2 (by rw [e0, f0]; exact hL) (fun k hk => (ha2 k (Or.inr hk)).trans (ha k hk)) (fun k hk => (hm2 k (Or.inr hk)).trans (hm k hk)) hRR hI3 hS3
set_option maxHeartbeats 4000000 in
set_option maxRecDepth 20000 in
theorem lc_40 (hl : l.stackTraces = false) (hO : ob_all RR) (C0 : lz_C p s m meth c b L xs D cy ad0) (hR : RR μ ν) (ha : ∀ k, 4000 ≤ k → ad k = ad0 k) (hm : ∀ k, 4000 ≤ k → am k = ad0 k) (hI : lz_I (fun q => s.heap.size ≤ q) D cy ad am ao μ ν o H) (hS : va_S (fun q => s.heap.size ≤ q) s.heap H locs) (hL : lv_has ls 7 [(0, .ref b), (1, .ref (ad 0)), (2, .ref (am 0)), (3, .ref ao), (4, .int x4)]) (hin : ∀ j : Nat, j < 7 → vp_in (x4 + nI j) L) (hcs : cells + 40 ≤ 601024 ∧ slots + 3000 ≤ 7293034)
    (K0 : lz_K p l e s m below meth c b D cy ad0 ao x4 RR (cells + 40) (slots + 3000)) : W p l e room_1 s m #[Value.ref b] below meth c H locs cells slots (lw_Z below #[Value.ref b] s) (F0 m 1471 ls []) := by
  obtain ⟨hx, hb, hr, hml, hown, hts, hX, hbl, hlocks, hgv⟩ := C0.1
  have hbA : ¬ (fun q : Nat => s.heap.size ≤ q) b := Nat.not_le.mpr hbl
  obtain ⟨⟨r0, r1, hz⟩, hν, hn34⟩ := hO.1 μ ν hR
  have hμ := hz.1
  have h89 : 89 ≤ μ.1 := lz_r89 hz
  have hi1 : vp_in (x4 + 1) L := hin 1 (by decide)
  obtain ⟨hpM, hg, hRR⟩ := hO.2.2.2.2.2.2.2.2.2.2.2.2.2.2.2.2.2.2.2.2.2.2.2.2.2.2.2.2.2.2.2.2.2.2.2.2.2.2.2.2.2.1 μ ν (xs (x4 + 1).toNatClampNeg) r0 r1 hz hR
  refine lv_aload_n hx hb dL_law_1471 rfl (lv_at hL 1 rfl) ?_
  refine lv_aload_n hx hb dL_law_1472 rfl (lv_at hL 0 rfl) ?_
  refine lv_iload hx hb dL_law_1473 (lv_at hL 4 rfl) ?_
  refine lv_iconst (v := 1) hx hb dL_law_1475 rfl ?_
  refine lv_iadd hx hb dL_law_1476 ?_
  refine va_sld hx hb hX hbl hbA hS hi1 dL_law_1477 ?_
  refine lz_callC (as := [.int (xs (x4 + 1).toNatClampNeg)]) (rest := []) C0 ha hI hS dL_law_1478 kvL_198 kmX11_restore (d2 := 4) (by decide) rfl hμ (by omega) rfl rfl rfl (fs_c trivial (fun _ h => by cases h)) (Nat.le_of_ble_eq_true rfl) (Nat.le_of_ble_eq_true rfl) hL.1 (mc2 := 0) (ms2 := 0) ⟨by omega, by omega⟩ (wX11_restore hz (xs (x4 + 1).toNatClampNeg)) ?_
  rintro v μ' ad' H' locs' ⟨hv1, hv2⟩ - ha2 hI2 hS2
  rw [hv1]
  rw [hv2] at hI2
  have e0 : ad' 0 = ad 0 := ha2 0 (Or.inl (by omega))
  show W p l e room_1 s m #[Value.ref b] below meth c H' locs' (cells + 0) (slots + 0) _ (F0 m 1481 ls [.int (gX11_restore r0 r1 (xs (x4 + 1).toNatClampNeg))])
  have hS := hS2
  refine lv_aload_n hx hb dL_law_1481 rfl (lv_at hL 2 rfl) ?_
  refine lv_aload_n hx hb dL_law_1482 rfl (lv_at hL 0 rfl) ?_
  refine lv_iload hx hb dL_law_1483 (lv_at hL 4 rfl) ?_
  refine lv_iconst (v := 1) hx hb dL_law_1485 rfl ?_
  refine lv_iadd hx hb dL_law_1486 ?_
  refine va_sld hx hb hX hbl hbA hS hi1 dL_law_1487 ?_
  refine lz_callM (as := [.int (xs (x4 + 1).toNatClampNeg)]) (rest := [.int (gX11_restore r0 r1 (xs (x4 + 1).toNatClampNeg))]) C0 hm hI2 hS dL_law_1488 kvL_201 kmX12_restore (d2 := 2) (by decide) rfl hν (by omega) rfl rfl rfl (fs_c trivial (fun _ h => by cases h)) (Nat.le_of_ble_eq_true rfl) (Nat.le_of_ble_eq_true rfl) hL.1 (mc2 := 0) (ms2 := 0) ⟨by omega, by omega⟩ (wX12_restore (μ := ν) hν (xs (x4 + 1).toNatClampNeg) hpM) ?_
  rintro v ν' am' H2 locs2 ⟨hv1, hv2⟩ - hm2 hI3 hS3
  rw [hv1]
  rw [hv2] at hI3
  have f0 : am' 0 = am 0 := hm2 0 (Or.inl (by omega))
  show W p l e room_1 s m #[Value.ref b] below meth c H2 locs2 (cells + 0) (slots + 0) _ (F0 m 1491 ls [.int (gX12_restore ν (xs (x4 + 1).toNatClampNeg)), .int (gX11_restore r0 r1 (xs (x4 + 1).toNatClampNeg))])
  refine W.widen (k := cells + 40) (n := slots + 3000) (by omega) (by omega) ?_
  refine lv_icmp_eq (tgt := 1521) hx hb dL_law_1491 rfl (fun _ => ?_) (fun hq => absurd hg hq)
  exact K0 ls ad' am' _ _ o H2 locs2 (by rw [e0, f0]; exact hL) (fun k hk => (ha2 k (Or.inr hk)).trans (ha k hk)) (fun k hk => (hm2 k (Or.inr hk)).trans (hm k hk)) hRR hI3 hS3
end LCASES
