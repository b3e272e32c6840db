section LCASES
variable {p : Program} {l : Launch} {e : Env} {s : State} {m : MethodId} {below : List Frame} {meth : Method} {c : Code} {H : Heap} {locs : List Loc} {cells slots : Nat}
variable {b L : Nat} {xs : Nat → Int32} {D : va_G} {cy : Nat → ClassId} {ad am ad0 : Nat → Nat} {ao : Nat} {o : Nat → Int64} {μ ν : fm_T} {ls : Array Slot} {x4 : Int32} {RR : fm_T → fm_T → Prop}
set_option maxHeartbeats 4000000 in
set_option maxRecDepth 20000 in
theorem lc_3 (hl : l.stackTraces = false) (hO : ob_all RR) (C0 : lz_C p s m meth c b L xs D cy ad0) (hR : RR μ ν) (ha : ∀ k, 4000 ≤ k → ad k = ad0 k) (hm : ∀ k, 4000 ≤ k → am k = ad0 k) (hI : lz_I (fun q => s.heap.size ≤ q) D cy ad am ao μ ν o H) (hS : va_S (fun q => s.heap.size ≤ q) s.heap H locs) (hL : lv_has ls 7 [(0, .ref b), (1, .ref (ad 0)), (2, .ref (am 0)), (3, .ref ao), (4, .int x4)]) (hin : ∀ j : Nat, j < 7 → vp_in (x4 + nI j) L) (hcs : cells + 40 ≤ 601024 ∧ slots + 3000 ≤ 7293034)
    (K0 : lz_K p l e s m below meth c b D cy ad0 ao x4 RR (cells + 40) (slots + 3000)) : W p l e room_1 s m #[Value.ref b] below meth c H locs cells slots (lw_Z below #[Value.ref b] s) (F0 m 335 ls []) := by
  obtain ⟨hx, hb, hr, hml, hown, hts, hX, hbl, hlocks, hgv⟩ := C0.1
  have hbA : ¬ (fun q : Nat => s.heap.size ≤ q) b := Nat.not_le.mpr hbl
  obtain ⟨⟨r0, r1, hz⟩, hν, hn34⟩ := hO.1 μ ν hR
  have hμ := hz.1
  have h89 : 89 ≤ μ.1 := lz_r89 hz
  obtain ⟨hpC, hpM, hg, hRR⟩ := hO.2.2.2.2.1 μ ν hR
  refine lv_aload_n hx hb dL_law_335 rfl (lv_at hL 1 rfl) ?_
  refine lz_callC (as := []) (rest := []) C0 ha hI hS dL_law_336 kvL_38 kmX11_fault (d2 := 0) (by decide) rfl hμ (by omega) rfl rfl rfl (fun _ h => by cases h) (Nat.le_of_ble_eq_true rfl) (Nat.le_of_ble_eq_true rfl) hL.1 (mc2 := 0) (ms2 := 0) ⟨by omega, by omega⟩ (wX11_fault (μ := μ) hμ) ?_
  rintro v μ' ad' H' locs' ⟨hv1, hv2⟩ - ha2 hI2 hS2
  rw [hv1]
  rw [hv2] at hI2
  have e0 : ad' 0 = ad 0 := ha2 0 (Or.inl (by omega))
  show W p l e room_1 s m #[Value.ref b] below meth c H' locs' (cells + 0) (slots + 0) _ (F0 m 339 ls [.int (gX11_fault μ)])
  have hS := hS2
  refine lv_aload_n hx hb dL_law_339 rfl (lv_at hL 2 rfl) ?_
  refine lz_callM (as := []) (rest := [.int (gX11_fault μ)]) C0 hm hI2 hS dL_law_340 kvL_41 kmX12_fault (d2 := 0) (by decide) rfl hν (by omega) rfl rfl rfl (fun _ h => by cases h) (Nat.le_of_ble_eq_true rfl) (Nat.le_of_ble_eq_true rfl) hL.1 (mc2 := 0) (ms2 := 0) ⟨by omega, by omega⟩ (wX12_fault (μ := ν) hν) ?_
  rintro v ν' am' H2 locs2 ⟨hv1, hv2⟩ - hm2 hI3 hS3
  rw [hv1]
  rw [hv2] at hI3
  have f0 : am' 0 = am 0 := hm2 0 (Or.inl (by omega))
  show W p l e room_1 s m #[Value.ref b] below meth c H2 locs2 (cells + 0) (slots + 0) _ (F0 m 343 ls [.int (gX12_fault ν), .int (gX11_fault μ)])
  refine W.widen (k := cells + 40) (n := slots + 3000) (by omega) (by omega) ?_
  refine lv_icmp_eq (tgt := 1521) hx hb dL_law_343 rfl (fun _ => ?_) (fun hq => absurd hg hq)
  exact K0 ls ad' am' _ _ o H2 locs2 (by rw [e0, f0]; exact hL) (fun k hk => (ha2 k (Or.inr hk)).trans (ha k hk)) (fun k hk => (hm2 k (Or.inr hk)).trans (hm k hk)) hRR hI3 hS3
set_option maxHeartbeats 4000000 in
set_option maxRecDepth 20000 in
theorem lc_9 (hl : l.stackTraces = false) (hO : ob_all RR) (C0 : lz_C p s m meth c b L xs D cy ad0) (hR : RR μ ν) (ha : ∀ k, 4000 ≤ k → ad k = ad0 k) (hm : ∀ k, 4000 ≤ k → am k = ad0 k) (hI : lz_I (fun q => s.heap.size ≤ q) D cy ad am ao μ ν o H) (hS : va_S (fun q => s.heap.size ≤ q) s.heap H locs) (hL : lv_has ls 7 [(0, .ref b), (1, .ref (ad 0)), (2, .ref (am 0)), (3, .ref ao), (4, .int x4)]) (hin : ∀ j : Nat, j < 7 → vp_in (x4 + nI j) L) (hcs : cells + 40 ≤ 601024 ∧ slots + 3000 ≤ 7293034)
    (K0 : lz_K p l e s m below meth c b D cy ad0 ao x4 RR (cells + 40) (slots + 3000)) : W p l e room_1 s m #[Value.ref b] below meth c H locs cells slots (lw_Z below #[Value.ref b] s) (F0 m 626 ls []) := by
  obtain ⟨hx, hb, hr, hml, hown, hts, hX, hbl, hlocks, hgv⟩ := C0.1
  have hbA : ¬ (fun q : Nat => s.heap.size ≤ q) b := Nat.not_le.mpr hbl
  obtain ⟨⟨r0, r1, hz⟩, hν, hn34⟩ := hO.1 μ ν hR
  have hμ := hz.1
  have h89 : 89 ≤ μ.1 := lz_r89 hz
  have hi1 : vp_in (x4 + 1) L := hin 1 (by decide)
  obtain ⟨hpC, hpM, hg, hRR⟩ := hO.2.2.2.2.2.2.2.2.2.2.1 μ ν (xs (x4 + 1).toNatClampNeg) hR
  refine lv_aload_n hx hb dL_law_626 rfl (lv_at hL 1 rfl) ?_
  refine lv_aload_n hx hb dL_law_627 rfl (lv_at hL 0 rfl) ?_
  refine lv_iload hx hb dL_law_628 (lv_at hL 4 rfl) ?_
  refine lv_iconst (v := 1) hx hb dL_law_630 rfl ?_
  refine lv_iadd hx hb dL_law_631 ?_
  refine va_sld hx hb hX hbl hbA hS hi1 dL_law_632 ?_
  refine lz_callC (as := [.int (xs (x4 + 1).toNatClampNeg)]) (rest := []) C0 ha hI hS dL_law_633 kvL_69 kmX11_open (d2 := 4) (by decide) rfl hμ (by omega) rfl rfl rfl (fs_c trivial (fun _ h => by cases h)) (Nat.le_of_ble_eq_true rfl) (Nat.le_of_ble_eq_true rfl) hL.1 (mc2 := 0) (ms2 := 0) ⟨by omega, by omega⟩ (wX11_open (μ := μ) hμ (xs (x4 + 1).toNatClampNeg) hpC) ?_
  rintro v μ' ad' H' locs' ⟨hv1, hv2⟩ - ha2 hI2 hS2
  rw [hv1]
  rw [hv2] at hI2
  have e0 : ad' 0 = ad 0 := ha2 0 (Or.inl (by omega))
  show W p l e room_1 s m #[Value.ref b] below meth c H' locs' (cells + 0) (slots + 0) _ (F0 m 636 ls [.int (gX11_open μ (xs (x4 + 1).toNatClampNeg))])
  have hS := hS2
  refine lv_aload_n hx hb dL_law_636 rfl (lv_at hL 2 rfl) ?_
  refine lv_aload_n hx hb dL_law_637 rfl (lv_at hL 0 rfl) ?_
  refine lv_iload hx hb dL_law_638 (lv_at hL 4 rfl) ?_
  refine lv_iconst (v := 1) hx hb dL_law_640 rfl ?_
  refine lv_iadd hx hb dL_law_641 ?_
  refine va_sld hx hb hX hbl hbA hS hi1 dL_law_642 ?_
  refine lz_callM (as := [.int (xs (x4 + 1).toNatClampNeg)]) (rest := [.int (gX11_open μ (xs (x4 + 1).toNatClampNeg))]) C0 hm hI2 hS dL_law_643 kvL_72 kmX12_open (d2 := 2) (by decide) rfl hν (by omega) rfl rfl rfl (fs_c trivial (fun _ h => by cases h)) (Nat.le_of_ble_eq_true rfl) (Nat.le_of_ble_eq_true rfl) hL.1 (mc2 := 0) (ms2 := 0) ⟨by omega, by omega⟩ (wX12_open (μ := ν) hν (xs (x4 + 1).toNatClampNeg) hpM) ?_
  rintro v ν' am' H2 locs2 ⟨hv1, hv2⟩ - hm2 hI3 hS3
  rw [hv1]
  rw [hv2] at hI3
  have f0 : am' 0 = am 0 := hm2 0 (Or.inl (by omega))
  show W p l e room_1 s m #[Value.ref b] below meth c H2 locs2 (cells + 0) (slots + 0) _ (F0 m 646 ls [.int (gX12_open ν (xs (x4 + 1).toNatClampNeg)), .int (gX11_open μ (xs (x4 + 1).toNatClampNeg))])
  refine W.widen (k := cells + 40) (n := slots + 3000) (by omega) (by omega) ?_
  refine lv_icmp_eq (tgt := 1521) hx hb dL_law_646 rfl (fun _ => ?_) (fun hq => absurd hg hq)
  exact K0 ls ad' am' _ _ o H2 locs2 (by rw [e0, f0]; exact hL) (fun k hk => (ha2 k (Or.inr hk)).trans (ha k hk)) (fun k hk => (hm2 k (Or.inr hk)).trans (hm k hk)) hRR hI3 hS3
set_option maxHeartbeats 4000000 in
set_option maxRecDepth 20000 in
theorem lc_15 (hl : l.stackTraces = false) (hO : ob_all RR) (C0 : lz_C p s m meth c b L xs D cy ad0) (hR : RR μ ν) (ha : ∀ k, 4000 ≤ k → ad k = ad0 k) (hm : ∀ k, 4000 ≤ k → am k = ad0 k) (hI : lz_I (fun q => s.heap.size ≤ q) D cy ad am ao μ ν o H) (hS : va_S (fun q => s.heap.size ≤ q) s.heap H locs) (hL : lv_has ls 7 [(0, .ref b), (1, .ref (ad 0)), (2, .ref (am 0)), (3, .ref ao), (4, .int x4)]) (hin : ∀ j : Nat, j < 7 → vp_in (x4 + nI j) L) (hcs : cells + 40 ≤ 601024 ∧ slots + 3000 ≤ 7293034)
    (K0 : lz_K p l e s m below meth c b D cy ad0 ao x4 RR (cells + 40) (slots + 3000)) : W p l e room_1 s m #[Value.ref b] below meth c H locs cells slots (lw_Z below #[Value.ref b] s) (F0 m 742 ls []) := by
  obtain ⟨hx, hb, hr, hml, hown, hts, hX, hbl, hlocks, hgv⟩ := C0.1
  have hbA : ¬ (fun q : Nat => s.heap.size ≤ q) b := Nat.not_le.mpr hbl
  obtain ⟨⟨r0, r1, hz⟩, hν, hn34⟩ := hO.1 μ ν hR
  have hμ := hz.1
  have h89 : 89 ≤ μ.1 := lz_r89 hz
  have hi1 : vp_in (x4 + 1) L := hin 1 (by decide)
  obtain ⟨hpC, hpM, hg, hRR⟩ := hO.2.2.2.2.2.2.2.2.2.2.2.2.2.2.2.2.1 μ ν (xs (x4 + 1).toNatClampNeg) hR
  refine lv_aload_n hx hb dL_law_742 rfl (lv_at hL 1 rfl) ?_
  refine lv_aload_n hx hb dL_law_743 rfl (lv_at hL 0 rfl) ?_
  refine lv_iload hx hb dL_law_744 (lv_at hL 4 rfl) ?_
  refine lv_iconst (v := 1) hx hb dL_law_746 rfl ?_
  refine lv_iadd hx hb dL_law_747 ?_
  refine va_sld hx hb hX hbl hbA hS hi1 dL_law_748 ?_
  refine lz_callC (as := [.int (xs (x4 + 1).toNatClampNeg)]) (rest := []) C0 ha hI hS dL_law_749 kvL_95 kmX11_bestAt (d2 := 1) (by decide) rfl hμ (by omega) rfl rfl rfl (fs_c trivial (fun _ h => by cases h)) (Nat.le_of_ble_eq_true rfl) (Nat.le_of_ble_eq_true rfl) hL.1 (mc2 := 0) (ms2 := 0) ⟨by omega, by omega⟩ (wX11_bestAt (μ := μ) hμ (xs (x4 + 1).toNatClampNeg) hpC) ?_
  rintro v μ' ad' H' locs' ⟨hv1, hv2⟩ - ha2 hI2 hS2
  rw [hv1]
  rw [hv2] at hI2
  have e0 : ad' 0 = ad 0 := ha2 0 (Or.inl (by omega))
  show W p l e room_1 s m #[Value.ref b] below meth c H' locs' (cells + 0) (slots + 0) _ (F0 m 752 ls [.int (gX11_bestAt μ (xs (x4 + 1).toNatClampNeg))])
  have hS := hS2
  refine lv_aload_n hx hb dL_law_752 rfl (lv_at hL 2 rfl) ?_
  refine lv_aload_n hx hb dL_law_753 rfl (lv_at hL 0 rfl) ?_
  refine lv_iload hx hb dL_law_754 (lv_at hL 4 rfl) ?_
  refine lv_iconst (v := 1) hx hb dL_law_756 rfl ?_
  refine lv_iadd hx hb dL_law_757 ?_
  refine va_sld hx hb hX hbl hbA hS hi1 dL_law_758 ?_
  refine lz_callM (as := [.int (xs (x4 + 1).toNatClampNeg)]) (rest := [.int (gX11_bestAt μ (xs (x4 + 1).toNatClampNeg))]) C0 hm hI2 hS dL_law_759 kvL_98 kmX12_bestAt (d2 := 0) (by decide) rfl hν (by omega) rfl rfl rfl (fs_c trivial (fun _ h => by cases h)) (Nat.le_of_ble_eq_true rfl) (Nat.le_of_ble_eq_true rfl) hL.1 (mc2 := 0) (ms2 := 0) ⟨by omega, by omega⟩ (wX12_bestAt (μ := ν) hν (xs (x4 + 1).toNatClampNeg) hpM) ?_
  rintro v ν' am' H2 locs2 ⟨hv1, hv2⟩ - hm2 hI3 hS3
  rw [hv1]
  rw [hv2] at hI3
  have f0 : am' 0 = am 0 := hm2 0 (Or.inl (by omega))
  show W p l e room_1 s m #[Value.ref b] below meth c H2 locs2 (cells + 0) (slots + 0) _ (F0 m 762 ls [.int (gX12_bestAt ν (xs (x4 + 1).toNatClampNeg)), .int (gX11_bestAt μ (xs (x4 + 1).toNatClampNeg))])
  refine W.widen (k := cells + 40) (n := slots + 3000) (by omega) (by omega) ?_
  refine lv_icmp_eq (tgt := 1521) hx hb dL_law_762 rfl (fun _ => ?_) (fun hq => absurd hg hq)
  exact K0 ls ad' am' _ _ o H2 locs2 (by rw [e0, f0]; exact hL) (fun k hk => (ha2 k (Or.inr hk)).trans (ha k hk)) (fun k hk => (hm2 k (Or.inr hk)).trans (hm k hk)) hRR hI3 hS3
set_option maxHeartbeats 4000000 in
set_option maxRecDepth 20000 in
theorem lc_21 (hl : l.stackTraces = false) (hO : ob_all RR) (C0 : lz_C p s m meth c b L xs D cy ad0) (hR : RR μ ν) (ha : ∀ k, 4000 ≤ k → ad k = ad0 k) (hm : ∀ k, 4000 ≤ k → am k = ad0 k) (hI : lz_I (fun q => s.heap.size ≤ q) D cy ad am ao μ ν o H) (hS : va_S (fun q => s.heap.size ≤ q) s.heap H locs) (hL : lv_has ls 7 [(0, .ref b), (1, .ref (ad 0)), (2, .ref (am 0)), (3, .ref ao), (4, .int x4)]) (hin : ∀ j : Nat, j < 7 → vp_in (x4 + nI j) L) (hcs : cells + 40 ≤ 601024 ∧ slots + 3000 ≤ 7293034)
    (K0 : lz_K p l e s m below meth c b D cy ad0 ao x4 RR (cells + 40) (slots + 3000)) : W p l e room_1 s m #[Value.ref b] below meth c H locs cells slots (lw_Z below #[Value.ref b] s) (F0 m 917 ls []) := by
  obtain ⟨hx, hb, hr, hml, hown, hts, hX, hbl, hlocks, hgv⟩ := C0.1
  have hbA : ¬ (fun q : Nat => s.heap.size ≤ q) b := Nat.not_le.mpr hbl
  obtain ⟨⟨r0, r1, hz⟩, hν, hn34⟩ := hO.1 μ ν hR
  have hμ := hz.1
  have h89 : 89 ≤ μ.1 := lz_r89 hz
  have hi1 : vp_in (x4 + 1) L := hin 1 (by decide)
  have hi2 : vp_in (x4 + 2) L := hin 2 (by decide)
  obtain ⟨hpC, hpM, hg, hRR⟩ := hO.2.2.2.2.2.2.2.2.2.2.2.2.2.2.2.2.2.2.2.2.2.2.1 μ ν (xs (x4 + 1).toNatClampNeg) (xs (x4 + 2).toNatClampNeg) hR
  refine lv_aload_n hx hb dL_law_917 rfl (lv_at hL 1 rfl) ?_
  refine lv_aload_n hx hb dL_law_918 rfl (lv_at hL 0 rfl) ?_
  refine lv_iload hx hb dL_law_919 (lv_at hL 4 rfl) ?_
  refine lv_iconst (v := 1) hx hb dL_law_921 rfl ?_
  refine lv_iadd hx hb dL_law_922 ?_
  refine va_sld hx hb hX hbl hbA hS hi1 dL_law_923 ?_
  refine lv_aload_n hx hb dL_law_924 rfl (lv_at hL 0 rfl) ?_
  refine lv_iload hx hb dL_law_925 (lv_at hL 4 rfl) ?_
  refine lv_iconst (v := 2) hx hb dL_law_927 rfl ?_
  refine lv_iadd hx hb dL_law_928 ?_
  refine va_sld hx hb hX hbl hbA hS hi2 dL_law_929 ?_
  refine lz_callC (as := [.int (xs (x4 + 1).toNatClampNeg), .int (xs (x4 + 2).toNatClampNeg)]) (rest := []) C0 ha hI hS dL_law_930 kvL_121 kmX11_drum (d2 := 1) (by decide) rfl hμ (by omega) rfl rfl rfl (fs_c trivial (fs_c trivial (fun _ h => by cases h))) (Nat.le_of_ble_eq_true rfl) (Nat.le_of_ble_eq_true rfl) hL.1 (mc2 := 0) (ms2 := 0) ⟨by omega, by omega⟩ (wX11_drum (μ := μ) hμ (xs (x4 + 1).toNatClampNeg) (xs (x4 + 2).toNatClampNeg) hpC) ?_
  rintro v μ' ad' H' locs' ⟨hv1, hv2⟩ - ha2 hI2 hS2
  rw [hv1]
  rw [hv2] at hI2
  have e0 : ad' 0 = ad 0 := ha2 0 (Or.inl (by omega))
  show W p l e room_1 s m #[Value.ref b] below meth c H' locs' (cells + 0) (slots + 0) _ (F0 m 933 ls [.int (gX11_drum μ (xs (x4 + 1).toNatClampNeg) (xs (x4 + 2).toNatClampNeg))])
  have hS := hS2
  refine lv_aload_n hx hb dL_law_933 rfl (lv_at hL 2 rfl) ?_
  refine lv_aload_n hx hb dL_law_934 rfl (lv_at hL 0 rfl) ?_
  refine lv_iload hx hb dL_law_935 (lv_at hL 4 rfl) ?_
  refine lv_iconst (v := 1) hx hb dL_law_937 rfl ?_
  refine lv_iadd hx hb dL_law_938 ?_
  refine va_sld hx hb hX hbl hbA hS hi1 dL_law_939 ?_
  refine lv_aload_n hx hb dL_law_940 rfl (lv_at hL 0 rfl) ?_
  refine lv_iload hx hb dL_law_941 (lv_at hL 4 rfl) ?_
  refine lv_iconst (v := 2) hx hb dL_law_943 rfl ?_
  refine lv_iadd hx hb dL_law_944 ?_
  refine va_sld hx hb hX hbl hbA hS hi2 dL_law_945 ?_
  refine lz_callM (as := [.int (xs (x4 + 1).toNatClampNeg), .int (xs (x4 + 2).toNatClampNeg)]) (rest := [.int (gX11_drum μ (xs (x4 + 1).toNatClampNeg) (xs (x4 + 2).toNatClampNeg))]) C0 hm hI2 hS dL_law_946 kvL_125 kmX12_drum (d2 := 2) (by decide) rfl hν (by omega) rfl rfl rfl (fs_c trivial (fs_c trivial (fun _ h => by cases h))) (Nat.le_of_ble_eq_true rfl) (Nat.le_of_ble_eq_true rfl) hL.1 (mc2 := 0) (ms2 := 0) ⟨by omega, by omega⟩ (wX12_drum (μ := ν) hν (xs (x4 + 1).toNatClampNeg) (xs (x4 + 2).toNatClampNeg) hpM) ?_
  rintro v ν' am' H2 locs2 ⟨hv1, hv2⟩ - hm2 hI3 hS3
  rw [hv1]
  rw [hv2] at hI3
  have f0 : am' 0 = am 0 := hm2 0 (Or.inl (by omega))
  show W p l e room_1 s m #[Value.ref b] below meth c H2 locs2 (cells + 0) (slots + 0) _ (F0 m 949 ls [.int (gX12_drum ν (xs (x4 + 1).toNatClampNeg) (xs (x4 + 2).toNatClampNeg)), .int (gX11_drum μ (xs (x4 + 1).toNatClampNeg) (xs (x4 + 2).toNatClampNeg))])
  refine W.widen (k := cells + 40) (n := slots + 3000) (by omega) (by omega) ?_
  refine lv_icmp_eq (tgt := 1521) hx hb dL_law_949 rfl (fun _ => ?_) (fun hq => absurd hg hq)
  exact K0 ls ad' am' _ _ o H2 locs2 (by rw [e0, f0]; exact hL) (fun k hk => (ha2 k (Or.inr hk)).trans (ha k hk)) (fun k hk => (hm2 k (Or.inr hk)).trans (hm k hk)) hRR hI3 hS3
set_option maxHeartbeats 4000000 in
set_option maxRecDepth 20000 in
theorem lc_27 (hl : l.stackTraces = false) (hO : ob_all RR) (C0 : lz_C p s m meth c b L xs D cy ad0) (hR : RR μ ν) (ha : ∀ k, 4000 ≤ k → ad k = ad0 k) (hm : ∀ k, 4000 ≤ k → am k = ad0 k) (hI : lz_I (fun q => s.heap.size ≤ q) D cy ad am ao μ ν o H) (hS : va_S (fun q => s.heap.size ≤ q) s.heap H locs) (hL : lv_has ls 7 [(0, .ref b), (1, .ref (ad 0)), (2, .ref (am 0)), (3, .ref ao), (4, .int x4)]) (hin : ∀ j : Nat, j < 7 → vp_in (x4 + nI j) L) (hcs : cells + 40 ≤ 601024 ∧ slots + 3000 ≤ 7293034)
    (K0 : lz_K p l e s m below meth c b D cy ad0 ao x4 RR (cells + 40) (slots + 3000)) : W p l e room_1 s m #[Value.ref b] below meth c H locs cells slots (lw_Z below #[Value.ref b] s) (F0 m 1079 ls []) := by
  obtain ⟨hx, hb, hr, hml, hown, hts, hX, hbl, hlocks, hgv⟩ := C0.1
  have hbA : ¬ (fun q : Nat => s.heap.size ≤ q) b := Nat.not_le.mpr hbl
  obtain ⟨⟨r0, r1, hz⟩, hν, hn34⟩ := hO.1 μ ν hR
  have hμ := hz.1
  have h89 : 89 ≤ μ.1 := lz_r89 hz
  have hi1 : vp_in (x4 + 1) L := hin 1 (by decide)
  have hi2 : vp_in (x4 + 2) L := hin 2 (by decide)
  obtain ⟨hpC, hpM, hg, hRR⟩ := hO.2.2.2.2.2.2.2.2.2.2.2.2.2.2.2.2.2.2.2.2.2.2.2.2.2.2.2.2.1 μ ν (xs (x4 + 1).toNatClampNeg) (xs (x4 + 2).toNatClampNeg) hR
  refine lv_aload_n hx hb dL_law_1079 rfl (lv_at hL 1 rfl) ?_
  refine lv_aload_n hx hb dL_law_1080 rfl (lv_at hL 0 rfl) ?_
  refine lv_iload hx hb dL_law_1081 (lv_at hL 4 rfl) ?_
  refine lv_iconst (v := 1) hx hb dL_law_1083 rfl ?_
  refine lv_iadd hx hb dL_law_1084 ?_
  refine va_sld hx hb hX hbl hbA hS hi1 dL_law_1085 ?_
  refine lv_aload_n hx hb dL_law_1086 rfl (lv_at hL 0 rfl) ?_
  refine lv_iload hx hb dL_law_1087 (lv_at hL 4 rfl) ?_
  refine lv_iconst (v := 2) hx hb dL_law_1089 rfl ?_
  refine lv_iadd hx hb dL_law_1090 ?_
  refine va_sld hx hb hX hbl hbA hS hi2 dL_law_1091 ?_
  refine lz_callC (as := [.int (xs (x4 + 1).toNatClampNeg), .int (xs (x4 + 2).toNatClampNeg)]) (rest := []) C0 ha hI hS dL_law_1092 kvL_146 kmX11_loaded (d2 := 2) (by decide) rfl hμ (by omega) rfl rfl rfl (fs_c trivial (fs_c trivial (fun _ h => by cases h))) (Nat.le_of_ble_eq_true rfl) (Nat.le_of_ble_eq_true rfl) hL.1 (mc2 := 0) (ms2 := 0) ⟨by omega, by omega⟩ (wX11_loaded (μ := μ) hμ (xs (x4 + 1).toNatClampNeg) (xs (x4 + 2).toNatClampNeg) hpC) ?_
  rintro v μ' ad' H' locs' ⟨hv1, hv2⟩ - ha2 hI2 hS2
  rw [hv1]
  rw [hv2] at hI2
  have e0 : ad' 0 = ad 0 := ha2 0 (Or.inl (by omega))
  show W p l e room_1 s m #[Value.ref b] below meth c H' locs' (cells + 0) (slots + 0) _ (F0 m 1095 ls [.int (gX11_loaded μ (xs (x4 + 1).toNatClampNeg) (xs (x4 + 2).toNatClampNeg))])
  have hS := hS2
  refine lv_aload_n hx hb dL_law_1095 rfl (lv_at hL 2 rfl) ?_
  refine lv_aload_n hx hb dL_law_1096 rfl (lv_at hL 0 rfl) ?_
  refine lv_iload hx hb dL_law_1097 (lv_at hL 4 rfl) ?_
  refine lv_iconst (v := 1) hx hb dL_law_1099 rfl ?_
  refine lv_iadd hx hb dL_law_1100 ?_
  refine va_sld hx hb hX hbl hbA hS hi1 dL_law_1101 ?_
  refine lv_aload_n hx hb dL_law_1102 rfl (lv_at hL 0 rfl) ?_
  refine lv_iload hx hb dL_law_1103 (lv_at hL 4 rfl) ?_
  refine lv_iconst (v := 2) hx hb dL_law_1105 rfl ?_
  refine lv_iadd hx hb dL_law_1106 ?_
  refine va_sld hx hb hX hbl hbA hS hi2 dL_law_1107 ?_
  refine lz_callM (as := [.int (xs (x4 + 1).toNatClampNeg), .int (xs (x4 + 2).toNatClampNeg)]) (rest := [.int (gX11_loaded μ (xs (x4 + 1).toNatClampNeg) (xs (x4 + 2).toNatClampNeg))]) C0 hm hI2 hS dL_law_1108 kvL_149 kmX12_loaded (d2 := 2) (by decide) rfl hν (by omega) rfl rfl rfl (fs_c trivial (fs_c trivial (fun _ h => by cases h))) (Nat.le_of_ble_eq_true rfl) (Nat.le_of_ble_eq_true rfl) hL.1 (mc2 := 0) (ms2 := 0) ⟨by omega, by omega⟩ (wX12_loaded (μ := ν) hν (xs (x4 + 1).toNatClampNeg) (xs (x4 + 2).toNatClampNeg) hpM) ?_
  rintro v ν' am' H2 locs2 ⟨hv1, hv2⟩ - hm2 hI3 hS3
  rw [hv1]
  rw [hv2] at hI3
  have f0 : am' 0 = am 0 := hm2 0 (Or.inl (by omega))
  show W p l e room_1 s m #[Value.ref b] below meth c H2 locs2 (cells + 0) (slots + 0) _ (F0 m 1111 ls [.int (gX12_loaded ν (xs (x4 + 1).toNatClampNeg) (xs (x4 + 2).toNatClampNeg)), .int (gX11_loaded μ (xs (x4 + 1).toNatClampNeg) (xs (x4 + 2).toNatClampNeg))])
  refine W.widen (k := cells + 40) (n := slots + 3000) (by omega) (by omega) ?_
  refine lv_icmp_eq (tgt := 1521) hx hb dL_law_1111 rfl (fun _ => ?_) (fun hq => absurd hg hq)
  exact K0 ls ad' am' _ _ o H2 locs2 (by rw [e0, f0]; exact hL) (fun k hk => (ha2 k (Or.inr hk)).trans (ha k hk)) (fun k hk => (hm2 k (Or.inr hk)).trans (hm k hk)) hRR hI3 hS3
set_option maxHeartbeats 4000000 in
set_option maxRecDepth 20000 in
theorem lc_39 (hl : l.stackTraces = false) (hO : ob_all RR) (C0 : lz_C p s m meth c b L xs D cy ad0) (hR : RR μ ν) (ha : ∀ k, 4000 ≤ k → ad k = ad0 k) (hm : ∀ k, 4000 ≤ k → am k = ad0 k) (hI : lz_I (fun q => s.heap.size ≤ q) D cy ad am ao μ ν o H) (hS : va_S (fun q => s.heap.size ≤ q) s.heap H locs) (hL : lv_has ls 7 [(0, .ref b), (1, .ref (ad 0)), (2, .ref (am 0)), (3, .ref ao), (4, .int x4)]) (hin : ∀ j : Nat, j < 7 → vp_in (x4 + nI j) L) (hcs : cells + 40 ≤ 601024 ∧ slots + 3000 ≤ 7293034)
    (K0 : lz_K p l e s m below meth c b D cy ad0 ao x4 RR (cells + 40) (slots + 3000)) : W p l e room_1 s m #[Value.ref b] below meth c H locs cells slots (lw_Z below #[Value.ref b] s) (F0 m 1446 ls []) := by
  obtain ⟨hx, hb, hr, hml, hown, hts, hX, hbl, hlocks, hgv⟩ := C0.1
  have hbA : ¬ (fun q : Nat => s.heap.size ≤ q) b := Nat.not_le.mpr hbl
  obtain ⟨⟨r0, r1, hz⟩, hν, hn34⟩ := hO.1 μ ν hR
  have hμ := hz.1
  have h89 : 89 ≤ μ.1 := lz_r89 hz
  have hi1 : vp_in (x4 + 1) L := hin 1 (by decide)
  obtain ⟨hpM, hg, hRR⟩ := hO.2.2.2.2.2.2.2.2.2.2.2.2.2.2.2.2.2.2.2.2.2.2.2.2.2.2.2.2.2.2.2.2.2.2.2.2.2.2.2.2.1 μ ν (xs (x4 + 1).toNatClampNeg) r0 r1 hz hR
  refine lv_aload_n hx hb dL_law_1446 rfl (lv_at hL 1 rfl) ?_
  refine lv_aload_n hx hb dL_law_1447 rfl (lv_at hL 0 rfl) ?_
  refine lv_iload hx hb dL_law_1448 (lv_at hL 4 rfl) ?_
  refine lv_iconst (v := 1) hx hb dL_law_1450 rfl ?_
  refine lv_iadd hx hb dL_law_1451 ?_
  refine va_sld hx hb hX hbl hbA hS hi1 dL_law_1452 ?_
  refine lz_callC (as := [.int (xs (x4 + 1).toNatClampNeg)]) (rest := []) C0 ha hI hS dL_law_1453 kvL_194 kmX11_image (d2 := 4) (by decide) rfl hμ (by omega) rfl rfl rfl (fs_c trivial (fun _ h => by cases h)) (Nat.le_of_ble_eq_true rfl) (Nat.le_of_ble_eq_true rfl) hL.1 (mc2 := 32) (ms2 := 2662) ⟨by omega, by omega⟩ (wX11_image hz (xs (x4 + 1).toNatClampNeg)) ?_
  rintro v μ' ad' H' locs' ⟨hv1, hv2⟩ - ha2 hI2 hS2
  rw [hv1]
  rw [hv2] at hI2
  have e0 : ad' 0 = ad 0 := ha2 0 (Or.inl (by omega))
  show W p l e room_1 s m #[Value.ref b] below meth c H' locs' (cells + 32) (slots + 2662) _ (F0 m 1456 ls [.int (gX11_image (xs (x4 + 1).toNatClampNeg))])
  have hS := hS2
  refine lv_aload_n hx hb dL_law_1456 rfl (lv_at hL 2 rfl) ?_
  refine lv_aload_n hx hb dL_law_1457 rfl (lv_at hL 0 rfl) ?_
  refine lv_iload hx hb dL_law_1458 (lv_at hL 4 rfl) ?_
  refine lv_iconst (v := 1) hx hb dL_law_1460 rfl ?_
  refine lv_iadd hx hb dL_law_1461 ?_
  refine va_sld hx hb hX hbl hbA hS hi1 dL_law_1462 ?_
  refine lz_callM (as := [.int (xs (x4 + 1).toNatClampNeg)]) (rest := [.int (gX11_image (xs (x4 + 1).toNatClampNeg))]) C0 hm hI2 hS dL_law_1463 kvL_197 kmX12_image (d2 := 2) (by decide) rfl hν (by omega) rfl rfl rfl (fs_c trivial (fun _ h => by cases h)) (Nat.le_of_ble_eq_true rfl) (Nat.le_of_ble_eq_true rfl) hL.1 (mc2 := 0) (ms2 := 0) ⟨by omega, by omega⟩ (wX12_image (μ := ν) hν (xs (x4 + 1).toNatClampNeg) hpM) ?_
  rintro v ν' am' H2 locs2 ⟨hv1, hv2⟩ - hm2 hI3 hS3
  rw [hv1]
  rw [hv2] at hI3
  have f0 : am' 0 = am 0 := hm2 0 (Or.inl (by omega))
  show W p l e room_1 s m #[Value.ref b] below meth c H2 locs2 (cells + 32) (slots + 2662) _ (F0 m 1466 ls [.int (gX12_image ν (xs (x4 + 1).toNatClampNeg)), .int (gX11_image (xs (x4 + 1).toNatClampNeg))])
  refine W.widen (k := cells + 40) (n := slots + 3000) (by omega) (by omega) ?_
  refine lv_icmp_eq (tgt := 1521) hx hb dL_law_1466 rfl (fun _ => ?_) (fun hq => absurd hg hq)
  exact K0 ls ad' am' _ _ o H2 locs2 (by rw [e0, f0]; exact hL) (fun k hk => (ha2 k (Or.inr hk)).trans (ha k hk)) (fun k hk => (hm2 k (Or.inr hk)).trans (hm k hk)) hRR hI3 hS3
end LCASES
