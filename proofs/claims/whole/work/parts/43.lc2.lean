section LCASES
variable {p : Program} {l : Launch} {e : Env} {s : State} {m : MethodId} {below : List Frame} {meth : Method} {c : Code} {H : Heap} {locs : List Loc} {cells slots : Nat}
variable {b L : Nat} {xs : Nat → Int32} {D : va_G} {cy : Nat → ClassId} {ad am ad0 : Nat → Nat} {ao : Nat} {o : Nat → Int64} {μ ν : fm_T} {ls : Array Slot} {x4 : Int32} {RR : fm_T → fm_T → Prop}
set_option maxHeartbeats 4000000 in
set_option maxRecDepth 20000 in
theorem lc_2 (hl : l.stackTraces = false) (hO : ob_all RR) (C0 : lz_C p s m meth c b L xs D cy ad0) (hR : RR μ ν) (ha : ∀ k, 4000 ≤ k → ad k = ad0 k) (hm : ∀ k, 4000 ≤ k → am k = ad0 k) (hI : lz_I (fun q => s.heap.size ≤ q) D cy ad am ao μ ν o H) (hS : va_S (fun q => s.heap.size ≤ q) s.heap H locs) (hL : lv_has ls 7 [(0, .ref b), (1, .ref (ad 0)), (2, .ref (am 0)), (3, .ref ao), (4, .int x4)]) (hin : ∀ j : Nat, j < 7 → vp_in (x4 + nI j) L) (hcs : cells + 40 ≤ 601024 ∧ slots + 3000 ≤ 7293034)
    (K0 : lz_K p l e s m below meth c b D cy ad0 ao x4 RR (cells + 40) (slots + 3000)) : W p l e room_1 s m #[Value.ref b] below meth c H locs cells slots (lw_Z below #[Value.ref b] s) (F0 m 322 ls []) := by
  obtain ⟨hx, hb, hr, hml, hown, hts, hX, hbl, hlocks, hgv⟩ := C0.1
  have hbA : ¬ (fun q : Nat => s.heap.size ≤ q) b := Nat.not_le.mpr hbl
  obtain ⟨⟨r0, r1, hz⟩, hν, hn34⟩ := hO.1 μ ν hR
  have hμ := hz.1
  have h89 : 89 ≤ μ.1 := lz_r89 hz
  obtain ⟨hpC, hpM, hg, hn1, hRR⟩ := hO.2.2.2.1 μ ν r0 r1 hz hR
  refine lv_aload_n hx hb dL_law_322 rfl (lv_at hL 1 rfl) ?_
  refine lz_callC (as := []) (rest := []) C0 ha hI hS dL_law_323 kvL_33 kmX11_house (d2 := 6) (by decide) rfl hμ (by omega) rfl rfl rfl (fun _ h => by cases h) (Nat.le_of_ble_eq_true rfl) (Nat.le_of_ble_eq_true rfl) hL.1 (mc2 := 0) (ms2 := 0) ⟨by omega, by omega⟩ (wX11_house (μ := μ) hμ hpC) ?_
  rintro v μ' ad' H' locs' ⟨hv1, hv2⟩ - ha2 hI2 hS2
  rw [hv1]
  rw [hv2] at hI2
  have e0 : ad' 0 = ad 0 := ha2 0 (Or.inl (by omega))
  show W p l e room_1 s m #[Value.ref b] below meth c H' locs' (cells + 0) (slots + 0) _ (F0 m 326 ls [.int (gX11_house μ)])
  have hS := hS2
  refine lv_aload_n hx hb dL_law_326 rfl (lv_at hL 2 rfl) ?_
  refine lz_callM (as := []) (rest := [.int (gX11_house μ)]) C0 hm hI2 hS dL_law_327 kvL_37 kmX12_house (d2 := 6) (by decide) rfl hν (by omega) rfl rfl rfl (fun _ h => by cases h) (Nat.le_of_ble_eq_true rfl) (Nat.le_of_ble_eq_true rfl) hL.1 (mc2 := 0) (ms2 := 0) ⟨by omega, by omega⟩ (wX12_house (μ := ν) hν hpM) ?_
  rintro v ν' am' H2 locs2 ⟨hv1, hv2⟩ - hm2 hI3 hS3
  rw [hv1]
  rw [hv2] at hI3
  have f0 : am' 0 = am 0 := hm2 0 (Or.inl (by omega))
  show W p l e room_1 s m #[Value.ref b] below meth c H2 locs2 (cells + 0) (slots + 0) _ (F0 m 330 ls [.int (gX12_house ν), .int (gX11_house μ)])
  refine W.widen (k := cells + 40) (n := slots + 3000) (by omega) (by omega) ?_
  refine lv_icmp_eq (tgt := 1521) hx hb dL_law_330 rfl (fun _ => ?_) (fun hq => absurd hg hq)
  by_cases hgq : gX2_readFrom μ = 0
  · rw [vX11_house, if_pos hgq] at hRR
    exact K0 ls ad' am' _ _ o H2 locs2 (by rw [e0, f0]; exact hL) (fun k hk => (ha2 k (Or.inr hk)).trans (ha k hk)) (fun k hk => (hm2 k (Or.inr hk)).trans (hm k hk)) hRR hI3 hS3
  · rw [vX11_house, if_neg hgq] at hRR
    have hsh : (uX11_house μ).2.1 = shH r0 r1 := sh_house hμ hgq
    have h153 : μ.1 ≤ 153 := lz_r153 hz
    refine K0 ls (fun k => ad' (rnH k)) am' _ _ o H2 locs2 (by rw [show ad' (rnH 0) = ad 0 from e0, f0]; exact hL) (fun k hk => ?_) (fun k hk => (hm2 k (Or.inr hk)).trans (hm k hk)) hRR (lz_rn rnH_i (fun k hk => rnH_n (by rw [hn1]; exact h89) k hk) (fun k hk => rnH_s hsh (rn_rrH hz).1 (rn_rrH hz).2 k (by rw [hn1] at hk; omega)) hI3) hS3
    have ek : rnH k = k := by unfold rnH; split; omega; split; omega; rfl
    show ad' (rnH k) = ad0 k
    rw [ek]; exact (ha2 k (Or.inr hk)).trans (ha k hk)
set_option maxHeartbeats 4000000 in
set_option maxRecDepth 20000 in
theorem lc_8 (hl : l.stackTraces = false) (hO : ob_all RR) (C0 : lz_C p s m meth c b L xs D cy ad0) (hR : RR μ ν) (ha : ∀ k, 4000 ≤ k → ad k = ad0 k) (hm : ∀ k, 4000 ≤ k → am k = ad0 k) (hI : lz_I (fun q => s.heap.size ≤ q) D cy ad am ao μ ν o H) (hS : va_S (fun q => s.heap.size ≤ q) s.heap H locs) (hL : lv_has ls 7 [(0, .ref b), (1, .ref (ad 0)), (2, .ref (am 0)), (3, .ref ao), (4, .int x4)]) (hin : ∀ j : Nat, j < 7 → vp_in (x4 + nI j) L) (hcs : cells + 40 ≤ 601024 ∧ slots + 3000 ≤ 7293034)
    (K0 : lz_K p l e s m below meth c b D cy ad0 ao x4 RR (cells + 40) (slots + 3000)) : W p l e room_1 s m #[Value.ref b] below meth c H locs cells slots (lw_Z below #[Value.ref b] s) (F0 m 577 ls []) := by
  obtain ⟨hx, hb, hr, hml, hown, hts, hX, hbl, hlocks, hgv⟩ := C0.1
  have hbA : ¬ (fun q : Nat => s.heap.size ≤ q) b := Nat.not_le.mpr hbl
  obtain ⟨⟨r0, r1, hz⟩, hν, hn34⟩ := hO.1 μ ν hR
  have hμ := hz.1
  have h89 : 89 ≤ μ.1 := lz_r89 hz
  have hi1 : vp_in (x4 + 1) L := hin 1 (by decide)
  have hi2 : vp_in (x4 + 2) L := hin 2 (by decide)
  have hi3 : vp_in (x4 + 3) L := hin 3 (by decide)
  obtain ⟨hpC, hpM, hg, hRR⟩ := hO.2.2.2.2.2.2.2.2.2.1 μ ν (xs (x4 + 1).toNatClampNeg) (xs (x4 + 2).toNatClampNeg) (xs (x4 + 3).toNatClampNeg) hR
  refine lv_aload_n hx hb dL_law_577 rfl (lv_at hL 1 rfl) ?_
  refine lv_aload_n hx hb dL_law_578 rfl (lv_at hL 0 rfl) ?_
  refine lv_iload hx hb dL_law_579 (lv_at hL 4 rfl) ?_
  refine lv_iconst (v := 1) hx hb dL_law_581 rfl ?_
  refine lv_iadd hx hb dL_law_582 ?_
  refine va_sld hx hb hX hbl hbA hS hi1 dL_law_583 ?_
  refine lv_aload_n hx hb dL_law_584 rfl (lv_at hL 0 rfl) ?_
  refine lv_iload hx hb dL_law_585 (lv_at hL 4 rfl) ?_
  refine lv_iconst (v := 2) hx hb dL_law_587 rfl ?_
  refine lv_iadd hx hb dL_law_588 ?_
  refine va_sld hx hb hX hbl hbA hS hi2 dL_law_589 ?_
  refine lv_aload_n hx hb dL_law_590 rfl (lv_at hL 0 rfl) ?_
  refine lv_iload hx hb dL_law_591 (lv_at hL 4 rfl) ?_
  refine lv_iconst (v := 3) hx hb dL_law_593 rfl ?_
  refine lv_iadd hx hb dL_law_594 ?_
  refine va_sld hx hb hX hbl hbA hS hi3 dL_law_595 ?_
  refine lz_callC (as := [.int (xs (x4 + 1).toNatClampNeg), .int (xs (x4 + 2).toNatClampNeg), .int (xs (x4 + 3).toNatClampNeg)]) (rest := []) C0 ha hI hS dL_law_596 kvL_65 kmX11_stands (d2 := 2) (by decide) rfl hμ (by omega) rfl rfl rfl (fs_c trivial (fs_c trivial (fs_c trivial (fun _ h => by cases h)))) (Nat.le_of_ble_eq_true rfl) (Nat.le_of_ble_eq_true rfl) hL.1 (mc2 := 0) (ms2 := 0) ⟨by omega, by omega⟩ (wX11_stands (μ := μ) hμ (xs (x4 + 1).toNatClampNeg) (xs (x4 + 2).toNatClampNeg) (xs (x4 + 3).toNatClampNeg) hpC) ?_
  rintro v μ' ad' H' locs' ⟨hv1, hv2⟩ - ha2 hI2 hS2
  rw [hv1]
  rw [hv2] at hI2
  have e0 : ad' 0 = ad 0 := ha2 0 (Or.inl (by omega))
  show W p l e room_1 s m #[Value.ref b] below meth c H' locs' (cells + 0) (slots + 0) _ (F0 m 599 ls [.int (gX11_stands μ (xs (x4 + 1).toNatClampNeg) (xs (x4 + 2).toNatClampNeg) (xs (x4 + 3).toNatClampNeg))])
  have hS := hS2
  refine lv_aload_n hx hb dL_law_599 rfl (lv_at hL 2 rfl) ?_
  refine lv_aload_n hx hb dL_law_600 rfl (lv_at hL 0 rfl) ?_
  refine lv_iload hx hb dL_law_601 (lv_at hL 4 rfl) ?_
  refine lv_iconst (v := 1) hx hb dL_law_603 rfl ?_
  refine lv_iadd hx hb dL_law_604 ?_
  refine va_sld hx hb hX hbl hbA hS hi1 dL_law_605 ?_
  refine lv_aload_n hx hb dL_law_606 rfl (lv_at hL 0 rfl) ?_
  refine lv_iload hx hb dL_law_607 (lv_at hL 4 rfl) ?_
  refine lv_iconst (v := 2) hx hb dL_law_609 rfl ?_
  refine lv_iadd hx hb dL_law_610 ?_
  refine va_sld hx hb hX hbl hbA hS hi2 dL_law_611 ?_
  refine lv_aload_n hx hb dL_law_612 rfl (lv_at hL 0 rfl) ?_
  refine lv_iload hx hb dL_law_613 (lv_at hL 4 rfl) ?_
  refine lv_iconst (v := 3) hx hb dL_law_615 rfl ?_
  refine lv_iadd hx hb dL_law_616 ?_
  refine va_sld hx hb hX hbl hbA hS hi3 dL_law_617 ?_
  refine lz_callM (as := [.int (xs (x4 + 1).toNatClampNeg), .int (xs (x4 + 2).toNatClampNeg), .int (xs (x4 + 3).toNatClampNeg)]) (rest := [.int (gX11_stands μ (xs (x4 + 1).toNatClampNeg) (xs (x4 + 2).toNatClampNeg) (xs (x4 + 3).toNatClampNeg))]) C0 hm hI2 hS dL_law_618 kvL_68 kmX12_stands (d2 := 2) (by decide) rfl hν (by omega) rfl rfl rfl (fs_c trivial (fs_c trivial (fs_c trivial (fun _ h => by cases h)))) (Nat.le_of_ble_eq_true rfl) (Nat.le_of_ble_eq_true rfl) hL.1 (mc2 := 0) (ms2 := 0) ⟨by omega, by omega⟩ (wX12_stands (μ := ν) hν (xs (x4 + 1).toNatClampNeg) (xs (x4 + 2).toNatClampNeg) (xs (x4 + 3).toNatClampNeg) hpM) ?_
  rintro v ν' am' H2 locs2 ⟨hv1, hv2⟩ - hm2 hI3 hS3
  rw [hv1]
  rw [hv2] at hI3
  have f0 : am' 0 = am 0 := hm2 0 (Or.inl (by omega))
  show W p l e room_1 s m #[Value.ref b] below meth c H2 locs2 (cells + 0) (slots + 0) _ (F0 m 621 ls [.int (gX12_stands ν (xs (x4 + 1).toNatClampNeg) (xs (x4 + 2).toNatClampNeg) (xs (x4 + 3).toNatClampNeg)), .int (gX11_stands μ (xs (x4 + 1).toNatClampNeg) (xs (x4 + 2).toNatClampNeg) (xs (x4 + 3).toNatClampNeg))])
  refine W.widen (k := cells + 40) (n := slots + 3000) (by omega) (by omega) ?_
  refine lv_icmp_eq (tgt := 1521) hx hb dL_law_621 rfl (fun _ => ?_) (fun hq => absurd hg hq)
  exact K0 ls ad' am' _ _ o H2 locs2 (by rw [e0, f0]; exact hL) (fun k hk => (ha2 k (Or.inr hk)).trans (ha k hk)) (fun k hk => (hm2 k (Or.inr hk)).trans (hm k hk)) hRR hI3 hS3
set_option maxHeartbeats 4000000 in
set_option maxRecDepth 20000 in
theorem lc_14 (hl : l.stackTraces = false) (hO : ob_all RR) (C0 : lz_C p s m meth c b L xs D cy ad0) (hR : RR μ ν) (ha : ∀ k, 4000 ≤ k → ad k = ad0 k) (hm : ∀ k, 4000 ≤ k → am k = ad0 k) (hI : lz_I (fun q => s.heap.size ≤ q) D cy ad am ao μ ν o H) (hS : va_S (fun q => s.heap.size ≤ q) s.heap H locs) (hL : lv_has ls 7 [(0, .ref b), (1, .ref (ad 0)), (2, .ref (am 0)), (3, .ref ao), (4, .int x4)]) (hin : ∀ j : Nat, j < 7 → vp_in (x4 + nI j) L) (hcs : cells + 40 ≤ 601024 ∧ slots + 3000 ≤ 7293034)
    (K0 : lz_K p l e s m below meth c b D cy ad0 ao x4 RR (cells + 40) (slots + 3000)) : W p l e room_1 s m #[Value.ref b] below meth c H locs cells slots (lw_Z below #[Value.ref b] s) (F0 m 716 ls []) := by
  obtain ⟨hx, hb, hr, hml, hown, hts, hX, hbl, hlocks, hgv⟩ := C0.1
  have hbA : ¬ (fun q : Nat => s.heap.size ≤ q) b := Nat.not_le.mpr hbl
  obtain ⟨⟨r0, r1, hz⟩, hν, hn34⟩ := hO.1 μ ν hR
  have hμ := hz.1
  have h89 : 89 ≤ μ.1 := lz_r89 hz
  have hi1 : vp_in (x4 + 1) L := hin 1 (by decide)
  obtain ⟨hpC, hpM, hg, hRR⟩ := hO.2.2.2.2.2.2.2.2.2.2.2.2.2.2.2.1 μ ν (xs (x4 + 1).toNatClampNeg) hR
  refine lv_aload_n hx hb dL_law_716 rfl (lv_at hL 1 rfl) ?_
  refine lv_aload_n hx hb dL_law_717 rfl (lv_at hL 0 rfl) ?_
  refine lv_iload hx hb dL_law_718 (lv_at hL 4 rfl) ?_
  refine lv_iconst (v := 1) hx hb dL_law_720 rfl ?_
  refine lv_iadd hx hb dL_law_721 ?_
  refine va_sld hx hb hX hbl hbA hS hi1 dL_law_722 ?_
  refine lz_callC (as := [.int (xs (x4 + 1).toNatClampNeg)]) (rest := []) C0 ha hI hS dL_law_723 kvL_90 kmX11_best (d2 := 4) (by decide) rfl hμ (by omega) rfl rfl rfl (fs_c trivial (fun _ h => by cases h)) (Nat.le_of_ble_eq_true rfl) (Nat.le_of_ble_eq_true rfl) hL.1 (mc2 := 0) (ms2 := 0) ⟨by omega, by omega⟩ (wX11_best (μ := μ) hμ (xs (x4 + 1).toNatClampNeg) hpC) ?_
  rintro v μ' ad' H' locs' ⟨hv1, hv2⟩ - ha2 hI2 hS2
  rw [hv1]
  rw [hv2] at hI2
  have e0 : ad' 0 = ad 0 := ha2 0 (Or.inl (by omega))
  show W p l e room_1 s m #[Value.ref b] below meth c H' locs' (cells + 0) (slots + 0) _ (F0 m 726 ls [.long (gX11_best μ (xs (x4 + 1).toNatClampNeg))])
  have hS := hS2
  refine lv_aload_n hx hb dL_law_726 rfl (lv_at hL 2 rfl) ?_
  refine lv_aload_n hx hb dL_law_727 rfl (lv_at hL 0 rfl) ?_
  refine lv_iload hx hb dL_law_728 (lv_at hL 4 rfl) ?_
  refine lv_iconst (v := 1) hx hb dL_law_730 rfl ?_
  refine lv_iadd hx hb dL_law_731 ?_
  refine va_sld hx hb hX hbl hbA hS hi1 dL_law_732 ?_
  refine lz_callM (as := [.int (xs (x4 + 1).toNatClampNeg)]) (rest := [.long (gX11_best μ (xs (x4 + 1).toNatClampNeg))]) C0 hm hI2 hS dL_law_733 kvL_94 kmX12_best (d2 := (8 * fD + 1)) (by rw [fD_eq]; decide) rfl hν (by omega) rfl rfl rfl (fs_c trivial (fun _ h => by cases h)) (Nat.le_of_ble_eq_true rfl) (Nat.le_of_ble_eq_true rfl) hL.1 (mc2 := 0) (ms2 := 0) ⟨by omega, by omega⟩ (wX12_best (μ := ν) hν (xs (x4 + 1).toNatClampNeg) hpM) ?_
  rintro v ν' am' H2 locs2 ⟨hv1, hv2⟩ - hm2 hI3 hS3
  rw [hv1]
  rw [hv2] at hI3
  have f0 : am' 0 = am 0 := hm2 0 (Or.inl (by omega))
  show W p l e room_1 s m #[Value.ref b] below meth c H2 locs2 (cells + 0) (slots + 0) _ (F0 m 736 ls [.long (gX12_best ν (xs (x4 + 1).toNatClampNeg)), .long (gX11_best μ (xs (x4 + 1).toNatClampNeg))])
  refine W.widen (k := cells + 40) (n := slots + 3000) (by omega) (by omega) ?_
  refine W.lcmp hx hb dL_law_736 ?_
  rw [hg, lg_cmp_self]
  refine lv_if_eq (tgt := 1521) hx hb dL_law_737 rfl (fun _ => ?_) (fun hq => absurd rfl hq)
  exact K0 ls ad' am' _ _ o H2 locs2 (by rw [e0, f0]; exact hL) (fun k hk => (ha2 k (Or.inr hk)).trans (ha k hk)) (fun k hk => (hm2 k (Or.inr hk)).trans (hm k hk)) hRR hI3 hS3
set_option maxHeartbeats 4000000 in
set_option maxRecDepth 20000 in
theorem lc_20 (hl : l.stackTraces = false) (hO : ob_all RR) (C0 : lz_C p s m meth c b L xs D cy ad0) (hR : RR μ ν) (ha : ∀ k, 4000 ≤ k → ad k = ad0 k) (hm : ∀ k, 4000 ≤ k → am k = ad0 k) (hI : lz_I (fun q => s.heap.size ≤ q) D cy ad am ao μ ν o H) (hS : va_S (fun q => s.heap.size ≤ q) s.heap H locs) (hL : lv_has ls 7 [(0, .ref b), (1, .ref (ad 0)), (2, .ref (am 0)), (3, .ref ao), (4, .int x4)]) (hin : ∀ j : Nat, j < 7 → vp_in (x4 + nI j) L) (hcs : cells + 40 ≤ 601024 ∧ slots + 3000 ≤ 7293034)
    (K0 : lz_K p l e s m below meth c b D cy ad0 ao x4 RR (cells + 40) (slots + 3000)) : W p l e room_1 s m #[Value.ref b] below meth c H locs cells slots (lw_Z below #[Value.ref b] s) (F0 m 904 ls []) := by
  obtain ⟨hx, hb, hr, hml, hown, hts, hX, hbl, hlocks, hgv⟩ := C0.1
  have hbA : ¬ (fun q : Nat => s.heap.size ≤ q) b := Nat.not_le.mpr hbl
  obtain ⟨⟨r0, r1, hz⟩, hν, hn34⟩ := hO.1 μ ν hR
  have hμ := hz.1
  have h89 : 89 ≤ μ.1 := lz_r89 hz
  obtain ⟨hpC, hpM, hg, hRR⟩ := hO.2.2.2.2.2.2.2.2.2.2.2.2.2.2.2.2.2.2.2.2.2.1 μ ν hR
  refine lv_aload_n hx hb dL_law_904 rfl (lv_at hL 1 rfl) ?_
  refine lz_callC (as := []) (rest := []) C0 ha hI hS dL_law_905 kvL_117 kmX11_hurry (d2 := 4) (by decide) rfl hμ (by omega) rfl rfl rfl (fun _ h => by cases h) (Nat.le_of_ble_eq_true rfl) (Nat.le_of_ble_eq_true rfl) hL.1 (mc2 := 0) (ms2 := 0) ⟨by omega, by omega⟩ (wX11_hurry (μ := μ) hμ hpC) ?_
  rintro v μ' ad' H' locs' ⟨hv1, hv2⟩ - ha2 hI2 hS2
  rw [hv1]
  rw [hv2] at hI2
  have e0 : ad' 0 = ad 0 := ha2 0 (Or.inl (by omega))
  show W p l e room_1 s m #[Value.ref b] below meth c H' locs' (cells + 0) (slots + 0) _ (F0 m 908 ls [.int (gX11_hurry μ)])
  have hS := hS2
  refine lv_aload_n hx hb dL_law_908 rfl (lv_at hL 2 rfl) ?_
  refine lz_callM (as := []) (rest := [.int (gX11_hurry μ)]) C0 hm hI2 hS dL_law_909 kvL_120 kmX12_hurry (d2 := (8 * fD + 2)) (by rw [fD_eq]; decide) rfl hν (by omega) rfl rfl rfl (fun _ h => by cases h) (Nat.le_of_ble_eq_true rfl) (Nat.le_of_ble_eq_true rfl) hL.1 (mc2 := 0) (ms2 := 0) ⟨by omega, by omega⟩ (wX12_hurry (μ := ν) hν hpM) ?_
  rintro v ν' am' H2 locs2 ⟨hv1, hv2⟩ - hm2 hI3 hS3
  rw [hv1]
  rw [hv2] at hI3
  have f0 : am' 0 = am 0 := hm2 0 (Or.inl (by omega))
  show W p l e room_1 s m #[Value.ref b] below meth c H2 locs2 (cells + 0) (slots + 0) _ (F0 m 912 ls [.int (gX12_hurry ν), .int (gX11_hurry μ)])
  refine W.widen (k := cells + 40) (n := slots + 3000) (by omega) (by omega) ?_
  refine lv_icmp_eq (tgt := 1521) hx hb dL_law_912 rfl (fun _ => ?_) (fun hq => absurd hg hq)
  exact K0 ls ad' am' _ _ o H2 locs2 (by rw [e0, f0]; exact hL) (fun k hk => (ha2 k (Or.inr hk)).trans (ha k hk)) (fun k hk => (hm2 k (Or.inr hk)).trans (hm k hk)) hRR hI3 hS3
set_option maxHeartbeats 4000000 in
set_option maxRecDepth 20000 in
theorem lc_26 (hl : l.stackTraces = false) (hO : ob_all RR) (C0 : lz_C p s m meth c b L xs D cy ad0) (hR : RR μ ν) (ha : ∀ k, 4000 ≤ k → ad k = ad0 k) (hm : ∀ k, 4000 ≤ k → am k = ad0 k) (hI : lz_I (fun q => s.heap.size ≤ q) D cy ad am ao μ ν o H) (hS : va_S (fun q => s.heap.size ≤ q) s.heap H locs) (hL : lv_has ls 7 [(0, .ref b), (1, .ref (ad 0)), (2, .ref (am 0)), (3, .ref ao), (4, .int x4)]) (hin : ∀ j : Nat, j < 7 → vp_in (x4 + nI j) L) (hcs : cells + 40 ≤ 601024 ∧ slots + 3000 ≤ 7293034)
    (K0 : lz_K p l e s m below meth c b D cy ad0 ao x4 RR (cells + 40) (slots + 3000)) : W p l e room_1 s m #[Value.ref b] below meth c H locs cells slots (lw_Z below #[Value.ref b] s) (F0 m 1054 ls []) := by
  obtain ⟨hx, hb, hr, hml, hown, hts, hX, hbl, hlocks, hgv⟩ := C0.1
  have hbA : ¬ (fun q : Nat => s.heap.size ≤ q) b := Nat.not_le.mpr hbl
  obtain ⟨⟨r0, r1, hz⟩, hν, hn34⟩ := hO.1 μ ν hR
  have hμ := hz.1
  have h89 : 89 ≤ μ.1 := lz_r89 hz
  have hi1 : vp_in (x4 + 1) L := hin 1 (by decide)
  obtain ⟨hpC, hpM, hg, hRR⟩ := hO.2.2.2.2.2.2.2.2.2.2.2.2.2.2.2.2.2.2.2.2.2.2.2.2.2.2.2.1 μ ν (xs (x4 + 1).toNatClampNeg) hR
  refine lv_aload_n hx hb dL_law_1054 rfl (lv_at hL 1 rfl) ?_
  refine lv_aload_n hx hb dL_law_1055 rfl (lv_at hL 0 rfl) ?_
  refine lv_iload hx hb dL_law_1056 (lv_at hL 4 rfl) ?_
  refine lv_iconst (v := 1) hx hb dL_law_1058 rfl ?_
  refine lv_iadd hx hb dL_law_1059 ?_
  refine va_sld hx hb hX hbl hbA hS hi1 dL_law_1060 ?_
  refine lz_callC (as := [.int (xs (x4 + 1).toNatClampNeg)]) (rest := []) C0 ha hI hS dL_law_1061 kvL_142 kmX11_meets (d2 := 6) (by decide) rfl hμ (by omega) rfl rfl rfl (fs_c trivial (fun _ h => by cases h)) (Nat.le_of_ble_eq_true rfl) (Nat.le_of_ble_eq_true rfl) hL.1 (mc2 := 0) (ms2 := 0) ⟨by omega, by omega⟩ (wX11_meets (μ := μ) hμ (xs (x4 + 1).toNatClampNeg) hpC) ?_
  rintro v μ' ad' H' locs' ⟨hv1, hv2⟩ - ha2 hI2 hS2
  rw [hv1]
  rw [hv2] at hI2
  have e0 : ad' 0 = ad 0 := ha2 0 (Or.inl (by omega))
  show W p l e room_1 s m #[Value.ref b] below meth c H' locs' (cells + 0) (slots + 0) _ (F0 m 1064 ls [.int (gX11_meets μ (xs (x4 + 1).toNatClampNeg))])
  have hS := hS2
  refine lv_aload_n hx hb dL_law_1064 rfl (lv_at hL 2 rfl) ?_
  refine lv_aload_n hx hb dL_law_1065 rfl (lv_at hL 0 rfl) ?_
  refine lv_iload hx hb dL_law_1066 (lv_at hL 4 rfl) ?_
  refine lv_iconst (v := 1) hx hb dL_law_1068 rfl ?_
  refine lv_iadd hx hb dL_law_1069 ?_
  refine va_sld hx hb hX hbl hbA hS hi1 dL_law_1070 ?_
  refine lz_callM (as := [.int (xs (x4 + 1).toNatClampNeg)]) (rest := [.int (gX11_meets μ (xs (x4 + 1).toNatClampNeg))]) C0 hm hI2 hS dL_law_1071 kvL_145 kmX12_meets (d2 := (8 * fD + 1)) (by rw [fD_eq]; decide) rfl hν (by omega) rfl rfl rfl (fs_c trivial (fun _ h => by cases h)) (Nat.le_of_ble_eq_true rfl) (Nat.le_of_ble_eq_true rfl) hL.1 (mc2 := 0) (ms2 := 0) ⟨by omega, by omega⟩ (wX12_meets (μ := ν) hν (xs (x4 + 1).toNatClampNeg) hpM) ?_
  rintro v ν' am' H2 locs2 ⟨hv1, hv2⟩ - hm2 hI3 hS3
  rw [hv1]
  rw [hv2] at hI3
  have f0 : am' 0 = am 0 := hm2 0 (Or.inl (by omega))
  show W p l e room_1 s m #[Value.ref b] below meth c H2 locs2 (cells + 0) (slots + 0) _ (F0 m 1074 ls [.int (gX12_meets ν (xs (x4 + 1).toNatClampNeg)), .int (gX11_meets μ (xs (x4 + 1).toNatClampNeg))])
  refine W.widen (k := cells + 40) (n := slots + 3000) (by omega) (by omega) ?_
  refine lv_icmp_eq (tgt := 1521) hx hb dL_law_1074 rfl (fun _ => ?_) (fun hq => absurd hg hq)
  exact K0 ls ad' am' _ _ o H2 locs2 (by rw [e0, f0]; exact hL) (fun k hk => (ha2 k (Or.inr hk)).trans (ha k hk)) (fun k hk => (hm2 k (Or.inr hk)).trans (hm k hk)) hRR hI3 hS3
set_option maxHeartbeats 4000000 in
set_option maxRecDepth 20000 in
theorem lc_32 (hl : l.stackTraces = false) (hO : ob_all RR) (C0 : lz_C p s m meth c b L xs D cy ad0) (hR : RR μ ν) (ha : ∀ k, 4000 ≤ k → ad k = ad0 k) (hm : ∀ k, 4000 ≤ k → am k = ad0 k) (hI : lz_I (fun q => s.heap.size ≤ q) D cy ad am ao μ ν o H) (hS : va_S (fun q => s.heap.size ≤ q) s.heap H locs) (hL : lv_has ls 7 [(0, .ref b), (1, .ref (ad 0)), (2, .ref (am 0)), (3, .ref ao), (4, .int x4)]) (hin : ∀ j : Nat, j < 7 → vp_in (x4 + nI j) L) (hcs : cells + 40 ≤ 601024 ∧ slots + 3000 ≤ 7293034)
    (K0 : lz_K p l e s m below meth c b D cy ad0 ao x4 RR (cells + 40) (slots + 3000)) : W p l e room_1 s m #[Value.ref b] below meth c H locs cells slots (lw_Z below #[Value.ref b] s) (F0 m 1204 ls []) := by
  obtain ⟨hx, hb, hr, hml, hown, hts, hX, hbl, hlocks, hgv⟩ := C0.1
  have hbA : ¬ (fun q : Nat => s.heap.size ≤ q) b := Nat.not_le.mpr hbl
  obtain ⟨⟨r0, r1, hz⟩, hν, hn34⟩ := hO.1 μ ν hR
  have hμ := hz.1
  have h89 : 89 ≤ μ.1 := lz_r89 hz
  have hi1 : vp_in (x4 + 1) L := hin 1 (by decide)
  have hi2 : vp_in (x4 + 2) L := hin 2 (by decide)
  have hi3 : vp_in (x4 + 3) L := hin 3 (by decide)
  obtain ⟨hpC, hpM, hg, hRR⟩ := hO.2.2.2.2.2.2.2.2.2.2.2.2.2.2.2.2.2.2.2.2.2.2.2.2.2.2.2.2.2.2.2.2.2.1 μ ν (xs (x4 + 1).toNatClampNeg) (xs (x4 + 2).toNatClampNeg) (xs (x4 + 3).toNatClampNeg) hR
  refine lv_aload_n hx hb dL_law_1204 rfl (lv_at hL 1 rfl) ?_
  refine lv_aload_n hx hb dL_law_1205 rfl (lv_at hL 0 rfl) ?_
  refine lv_iload hx hb dL_law_1206 (lv_at hL 4 rfl) ?_
  refine lv_iconst (v := 1) hx hb dL_law_1208 rfl ?_
  refine lv_iadd hx hb dL_law_1209 ?_
  refine va_sld hx hb hX hbl hbA hS hi1 dL_law_1210 ?_
  refine lv_aload_n hx hb dL_law_1211 rfl (lv_at hL 0 rfl) ?_
  refine lv_iload hx hb dL_law_1212 (lv_at hL 4 rfl) ?_
  refine lv_iconst (v := 2) hx hb dL_law_1214 rfl ?_
  refine lv_iadd hx hb dL_law_1215 ?_
  refine va_sld hx hb hX hbl hbA hS hi2 dL_law_1216 ?_
  refine lv_aload_n hx hb dL_law_1217 rfl (lv_at hL 0 rfl) ?_
  refine lv_iload hx hb dL_law_1218 (lv_at hL 4 rfl) ?_
  refine lv_iconst (v := 3) hx hb dL_law_1220 rfl ?_
  refine lv_iadd hx hb dL_law_1221 ?_
  refine va_sld hx hb hX hbl hbA hS hi3 dL_law_1222 ?_
  refine lz_callC (as := [.int (xs (x4 + 1).toNatClampNeg), .int (xs (x4 + 2).toNatClampNeg), .int (xs (x4 + 3).toNatClampNeg)]) (rest := []) C0 ha hI hS dL_law_1223 kvL_166 kmX11_solvent (d2 := 1) (by decide) rfl hμ (by omega) rfl rfl rfl (fs_c trivial (fs_c trivial (fs_c trivial (fun _ h => by cases h)))) (Nat.le_of_ble_eq_true rfl) (Nat.le_of_ble_eq_true rfl) hL.1 (mc2 := 0) (ms2 := 0) ⟨by omega, by omega⟩ (wX11_solvent (μ := μ) hμ (xs (x4 + 1).toNatClampNeg) (xs (x4 + 2).toNatClampNeg) (xs (x4 + 3).toNatClampNeg) hpC) ?_
  rintro v μ' ad' H' locs' ⟨hv1, hv2⟩ - ha2 hI2 hS2
  rw [hv1]
  rw [hv2] at hI2
  have e0 : ad' 0 = ad 0 := ha2 0 (Or.inl (by omega))
  show W p l e room_1 s m #[Value.ref b] below meth c H' locs' (cells + 0) (slots + 0) _ (F0 m 1226 ls [.int (gX11_solvent μ (xs (x4 + 1).toNatClampNeg) (xs (x4 + 2).toNatClampNeg) (xs (x4 + 3).toNatClampNeg))])
  have hS := hS2
  refine lv_aload_n hx hb dL_law_1226 rfl (lv_at hL 2 rfl) ?_
  refine lv_aload_n hx hb dL_law_1227 rfl (lv_at hL 0 rfl) ?_
  refine lv_iload hx hb dL_law_1228 (lv_at hL 4 rfl) ?_
  refine lv_iconst (v := 1) hx hb dL_law_1230 rfl ?_
  refine lv_iadd hx hb dL_law_1231 ?_
  refine va_sld hx hb hX hbl hbA hS hi1 dL_law_1232 ?_
  refine lv_aload_n hx hb dL_law_1233 rfl (lv_at hL 0 rfl) ?_
  refine lv_iload hx hb dL_law_1234 (lv_at hL 4 rfl) ?_
  refine lv_iconst (v := 2) hx hb dL_law_1236 rfl ?_
  refine lv_iadd hx hb dL_law_1237 ?_
  refine va_sld hx hb hX hbl hbA hS hi2 dL_law_1238 ?_
  refine lv_aload_n hx hb dL_law_1239 rfl (lv_at hL 0 rfl) ?_
  refine lv_iload hx hb dL_law_1240 (lv_at hL 4 rfl) ?_
  refine lv_iconst (v := 3) hx hb dL_law_1242 rfl ?_
  refine lv_iadd hx hb dL_law_1243 ?_
  refine va_sld hx hb hX hbl hbA hS hi3 dL_law_1244 ?_
  refine lz_callM (as := [.int (xs (x4 + 1).toNatClampNeg), .int (xs (x4 + 2).toNatClampNeg), .int (xs (x4 + 3).toNatClampNeg)]) (rest := [.int (gX11_solvent μ (xs (x4 + 1).toNatClampNeg) (xs (x4 + 2).toNatClampNeg) (xs (x4 + 3).toNatClampNeg))]) C0 hm hI2 hS dL_law_1245 kvL_169 kmX12_solvent (d2 := 2) (by decide) rfl hν (by omega) rfl rfl rfl (fs_c trivial (fs_c trivial (fs_c trivial (fun _ h => by cases h)))) (Nat.le_of_ble_eq_true rfl) (Nat.le_of_ble_eq_true rfl) hL.1 (mc2 := 0) (ms2 := 0) ⟨by omega, by omega⟩ (wX12_solvent (μ := ν) hν (xs (x4 + 1).toNatClampNeg) (xs (x4 + 2).toNatClampNeg) (xs (x4 + 3).toNatClampNeg) hpM) ?_
  rintro v ν' am' H2 locs2 ⟨hv1, hv2⟩ - hm2 hI3 hS3
  rw [hv1]
  rw [hv2] at hI3
  have f0 : am' 0 = am 0 := hm2 0 (Or.inl (by omega))
  show W p l e room_1 s m #[Value.ref b] below meth c H2 locs2 (cells + 0) (slots + 0) _ (F0 m 1248 ls [.int (gX12_solvent ν (xs (x4 + 1).toNatClampNeg) (xs (x4 + 2).toNatClampNeg) (xs (x4 + 3).toNatClampNeg)), .int (gX11_solvent μ (xs (x4 + 1).toNatClampNeg) (xs (x4 + 2).toNatClampNeg) (xs (x4 + 3).toNatClampNeg))])
  refine W.widen (k := cells + 40) (n := slots + 3000) (by omega) (by omega) ?_
  refine lv_icmp_eq (tgt := 1521) hx hb dL_law_1248 rfl (fun _ => ?_) (fun hq => absurd hg hq)
  exact K0 ls ad' am' _ _ o H2 locs2 (by rw [e0, f0]; exact hL) (fun k hk => (ha2 k (Or.inr hk)).trans (ha k hk)) (fun k hk => (hm2 k (Or.inr hk)).trans (hm k hk)) hRR hI3 hS3
set_option maxHeartbeats 4000000 in
set_option maxRecDepth 20000 in
theorem lc_38 (hl : l.stackTraces = false) (hO : ob_all RR) (C0 : lz_C p s m meth c b L xs D cy ad0) (hR : RR μ ν) (ha : ∀ k, 4000 ≤ k → ad k = ad0 k) (hm : ∀ k, 4000 ≤ k → am k = ad0 k) (hI : lz_I (fun q => s.heap.size ≤ q) D cy ad am ao μ ν o H) (hS : va_S (fun q => s.heap.size ≤ q) s.heap H locs) (hL : lv_has ls 7 [(0, .ref b), (1, .ref (ad 0)), (2, .ref (am 0)), (3, .ref ao), (4, .int x4)]) (hin : ∀ j : Nat, j < 7 → vp_in (x4 + nI j) L) (hcs : cells + 40 ≤ 601024 ∧ slots + 3000 ≤ 7293034)
    (K0 : lz_K p l e s m below meth c b D cy ad0 ao x4 RR (cells + 40) (slots + 3000)) : W p l e room_1 s m #[Value.ref b] below meth c H locs cells slots (lw_Z below #[Value.ref b] s) (F0 m 1409 ls []) := by
  obtain ⟨hx, hb, hr, hml, hown, hts, hX, hbl, hlocks, hgv⟩ := C0.1
  have hbA : ¬ (fun q : Nat => s.heap.size ≤ q) b := Nat.not_le.mpr hbl
  obtain ⟨⟨r0, r1, hz⟩, hν, hn34⟩ := hO.1 μ ν hR
  have hμ := hz.1
  have h89 : 89 ≤ μ.1 := lz_r89 hz
  have hi1 : vp_in (x4 + 1) L := hin 1 (by decide)
  have hi2 : vp_in (x4 + 2) L := hin 2 (by decide)
  obtain ⟨hpC, hpM, hg, hRR⟩ := hO.2.2.2.2.2.2.2.2.2.2.2.2.2.2.2.2.2.2.2.2.2.2.2.2.2.2.2.2.2.2.2.2.2.2.2.2.2.2.2.1 μ ν (xs (x4 + 1).toNatClampNeg) (xs (x4 + 2).toNatClampNeg) hR
  refine lv_aload_n hx hb dL_law_1409 rfl (lv_at hL 1 rfl) ?_
  refine lv_aload_n hx hb dL_law_1410 rfl (lv_at hL 0 rfl) ?_
  refine lv_iload hx hb dL_law_1411 (lv_at hL 4 rfl) ?_
  refine lv_iconst (v := 1) hx hb dL_law_1413 rfl ?_
  refine lv_iadd hx hb dL_law_1414 ?_
  refine va_sld hx hb hX hbl hbA hS hi1 dL_law_1415 ?_
  refine lv_aload_n hx hb dL_law_1416 rfl (lv_at hL 0 rfl) ?_
  refine lv_iload hx hb dL_law_1417 (lv_at hL 4 rfl) ?_
  refine lv_iconst (v := 2) hx hb dL_law_1419 rfl ?_
  refine lv_iadd hx hb dL_law_1420 ?_
  refine va_sld hx hb hX hbl hbA hS hi2 dL_law_1421 ?_
  refine lz_callC (as := [.int (xs (x4 + 1).toNatClampNeg), .int (xs (x4 + 2).toNatClampNeg)]) (rest := []) C0 ha hI hS dL_law_1422 kvL_190 kmX11_unfetched (d2 := 3) (by decide) rfl hμ (by omega) rfl rfl rfl (fs_c trivial (fs_c trivial (fun _ h => by cases h))) (Nat.le_of_ble_eq_true rfl) (Nat.le_of_ble_eq_true rfl) hL.1 (mc2 := 0) (ms2 := 0) ⟨by omega, by omega⟩ (wX11_unfetched (μ := μ) hμ (xs (x4 + 1).toNatClampNeg) (xs (x4 + 2).toNatClampNeg) hpC) ?_
  rintro v μ' ad' H' locs' ⟨hv1, hv2⟩ - ha2 hI2 hS2
  rw [hv1]
  rw [hv2] at hI2
  have e0 : ad' 0 = ad 0 := ha2 0 (Or.inl (by omega))
  show W p l e room_1 s m #[Value.ref b] below meth c H' locs' (cells + 0) (slots + 0) _ (F0 m 1425 ls [.int (gX11_unfetched μ (xs (x4 + 1).toNatClampNeg) (xs (x4 + 2).toNatClampNeg))])
  have hS := hS2
  refine lv_aload_n hx hb dL_law_1425 rfl (lv_at hL 2 rfl) ?_
  refine lv_aload_n hx hb dL_law_1426 rfl (lv_at hL 0 rfl) ?_
  refine lv_iload hx hb dL_law_1427 (lv_at hL 4 rfl) ?_
  refine lv_iconst (v := 1) hx hb dL_law_1429 rfl ?_
  refine lv_iadd hx hb dL_law_1430 ?_
  refine va_sld hx hb hX hbl hbA hS hi1 dL_law_1431 ?_
  refine lv_aload_n hx hb dL_law_1432 rfl (lv_at hL 0 rfl) ?_
  refine lv_iload hx hb dL_law_1433 (lv_at hL 4 rfl) ?_
  refine lv_iconst (v := 2) hx hb dL_law_1435 rfl ?_
  refine lv_iadd hx hb dL_law_1436 ?_
  refine va_sld hx hb hX hbl hbA hS hi2 dL_law_1437 ?_
  refine lz_callM (as := [.int (xs (x4 + 1).toNatClampNeg), .int (xs (x4 + 2).toNatClampNeg)]) (rest := [.int (gX11_unfetched μ (xs (x4 + 1).toNatClampNeg) (xs (x4 + 2).toNatClampNeg))]) C0 hm hI2 hS dL_law_1438 kvL_193 kmX12_unfetched (d2 := 2) (by decide) rfl hν (by omega) rfl rfl rfl (fs_c trivial (fs_c trivial (fun _ h => by cases h))) (Nat.le_of_ble_eq_true rfl) (Nat.le_of_ble_eq_true rfl) hL.1 (mc2 := 0) (ms2 := 0) ⟨by omega, by omega⟩ (wX12_unfetched (μ := ν) hν (xs (x4 + 1).toNatClampNeg) (xs (x4 + 2).toNatClampNeg) hpM) ?_
  rintro v ν' am' H2 locs2 ⟨hv1, hv2⟩ - hm2 hI3 hS3
  rw [hv1]
  rw [hv2] at hI3
  have f0 : am' 0 = am 0 := hm2 0 (Or.inl (by omega))
  show W p l e room_1 s m #[Value.ref b] below meth c H2 locs2 (cells + 0) (slots + 0) _ (F0 m 1441 ls [.int (gX12_unfetched ν (xs (x4 + 1).toNatClampNeg) (xs (x4 + 2).toNatClampNeg)), .int (gX11_unfetched μ (xs (x4 + 1).toNatClampNeg) (xs (x4 + 2).toNatClampNeg))])
  refine W.widen (k := cells + 40) (n := slots + 3000) (by omega) (by omega) ?_
  refine lv_icmp_eq (tgt := 1521) hx hb dL_law_1441 rfl (fun _ => ?_) (fun hq => absurd hg hq)
  exact K0 ls ad' am' _ _ o H2 locs2 (by rw [e0, f0]; exact hL) (fun k hk => (ha2 k (Or.inr hk)).trans (ha k hk)) (fun k hk => (hm2 k (Or.inr hk)).trans (hm k hk)) hRR hI3 hS3
end LCASES
