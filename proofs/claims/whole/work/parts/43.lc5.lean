section LCASES
variable {p : Program} {l : Launch} {e : Env} {s : State} {m : MethodId} {below : List Frame} {meth : Method} {c : Code} {H : Heap} {locs : List Loc} {cells slots : Nat}
variable {b L : Nat} {xs : Nat → Int32} {D : va_G} {cy : Nat → ClassId} {ad am ad0 : Nat → Nat} {ao : Nat} {o : Nat → Int64} {μ ν : fm_T} {ls : Array Slot} {x4 : Int32} {RR : fm_T → fm_T → Prop}
set_option maxHeartbeats 4000000 in
set_option maxRecDepth 20000 in
theorem lc_5 (hl : l.stackTraces = false) (hO : ob_all RR) (C0 : lz_C p s m meth c b L xs D cy ad0) (hR : RR μ ν) (ha : ∀ k, 4000 ≤ k → ad k = ad0 k) (hm : ∀ k, 4000 ≤ k → am k = ad0 k) (hI : lz_I (fun q => s.heap.size ≤ q) D cy ad am ao μ ν o H) (hS : va_S (fun q => s.heap.size ≤ q) s.heap H locs) (hL : lv_has ls 7 [(0, .ref b), (1, .ref (ad 0)), (2, .ref (am 0)), (3, .ref ao), (4, .int x4)]) (hin : ∀ j : Nat, j < 7 → vp_in (x4 + nI j) L) (hcs : cells + 40 ≤ 601024 ∧ slots + 3000 ≤ 7293034)
    (K0 : lz_K p l e s m below meth c b D cy ad0 ao x4 RR (cells + 40) (slots + 3000)) : W p l e room_1 s m #[Value.ref b] below meth c H locs cells slots (lw_Z below #[Value.ref b] s) (F0 m 373 ls []) := by
  obtain ⟨hx, hb, hr, hml, hown, hts, hX, hbl, hlocks, hgv⟩ := C0.1
  have hbA : ¬ (fun q : Nat => s.heap.size ≤ q) b := Nat.not_le.mpr hbl
  obtain ⟨⟨r0, r1, hz⟩, hν, hn34⟩ := hO.1 μ ν hR
  have hμ := hz.1
  have h89 : 89 ≤ μ.1 := lz_r89 hz
  have hi1 : vp_in (x4 + 1) L := hin 1 (by decide)
  have hi2 : vp_in (x4 + 2) L := hin 2 (by decide)
  have hi3 : vp_in (x4 + 3) L := hin 3 (by decide)
  have hi4 : vp_in (x4 + 4) L := hin 4 (by decide)
  have hi5 : vp_in (x4 + 5) L := hin 5 (by decide)
  have hi6 : vp_in (x4 + 6) L := hin 6 (by decide)
  obtain ⟨hpC, hpM, hg, hRR⟩ := hO.2.2.2.2.2.2.1 μ ν (xs (x4 + 1).toNatClampNeg) (xs (x4 + 2).toNatClampNeg) (xs (x4 + 3).toNatClampNeg) (xs (x4 + 4).toNatClampNeg) (xs (x4 + 5).toNatClampNeg) (xs (x4 + 6).toNatClampNeg) hR
  refine lv_aload_n hx hb dL_law_373 rfl (lv_at hL 1 rfl) ?_
  refine lv_aload_n hx hb dL_law_374 rfl (lv_at hL 0 rfl) ?_
  refine lv_iload hx hb dL_law_375 (lv_at hL 4 rfl) ?_
  refine lv_iconst (v := 1) hx hb dL_law_377 rfl ?_
  refine lv_iadd hx hb dL_law_378 ?_
  refine va_sld hx hb hX hbl hbA hS hi1 dL_law_379 ?_
  refine lv_aload_n hx hb dL_law_380 rfl (lv_at hL 0 rfl) ?_
  refine lv_iload hx hb dL_law_381 (lv_at hL 4 rfl) ?_
  refine lv_iconst (v := 2) hx hb dL_law_383 rfl ?_
  refine lv_iadd hx hb dL_law_384 ?_
  refine va_sld hx hb hX hbl hbA hS hi2 dL_law_385 ?_
  refine lv_aload_n hx hb dL_law_386 rfl (lv_at hL 0 rfl) ?_
  refine lv_iload hx hb dL_law_387 (lv_at hL 4 rfl) ?_
  refine lv_iconst (v := 3) hx hb dL_law_389 rfl ?_
  refine lv_iadd hx hb dL_law_390 ?_
  refine va_sld hx hb hX hbl hbA hS hi3 dL_law_391 ?_
  refine lv_aload_n hx hb dL_law_392 rfl (lv_at hL 0 rfl) ?_
  refine lv_iload hx hb dL_law_393 (lv_at hL 4 rfl) ?_
  refine lv_iconst (v := 4) hx hb dL_law_395 rfl ?_
  refine lv_iadd hx hb dL_law_396 ?_
  refine va_sld hx hb hX hbl hbA hS hi4 dL_law_397 ?_
  refine lv_aload_n hx hb dL_law_398 rfl (lv_at hL 0 rfl) ?_
  refine lv_iload hx hb dL_law_399 (lv_at hL 4 rfl) ?_
  refine lv_iconst (v := 5) hx hb dL_law_401 rfl ?_
  refine lv_iadd hx hb dL_law_402 ?_
  refine va_sld hx hb hX hbl hbA hS hi5 dL_law_403 ?_
  refine lv_aload_n hx hb dL_law_404 rfl (lv_at hL 0 rfl) ?_
  refine lv_iload hx hb dL_law_405 (lv_at hL 4 rfl) ?_
  refine lv_bipush (v := 6) hx hb dL_law_407 rfl ?_
  refine lv_iadd hx hb dL_law_409 ?_
  refine va_sld hx hb hX hbl hbA hS hi6 dL_law_410 ?_
  refine lz_callC (as := [.int (xs (x4 + 1).toNatClampNeg), .int (xs (x4 + 2).toNatClampNeg), .int (xs (x4 + 3).toNatClampNeg), .int (xs (x4 + 4).toNatClampNeg), .int (xs (x4 + 5).toNatClampNeg), .int (xs (x4 + 6).toNatClampNeg)]) (rest := []) C0 ha hI hS dL_law_411 kvL_46 kmX11_ticket (d2 := 3) (by decide) rfl hμ (by omega) rfl rfl rfl (fs_c trivial (fs_c trivial (fs_c trivial (fs_c trivial (fs_c trivial (fs_c trivial (fun _ h => by cases h))))))) (Nat.le_of_ble_eq_true rfl) (Nat.le_of_ble_eq_true rfl) hL.1 (mc2 := 0) (ms2 := 0) ⟨by omega, by omega⟩ (wX11_ticket (μ := μ) hμ (xs (x4 + 1).toNatClampNeg) (xs (x4 + 2).toNatClampNeg) (xs (x4 + 3).toNatClampNeg) (xs (x4 + 4).toNatClampNeg) (xs (x4 + 5).toNatClampNeg) (xs (x4 + 6).toNatClampNeg) hpC) ?_
  rintro v μ' ad' H' locs' ⟨hv1, hv2⟩ - ha2 hI2 hS2
  rw [hv1]
  rw [hv2] at hI2
  have e0 : ad' 0 = ad 0 := ha2 0 (Or.inl (by omega))
  show W p l e room_1 s m #[Value.ref b] below meth c H' locs' (cells + 0) (slots + 0) _ (F0 m 414 ls [.int (gX11_ticket μ (xs (x4 + 1).toNatClampNeg) (xs (x4 + 2).toNatClampNeg) (xs (x4 + 3).toNatClampNeg) (xs (x4 + 4).toNatClampNeg) (xs (x4 + 5).toNatClampNeg) (xs (x4 + 6).toNatClampNeg))])
  have hS := hS2
  refine lv_aload_n hx hb dL_law_414 rfl (lv_at hL 2 rfl) ?_
  refine lv_aload_n hx hb dL_law_415 rfl (lv_at hL 0 rfl) ?_
  refine lv_iload hx hb dL_law_416 (lv_at hL 4 rfl) ?_
  refine lv_iconst (v := 1) hx hb dL_law_418 rfl ?_
  refine lv_iadd hx hb dL_law_419 ?_
  refine va_sld hx hb hX hbl hbA hS hi1 dL_law_420 ?_
  refine lv_aload_n hx hb dL_law_421 rfl (lv_at hL 0 rfl) ?_
  refine lv_iload hx hb dL_law_422 (lv_at hL 4 rfl) ?_
  refine lv_iconst (v := 2) hx hb dL_law_424 rfl ?_
  refine lv_iadd hx hb dL_law_425 ?_
  refine va_sld hx hb hX hbl hbA hS hi2 dL_law_426 ?_
  refine lv_aload_n hx hb dL_law_427 rfl (lv_at hL 0 rfl) ?_
  refine lv_iload hx hb dL_law_428 (lv_at hL 4 rfl) ?_
  refine lv_iconst (v := 3) hx hb dL_law_430 rfl ?_
  refine lv_iadd hx hb dL_law_431 ?_
  refine va_sld hx hb hX hbl hbA hS hi3 dL_law_432 ?_
  refine lv_aload_n hx hb dL_law_433 rfl (lv_at hL 0 rfl) ?_
  refine lv_iload hx hb dL_law_434 (lv_at hL 4 rfl) ?_
  refine lv_iconst (v := 4) hx hb dL_law_436 rfl ?_
  refine lv_iadd hx hb dL_law_437 ?_
  refine va_sld hx hb hX hbl hbA hS hi4 dL_law_438 ?_
  refine lv_aload_n hx hb dL_law_439 rfl (lv_at hL 0 rfl) ?_
  refine lv_iload hx hb dL_law_440 (lv_at hL 4 rfl) ?_
  refine lv_iconst (v := 5) hx hb dL_law_442 rfl ?_
  refine lv_iadd hx hb dL_law_443 ?_
  refine va_sld hx hb hX hbl hbA hS hi5 dL_law_444 ?_
  refine lv_aload_n hx hb dL_law_445 rfl (lv_at hL 0 rfl) ?_
  refine lv_iload hx hb dL_law_446 (lv_at hL 4 rfl) ?_
  refine lv_bipush (v := 6) hx hb dL_law_448 rfl ?_
  refine lv_iadd hx hb dL_law_450 ?_
  refine va_sld hx hb hX hbl hbA hS hi6 dL_law_451 ?_
  refine lz_callM (as := [.int (xs (x4 + 1).toNatClampNeg), .int (xs (x4 + 2).toNatClampNeg), .int (xs (x4 + 3).toNatClampNeg), .int (xs (x4 + 4).toNatClampNeg), .int (xs (x4 + 5).toNatClampNeg), .int (xs (x4 + 6).toNatClampNeg)]) (rest := [.int (gX11_ticket μ (xs (x4 + 1).toNatClampNeg) (xs (x4 + 2).toNatClampNeg) (xs (x4 + 3).toNatClampNeg) (xs (x4 + 4).toNatClampNeg) (xs (x4 + 5).toNatClampNeg) (xs (x4 + 6).toNatClampNeg))]) C0 hm hI2 hS dL_law_452 kvL_50 kmX12_ticket (d2 := 2) (by decide) rfl hν (by omega) rfl rfl rfl (fs_c trivial (fs_c trivial (fs_c trivial (fs_c trivial (fs_c trivial (fs_c trivial (fun _ h => by cases h))))))) (Nat.le_of_ble_eq_true rfl) (Nat.le_of_ble_eq_true rfl) hL.1 (mc2 := 0) (ms2 := 0) ⟨by omega, by omega⟩ (wX12_ticket (μ := ν) hν (xs (x4 + 1).toNatClampNeg) (xs (x4 + 2).toNatClampNeg) (xs (x4 + 3).toNatClampNeg) (xs (x4 + 4).toNatClampNeg) (xs (x4 + 5).toNatClampNeg) (xs (x4 + 6).toNatClampNeg) hpM) ?_
  rintro v ν' am' H2 locs2 ⟨hv1, hv2⟩ - hm2 hI3 hS3
  rw [hv1]
  rw [hv2] at hI3
  have f0 : am' 0 = am 0 := hm2 0 (Or.inl (by omega))
  show W p l e room_1 s m #[Value.ref b] below meth c H2 locs2 (cells + 0) (slots + 0) _ (F0 m 455 ls [.int (gX12_ticket ν (xs (x4 + 1).toNatClampNeg) (xs (x4 + 2).toNatClampNeg) (xs (x4 + 3).toNatClampNeg) (xs (x4 + 4).toNatClampNeg) (xs (x4 + 5).toNatClampNeg) (xs (x4 + 6).toNatClampNeg)), .int (gX11_ticket μ (xs (x4 + 1).toNatClampNeg) (xs (x4 + 2).toNatClampNeg) (xs (x4 + 3).toNatClampNeg) (xs (x4 + 4).toNatClampNeg) (xs (x4 + 5).toNatClampNeg) (xs (x4 + 6).toNatClampNeg))])
  refine W.widen (k := cells + 40) (n := slots + 3000) (by omega) (by omega) ?_
  refine lv_icmp_eq (tgt := 1521) hx hb dL_law_455 rfl (fun _ => ?_) (fun hq => absurd hg hq)
  exact K0 ls ad' am' _ _ o H2 locs2 (by rw [e0, f0]; exact hL) (fun k hk => (ha2 k (Or.inr hk)).trans (ha k hk)) (fun k hk => (hm2 k (Or.inr hk)).trans (hm k hk)) hRR hI3 hS3
set_option maxHeartbeats 4000000 in
set_option maxRecDepth 20000 in
theorem lc_11 (hl : l.stackTraces = false) (hO : ob_all RR) (C0 : lz_C p s m meth c b L xs D cy ad0) (hR : RR μ ν) (ha : ∀ k, 4000 ≤ k → ad k = ad0 k) (hm : ∀ k, 4000 ≤ k → am k = ad0 k) (hI : lz_I (fun q => s.heap.size ≤ q) D cy ad am ao μ ν o H) (hS : va_S (fun q => s.heap.size ≤ q) s.heap H locs) (hL : lv_has ls 7 [(0, .ref b), (1, .ref (ad 0)), (2, .ref (am 0)), (3, .ref ao), (4, .int x4)]) (hin : ∀ j : Nat, j < 7 → vp_in (x4 + nI j) L) (hcs : cells + 40 ≤ 601024 ∧ slots + 3000 ≤ 7293034)
    (K0 : lz_K p l e s m below meth c b D cy ad0 ao x4 RR (cells + 40) (slots + 3000)) : W p l e room_1 s m #[Value.ref b] below meth c H locs cells slots (lw_Z below #[Value.ref b] s) (F0 m 664 ls []) := by
  obtain ⟨hx, hb, hr, hml, hown, hts, hX, hbl, hlocks, hgv⟩ := C0.1
  have hbA : ¬ (fun q : Nat => s.heap.size ≤ q) b := Nat.not_le.mpr hbl
  obtain ⟨⟨r0, r1, hz⟩, hν, hn34⟩ := hO.1 μ ν hR
  have hμ := hz.1
  have h89 : 89 ≤ μ.1 := lz_r89 hz
  obtain ⟨hpC, hpM, hg, hRR⟩ := hO.2.2.2.2.2.2.2.2.2.2.2.2.1 μ ν hR
  refine lv_aload_n hx hb dL_law_664 rfl (lv_at hL 1 rfl) ?_
  refine lz_callC (as := []) (rest := []) C0 ha hI hS dL_law_665 kvL_77 kmX11_patience (d2 := 4) (by decide) rfl hμ (by omega) rfl rfl rfl (fun _ h => by cases h) (Nat.le_of_ble_eq_true rfl) (Nat.le_of_ble_eq_true rfl) hL.1 (mc2 := 0) (ms2 := 0) ⟨by omega, by omega⟩ (wX11_patience (μ := μ) hμ hpC) ?_
  rintro v μ' ad' H' locs' ⟨hv1, hv2⟩ - ha2 hI2 hS2
  rw [hv1]
  rw [hv2] at hI2
  have e0 : ad' 0 = ad 0 := ha2 0 (Or.inl (by omega))
  show W p l e room_1 s m #[Value.ref b] below meth c H' locs' (cells + 0) (slots + 0) _ (F0 m 668 ls [.int (gX11_patience μ)])
  have hS := hS2
  refine lv_aload_n hx hb dL_law_668 rfl (lv_at hL 2 rfl) ?_
  refine lz_callM (as := []) (rest := [.int (gX11_patience μ)]) C0 hm hI2 hS dL_law_669 kvL_80 kmX12_patience (d2 := (8 * fD + 2)) (by rw [fD_eq]; decide) rfl hν (by omega) rfl rfl rfl (fun _ h => by cases h) (Nat.le_of_ble_eq_true rfl) (Nat.le_of_ble_eq_true rfl) hL.1 (mc2 := 0) (ms2 := 0) ⟨by omega, by omega⟩ (wX12_patience (μ := ν) hν hpM) ?_
  rintro v ν' am' H2 locs2 ⟨hv1, hv2⟩ - hm2 hI3 hS3
  rw [hv1]
  rw [hv2] at hI3
  have f0 : am' 0 = am 0 := hm2 0 (Or.inl (by omega))
  show W p l e room_1 s m #[Value.ref b] below meth c H2 locs2 (cells + 0) (slots + 0) _ (F0 m 672 ls [.int (gX12_patience ν), .int (gX11_patience μ)])
  refine W.widen (k := cells + 40) (n := slots + 3000) (by omega) (by omega) ?_
  refine lv_icmp_eq (tgt := 1521) hx hb dL_law_672 rfl (fun _ => ?_) (fun hq => absurd hg hq)
  exact K0 ls ad' am' _ _ o H2 locs2 (by rw [e0, f0]; exact hL) (fun k hk => (ha2 k (Or.inr hk)).trans (ha k hk)) (fun k hk => (hm2 k (Or.inr hk)).trans (hm k hk)) hRR hI3 hS3
set_option maxHeartbeats 4000000 in
set_option maxRecDepth 20000 in
theorem lc_17 (hl : l.stackTraces = false) (hO : ob_all RR) (C0 : lz_C p s m meth c b L xs D cy ad0) (hR : RR μ ν) (ha : ∀ k, 4000 ≤ k → ad k = ad0 k) (hm : ∀ k, 4000 ≤ k → am k = ad0 k) (hI : lz_I (fun q => s.heap.size ≤ q) D cy ad am ao μ ν o H) (hS : va_S (fun q => s.heap.size ≤ q) s.heap H locs) (hL : lv_has ls 7 [(0, .ref b), (1, .ref (ad 0)), (2, .ref (am 0)), (3, .ref ao), (4, .int x4)]) (hin : ∀ j : Nat, j < 7 → vp_in (x4 + nI j) L) (hcs : cells + 40 ≤ 601024 ∧ slots + 3000 ≤ 7293034)
    (K0 : lz_K p l e s m below meth c b D cy ad0 ao x4 RR (cells + 40) (slots + 3000)) : W p l e room_1 s m #[Value.ref b] below meth c H locs cells slots (lw_Z below #[Value.ref b] s) (F0 m 805 ls []) := by
  obtain ⟨hx, hb, hr, hml, hown, hts, hX, hbl, hlocks, hgv⟩ := C0.1
  have hbA : ¬ (fun q : Nat => s.heap.size ≤ q) b := Nat.not_le.mpr hbl
  obtain ⟨⟨r0, r1, hz⟩, hν, hn34⟩ := hO.1 μ ν hR
  have hμ := hz.1
  have h89 : 89 ≤ μ.1 := lz_r89 hz
  have hi1 : vp_in (x4 + 1) L := hin 1 (by decide)
  obtain ⟨hpC, hpM, hg, hRR⟩ := hO.2.2.2.2.2.2.2.2.2.2.2.2.2.2.2.2.2.2.1 μ ν (xs (x4 + 1).toNatClampNeg) hR
  refine lv_aload_n hx hb dL_law_805 rfl (lv_at hL 1 rfl) ?_
  refine lv_aload_n hx hb dL_law_806 rfl (lv_at hL 0 rfl) ?_
  refine lv_iload hx hb dL_law_807 (lv_at hL 4 rfl) ?_
  refine lv_iconst (v := 1) hx hb dL_law_809 rfl ?_
  refine lv_iadd hx hb dL_law_810 ?_
  refine va_sld hx hb hX hbl hbA hS hi1 dL_law_811 ?_
  refine lz_callC (as := [.int (xs (x4 + 1).toNatClampNeg)]) (rest := []) C0 ha hI hS dL_law_812 kvL_104 kmX11_twice (d2 := 2) (by decide) rfl hμ (by omega) rfl rfl rfl (fs_c trivial (fun _ h => by cases h)) (Nat.le_of_ble_eq_true rfl) (Nat.le_of_ble_eq_true rfl) hL.1 (mc2 := 0) (ms2 := 0) ⟨by omega, by omega⟩ (wX11_twice (μ := μ) hμ (xs (x4 + 1).toNatClampNeg) hpC) ?_
  rintro v μ' ad' H' locs' ⟨hv1, hv2⟩ - ha2 hI2 hS2
  rw [hv1]
  rw [hv2] at hI2
  have e0 : ad' 0 = ad 0 := ha2 0 (Or.inl (by omega))
  show W p l e room_1 s m #[Value.ref b] below meth c H' locs' (cells + 0) (slots + 0) _ (F0 m 815 ls [.int (gX11_twice μ (xs (x4 + 1).toNatClampNeg))])
  have hS := hS2
  refine lv_aload_n hx hb dL_law_815 rfl (lv_at hL 2 rfl) ?_
  refine lv_aload_n hx hb dL_law_816 rfl (lv_at hL 0 rfl) ?_
  refine lv_iload hx hb dL_law_817 (lv_at hL 4 rfl) ?_
  refine lv_iconst (v := 1) hx hb dL_law_819 rfl ?_
  refine lv_iadd hx hb dL_law_820 ?_
  refine va_sld hx hb hX hbl hbA hS hi1 dL_law_821 ?_
  refine lz_callM (as := [.int (xs (x4 + 1).toNatClampNeg)]) (rest := [.int (gX11_twice μ (xs (x4 + 1).toNatClampNeg))]) C0 hm hI2 hS dL_law_822 kvL_107 kmX12_twice (d2 := 2) (by decide) rfl hν (by omega) rfl rfl rfl (fs_c trivial (fun _ h => by cases h)) (Nat.le_of_ble_eq_true rfl) (Nat.le_of_ble_eq_true rfl) hL.1 (mc2 := 0) (ms2 := 0) ⟨by omega, by omega⟩ (wX12_twice (μ := ν) hν (xs (x4 + 1).toNatClampNeg) hpM) ?_
  rintro v ν' am' H2 locs2 ⟨hv1, hv2⟩ - hm2 hI3 hS3
  rw [hv1]
  rw [hv2] at hI3
  have f0 : am' 0 = am 0 := hm2 0 (Or.inl (by omega))
  show W p l e room_1 s m #[Value.ref b] below meth c H2 locs2 (cells + 0) (slots + 0) _ (F0 m 825 ls [.int (gX12_twice ν (xs (x4 + 1).toNatClampNeg)), .int (gX11_twice μ (xs (x4 + 1).toNatClampNeg))])
  refine W.widen (k := cells + 40) (n := slots + 3000) (by omega) (by omega) ?_
  refine lv_icmp_eq (tgt := 1521) hx hb dL_law_825 rfl (fun _ => ?_) (fun hq => absurd hg hq)
  exact K0 ls ad' am' _ _ o H2 locs2 (by rw [e0, f0]; exact hL) (fun k hk => (ha2 k (Or.inr hk)).trans (ha k hk)) (fun k hk => (hm2 k (Or.inr hk)).trans (hm k hk)) hRR hI3 hS3
set_option maxHeartbeats 4000000 in
set_option maxRecDepth 20000 in
theorem lc_23 (hl : l.stackTraces = false) (hO : ob_all RR) (C0 : lz_C p s m meth c b L xs D cy ad0) (hR : RR μ ν) (ha : ∀ k, 4000 ≤ k → ad k = ad0 k) (hm : ∀ k, 4000 ≤ k → am k = ad0 k) (hI : lz_I (fun q => s.heap.size ≤ q) D cy ad am ao μ ν o H) (hS : va_S (fun q => s.heap.size ≤ q) s.heap H locs) (hL : lv_has ls 7 [(0, .ref b), (1, .ref (ad 0)), (2, .ref (am 0)), (3, .ref ao), (4, .int x4)]) (hin : ∀ j : Nat, j < 7 → vp_in (x4 + nI j) L) (hcs : cells + 40 ≤ 601024 ∧ slots + 3000 ≤ 7293034)
    (K0 : lz_K p l e s m below meth c b D cy ad0 ao x4 RR (cells + 40) (slots + 3000)) : W p l e room_1 s m #[Value.ref b] below meth c H locs cells slots (lw_Z below #[Value.ref b] s) (F0 m 979 ls []) := by
  obtain ⟨hx, hb, hr, hml, hown, hts, hX, hbl, hlocks, hgv⟩ := C0.1
  have hbA : ¬ (fun q : Nat => s.heap.size ≤ q) b := Nat.not_le.mpr hbl
  obtain ⟨⟨r0, r1, hz⟩, hν, hn34⟩ := hO.1 μ ν hR
  have hμ := hz.1
  have h89 : 89 ≤ μ.1 := lz_r89 hz
  have hi1 : vp_in (x4 + 1) L := hin 1 (by decide)
  have hi2 : vp_in (x4 + 2) L := hin 2 (by decide)
  obtain ⟨hpC, hpM, hg, hRR⟩ := hO.2.2.2.2.2.2.2.2.2.2.2.2.2.2.2.2.2.2.2.2.2.2.2.2.1 μ ν (xs (x4 + 1).toNatClampNeg) (xs (x4 + 2).toNatClampNeg) hR
  refine lv_aload_n hx hb dL_law_979 rfl (lv_at hL 1 rfl) ?_
  refine lv_aload_n hx hb dL_law_980 rfl (lv_at hL 0 rfl) ?_
  refine lv_iload hx hb dL_law_981 (lv_at hL 4 rfl) ?_
  refine lv_iconst (v := 1) hx hb dL_law_983 rfl ?_
  refine lv_iadd hx hb dL_law_984 ?_
  refine va_sld hx hb hX hbl hbA hS hi1 dL_law_985 ?_
  refine lv_aload_n hx hb dL_law_986 rfl (lv_at hL 0 rfl) ?_
  refine lv_iload hx hb dL_law_987 (lv_at hL 4 rfl) ?_
  refine lv_iconst (v := 2) hx hb dL_law_989 rfl ?_
  refine lv_iadd hx hb dL_law_990 ?_
  refine va_sld hx hb hX hbl hbA hS hi2 dL_law_991 ?_
  refine lz_callC (as := [.int (xs (x4 + 1).toNatClampNeg), .int (xs (x4 + 2).toNatClampNeg)]) (rest := []) C0 ha hI hS dL_law_992 kvL_130 kmX11_recall (d2 := 2) (by decide) rfl hμ (by omega) rfl rfl rfl (fs_c trivial (fs_c trivial (fun _ h => by cases h))) (Nat.le_of_ble_eq_true rfl) (Nat.le_of_ble_eq_true rfl) hL.1 (mc2 := 0) (ms2 := 0) ⟨by omega, by omega⟩ (wX11_recall (μ := μ) hμ (xs (x4 + 1).toNatClampNeg) (xs (x4 + 2).toNatClampNeg) hpC) ?_
  rintro v μ' ad' H' locs' ⟨hv1, hv2⟩ - ha2 hI2 hS2
  rw [hv1]
  rw [hv2] at hI2
  have e0 : ad' 0 = ad 0 := ha2 0 (Or.inl (by omega))
  show W p l e room_1 s m #[Value.ref b] below meth c H' locs' (cells + 0) (slots + 0) _ (F0 m 995 ls [.int (gX11_recall μ (xs (x4 + 1).toNatClampNeg) (xs (x4 + 2).toNatClampNeg))])
  have hS := hS2
  refine lv_aload_n hx hb dL_law_995 rfl (lv_at hL 2 rfl) ?_
  refine lv_aload_n hx hb dL_law_996 rfl (lv_at hL 0 rfl) ?_
  refine lv_iload hx hb dL_law_997 (lv_at hL 4 rfl) ?_
  refine lv_iconst (v := 1) hx hb dL_law_999 rfl ?_
  refine lv_iadd hx hb dL_law_1000 ?_
  refine va_sld hx hb hX hbl hbA hS hi1 dL_law_1001 ?_
  refine lv_aload_n hx hb dL_law_1002 rfl (lv_at hL 0 rfl) ?_
  refine lv_iload hx hb dL_law_1003 (lv_at hL 4 rfl) ?_
  refine lv_iconst (v := 2) hx hb dL_law_1005 rfl ?_
  refine lv_iadd hx hb dL_law_1006 ?_
  refine va_sld hx hb hX hbl hbA hS hi2 dL_law_1007 ?_
  refine lz_callM (as := [.int (xs (x4 + 1).toNatClampNeg), .int (xs (x4 + 2).toNatClampNeg)]) (rest := [.int (gX11_recall μ (xs (x4 + 1).toNatClampNeg) (xs (x4 + 2).toNatClampNeg))]) C0 hm hI2 hS dL_law_1008 kvL_133 kmX12_recall (d2 := 2) (by decide) rfl hν (by omega) rfl rfl rfl (fs_c trivial (fs_c trivial (fun _ h => by cases h))) (Nat.le_of_ble_eq_true rfl) (Nat.le_of_ble_eq_true rfl) hL.1 (mc2 := 0) (ms2 := 0) ⟨by omega, by omega⟩ (wX12_recall (μ := ν) hν (xs (x4 + 1).toNatClampNeg) (xs (x4 + 2).toNatClampNeg) hpM) ?_
  rintro v ν' am' H2 locs2 ⟨hv1, hv2⟩ - hm2 hI3 hS3
  rw [hv1]
  rw [hv2] at hI3
  have f0 : am' 0 = am 0 := hm2 0 (Or.inl (by omega))
  show W p l e room_1 s m #[Value.ref b] below meth c H2 locs2 (cells + 0) (slots + 0) _ (F0 m 1011 ls [.int (gX12_recall ν (xs (x4 + 1).toNatClampNeg) (xs (x4 + 2).toNatClampNeg)), .int (gX11_recall μ (xs (x4 + 1).toNatClampNeg) (xs (x4 + 2).toNatClampNeg))])
  refine W.widen (k := cells + 40) (n := slots + 3000) (by omega) (by omega) ?_
  refine lv_icmp_eq (tgt := 1521) hx hb dL_law_1011 rfl (fun _ => ?_) (fun hq => absurd hg hq)
  exact K0 ls ad' am' _ _ o H2 locs2 (by rw [e0, f0]; exact hL) (fun k hk => (ha2 k (Or.inr hk)).trans (ha k hk)) (fun k hk => (hm2 k (Or.inr hk)).trans (hm k hk)) hRR hI3 hS3
set_option maxHeartbeats 4000000 in
set_option maxRecDepth 20000 in
theorem lc_29 (hl : l.stackTraces = false) (hO : ob_all RR) (C0 : lz_C p s m meth c b L xs D cy ad0) (hR : RR μ ν) (ha : ∀ k, 4000 ≤ k → ad k = ad0 k) (hm : ∀ k, 4000 ≤ k → am k = ad0 k) (hI : lz_I (fun q => s.heap.size ≤ q) D cy ad am ao μ ν o H) (hS : va_S (fun q => s.heap.size ≤ q) s.heap H locs) (hL : lv_has ls 7 [(0, .ref b), (1, .ref (ad 0)), (2, .ref (am 0)), (3, .ref ao), (4, .int x4)]) (hin : ∀ j : Nat, j < 7 → vp_in (x4 + nI j) L) (hcs : cells + 40 ≤ 601024 ∧ slots + 3000 ≤ 7293034)
    (K0 : lz_K p l e s m below meth c b D cy ad0 ao x4 RR (cells + 40) (slots + 3000)) : W p l e room_1 s m #[Value.ref b] below meth c H locs cells slots (lw_Z below #[Value.ref b] s) (F0 m 1141 ls []) := by
  obtain ⟨hx, hb, hr, hml, hown, hts, hX, hbl, hlocks, hgv⟩ := C0.1
  have hbA : ¬ (fun q : Nat => s.heap.size ≤ q) b := Nat.not_le.mpr hbl
  obtain ⟨⟨r0, r1, hz⟩, hν, hn34⟩ := hO.1 μ ν hR
  have hμ := hz.1
  have h89 : 89 ≤ μ.1 := lz_r89 hz
  have hi1 : vp_in (x4 + 1) L := hin 1 (by decide)
  obtain ⟨hpC, hpM, hg, hRR⟩ := hO.2.2.2.2.2.2.2.2.2.2.2.2.2.2.2.2.2.2.2.2.2.2.2.2.2.2.2.2.2.2.1 μ ν (xs (x4 + 1).toNatClampNeg) hR
  refine lv_aload_n hx hb dL_law_1141 rfl (lv_at hL 1 rfl) ?_
  refine lv_aload_n hx hb dL_law_1142 rfl (lv_at hL 0 rfl) ?_
  refine lv_iload hx hb dL_law_1143 (lv_at hL 4 rfl) ?_
  refine lv_iconst (v := 1) hx hb dL_law_1145 rfl ?_
  refine lv_iadd hx hb dL_law_1146 ?_
  refine va_sld hx hb hX hbl hbA hS hi1 dL_law_1147 ?_
  refine lz_callC (as := [.int (xs (x4 + 1).toNatClampNeg)]) (rest := []) C0 ha hI hS dL_law_1148 kvL_154 kmX11_possible (d2 := 4) (by decide) rfl hμ (by omega) rfl rfl rfl (fs_c trivial (fun _ h => by cases h)) (Nat.le_of_ble_eq_true rfl) (Nat.le_of_ble_eq_true rfl) hL.1 (mc2 := 0) (ms2 := 0) ⟨by omega, by omega⟩ (wX11_possible (μ := μ) hμ (xs (x4 + 1).toNatClampNeg) hpC) ?_
  rintro v μ' ad' H' locs' ⟨hv1, hv2⟩ - ha2 hI2 hS2
  rw [hv1]
  rw [hv2] at hI2
  have e0 : ad' 0 = ad 0 := ha2 0 (Or.inl (by omega))
  show W p l e room_1 s m #[Value.ref b] below meth c H' locs' (cells + 0) (slots + 0) _ (F0 m 1151 ls [.int (gX11_possible μ (xs (x4 + 1).toNatClampNeg))])
  have hS := hS2
  refine lv_aload_n hx hb dL_law_1151 rfl (lv_at hL 2 rfl) ?_
  refine lv_aload_n hx hb dL_law_1152 rfl (lv_at hL 0 rfl) ?_
  refine lv_iload hx hb dL_law_1153 (lv_at hL 4 rfl) ?_
  refine lv_iconst (v := 1) hx hb dL_law_1155 rfl ?_
  refine lv_iadd hx hb dL_law_1156 ?_
  refine va_sld hx hb hX hbl hbA hS hi1 dL_law_1157 ?_
  refine lz_callM (as := [.int (xs (x4 + 1).toNatClampNeg)]) (rest := [.int (gX11_possible μ (xs (x4 + 1).toNatClampNeg))]) C0 hm hI2 hS dL_law_1158 kvL_157 kmX12_possible (d2 := 3) (by decide) rfl hν (by omega) rfl rfl rfl (fs_c trivial (fun _ h => by cases h)) (Nat.le_of_ble_eq_true rfl) (Nat.le_of_ble_eq_true rfl) hL.1 (mc2 := 0) (ms2 := 0) ⟨by omega, by omega⟩ (wX12_possible (μ := ν) hν (xs (x4 + 1).toNatClampNeg) hpM) ?_
  rintro v ν' am' H2 locs2 ⟨hv1, hv2⟩ - hm2 hI3 hS3
  rw [hv1]
  rw [hv2] at hI3
  have f0 : am' 0 = am 0 := hm2 0 (Or.inl (by omega))
  show W p l e room_1 s m #[Value.ref b] below meth c H2 locs2 (cells + 0) (slots + 0) _ (F0 m 1161 ls [.int (gX12_possible ν (xs (x4 + 1).toNatClampNeg)), .int (gX11_possible μ (xs (x4 + 1).toNatClampNeg))])
  refine W.widen (k := cells + 40) (n := slots + 3000) (by omega) (by omega) ?_
  refine lv_icmp_eq (tgt := 1521) hx hb dL_law_1161 rfl (fun _ => ?_) (fun hq => absurd hg hq)
  exact K0 ls ad' am' _ _ o H2 locs2 (by rw [e0, f0]; exact hL) (fun k hk => (ha2 k (Or.inr hk)).trans (ha k hk)) (fun k hk => (hm2 k (Or.inr hk)).trans (hm k hk)) hRR hI3 hS3
set_option maxHeartbeats 4000000 in
set_option maxRecDepth 20000 in
theorem lc_35 (hl : l.stackTraces = false) (hO : ob_all RR) (C0 : lz_C p s m meth c b L xs D cy ad0) (hR : RR μ ν) (ha : ∀ k, 4000 ≤ k → ad k = ad0 k) (hm : ∀ k, 4000 ≤ k → am k = ad0 k) (hI : lz_I (fun q => s.heap.size ≤ q) D cy ad am ao μ ν o H) (hS : va_S (fun q => s.heap.size ≤ q) s.heap H locs) (hL : lv_has ls 7 [(0, .ref b), (1, .ref (ad 0)), (2, .ref (am 0)), (3, .ref ao), (4, .int x4)]) (hin : ∀ j : Nat, j < 7 → vp_in (x4 + nI j) L) (hcs : cells + 40 ≤ 601024 ∧ slots + 3000 ≤ 7293034)
    (K0 : lz_K p l e s m below meth c b D cy ad0 ao x4 RR (cells + 40) (slots + 3000)) : W p l e room_1 s m #[Value.ref b] below meth c H locs cells slots (lw_Z below #[Value.ref b] s) (F0 m 1322 ls []) := by
  obtain ⟨hx, hb, hr, hml, hown, hts, hX, hbl, hlocks, hgv⟩ := C0.1
  have hbA : ¬ (fun q : Nat => s.heap.size ≤ q) b := Nat.not_le.mpr hbl
  obtain ⟨⟨r0, r1, hz⟩, hν, hn34⟩ := hO.1 μ ν hR
  have hμ := hz.1
  have h89 : 89 ≤ μ.1 := lz_r89 hz
  have hi1 : vp_in (x4 + 1) L := hin 1 (by decide)
  have hi2 : vp_in (x4 + 2) L := hin 2 (by decide)
  have hi3 : vp_in (x4 + 3) L := hin 3 (by decide)
  obtain ⟨hpC, hpM, hg, hRR⟩ := hO.2.2.2.2.2.2.2.2.2.2.2.2.2.2.2.2.2.2.2.2.2.2.2.2.2.2.2.2.2.2.2.2.2.2.2.2.1 μ ν (xs (x4 + 1).toNatClampNeg) (xs (x4 + 2).toNatClampNeg) (xs (x4 + 3).toNatClampNeg) hR
  refine lv_aload_n hx hb dL_law_1322 rfl (lv_at hL 1 rfl) ?_
  refine lv_aload_n hx hb dL_law_1323 rfl (lv_at hL 0 rfl) ?_
  refine lv_iload hx hb dL_law_1324 (lv_at hL 4 rfl) ?_
  refine lv_iconst (v := 1) hx hb dL_law_1326 rfl ?_
  refine lv_iadd hx hb dL_law_1327 ?_
  refine va_sld hx hb hX hbl hbA hS hi1 dL_law_1328 ?_
  refine lv_aload_n hx hb dL_law_1329 rfl (lv_at hL 0 rfl) ?_
  refine lv_iload hx hb dL_law_1330 (lv_at hL 4 rfl) ?_
  refine lv_iconst (v := 2) hx hb dL_law_1332 rfl ?_
  refine lv_iadd hx hb dL_law_1333 ?_
  refine va_sld hx hb hX hbl hbA hS hi2 dL_law_1334 ?_
  refine lv_aload_n hx hb dL_law_1335 rfl (lv_at hL 0 rfl) ?_
  refine lv_iload hx hb dL_law_1336 (lv_at hL 4 rfl) ?_
  refine lv_iconst (v := 3) hx hb dL_law_1338 rfl ?_
  refine lv_iadd hx hb dL_law_1339 ?_
  refine va_sld hx hb hX hbl hbA hS hi3 dL_law_1340 ?_
  refine lz_callC (as := [.int (xs (x4 + 1).toNatClampNeg), .int (xs (x4 + 2).toNatClampNeg), .int (xs (x4 + 3).toNatClampNeg)]) (rest := []) C0 ha hI hS dL_law_1341 kvL_178 kmX11_place (d2 := 2) (by decide) rfl hμ (by omega) rfl rfl rfl (fs_c trivial (fs_c trivial (fs_c trivial (fun _ h => by cases h)))) (Nat.le_of_ble_eq_true rfl) (Nat.le_of_ble_eq_true rfl) hL.1 (mc2 := 0) (ms2 := 0) ⟨by omega, by omega⟩ (wX11_place (μ := μ) hμ (xs (x4 + 1).toNatClampNeg) (xs (x4 + 2).toNatClampNeg) (xs (x4 + 3).toNatClampNeg) hpC) ?_
  rintro v μ' ad' H' locs' ⟨hv1, hv2⟩ - ha2 hI2 hS2
  rw [hv1]
  rw [hv2] at hI2
  have e0 : ad' 0 = ad 0 := ha2 0 (Or.inl (by omega))
  show W p l e room_1 s m #[Value.ref b] below meth c H' locs' (cells + 0) (slots + 0) _ (F0 m 1344 ls [.int (gX11_place μ (xs (x4 + 1).toNatClampNeg) (xs (x4 + 2).toNatClampNeg) (xs (x4 + 3).toNatClampNeg))])
  have hS := hS2
  refine lv_aload_n hx hb dL_law_1344 rfl (lv_at hL 2 rfl) ?_
  refine lv_aload_n hx hb dL_law_1345 rfl (lv_at hL 0 rfl) ?_
  refine lv_iload hx hb dL_law_1346 (lv_at hL 4 rfl) ?_
  refine lv_iconst (v := 1) hx hb dL_law_1348 rfl ?_
  refine lv_iadd hx hb dL_law_1349 ?_
  refine va_sld hx hb hX hbl hbA hS hi1 dL_law_1350 ?_
  refine lv_aload_n hx hb dL_law_1351 rfl (lv_at hL 0 rfl) ?_
  refine lv_iload hx hb dL_law_1352 (lv_at hL 4 rfl) ?_
  refine lv_iconst (v := 2) hx hb dL_law_1354 rfl ?_
  refine lv_iadd hx hb dL_law_1355 ?_
  refine va_sld hx hb hX hbl hbA hS hi2 dL_law_1356 ?_
  refine lv_aload_n hx hb dL_law_1357 rfl (lv_at hL 0 rfl) ?_
  refine lv_iload hx hb dL_law_1358 (lv_at hL 4 rfl) ?_
  refine lv_iconst (v := 3) hx hb dL_law_1360 rfl ?_
  refine lv_iadd hx hb dL_law_1361 ?_
  refine va_sld hx hb hX hbl hbA hS hi3 dL_law_1362 ?_
  refine lz_callM (as := [.int (xs (x4 + 1).toNatClampNeg), .int (xs (x4 + 2).toNatClampNeg), .int (xs (x4 + 3).toNatClampNeg)]) (rest := [.int (gX11_place μ (xs (x4 + 1).toNatClampNeg) (xs (x4 + 2).toNatClampNeg) (xs (x4 + 3).toNatClampNeg))]) C0 hm hI2 hS dL_law_1363 kvL_181 kmX12_place (d2 := 2) (by decide) rfl hν (by omega) rfl rfl rfl (fs_c trivial (fs_c trivial (fs_c trivial (fun _ h => by cases h)))) (Nat.le_of_ble_eq_true rfl) (Nat.le_of_ble_eq_true rfl) hL.1 (mc2 := 0) (ms2 := 0) ⟨by omega, by omega⟩ (wX12_place (μ := ν) hν (xs (x4 + 1).toNatClampNeg) (xs (x4 + 2).toNatClampNeg) (xs (x4 + 3).toNatClampNeg) hpM) ?_
  rintro v ν' am' H2 locs2 ⟨hv1, hv2⟩ - hm2 hI3 hS3
  rw [hv1]
  rw [hv2] at hI3
  have f0 : am' 0 = am 0 := hm2 0 (Or.inl (by omega))
  show W p l e room_1 s m #[Value.ref b] below meth c H2 locs2 (cells + 0) (slots + 0) _ (F0 m 1366 ls [.int (gX12_place ν (xs (x4 + 1).toNatClampNeg) (xs (x4 + 2).toNatClampNeg) (xs (x4 + 3).toNatClampNeg)), .int (gX11_place μ (xs (x4 + 1).toNatClampNeg) (xs (x4 + 2).toNatClampNeg) (xs (x4 + 3).toNatClampNeg))])
  refine W.widen (k := cells + 40) (n := slots + 3000) (by omega) (by omega) ?_
  refine lv_icmp_eq (tgt := 1521) hx hb dL_law_1366 rfl (fun _ => ?_) (fun hq => absurd hg hq)
  exact K0 ls ad' am' _ _ o H2 locs2 (by rw [e0, f0]; exact hL) (fun k hk => (ha2 k (Or.inr hk)).trans (ha k hk)) (fun k hk => (hm2 k (Or.inr hk)).trans (hm k hk)) hRR hI3 hS3
set_option maxHeartbeats 4000000 in
set_option maxRecDepth 20000 in
theorem lc_41 (hl : l.stackTraces = false) (hO : ob_all RR) (C0 : lz_C p s m meth c b L xs D cy ad0) (hR : RR μ ν) (ha : ∀ k, 4000 ≤ k → ad k = ad0 k) (hm : ∀ k, 4000 ≤ k → am k = ad0 k) (hI : lz_I (fun q => s.heap.size ≤ q) D cy ad am ao μ ν o H) (hS : va_S (fun q => s.heap.size ≤ q) s.heap H locs) (hL : lv_has ls 7 [(0, .ref b), (1, .ref (ad 0)), (2, .ref (am 0)), (3, .ref ao), (4, .int x4)]) (hin : ∀ j : Nat, j < 7 → vp_in (x4 + nI j) L) (hcs : cells + 40 ≤ 601024 ∧ slots + 3000 ≤ 7293034)
    (K0 : lz_K p l e s m below meth c b D cy ad0 ao x4 RR (cells + 40) (slots + 3000)) : W p l e room_1 s m #[Value.ref b] below meth c H locs cells slots (lw_Z below #[Value.ref b] s) (F0 m 1496 ls []) := by
  obtain ⟨hx, hb, hr, hml, hown, hts, hX, hbl, hlocks, hgv⟩ := C0.1
  have hbA : ¬ (fun q : Nat => s.heap.size ≤ q) b := Nat.not_le.mpr hbl
  obtain ⟨⟨r0, r1, hz⟩, hν, hn34⟩ := hO.1 μ ν hR
  have hμ := hz.1
  have h89 : 89 ≤ μ.1 := lz_r89 hz
  have hi1 : vp_in (x4 + 1) L := hin 1 (by decide)
  obtain ⟨hpC, hpM, hg, hRR⟩ := hO.2.2.2.2.2.2.2.2.2.2.2.2.2.2.2.2.2.2.2.2.2.2.2.2.2.2.2.2.2.2.2.2.2.2.2.2.2.2.2.2.2.2 μ ν (xs (x4 + 1).toNatClampNeg) hR
  refine lv_aload_n hx hb dL_law_1496 rfl (lv_at hL 1 rfl) ?_
  refine lv_aload_n hx hb dL_law_1497 rfl (lv_at hL 0 rfl) ?_
  refine lv_iload hx hb dL_law_1498 (lv_at hL 4 rfl) ?_
  refine lv_iconst (v := 1) hx hb dL_law_1500 rfl ?_
  refine lv_iadd hx hb dL_law_1501 ?_
  refine va_sld hx hb hX hbl hbA hS hi1 dL_law_1502 ?_
  refine lz_callC (as := [.int (xs (x4 + 1).toNatClampNeg)]) (rest := []) C0 ha hI hS dL_law_1503 kvL_202 kmX11_count (d2 := 0) (by decide) rfl hμ (by omega) rfl rfl rfl (fs_c trivial (fun _ h => by cases h)) (Nat.le_of_ble_eq_true rfl) (Nat.le_of_ble_eq_true rfl) hL.1 (mc2 := 0) (ms2 := 0) ⟨by omega, by omega⟩ (wX11_count (μ := μ) hμ (xs (x4 + 1).toNatClampNeg) hpC) ?_
  rintro v μ' ad' H' locs' ⟨hv1, hv2⟩ - ha2 hI2 hS2
  rw [hv1]
  rw [hv2] at hI2
  have e0 : ad' 0 = ad 0 := ha2 0 (Or.inl (by omega))
  show W p l e room_1 s m #[Value.ref b] below meth c H' locs' (cells + 0) (slots + 0) _ (F0 m 1506 ls [.int (gX11_count μ (xs (x4 + 1).toNatClampNeg))])
  have hS := hS2
  refine lv_aload_n hx hb dL_law_1506 rfl (lv_at hL 2 rfl) ?_
  refine lv_aload_n hx hb dL_law_1507 rfl (lv_at hL 0 rfl) ?_
  refine lv_iload hx hb dL_law_1508 (lv_at hL 4 rfl) ?_
  refine lv_iconst (v := 1) hx hb dL_law_1510 rfl ?_
  refine lv_iadd hx hb dL_law_1511 ?_
  refine va_sld hx hb hX hbl hbA hS hi1 dL_law_1512 ?_
  refine lz_callM (as := [.int (xs (x4 + 1).toNatClampNeg)]) (rest := [.int (gX11_count μ (xs (x4 + 1).toNatClampNeg))]) C0 hm hI2 hS dL_law_1513 kvL_205 kmX12_count (d2 := 2) (by decide) rfl hν (by omega) rfl rfl rfl (fs_c trivial (fun _ h => by cases h)) (Nat.le_of_ble_eq_true rfl) (Nat.le_of_ble_eq_true rfl) hL.1 (mc2 := 0) (ms2 := 0) ⟨by omega, by omega⟩ (wX12_count (μ := ν) hν (xs (x4 + 1).toNatClampNeg) hpM) ?_
  rintro v ν' am' H2 locs2 ⟨hv1, hv2⟩ - hm2 hI3 hS3
  rw [hv1]
  rw [hv2] at hI3
  have f0 : am' 0 = am 0 := hm2 0 (Or.inl (by omega))
  show W p l e room_1 s m #[Value.ref b] below meth c H2 locs2 (cells + 0) (slots + 0) _ (F0 m 1516 ls [.int (gX12_count ν (xs (x4 + 1).toNatClampNeg)), .int (gX11_count μ (xs (x4 + 1).toNatClampNeg))])
  refine W.widen (k := cells + 40) (n := slots + 3000) (by omega) (by omega) ?_
  refine lv_icmp_eq (tgt := 1521) hx hb dL_law_1516 rfl (fun _ => ?_) (fun hq => absurd hg hq)
  exact K0 ls ad' am' _ _ o H2 locs2 (by rw [e0, f0]; exact hL) (fun k hk => (ha2 k (Or.inr hk)).trans (ha k hk)) (fun k hk => (hm2 k (Or.inr hk)).trans (hm k hk)) hRR hI3 hS3
end LCASES
