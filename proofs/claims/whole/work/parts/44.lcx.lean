section LCASES
variable {p : Program} {l : Launch} {e : Env} {s : State} {m : MethodId} {below : List Frame} {meth : Method} {c : Code} {H : Heap} {locs : List Loc} {cells slots : Nat}
variable {b L : Nat} {xs : Nat → Int32} {D : va_G} {cy : Nat → ClassId} {ad am ad0 : Nat → Nat} {ao : Nat} {o : Nat → Int64} {μ ν : fm_T} {ls : Array Slot} {x4 : Int32} {RR : fm_T → fm_T → Prop}
set_option maxHeartbeats 4000000 in
set_option maxRecDepth 20000 in
theorem lc_6 (hl : l.stackTraces = false) (hO : ob_all RR) (C0 : lz_C p s m meth c b L xs D cy ad0) (hR : RR μ ν) (ha : ∀ k, 4000 ≤ k → ad k = ad0 k) (hm : ∀ k, 4000 ≤ k → am k = ad0 k) (hI : lz_I (fun q => s.heap.size ≤ q) D cy ad am ao μ ν o H) (hS : va_S (fun q => s.heap.size ≤ q) s.heap H locs) (hL : lv_has ls 7 [(0, .ref b), (1, .ref (ad 0)), (2, .ref (am 0)), (3, .ref ao), (4, .int x4)]) (hin : ∀ j : Nat, j < 7 → vp_in (x4 + nI j) L) (hcs : cells + 40 ≤ 601024 ∧ slots + 3000 ≤ 7293034)
    (K0 : lz_K p l e s m below meth c b D cy ad0 ao x4 RR (cells + 40) (slots + 3000)) : W p l e room_1 s m #[Value.ref b] below meth c H locs cells slots (lw_Z below #[Value.ref b] s) (F0 m 460 ls []) := by
  obtain ⟨hx, hb, hr, hml, hown, hts, hX, hbl, hlocks, hgv⟩ := C0.1
  have hbA : ¬ (fun q : Nat => s.heap.size ≤ q) b := Nat.not_le.mpr hbl
  obtain ⟨⟨r0, r1, hz⟩, hν, hn34⟩ := hO.1 μ ν hR
  have hμ := hz.1
  have h89 : 89 ≤ μ.1 := lz_r89 hz
  have hi1 : vp_in (x4 + 1) L := hin 1 (by decide)
  have hi2 : vp_in (x4 + 2) L := hin 2 (by decide)
  obtain ⟨hpM, hRR, hT, hU⟩ := hO.2.2.2.2.2.2.2.1 μ ν (xs (x4 + 1).toNatClampNeg) (xs (x4 + 2).toNatClampNeg) hR
  refine lv_aload_n hx hb dL_law_460 rfl (lv_at hL 1 rfl) ?_
  refine lv_aload_n hx hb dL_law_461 rfl (lv_at hL 0 rfl) ?_
  refine lv_iload hx hb dL_law_462 (lv_at hL 4 rfl) ?_
  refine lv_iconst (v := 1) hx hb dL_law_464 rfl ?_
  refine lv_iadd hx hb dL_law_465 ?_
  refine va_sld hx hb hX hbl hbA hS hi1 dL_law_466 ?_
  refine lv_aload_n hx hb dL_law_467 rfl (lv_at hL 0 rfl) ?_
  refine lv_iload hx hb dL_law_468 (lv_at hL 4 rfl) ?_
  refine lv_iconst (v := 2) hx hb dL_law_470 rfl ?_
  refine lv_iadd hx hb dL_law_471 ?_
  refine va_sld hx hb hX hbl hbA hS hi2 dL_law_472 ?_
  refine lv_aload_n hx hb dL_law_473 rfl (lv_at hL 3 rfl) ?_
  have go : ∀ (kk : Int32) (oo : Nat → Int64), (((gX11_isTicket μ (xs (x4 + 1).toNatClampNeg) = 0 ∨ (¬ gX11_isTicket μ (xs (x4 + 1).toNatClampNeg) = 0 ∧ gX11_within μ (xs (x4 + 2).toNatClampNeg) 0 9 = 0)) ∧ kk = 1 ∧ oo = o) ∨ (¬ (gX11_isTicket μ (xs (x4 + 1).toNatClampNeg) = 0 ∨ (¬ gX11_isTicket μ (xs (x4 + 1).toNatClampNeg) = 0 ∧ gX11_within μ (xs (x4 + 2).toNatClampNeg) 0 9 = 0)) ∧ kk = 0 ∧ oo = vp_updL o 0 (gX8_of μ (xs (x4 + 1).toNatClampNeg) (xs (x4 + 2).toNatClampNeg)).toInt64)) → ∀ (H' : Heap) (locs' : List Loc), lz_I (fun q => s.heap.size ≤ q) D cy ad am ao μ ν oo H' → va_S (fun q => s.heap.size ≤ q) s.heap H' locs' → W p l e room_1 s m #[Value.ref b] below meth c H' locs' (cells + 1) (slots + 6) (lw_Z below #[Value.ref b] s) (F0 m 477 ls [.int kk]) := by
    intro kk oo hc H' locs' hI2 hS2
    refine lv_istore (lv' := [(5, .int kk), (0, .ref b), (1, .ref (ad 0)), (2, .ref (am 0)), (3, .ref ao), (4, .int x4)]) hx hb dL_law_477 hL (by decide) rfl (fun ls5 hL5 => ?_)
    have hS := hS2
    refine lv_aload_n hx hb dL_law_479 rfl (lv_at hL5 3 rfl) ?_
    refine lv_aload_n hx hb dL_law_480 rfl (lv_at hL5 1 rfl) ?_
    refine lv_iload hx hb dL_law_481 (lv_at hL5 5 rfl) ?_
    refine lv_iconst (v := 1) hx hb dL_law_483 rfl ?_
    refine lv_iadd hx hb dL_law_484 ?_
    refine va_sld hx hb hX hbl hbA hS hi1 dL_law_485 ?_
    refine lv_aload_n hx hb dL_law_486 rfl (lv_at hL5 1 rfl) ?_
    refine lv_iload hx hb dL_law_487 (lv_at hL5 5 rfl) ?_
    refine lv_iconst (v := 2) hx hb dL_law_489 rfl ?_
    refine lv_iadd hx hb dL_law_490 ?_
    refine va_sld hx hb hX hbl hbA hS hi2 dL_law_491 ?_
    refine lz_callM (as := [.int (xs (x4 + 1).toNatClampNeg), .int (xs (x4 + 2).toNatClampNeg)]) (rest := []) C0 hm hI2 hS dL_law_492 kvL_56 kmX12_about (d2 := 2) (by decide) rfl hν (by omega) rfl rfl rfl (fs_c trivial (fs_c trivial (fun _ h => by cases h))) (Nat.le_of_ble_eq_true rfl) (Nat.le_of_ble_eq_true rfl) hL5.1 (mc2 := 0) (ms2 := 0) ⟨by omega, by omega⟩ (wX12_about (μ := ν) hν (xs (x4 + 1).toNatClampNeg) (xs (x4 + 2).toNatClampNeg) hpM) ?_
    rintro v ν' am' H2 locs2 ⟨hv1, hv2⟩ - hm2 hI3 hS3
    rw [hv1]
    rw [hv2] at hI3
    have f0 : am' 0 = am 0 := hm2 0 (Or.inl (by omega))
    show W p l e room_1 s m #[Value.ref b] below meth c H2 locs2 (cells + 1) (slots + 6) _ (F0 m 495 ls5 [.int (gX12_about ν (xs (x4 + 1).toNatClampNeg) (xs (x4 + 2).toNatClampNeg))])
    refine lv_istore (lv' := [(6, .int (gX12_about ν (xs (x4 + 1).toNatClampNeg) (xs (x4 + 2).toNatClampNeg))), (5, .int kk), (0, .ref b), (1, .ref (ad 0)), (2, .ref (am 0)), (3, .ref ao), (4, .int x4)]) hx hb dL_law_495 hL5 (by decide) rfl (fun ls6 hL6 => ?_)
    refine lv_aload_n hx hb dL_law_497 rfl (lv_at hL6 4 rfl) ?_
    obtain ⟨-, hν2, hn2⟩ := hO.1 μ _ hRR
    refine lz_callM (as := []) (rest := []) C0 (fun k hk => (hm2 k (Or.inr hk)).trans (hm k hk)) hI3 hS3 dL_law_498 kvL_57 kmX12_thrown (d2 := 0) (by decide) rfl hν2 (by omega) (by rw [f0]; rfl) rfl rfl (fun _ h => by cases h) (Nat.le_of_ble_eq_true rfl) (Nat.le_of_ble_eq_true rfl) hL6.1 (mc2 := 0) (ms2 := 0) ⟨by omega, by omega⟩ (wX12_thrown (μ := uX12_about ν (xs (x4 + 1).toNatClampNeg) (xs (x4 + 2).toNatClampNeg)) hν2) ?_
    rintro v ν2 am2 H3 locs3 ⟨hv3, hv4⟩ - hm3 hI4 hS4
    rw [hv3]
    rw [hv4] at hI4
    have f1 : am2 0 = am 0 := (hm3 0 (Or.inl (by omega))).trans f0
    show W p l e room_1 s m #[Value.ref b] below meth c H3 locs3 (cells + 1) (slots + 6) _ (F0 m 501 ls6 [.int (gX12_thrown (uX12_about ν (xs (x4 + 1).toNatClampNeg) (xs (x4 + 2).toNatClampNeg)))])
    refine W.widen (k := cells + 40) (n := slots + 3000) (by omega) (by omega) ?_
    have fin := K0 ls6 ad am2 μ (uX12_about ν (xs (x4 + 1).toNatClampNeg) (xs (x4 + 2).toNatClampNeg)) oo H3 locs3 (by rw [f1]; exact lv_sub hL6 [2, 3, 4, 5, 6] rfl) ha (fun k hk => (hm3 k (Or.inr hk)).trans ((hm2 k (Or.inr hk)).trans (hm k hk))) hRR hI4 hS4
    refine lv_iload hx hb dL_law_501 (lv_at hL6 1 rfl) ?_
    have hthr : gX12_thrown (uX12_about ν (xs (x4 + 1).toNatClampNeg) (xs (x4 + 2).toNatClampNeg)) = kk := by
      rcases hc with ⟨h1, h2, h3⟩ | ⟨h1, h2, h3⟩
      · rw [h2]; exact hT h1
      · rw [h2]; exact (hU h1).2.1
    refine lv_icmp_eq (tgt := 508) hx hb dL_law_503 rfl (fun _ => ?_) (fun hq => absurd hthr hq)
    refine lv_iload hx hb dL_law_508 (lv_at hL6 1 rfl) ?_
    refine lv_if_ne (tgt := 525) hx hb dL_law_510 rfl (fun _ => lv_goto (tgt := 1521) hx hb dL_law_525 rfl fin) (fun hk0 => ?_)
    rcases hc with ⟨h1, h2, h3⟩ | ⟨h1, h2, h3⟩
    · exact absurd hk0 (by rw [h2]; decide)
    · have hval := (hU h1).2.2
      refine lv_aload_n hx hb dL_law_513 rfl (lv_at hL6 5 rfl) ?_
      refine lv_iconst (v := 0) hx hb dL_law_514 rfl ?_
      refine va_lald hx hb C0.2.1 hI4.2.2.1.1 0 1 (ao_at ao cy oo) rfl (i := 0) (by unfold vp_in; decide) dL_law_515 ?_
      refine lv_iload hx hb dL_law_516 (lv_at hL6 0 rfl) ?_
      refine lv_i2l hx hb dL_law_518 rfl ?_
      refine W.lcmp hx hb dL_law_519 ?_
      rw [h3, show vp_updL o 0 (gX8_of μ (xs (x4 + 1).toNatClampNeg) (xs (x4 + 2).toNatClampNeg)).toInt64 (0 : Int32).toNatClampNeg = (gX8_of μ (xs (x4 + 1).toNatClampNeg) (xs (x4 + 2).toNatClampNeg)).toInt64 from rfl, hval, lg_cmp_self]
      exact lv_if_eq (tgt := 525) hx hb dL_law_520 rfl (fun _ => lv_goto (tgt := 1521) hx hb dL_law_525 rfl fin) (fun hq => absurd rfl hq)
  obtain ⟨⟨a1, a2, a3⟩, ⟨b1, b2, b3⟩, ⟨c1, c2⟩, e1, e2, e3⟩ := hI
  have hV : fk_L RL 51 yL_about cL_about 5 [(0, 10, 13, 13)] 4 := kL_about
  by_cases hth : (gX11_isTicket μ (xs (x4 + 1).toNatClampNeg) = 0 ∨ (¬ gX11_isTicket μ (xs (x4 + 1).toNatClampNeg) = 0 ∧ gX11_within μ (xs (x4 + 2).toNatClampNeg) 0 9 = 0))
  · refine lz_callL (n := 4) (as := [.ref (ad 0), .int (xs (x4 + 1).toNatClampNeg), .int (xs (x4 + 2).toNatClampNeg), .ref ao]) (ls := ls) (q := 474) C0 ha a1 a2 a3 c1 c2 e2 b2 b3 e1 e3 hS dL_law_474 hV rfl rfl hL.1 ⟨by omega, by omega⟩ (mL_about_th hμ a1 h89 (xs (x4 + 1).toNatClampNeg) (xs (x4 + 2).toNatClampNeg) hl hth D cy ad ao o H.size) (fun kk oo H' locs' hq hI2 hS2 => ?_)
    exact go kk oo (Or.inl ⟨hth, hq⟩) H' locs' (hI2 b1) hS2
  · refine lz_callL (n := 4) (as := [.ref (ad 0), .int (xs (x4 + 1).toNatClampNeg), .int (xs (x4 + 2).toNatClampNeg), .ref ao]) (ls := ls) (q := 474) C0 ha a1 a2 a3 c1 c2 e2 b2 b3 e1 e3 hS dL_law_474 hV rfl rfl hL.1 ⟨by omega, by omega⟩ (mL_about_ok hμ a1 h89 (xs (x4 + 1).toNatClampNeg) (xs (x4 + 2).toNatClampNeg) (fun h => hth (Or.inl h)) (fun h => hth (by by_cases z : gX11_isTicket μ (xs (x4 + 1).toNatClampNeg) = 0; exact Or.inl z; exact Or.inr ⟨z, h⟩)) (hU hth).1 D cy ad ao o H.size) (fun kk oo H' locs' hq hI2 hS2 => ?_)
    exact go kk oo (Or.inr ⟨hth, hq⟩) H' locs' (hI2 b1) hS2
set_option maxHeartbeats 4000000 in
set_option maxRecDepth 20000 in
theorem lc_33 (hl : l.stackTraces = false) (hO : ob_all RR) (C0 : lz_C p s m meth c b L xs D cy ad0) (hR : RR μ ν) (ha : ∀ k, 4000 ≤ k → ad k = ad0 k) (hm : ∀ k, 4000 ≤ k → am k = ad0 k) (hI : lz_I (fun q => s.heap.size ≤ q) D cy ad am ao μ ν o H) (hS : va_S (fun q => s.heap.size ≤ q) s.heap H locs) (hL : lv_has ls 7 [(0, .ref b), (1, .ref (ad 0)), (2, .ref (am 0)), (3, .ref ao), (4, .int x4)]) (hin : ∀ j : Nat, j < 7 → vp_in (x4 + nI j) L) (hcs : cells + 40 ≤ 601024 ∧ slots + 3000 ≤ 7293034)
    (K0 : lz_K p l e s m below meth c b D cy ad0 ao x4 RR (cells + 40) (slots + 3000)) : W p l e room_1 s m #[Value.ref b] below meth c H locs cells slots (lw_Z below #[Value.ref b] s) (F0 m 1253 ls []) := by
  obtain ⟨hx, hb, hr, hml, hown, hts, hX, hbl, hlocks, hgv⟩ := C0.1
  have hbA : ¬ (fun q : Nat => s.heap.size ≤ q) b := Nat.not_le.mpr hbl
  obtain ⟨⟨r0, r1, hz⟩, hν, hn34⟩ := hO.1 μ ν hR
  have hμ := hz.1
  have h89 : 89 ≤ μ.1 := lz_r89 hz
  have hi1 : vp_in (x4 + 1) L := hin 1 (by decide)
  obtain ⟨hpM, hRR, hT, hU⟩ := hO.2.2.2.2.2.2.2.2.2.2.2.2.2.2.2.2.2.2.2.2.2.2.2.2.2.2.2.2.2.2.2.2.2.2.1 μ ν (xs (x4 + 1).toNatClampNeg) hR
  refine lv_aload_n hx hb dL_law_1253 rfl (lv_at hL 1 rfl) ?_
  refine lv_aload_n hx hb dL_law_1254 rfl (lv_at hL 0 rfl) ?_
  refine lv_iload hx hb dL_law_1255 (lv_at hL 4 rfl) ?_
  refine lv_iconst (v := 1) hx hb dL_law_1257 rfl ?_
  refine lv_iadd hx hb dL_law_1258 ?_
  refine va_sld hx hb hX hbl hbA hS hi1 dL_law_1259 ?_
  refine lv_aload_n hx hb dL_law_1260 rfl (lv_at hL 3 rfl) ?_
  have go : ∀ (kk : Int32) (oo : Nat → Int64), (((gX11_within μ (xs (x4 + 1).toNatClampNeg) 0 (fI μ 15 8 - 1) = 0) ∧ kk = 1 ∧ oo = o) ∨ (¬ (gX11_within μ (xs (x4 + 1).toNatClampNeg) 0 (fI μ 15 8 - 1) = 0) ∧ kk = 0 ∧ oo = vp_updL o 0 (gX3_lostOn μ (xs (x4 + 1).toNatClampNeg)).toInt64)) → ∀ (H' : Heap) (locs' : List Loc), lz_I (fun q => s.heap.size ≤ q) D cy ad am ao μ ν oo H' → va_S (fun q => s.heap.size ≤ q) s.heap H' locs' → W p l e room_1 s m #[Value.ref b] below meth c H' locs' (cells + 1) (slots + 6) (lw_Z below #[Value.ref b] s) (F0 m 1264 ls [.int kk]) := by
    intro kk oo hc H' locs' hI2 hS2
    refine lv_istore (lv' := [(5, .int kk), (0, .ref b), (1, .ref (ad 0)), (2, .ref (am 0)), (3, .ref ao), (4, .int x4)]) hx hb dL_law_1264 hL (by decide) rfl (fun ls5 hL5 => ?_)
    have hS := hS2
    refine lv_aload_n hx hb dL_law_1266 rfl (lv_at hL5 3 rfl) ?_
    refine lv_aload_n hx hb dL_law_1267 rfl (lv_at hL5 1 rfl) ?_
    refine lv_iload hx hb dL_law_1268 (lv_at hL5 5 rfl) ?_
    refine lv_iconst (v := 1) hx hb dL_law_1270 rfl ?_
    refine lv_iadd hx hb dL_law_1271 ?_
    refine va_sld hx hb hX hbl hbA hS hi1 dL_law_1272 ?_
    refine lz_callM (as := [.int (xs (x4 + 1).toNatClampNeg)]) (rest := []) C0 hm hI2 hS dL_law_1273 kvL_173 kmX12_lost (d2 := 2) (by decide) rfl hν (by omega) rfl rfl rfl (fs_c trivial (fun _ h => by cases h)) (Nat.le_of_ble_eq_true rfl) (Nat.le_of_ble_eq_true rfl) hL5.1 (mc2 := 0) (ms2 := 0) ⟨by omega, by omega⟩ (wX12_lost (μ := ν) hν (xs (x4 + 1).toNatClampNeg) hpM) ?_
    rintro v ν' am' H2 locs2 ⟨hv1, hv2⟩ - hm2 hI3 hS3
    rw [hv1]
    rw [hv2] at hI3
    have f0 : am' 0 = am 0 := hm2 0 (Or.inl (by omega))
    show W p l e room_1 s m #[Value.ref b] below meth c H2 locs2 (cells + 1) (slots + 6) _ (F0 m 1276 ls5 [.int (gX12_lost ν (xs (x4 + 1).toNatClampNeg))])
    refine lv_istore (lv' := [(6, .int (gX12_lost ν (xs (x4 + 1).toNatClampNeg))), (5, .int kk), (0, .ref b), (1, .ref (ad 0)), (2, .ref (am 0)), (3, .ref ao), (4, .int x4)]) hx hb dL_law_1276 hL5 (by decide) rfl (fun ls6 hL6 => ?_)
    refine lv_aload_n hx hb dL_law_1278 rfl (lv_at hL6 4 rfl) ?_
    obtain ⟨-, hν2, hn2⟩ := hO.1 μ _ hRR
    refine lz_callM (as := []) (rest := []) C0 (fun k hk => (hm2 k (Or.inr hk)).trans (hm k hk)) hI3 hS3 dL_law_1279 kvL_57 kmX12_thrown (d2 := 0) (by decide) rfl hν2 (by omega) (by rw [f0]; rfl) rfl rfl (fun _ h => by cases h) (Nat.le_of_ble_eq_true rfl) (Nat.le_of_ble_eq_true rfl) hL6.1 (mc2 := 0) (ms2 := 0) ⟨by omega, by omega⟩ (wX12_thrown (μ := uX12_lost ν (xs (x4 + 1).toNatClampNeg)) hν2) ?_
    rintro v ν2 am2 H3 locs3 ⟨hv3, hv4⟩ - hm3 hI4 hS4
    rw [hv3]
    rw [hv4] at hI4
    have f1 : am2 0 = am 0 := (hm3 0 (Or.inl (by omega))).trans f0
    show W p l e room_1 s m #[Value.ref b] below meth c H3 locs3 (cells + 1) (slots + 6) _ (F0 m 1282 ls6 [.int (gX12_thrown (uX12_lost ν (xs (x4 + 1).toNatClampNeg)))])
    refine W.widen (k := cells + 40) (n := slots + 3000) (by omega) (by omega) ?_
    have fin := K0 ls6 ad am2 μ (uX12_lost ν (xs (x4 + 1).toNatClampNeg)) oo H3 locs3 (by rw [f1]; exact lv_sub hL6 [2, 3, 4, 5, 6] rfl) ha (fun k hk => (hm3 k (Or.inr hk)).trans ((hm2 k (Or.inr hk)).trans (hm k hk))) hRR hI4 hS4
    refine lv_iload hx hb dL_law_1282 (lv_at hL6 1 rfl) ?_
    have hthr : gX12_thrown (uX12_lost ν (xs (x4 + 1).toNatClampNeg)) = kk := by
      rcases hc with ⟨h1, h2, h3⟩ | ⟨h1, h2, h3⟩
      · rw [h2]; exact hT h1
      · rw [h2]; exact (hU h1).2.1
    refine lv_icmp_eq (tgt := 1289) hx hb dL_law_1284 rfl (fun _ => ?_) (fun hq => absurd hthr hq)
    refine lv_iload hx hb dL_law_1289 (lv_at hL6 1 rfl) ?_
    refine lv_if_ne (tgt := 1306) hx hb dL_law_1291 rfl (fun _ => lv_goto (tgt := 1521) hx hb dL_law_1306 rfl fin) (fun hk0 => ?_)
    rcases hc with ⟨h1, h2, h3⟩ | ⟨h1, h2, h3⟩
    · exact absurd hk0 (by rw [h2]; decide)
    · have hval := (hU h1).2.2
      refine lv_aload_n hx hb dL_law_1294 rfl (lv_at hL6 5 rfl) ?_
      refine lv_iconst (v := 0) hx hb dL_law_1295 rfl ?_
      refine va_lald hx hb C0.2.1 hI4.2.2.1.1 0 1 (ao_at ao cy oo) rfl (i := 0) (by unfold vp_in; decide) dL_law_1296 ?_
      refine lv_iload hx hb dL_law_1297 (lv_at hL6 0 rfl) ?_
      refine lv_i2l hx hb dL_law_1299 rfl ?_
      refine W.lcmp hx hb dL_law_1300 ?_
      rw [h3, show vp_updL o 0 (gX3_lostOn μ (xs (x4 + 1).toNatClampNeg)).toInt64 (0 : Int32).toNatClampNeg = (gX3_lostOn μ (xs (x4 + 1).toNatClampNeg)).toInt64 from rfl, hval, lg_cmp_self]
      exact lv_if_eq (tgt := 1306) hx hb dL_law_1301 rfl (fun _ => lv_goto (tgt := 1521) hx hb dL_law_1306 rfl fin) (fun hq => absurd rfl hq)
  obtain ⟨⟨a1, a2, a3⟩, ⟨b1, b2, b3⟩, ⟨c1, c2⟩, e1, e2, e3⟩ := hI
  have hV : fk_L RL 170 yL_lost cL_lost 4 [(0, 9, 12, 13)] 3 := kL_lost
  by_cases hth : (gX11_within μ (xs (x4 + 1).toNatClampNeg) 0 (fI μ 15 8 - 1) = 0)
  · refine lz_callL (n := 3) (as := [.ref (ad 0), .int (xs (x4 + 1).toNatClampNeg), .ref ao]) (ls := ls) (q := 1261) C0 ha a1 a2 a3 c1 c2 e2 b2 b3 e1 e3 hS dL_law_1261 hV rfl rfl hL.1 ⟨by omega, by omega⟩ (mL_lost_th hμ a1 h89 (xs (x4 + 1).toNatClampNeg) hl hth D cy ad ao o H.size) (fun kk oo H' locs' hq hI2 hS2 => ?_)
    exact go kk oo (Or.inl ⟨hth, hq⟩) H' locs' (hI2 b1) hS2
  · refine lz_callL (n := 3) (as := [.ref (ad 0), .int (xs (x4 + 1).toNatClampNeg), .ref ao]) (ls := ls) (q := 1261) C0 ha a1 a2 a3 c1 c2 e2 b2 b3 e1 e3 hS dL_law_1261 hV rfl rfl hL.1 ⟨by omega, by omega⟩ (mL_lost_ok hμ a1 h89 (xs (x4 + 1).toNatClampNeg) hth (hU hth).1 D cy ad ao o H.size) (fun kk oo H' locs' hq hI2 hS2 => ?_)
    exact go kk oo (Or.inr ⟨hth, hq⟩) H' locs' (hI2 b1) hS2
end LCASES
