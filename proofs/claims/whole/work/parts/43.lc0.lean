section LCASES
variable {p : Program} {l : Launch} {e : Env} {s : State} {m : MethodId} {below : List Frame} {meth : Method} {c : Code} {H : Heap} {locs : List Loc} {cells slots : Nat}
variable {b L : Nat} {xs : Nat → Int32} {D : va_G} {cy : Nat → ClassId} {ad am ad0 : Nat → Nat} {ao : Nat} {o : Nat → Int64} {μ ν : fm_T} {ls : Array Slot} {x4 : Int32} {RR : fm_T → fm_T → Prop}
set_option maxHeartbeats 4000000 in
set_option maxRecDepth 20000 in
theorem lc_0 (hl : l.stackTraces = false) (hO : ob_all RR) (C0 : lz_C p s m meth c b L xs D cy ad0) (hR : RR μ ν) (ha : ∀ k, 4000 ≤ k → ad k = ad0 k) (hm : ∀ k, 4000 ≤ k → am k = ad0 k) (hI : lz_I (fun q => s.heap.size ≤ q) D cy ad am ao μ ν o H) (hS : va_S (fun q => s.heap.size ≤ q) s.heap H locs) (hL : lv_has ls 7 [(0, .ref b), (1, .ref (ad 0)), (2, .ref (am 0)), (3, .ref ao), (4, .int x4)]) (hin : ∀ j : Nat, j < 7 → vp_in (x4 + nI j) L) (hcs : cells + 40 ≤ 601024 ∧ slots + 3000 ≤ 7293034)
    (K0 : lz_K p l e s m below meth c b D cy ad0 ao x4 RR (cells + 40) (slots + 3000)) : W p l e room_1 s m #[Value.ref b] below meth c H locs cells slots (lw_Z below #[Value.ref b] s) (F0 m 224 ls []) := by
  obtain ⟨hx, hb, hr, hml, hown, hts, hX, hbl, hlocks, hgv⟩ := C0.1
  have hbA : ¬ (fun q : Nat => s.heap.size ≤ q) b := Nat.not_le.mpr hbl
  obtain ⟨⟨r0, r1, hz⟩, hν, hn34⟩ := hO.1 μ ν hR
  have hμ := hz.1
  have h89 : 89 ≤ μ.1 := lz_r89 hz
  have hi1 : vp_in (x4 + 1) L := hin 1 (by decide)
  have hi2 : vp_in (x4 + 2) L := hin 2 (by decide)
  have hi3 : vp_in (x4 + 3) L := hin 3 (by decide)
  have hi4 : vp_in (x4 + 4) L := hin 4 (by decide)
  have hi5 : vp_in (x4 + 5) L := hin 5 (by decide)
  obtain ⟨hpC, hpM, hg, hRR⟩ := hO.2.1 μ ν (xs (x4 + 1).toNatClampNeg) (xs (x4 + 2).toNatClampNeg) (xs (x4 + 3).toNatClampNeg) (xs (x4 + 4).toNatClampNeg) (xs (x4 + 5).toNatClampNeg) hR
  refine lv_aload_n hx hb dL_law_224 rfl (lv_at hL 1 rfl) ?_
  refine lv_aload_n hx hb dL_law_225 rfl (lv_at hL 0 rfl) ?_
  refine lv_iload hx hb dL_law_226 (lv_at hL 4 rfl) ?_
  refine lv_iconst (v := 1) hx hb dL_law_228 rfl ?_
  refine lv_iadd hx hb dL_law_229 ?_
  refine va_sld hx hb hX hbl hbA hS hi1 dL_law_230 ?_
  refine lv_aload_n hx hb dL_law_231 rfl (lv_at hL 0 rfl) ?_
  refine lv_iload hx hb dL_law_232 (lv_at hL 4 rfl) ?_
  refine lv_iconst (v := 2) hx hb dL_law_234 rfl ?_
  refine lv_iadd hx hb dL_law_235 ?_
  refine va_sld hx hb hX hbl hbA hS hi2 dL_law_236 ?_
  refine lv_aload_n hx hb dL_law_237 rfl (lv_at hL 0 rfl) ?_
  refine lv_iload hx hb dL_law_238 (lv_at hL 4 rfl) ?_
  refine lv_iconst (v := 3) hx hb dL_law_240 rfl ?_
  refine lv_iadd hx hb dL_law_241 ?_
  refine va_sld hx hb hX hbl hbA hS hi3 dL_law_242 ?_
  refine lv_aload_n hx hb dL_law_243 rfl (lv_at hL 0 rfl) ?_
  refine lv_iload hx hb dL_law_244 (lv_at hL 4 rfl) ?_
  refine lv_iconst (v := 4) hx hb dL_law_246 rfl ?_
  refine lv_iadd hx hb dL_law_247 ?_
  refine va_sld hx hb hX hbl hbA hS hi4 dL_law_248 ?_
  refine lv_aload_n hx hb dL_law_249 rfl (lv_at hL 0 rfl) ?_
  refine lv_iload hx hb dL_law_250 (lv_at hL 4 rfl) ?_
  refine lv_iconst (v := 5) hx hb dL_law_252 rfl ?_
  refine lv_iadd hx hb dL_law_253 ?_
  refine va_sld hx hb hX hbl hbA hS hi5 dL_law_254 ?_
  refine lz_callC (as := [.int (xs (x4 + 1).toNatClampNeg), .int (xs (x4 + 2).toNatClampNeg), .int (xs (x4 + 3).toNatClampNeg), .int (xs (x4 + 4).toNatClampNeg), .int (xs (x4 + 5).toNatClampNeg)]) (rest := []) C0 ha hI hS dL_law_255 kvL_23 kmX11_feed (d2 := 1) (by decide) rfl hμ (by omega) rfl rfl rfl (fs_c trivial (fs_c trivial (fs_c trivial (fs_c trivial (fs_c trivial (fun _ h => by cases h)))))) (Nat.le_of_ble_eq_true rfl) (Nat.le_of_ble_eq_true rfl) hL.1 (mc2 := 0) (ms2 := 0) ⟨by omega, by omega⟩ (wX11_feed (μ := μ) hμ (xs (x4 + 1).toNatClampNeg) (xs (x4 + 2).toNatClampNeg) (xs (x4 + 3).toNatClampNeg) (xs (x4 + 4).toNatClampNeg) (xs (x4 + 5).toNatClampNeg) hpC) ?_
  rintro v μ' ad' H' locs' ⟨hv1, hv2⟩ - ha2 hI2 hS2
  rw [hv1]
  rw [hv2] at hI2
  have e0 : ad' 0 = ad 0 := ha2 0 (Or.inl (by omega))
  show W p l e room_1 s m #[Value.ref b] below meth c H' locs' (cells + 0) (slots + 0) _ (F0 m 258 ls [.int (gX11_feed μ (xs (x4 + 1).toNatClampNeg) (xs (x4 + 2).toNatClampNeg) (xs (x4 + 3).toNatClampNeg) (xs (x4 + 4).toNatClampNeg) (xs (x4 + 5).toNatClampNeg))])
  have hS := hS2
  refine lv_aload_n hx hb dL_law_258 rfl (lv_at hL 2 rfl) ?_
  refine lv_aload_n hx hb dL_law_259 rfl (lv_at hL 0 rfl) ?_
  refine lv_iload hx hb dL_law_260 (lv_at hL 4 rfl) ?_
  refine lv_iconst (v := 1) hx hb dL_law_262 rfl ?_
  refine lv_iadd hx hb dL_law_263 ?_
  refine va_sld hx hb hX hbl hbA hS hi1 dL_law_264 ?_
  refine lv_aload_n hx hb dL_law_265 rfl (lv_at hL 0 rfl) ?_
  refine lv_iload hx hb dL_law_266 (lv_at hL 4 rfl) ?_
  refine lv_iconst (v := 2) hx hb dL_law_268 rfl ?_
  refine lv_iadd hx hb dL_law_269 ?_
  refine va_sld hx hb hX hbl hbA hS hi2 dL_law_270 ?_
  refine lv_aload_n hx hb dL_law_271 rfl (lv_at hL 0 rfl) ?_
  refine lv_iload hx hb dL_law_272 (lv_at hL 4 rfl) ?_
  refine lv_iconst (v := 3) hx hb dL_law_274 rfl ?_
  refine lv_iadd hx hb dL_law_275 ?_
  refine va_sld hx hb hX hbl hbA hS hi3 dL_law_276 ?_
  refine lv_aload_n hx hb dL_law_277 rfl (lv_at hL 0 rfl) ?_
  refine lv_iload hx hb dL_law_278 (lv_at hL 4 rfl) ?_
  refine lv_iconst (v := 4) hx hb dL_law_280 rfl ?_
  refine lv_iadd hx hb dL_law_281 ?_
  refine va_sld hx hb hX hbl hbA hS hi4 dL_law_282 ?_
  refine lv_aload_n hx hb dL_law_283 rfl (lv_at hL 0 rfl) ?_
  refine lv_iload hx hb dL_law_284 (lv_at hL 4 rfl) ?_
  refine lv_iconst (v := 5) hx hb dL_law_286 rfl ?_
  refine lv_iadd hx hb dL_law_287 ?_
  refine va_sld hx hb hX hbl hbA hS hi5 dL_law_288 ?_
  refine lz_callM (as := [.int (xs (x4 + 1).toNatClampNeg), .int (xs (x4 + 2).toNatClampNeg), .int (xs (x4 + 3).toNatClampNeg), .int (xs (x4 + 4).toNatClampNeg), .int (xs (x4 + 5).toNatClampNeg)]) (rest := [.int (gX11_feed μ (xs (x4 + 1).toNatClampNeg) (xs (x4 + 2).toNatClampNeg) (xs (x4 + 3).toNatClampNeg) (xs (x4 + 4).toNatClampNeg) (xs (x4 + 5).toNatClampNeg))]) C0 hm hI2 hS dL_law_289 kvL_27 kmX12_feed (d2 := 1) (by decide) rfl hν (by omega) rfl rfl rfl (fs_c trivial (fs_c trivial (fs_c trivial (fs_c trivial (fs_c trivial (fun _ h => by cases h)))))) (Nat.le_of_ble_eq_true rfl) (Nat.le_of_ble_eq_true rfl) hL.1 (mc2 := 0) (ms2 := 0) ⟨by omega, by omega⟩ (wX12_feed (μ := ν) hν (xs (x4 + 1).toNatClampNeg) (xs (x4 + 2).toNatClampNeg) (xs (x4 + 3).toNatClampNeg) (xs (x4 + 4).toNatClampNeg) (xs (x4 + 5).toNatClampNeg) hpM) ?_
  rintro v ν' am' H2 locs2 ⟨hv1, hv2⟩ - hm2 hI3 hS3
  rw [hv1]
  rw [hv2] at hI3
  have f0 : am' 0 = am 0 := hm2 0 (Or.inl (by omega))
  show W p l e room_1 s m #[Value.ref b] below meth c H2 locs2 (cells + 0) (slots + 0) _ (F0 m 292 ls [.int (gX12_feed ν (xs (x4 + 1).toNatClampNeg) (xs (x4 + 2).toNatClampNeg) (xs (x4 + 3).toNatClampNeg) (xs (x4 + 4).toNatClampNeg) (xs (x4 + 5).toNatClampNeg)), .int (gX11_feed μ (xs (x4 + 1).toNatClampNeg) (xs (x4 + 2).toNatClampNeg) (xs (x4 + 3).toNatClampNeg) (xs (x4 + 4).toNatClampNeg) (xs (x4 + 5).toNatClampNeg))])
  refine W.widen (k := cells + 40) (n := slots + 3000) (by omega) (by omega) ?_
  refine lv_icmp_eq (tgt := 1521) hx hb dL_law_292 rfl (fun _ => ?_) (fun hq => absurd hg hq)
  exact K0 ls ad' am' _ _ o H2 locs2 (by rw [e0, f0]; exact hL) (fun k hk => (ha2 k (Or.inr hk)).trans (ha k hk)) (fun k hk => (hm2 k (Or.inr hk)).trans (hm k hk)) hRR hI3 hS3
set_option maxHeartbeats 4000000 in
set_option maxRecDepth 20000 in
theorem lc_12 (hl : l.stackTraces = false) (hO : ob_all RR) (C0 : lz_C p s m meth c b L xs D cy ad0) (hR : RR μ ν) (ha : ∀ k, 4000 ≤ k → ad k = ad0 k) (hm : ∀ k, 4000 ≤ k → am k = ad0 k) (hI : lz_I (fun q => s.heap.size ≤ q) D cy ad am ao μ ν o H) (hS : va_S (fun q => s.heap.size ≤ q) s.heap H locs) (hL : lv_has ls 7 [(0, .ref b), (1, .ref (ad 0)), (2, .ref (am 0)), (3, .ref ao), (4, .int x4)]) (hin : ∀ j : Nat, j < 7 → vp_in (x4 + nI j) L) (hcs : cells + 40 ≤ 601024 ∧ slots + 3000 ≤ 7293034)
    (K0 : lz_K p l e s m below meth c b D cy ad0 ao x4 RR (cells + 40) (slots + 3000)) : W p l e room_1 s m #[Value.ref b] below meth c H locs cells slots (lw_Z below #[Value.ref b] s) (F0 m 677 ls []) := by
  obtain ⟨hx, hb, hr, hml, hown, hts, hX, hbl, hlocks, hgv⟩ := C0.1
  have hbA : ¬ (fun q : Nat => s.heap.size ≤ q) b := Nat.not_le.mpr hbl
  obtain ⟨⟨r0, r1, hz⟩, hν, hn34⟩ := hO.1 μ ν hR
  have hμ := hz.1
  have h89 : 89 ≤ μ.1 := lz_r89 hz
  obtain ⟨hpC, hpM, hg, hRR⟩ := hO.2.2.2.2.2.2.2.2.2.2.2.2.2.1 μ ν hR
  refine lv_aload_n hx hb dL_law_677 rfl (lv_at hL 1 rfl) ?_
  refine lz_callC (as := []) (rest := []) C0 ha hI hS dL_law_678 kvL_81 kmX11_found (d2 := (8 * fD + 3)) (by rw [fD_eq]; decide) rfl hμ (by omega) rfl rfl rfl (fun _ h => by cases h) (Nat.le_of_ble_eq_true rfl) (Nat.le_of_ble_eq_true rfl) hL.1 (mc2 := 0) (ms2 := 0) ⟨by omega, by omega⟩ (wX11_found (μ := μ) hμ hpC) ?_
  rintro v μ' ad' H' locs' ⟨hv1, hv2⟩ - ha2 hI2 hS2
  rw [hv1]
  rw [hv2] at hI2
  have e0 : ad' 0 = ad 0 := ha2 0 (Or.inl (by omega))
  show W p l e room_1 s m #[Value.ref b] below meth c H' locs' (cells + 0) (slots + 0) _ (F0 m 681 ls [.long (gX11_found μ)])
  have hS := hS2
  refine lv_aload_n hx hb dL_law_681 rfl (lv_at hL 2 rfl) ?_
  refine lz_callM (as := []) (rest := [.long (gX11_found μ)]) C0 hm hI2 hS dL_law_682 kvL_85 kmX12_found (d2 := 4) (by decide) rfl hν (by omega) rfl rfl rfl (fun _ h => by cases h) (Nat.le_of_ble_eq_true rfl) (Nat.le_of_ble_eq_true rfl) hL.1 (mc2 := 0) (ms2 := 0) ⟨by omega, by omega⟩ (wX12_found (μ := ν) hν hpM) ?_
  rintro v ν' am' H2 locs2 ⟨hv1, hv2⟩ - hm2 hI3 hS3
  rw [hv1]
  rw [hv2] at hI3
  have f0 : am' 0 = am 0 := hm2 0 (Or.inl (by omega))
  show W p l e room_1 s m #[Value.ref b] below meth c H2 locs2 (cells + 0) (slots + 0) _ (F0 m 685 ls [.long (gX12_found ν), .long (gX11_found μ)])
  refine W.widen (k := cells + 40) (n := slots + 3000) (by omega) (by omega) ?_
  refine W.lcmp hx hb dL_law_685 ?_
  rw [hg, lg_cmp_self]
  refine lv_if_eq (tgt := 1521) hx hb dL_law_686 rfl (fun _ => ?_) (fun hq => absurd rfl hq)
  exact K0 ls ad' am' _ _ o H2 locs2 (by rw [e0, f0]; exact hL) (fun k hk => (ha2 k (Or.inr hk)).trans (ha k hk)) (fun k hk => (hm2 k (Or.inr hk)).trans (hm k hk)) hRR hI3 hS3
set_option maxHeartbeats 4000000 in
set_option maxRecDepth 20000 in
theorem lc_18 (hl : l.stackTraces = false) (hO : ob_all RR) (C0 : lz_C p s m meth c b L xs D cy ad0) (hR : RR μ ν) (ha : ∀ k, 4000 ≤ k → ad k = ad0 k) (hm : ∀ k, 4000 ≤ k → am k = ad0 k) (hI : lz_I (fun q => s.heap.size ≤ q) D cy ad am ao μ ν o H) (hS : va_S (fun q => s.heap.size ≤ q) s.heap H locs) (hL : lv_has ls 7 [(0, .ref b), (1, .ref (ad 0)), (2, .ref (am 0)), (3, .ref ao), (4, .int x4)]) (hin : ∀ j : Nat, j < 7 → vp_in (x4 + nI j) L) (hcs : cells + 40 ≤ 601024 ∧ slots + 3000 ≤ 7293034)
    (K0 : lz_K p l e s m below meth c b D cy ad0 ao x4 RR (cells + 40) (slots + 3000)) : W p l e room_1 s m #[Value.ref b] below meth c H locs cells slots (lw_Z below #[Value.ref b] s) (F0 m 830 ls []) := by
  obtain ⟨hx, hb, hr, hml, hown, hts, hX, hbl, hlocks, hgv⟩ := C0.1
  have hbA : ¬ (fun q : Nat => s.heap.size ≤ q) b := Nat.not_le.mpr hbl
  obtain ⟨⟨r0, r1, hz⟩, hν, hn34⟩ := hO.1 μ ν hR
  have hμ := hz.1
  have h89 : 89 ≤ μ.1 := lz_r89 hz
  have hi1 : vp_in (x4 + 1) L := hin 1 (by decide)
  have hi2 : vp_in (x4 + 2) L := hin 2 (by decide)
  have hi3 : vp_in (x4 + 3) L := hin 3 (by decide)
  obtain ⟨hpC, hpM, hg, hRR⟩ := hO.2.2.2.2.2.2.2.2.2.2.2.2.2.2.2.2.2.2.2.1 μ ν (xs (x4 + 1).toNatClampNeg) (xs (x4 + 2).toNatClampNeg) (xs (x4 + 3).toNatClampNeg) hR
  refine lv_aload_n hx hb dL_law_830 rfl (lv_at hL 1 rfl) ?_
  refine lv_aload_n hx hb dL_law_831 rfl (lv_at hL 0 rfl) ?_
  refine lv_iload hx hb dL_law_832 (lv_at hL 4 rfl) ?_
  refine lv_iconst (v := 1) hx hb dL_law_834 rfl ?_
  refine lv_iadd hx hb dL_law_835 ?_
  refine va_sld hx hb hX hbl hbA hS hi1 dL_law_836 ?_
  refine lv_aload_n hx hb dL_law_837 rfl (lv_at hL 0 rfl) ?_
  refine lv_iload hx hb dL_law_838 (lv_at hL 4 rfl) ?_
  refine lv_iconst (v := 2) hx hb dL_law_840 rfl ?_
  refine lv_iadd hx hb dL_law_841 ?_
  refine va_sld hx hb hX hbl hbA hS hi2 dL_law_842 ?_
  refine lv_aload_n hx hb dL_law_843 rfl (lv_at hL 0 rfl) ?_
  refine lv_iload hx hb dL_law_844 (lv_at hL 4 rfl) ?_
  refine lv_iconst (v := 3) hx hb dL_law_846 rfl ?_
  refine lv_iadd hx hb dL_law_847 ?_
  refine va_sld hx hb hX hbl hbA hS hi3 dL_law_848 ?_
  refine lz_callC (as := [.int (xs (x4 + 1).toNatClampNeg), .int (xs (x4 + 2).toNatClampNeg), .int (xs (x4 + 3).toNatClampNeg)]) (rest := []) C0 ha hI hS dL_law_849 kvL_108 kmX11_contract (d2 := 2) (by decide) rfl hμ (by omega) rfl rfl rfl (fs_c trivial (fs_c trivial (fs_c trivial (fun _ h => by cases h)))) (Nat.le_of_ble_eq_true rfl) (Nat.le_of_ble_eq_true rfl) hL.1 (mc2 := 0) (ms2 := 0) ⟨by omega, by omega⟩ (wX11_contract (μ := μ) hμ (xs (x4 + 1).toNatClampNeg) (xs (x4 + 2).toNatClampNeg) (xs (x4 + 3).toNatClampNeg) hpC) ?_
  rintro v μ' ad' H' locs' ⟨hv1, hv2⟩ - ha2 hI2 hS2
  rw [hv1]
  rw [hv2] at hI2
  have e0 : ad' 0 = ad 0 := ha2 0 (Or.inl (by omega))
  show W p l e room_1 s m #[Value.ref b] below meth c H' locs' (cells + 0) (slots + 0) _ (F0 m 852 ls [.int (gX11_contract μ (xs (x4 + 1).toNatClampNeg) (xs (x4 + 2).toNatClampNeg) (xs (x4 + 3).toNatClampNeg))])
  have hS := hS2
  refine lv_aload_n hx hb dL_law_852 rfl (lv_at hL 2 rfl) ?_
  refine lv_aload_n hx hb dL_law_853 rfl (lv_at hL 0 rfl) ?_
  refine lv_iload hx hb dL_law_854 (lv_at hL 4 rfl) ?_
  refine lv_iconst (v := 1) hx hb dL_law_856 rfl ?_
  refine lv_iadd hx hb dL_law_857 ?_
  refine va_sld hx hb hX hbl hbA hS hi1 dL_law_858 ?_
  refine lv_aload_n hx hb dL_law_859 rfl (lv_at hL 0 rfl) ?_
  refine lv_iload hx hb dL_law_860 (lv_at hL 4 rfl) ?_
  refine lv_iconst (v := 2) hx hb dL_law_862 rfl ?_
  refine lv_iadd hx hb dL_law_863 ?_
  refine va_sld hx hb hX hbl hbA hS hi2 dL_law_864 ?_
  refine lv_aload_n hx hb dL_law_865 rfl (lv_at hL 0 rfl) ?_
  refine lv_iload hx hb dL_law_866 (lv_at hL 4 rfl) ?_
  refine lv_iconst (v := 3) hx hb dL_law_868 rfl ?_
  refine lv_iadd hx hb dL_law_869 ?_
  refine va_sld hx hb hX hbl hbA hS hi3 dL_law_870 ?_
  refine lz_callM (as := [.int (xs (x4 + 1).toNatClampNeg), .int (xs (x4 + 2).toNatClampNeg), .int (xs (x4 + 3).toNatClampNeg)]) (rest := [.int (gX11_contract μ (xs (x4 + 1).toNatClampNeg) (xs (x4 + 2).toNatClampNeg) (xs (x4 + 3).toNatClampNeg))]) C0 hm hI2 hS dL_law_871 kvL_112 kmX12_contract (d2 := 2) (by decide) rfl hν (by omega) rfl rfl rfl (fs_c trivial (fs_c trivial (fs_c trivial (fun _ h => by cases h)))) (Nat.le_of_ble_eq_true rfl) (Nat.le_of_ble_eq_true rfl) hL.1 (mc2 := 0) (ms2 := 0) ⟨by omega, by omega⟩ (wX12_contract (μ := ν) hν (xs (x4 + 1).toNatClampNeg) (xs (x4 + 2).toNatClampNeg) (xs (x4 + 3).toNatClampNeg) hpM) ?_
  rintro v ν' am' H2 locs2 ⟨hv1, hv2⟩ - hm2 hI3 hS3
  rw [hv1]
  rw [hv2] at hI3
  have f0 : am' 0 = am 0 := hm2 0 (Or.inl (by omega))
  show W p l e room_1 s m #[Value.ref b] below meth c H2 locs2 (cells + 0) (slots + 0) _ (F0 m 874 ls [.int (gX12_contract ν (xs (x4 + 1).toNatClampNeg) (xs (x4 + 2).toNatClampNeg) (xs (x4 + 3).toNatClampNeg)), .int (gX11_contract μ (xs (x4 + 1).toNatClampNeg) (xs (x4 + 2).toNatClampNeg) (xs (x4 + 3).toNatClampNeg))])
  refine W.widen (k := cells + 40) (n := slots + 3000) (by omega) (by omega) ?_
  refine lv_icmp_eq (tgt := 1521) hx hb dL_law_874 rfl (fun _ => ?_) (fun hq => absurd hg hq)
  exact K0 ls ad' am' _ _ o H2 locs2 (by rw [e0, f0]; exact hL) (fun k hk => (ha2 k (Or.inr hk)).trans (ha k hk)) (fun k hk => (hm2 k (Or.inr hk)).trans (hm k hk)) hRR hI3 hS3
set_option maxHeartbeats 4000000 in
set_option maxRecDepth 20000 in
theorem lc_24 (hl : l.stackTraces = false) (hO : ob_all RR) (C0 : lz_C p s m meth c b L xs D cy ad0) (hR : RR μ ν) (ha : ∀ k, 4000 ≤ k → ad k = ad0 k) (hm : ∀ k, 4000 ≤ k → am k = ad0 k) (hI : lz_I (fun q => s.heap.size ≤ q) D cy ad am ao μ ν o H) (hS : va_S (fun q => s.heap.size ≤ q) s.heap H locs) (hL : lv_has ls 7 [(0, .ref b), (1, .ref (ad 0)), (2, .ref (am 0)), (3, .ref ao), (4, .int x4)]) (hin : ∀ j : Nat, j < 7 → vp_in (x4 + nI j) L) (hcs : cells + 40 ≤ 601024 ∧ slots + 3000 ≤ 7293034)
    (K0 : lz_K p l e s m below meth c b D cy ad0 ao x4 RR (cells + 40) (slots + 3000)) : W p l e room_1 s m #[Value.ref b] below meth c H locs cells slots (lw_Z below #[Value.ref b] s) (F0 m 1016 ls []) := by
  obtain ⟨hx, hb, hr, hml, hown, hts, hX, hbl, hlocks, hgv⟩ := C0.1
  have hbA : ¬ (fun q : Nat => s.heap.size ≤ q) b := Nat.not_le.mpr hbl
  obtain ⟨⟨r0, r1, hz⟩, hν, hn34⟩ := hO.1 μ ν hR
  have hμ := hz.1
  have h89 : 89 ≤ μ.1 := lz_r89 hz
  have hi1 : vp_in (x4 + 1) L := hin 1 (by decide)
  obtain ⟨hpC, hpM, hg, hRR⟩ := hO.2.2.2.2.2.2.2.2.2.2.2.2.2.2.2.2.2.2.2.2.2.2.2.2.2.1 μ ν (xs (x4 + 1).toNatClampNeg) hR
  refine lv_aload_n hx hb dL_law_1016 rfl (lv_at hL 1 rfl) ?_
  refine lv_aload_n hx hb dL_law_1017 rfl (lv_at hL 0 rfl) ?_
  refine lv_iload hx hb dL_law_1018 (lv_at hL 4 rfl) ?_
  refine lv_iconst (v := 1) hx hb dL_law_1020 rfl ?_
  refine lv_iadd hx hb dL_law_1021 ?_
  refine va_sld hx hb hX hbl hbA hS hi1 dL_law_1022 ?_
  refine lz_callC (as := [.int (xs (x4 + 1).toNatClampNeg)]) (rest := []) C0 ha hI hS dL_law_1023 kvL_134 kmX11_recalled (d2 := 1) (by decide) rfl hμ (by omega) rfl rfl rfl (fs_c trivial (fun _ h => by cases h)) (Nat.le_of_ble_eq_true rfl) (Nat.le_of_ble_eq_true rfl) hL.1 (mc2 := 0) (ms2 := 0) ⟨by omega, by omega⟩ (wX11_recalled (μ := μ) hμ (xs (x4 + 1).toNatClampNeg) hpC) ?_
  rintro v μ' ad' H' locs' ⟨hv1, hv2⟩ - ha2 hI2 hS2
  rw [hv1]
  rw [hv2] at hI2
  have e0 : ad' 0 = ad 0 := ha2 0 (Or.inl (by omega))
  show W p l e room_1 s m #[Value.ref b] below meth c H' locs' (cells + 0) (slots + 0) _ (F0 m 1026 ls [.int (gX11_recalled μ (xs (x4 + 1).toNatClampNeg))])
  have hS := hS2
  refine lv_aload_n hx hb dL_law_1026 rfl (lv_at hL 2 rfl) ?_
  refine lv_aload_n hx hb dL_law_1027 rfl (lv_at hL 0 rfl) ?_
  refine lv_iload hx hb dL_law_1028 (lv_at hL 4 rfl) ?_
  refine lv_iconst (v := 1) hx hb dL_law_1030 rfl ?_
  refine lv_iadd hx hb dL_law_1031 ?_
  refine va_sld hx hb hX hbl hbA hS hi1 dL_law_1032 ?_
  refine lz_callM (as := [.int (xs (x4 + 1).toNatClampNeg)]) (rest := [.int (gX11_recalled μ (xs (x4 + 1).toNatClampNeg))]) C0 hm hI2 hS dL_law_1033 kvL_137 kmX12_recalled (d2 := 0) (by decide) rfl hν (by omega) rfl rfl rfl (fs_c trivial (fun _ h => by cases h)) (Nat.le_of_ble_eq_true rfl) (Nat.le_of_ble_eq_true rfl) hL.1 (mc2 := 0) (ms2 := 0) ⟨by omega, by omega⟩ (wX12_recalled (μ := ν) hν (xs (x4 + 1).toNatClampNeg) hpM) ?_
  rintro v ν' am' H2 locs2 ⟨hv1, hv2⟩ - hm2 hI3 hS3
  rw [hv1]
  rw [hv2] at hI3
  have f0 : am' 0 = am 0 := hm2 0 (Or.inl (by omega))
  show W p l e room_1 s m #[Value.ref b] below meth c H2 locs2 (cells + 0) (slots + 0) _ (F0 m 1036 ls [.int (gX12_recalled ν (xs (x4 + 1).toNatClampNeg)), .int (gX11_recalled μ (xs (x4 + 1).toNatClampNeg))])
  refine W.widen (k := cells + 40) (n := slots + 3000) (by omega) (by omega) ?_
  refine lv_icmp_eq (tgt := 1521) hx hb dL_law_1036 rfl (fun _ => ?_) (fun hq => absurd hg hq)
  exact K0 ls ad' am' _ _ o H2 locs2 (by rw [e0, f0]; exact hL) (fun k hk => (ha2 k (Or.inr hk)).trans (ha k hk)) (fun k hk => (hm2 k (Or.inr hk)).trans (hm k hk)) hRR hI3 hS3
set_option maxHeartbeats 4000000 in
set_option maxRecDepth 20000 in
theorem lc_30 (hl : l.stackTraces = false) (hO : ob_all RR) (C0 : lz_C p s m meth c b L xs D cy ad0) (hR : RR μ ν) (ha : ∀ k, 4000 ≤ k → ad k = ad0 k) (hm : ∀ k, 4000 ≤ k → am k = ad0 k) (hI : lz_I (fun q => s.heap.size ≤ q) D cy ad am ao μ ν o H) (hS : va_S (fun q => s.heap.size ≤ q) s.heap H locs) (hL : lv_has ls 7 [(0, .ref b), (1, .ref (ad 0)), (2, .ref (am 0)), (3, .ref ao), (4, .int x4)]) (hin : ∀ j : Nat, j < 7 → vp_in (x4 + nI j) L) (hcs : cells + 40 ≤ 601024 ∧ slots + 3000 ≤ 7293034)
    (K0 : lz_K p l e s m below meth c b D cy ad0 ao x4 RR (cells + 40) (slots + 3000)) : W p l e room_1 s m #[Value.ref b] below meth c H locs cells slots (lw_Z below #[Value.ref b] s) (F0 m 1166 ls []) := by
  obtain ⟨hx, hb, hr, hml, hown, hts, hX, hbl, hlocks, hgv⟩ := C0.1
  have hbA : ¬ (fun q : Nat => s.heap.size ≤ q) b := Nat.not_le.mpr hbl
  obtain ⟨⟨r0, r1, hz⟩, hν, hn34⟩ := hO.1 μ ν hR
  have hμ := hz.1
  have h89 : 89 ≤ μ.1 := lz_r89 hz
  obtain ⟨hpC, hpM, hg, hRR⟩ := hO.2.2.2.2.2.2.2.2.2.2.2.2.2.2.2.2.2.2.2.2.2.2.2.2.2.2.2.2.2.2.2.1 μ ν hR
  refine lv_aload_n hx hb dL_law_1166 rfl (lv_at hL 1 rfl) ?_
  refine lz_callC (as := []) (rest := []) C0 ha hI hS dL_law_1167 kvL_158 kmX11_causes (d2 := 4) (by decide) rfl hμ (by omega) rfl rfl rfl (fun _ h => by cases h) (Nat.le_of_ble_eq_true rfl) (Nat.le_of_ble_eq_true rfl) hL.1 (mc2 := 0) (ms2 := 0) ⟨by omega, by omega⟩ (wX11_causes (μ := μ) hμ hpC) ?_
  rintro v μ' ad' H' locs' ⟨hv1, hv2⟩ - ha2 hI2 hS2
  rw [hv1]
  rw [hv2] at hI2
  have e0 : ad' 0 = ad 0 := ha2 0 (Or.inl (by omega))
  show W p l e room_1 s m #[Value.ref b] below meth c H' locs' (cells + 0) (slots + 0) _ (F0 m 1170 ls [.int (gX11_causes μ)])
  have hS := hS2
  refine lv_aload_n hx hb dL_law_1170 rfl (lv_at hL 2 rfl) ?_
  refine lz_callM (as := []) (rest := [.int (gX11_causes μ)]) C0 hm hI2 hS dL_law_1171 kvL_161 kmX12_causes (d2 := (8 * fD + 1)) (by rw [fD_eq]; decide) rfl hν (by omega) rfl rfl rfl (fun _ h => by cases h) (Nat.le_of_ble_eq_true rfl) (Nat.le_of_ble_eq_true rfl) hL.1 (mc2 := 0) (ms2 := 0) ⟨by omega, by omega⟩ (wX12_causes (μ := ν) hν hpM) ?_
  rintro v ν' am' H2 locs2 ⟨hv1, hv2⟩ - hm2 hI3 hS3
  rw [hv1]
  rw [hv2] at hI3
  have f0 : am' 0 = am 0 := hm2 0 (Or.inl (by omega))
  show W p l e room_1 s m #[Value.ref b] below meth c H2 locs2 (cells + 0) (slots + 0) _ (F0 m 1174 ls [.int (gX12_causes ν), .int (gX11_causes μ)])
  refine W.widen (k := cells + 40) (n := slots + 3000) (by omega) (by omega) ?_
  refine lv_icmp_eq (tgt := 1521) hx hb dL_law_1174 rfl (fun _ => ?_) (fun hq => absurd hg hq)
  exact K0 ls ad' am' _ _ o H2 locs2 (by rw [e0, f0]; exact hL) (fun k hk => (ha2 k (Or.inr hk)).trans (ha k hk)) (fun k hk => (hm2 k (Or.inr hk)).trans (hm k hk)) hRR hI3 hS3
set_option maxHeartbeats 4000000 in
set_option maxRecDepth 20000 in
theorem lc_36 (hl : l.stackTraces = false) (hO : ob_all RR) (C0 : lz_C p s m meth c b L xs D cy ad0) (hR : RR μ ν) (ha : ∀ k, 4000 ≤ k → ad k = ad0 k) (hm : ∀ k, 4000 ≤ k → am k = ad0 k) (hI : lz_I (fun q => s.heap.size ≤ q) D cy ad am ao μ ν o H) (hS : va_S (fun q => s.heap.size ≤ q) s.heap H locs) (hL : lv_has ls 7 [(0, .ref b), (1, .ref (ad 0)), (2, .ref (am 0)), (3, .ref ao), (4, .int x4)]) (hin : ∀ j : Nat, j < 7 → vp_in (x4 + nI j) L) (hcs : cells + 40 ≤ 601024 ∧ slots + 3000 ≤ 7293034)
    (K0 : lz_K p l e s m below meth c b D cy ad0 ao x4 RR (cells + 40) (slots + 3000)) : W p l e room_1 s m #[Value.ref b] below meth c H locs cells slots (lw_Z below #[Value.ref b] s) (F0 m 1371 ls []) := by
  obtain ⟨hx, hb, hr, hml, hown, hts, hX, hbl, hlocks, hgv⟩ := C0.1
  have hbA : ¬ (fun q : Nat => s.heap.size ≤ q) b := Nat.not_le.mpr hbl
  obtain ⟨⟨r0, r1, hz⟩, hν, hn34⟩ := hO.1 μ ν hR
  have hμ := hz.1
  have h89 : 89 ≤ μ.1 := lz_r89 hz
  obtain ⟨hpC, hpM, hg, hRR⟩ := hO.2.2.2.2.2.2.2.2.2.2.2.2.2.2.2.2.2.2.2.2.2.2.2.2.2.2.2.2.2.2.2.2.2.2.2.2.2.1 μ ν hR
  refine lv_aload_n hx hb dL_law_1371 rfl (lv_at hL 1 rfl) ?_
  refine lz_callC (as := []) (rest := []) C0 ha hI hS dL_law_1372 kvL_182 kmX11_round (d2 := 6) (by decide) rfl hμ (by omega) rfl rfl rfl (fun _ h => by cases h) (Nat.le_of_ble_eq_true rfl) (Nat.le_of_ble_eq_true rfl) hL.1 (mc2 := 0) (ms2 := 0) ⟨by omega, by omega⟩ (wX11_round (μ := μ) hμ hpC) ?_
  rintro v μ' ad' H' locs' ⟨hv1, hv2⟩ - ha2 hI2 hS2
  rw [hv1]
  rw [hv2] at hI2
  have e0 : ad' 0 = ad 0 := ha2 0 (Or.inl (by omega))
  show W p l e room_1 s m #[Value.ref b] below meth c H' locs' (cells + 0) (slots + 0) _ (F0 m 1375 ls [.int (gX11_round μ)])
  have hS := hS2
  refine lv_aload_n hx hb dL_law_1375 rfl (lv_at hL 2 rfl) ?_
  refine lz_callM (as := []) (rest := [.int (gX11_round μ)]) C0 hm hI2 hS dL_law_1376 kvL_185 kmX12_round (d2 := 3) (by decide) rfl hν (by omega) rfl rfl rfl (fun _ h => by cases h) (Nat.le_of_ble_eq_true rfl) (Nat.le_of_ble_eq_true rfl) hL.1 (mc2 := 0) (ms2 := 0) ⟨by omega, by omega⟩ (wX12_round (μ := ν) hν hpM) ?_
  rintro v ν' am' H2 locs2 ⟨hv1, hv2⟩ - hm2 hI3 hS3
  rw [hv1]
  rw [hv2] at hI3
  have f0 : am' 0 = am 0 := hm2 0 (Or.inl (by omega))
  show W p l e room_1 s m #[Value.ref b] below meth c H2 locs2 (cells + 0) (slots + 0) _ (F0 m 1379 ls [.int (gX12_round ν), .int (gX11_round μ)])
  refine W.widen (k := cells + 40) (n := slots + 3000) (by omega) (by omega) ?_
  refine lv_icmp_eq (tgt := 1521) hx hb dL_law_1379 rfl (fun _ => ?_) (fun hq => absurd hg hq)
  exact K0 ls ad' am' _ _ o H2 locs2 (by rw [e0, f0]; exact hL) (fun k hk => (ha2 k (Or.inr hk)).trans (ha k hk)) (fun k hk => (hm2 k (Or.inr hk)).trans (hm k hk)) hRR hI3 hS3
end LCASES
