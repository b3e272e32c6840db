theorem lz_i7 {L i : Nat} (hL : L ≤ 3584) (hi : i ≤ L) (h : ¬ Int32.ofNat L - 7 < nI i) : i + 7 ≤ L := by
  rw [Int32.lt_iff_toInt_lt] at h
  have e1 : (Int32.ofNat L).toInt = L := Int32.toInt_ofNat_of_lt (by omega)
  have e2 : (nI i).toInt = i := Int32.toInt_ofNat_of_lt (by omega)
  have e3 : (Int32.ofNat L - 7).toInt = (L : Int) - 7 := by
    have e7 : (7 : Int32).toInt = 7 := rfl
    rw [Int32.toInt_sub, e1, e7]
    exact Int.bmod_eq_of_le (by omega) (by omega)
  rw [e2, e3] at h
  omega
theorem lz_add {i j : Nat} : nI i + nI j = nI (i + j) := by
  show Int32.ofNat i + Int32.ofNat j = Int32.ofNat (i + j)
  rw [Int32.ofNat_add]

section LCASES
variable {p : Program} {l : Launch} {e : Env} {s : State} {m : MethodId} {below : List Frame} {meth : Method} {c : Code} {H : Heap} {locs : List Loc} {cells slots : Nat}
variable {b L : Nat} {xs : Nat → Int32} {D : va_G} {cy : Nat → ClassId} {ad am ad0 : Nat → Nat} {ao : Nat} {o : Nat → Int64} {μ ν : fm_T} {ls : Array Slot} {x4 : Int32} {RR : fm_T → fm_T → Prop}
set_option maxHeartbeats 4000000 in
set_option maxRecDepth 20000 in
theorem lz_switch (hl : l.stackTraces = false) (hO : ob_all RR) (C0 : lz_C p s m meth c b L xs D cy ad0) (hR : RR μ ν) (ha : ∀ k, 4000 ≤ k → ad k = ad0 k) (hm : ∀ k, 4000 ≤ k → am k = ad0 k) (hI : lz_I (fun q => s.heap.size ≤ q) D cy ad am ao μ ν o H) (hS : va_S (fun q => s.heap.size ≤ q) s.heap H locs) (hL : lv_has ls 7 [(0, .ref b), (1, .ref (ad 0)), (2, .ref (am 0)), (3, .ref ao), (4, .int x4)]) (hin : ∀ j : Nat, j < 7 → vp_in (x4 + nI j) L) (hcs : cells + 40 ≤ 601024 ∧ slots + 3000 ≤ 7293034)
    (K0 : lz_K p l e s m below meth c b D cy ad0 ao x4 RR (cells + 40) (slots + 3000)) (x : Int32) : W p l e room_1 s m #[Value.ref b] below meth c H locs cells slots (lw_Z below #[Value.ref b] s) (F0 m 40 ls [.int x]) := by
  obtain ⟨hx, hb, hr, hml, hown, hts, hX, hbl, hlocks, hgv⟩ := C0.1
  by_cases hr1 : x.toInt < 0 ∨ 41 < x.toInt
  · refine lv_tableOut (tgt := 1521) hx hb dL_law_40 hr1 rfl ?_
    exact W.widen (k := cells + 40) (n := slots + 3000) (by omega) (by omega) (K0 ls ad am μ ν o H locs hL ha hm hR hI hS)
  · have hr2 : x.toInt = 0 ∨ x.toInt = 1 ∨ x.toInt = 2 ∨ x.toInt = 3 ∨ x.toInt = 4 ∨ x.toInt = 5 ∨ x.toInt = 6 ∨ x.toInt = 7 ∨ x.toInt = 8 ∨ x.toInt = 9 ∨ x.toInt = 10 ∨ x.toInt = 11 ∨ x.toInt = 12 ∨ x.toInt = 13 ∨ x.toInt = 14 ∨ x.toInt = 15 ∨ x.toInt = 16 ∨ x.toInt = 17 ∨ x.toInt = 18 ∨ x.toInt = 19 ∨ x.toInt = 20 ∨ x.toInt = 21 ∨ x.toInt = 22 ∨ x.toInt = 23 ∨ x.toInt = 24 ∨ x.toInt = 25 ∨ x.toInt = 26 ∨ x.toInt = 27 ∨ x.toInt = 28 ∨ x.toInt = 29 ∨ x.toInt = 30 ∨ x.toInt = 31 ∨ x.toInt = 32 ∨ x.toInt = 33 ∨ x.toInt = 34 ∨ x.toInt = 35 ∨ x.toInt = 36 ∨ x.toInt = 37 ∨ x.toInt = 38 ∨ x.toInt = 39 ∨ x.toInt = 40 ∨ x.toInt = 41 := by omega
    rcases hr2 with h | h | h | h | h | h | h | h | h | h | h | h | h | h | h | h | h | h | h | h | h | h | h | h | h | h | h | h | h | h | h | h | h | h | h | h | h | h | h | h | h | h
    · exact lv_tableIn (off := 184) (tgt := 224) hx hb dL_law_40 (by rw [h]; decide) (by rw [h]; decide) (by rw [h]; rfl) rfl (lc_0 hl hO C0 hR ha hm hI hS hL hin hcs K0)
    · exact lv_tableIn (off := 257) (tgt := 297) hx hb dL_law_40 (by rw [h]; decide) (by rw [h]; decide) (by rw [h]; rfl) rfl (lc_1 hl hO C0 hR ha hm hI hS hL hin hcs K0)
    · exact lv_tableIn (off := 282) (tgt := 322) hx hb dL_law_40 (by rw [h]; decide) (by rw [h]; decide) (by rw [h]; rfl) rfl (lc_2 hl hO C0 hR ha hm hI hS hL hin hcs K0)
    · exact lv_tableIn (off := 295) (tgt := 335) hx hb dL_law_40 (by rw [h]; decide) (by rw [h]; decide) (by rw [h]; rfl) rfl (lc_3 hl hO C0 hR ha hm hI hS hL hin hcs K0)
    · exact lv_tableIn (off := 308) (tgt := 348) hx hb dL_law_40 (by rw [h]; decide) (by rw [h]; decide) (by rw [h]; rfl) rfl (lc_4 hl hO C0 hR ha hm hI hS hL hin hcs K0)
    · exact lv_tableIn (off := 333) (tgt := 373) hx hb dL_law_40 (by rw [h]; decide) (by rw [h]; decide) (by rw [h]; rfl) rfl (lc_5 hl hO C0 hR ha hm hI hS hL hin hcs K0)
    · exact lv_tableIn (off := 420) (tgt := 460) hx hb dL_law_40 (by rw [h]; decide) (by rw [h]; decide) (by rw [h]; rfl) rfl (lc_6 hl hO C0 hR ha hm hI hS hL hin hcs K0)
    · exact lv_tableIn (off := 488) (tgt := 528) hx hb dL_law_40 (by rw [h]; decide) (by rw [h]; decide) (by rw [h]; rfl) rfl (lc_7 hl hO C0 hR ha hm hI hS hL hin hcs K0)
    · exact lv_tableIn (off := 537) (tgt := 577) hx hb dL_law_40 (by rw [h]; decide) (by rw [h]; decide) (by rw [h]; rfl) rfl (lc_8 hl hO C0 hR ha hm hI hS hL hin hcs K0)
    · exact lv_tableIn (off := 586) (tgt := 626) hx hb dL_law_40 (by rw [h]; decide) (by rw [h]; decide) (by rw [h]; rfl) rfl (lc_9 hl hO C0 hR ha hm hI hS hL hin hcs K0)
    · exact lv_tableIn (off := 611) (tgt := 651) hx hb dL_law_40 (by rw [h]; decide) (by rw [h]; decide) (by rw [h]; rfl) rfl (lc_10 hl hO C0 hR ha hm hI hS hL hin hcs K0)
    · exact lv_tableIn (off := 624) (tgt := 664) hx hb dL_law_40 (by rw [h]; decide) (by rw [h]; decide) (by rw [h]; rfl) rfl (lc_11 hl hO C0 hR ha hm hI hS hL hin hcs K0)
    · exact lv_tableIn (off := 637) (tgt := 677) hx hb dL_law_40 (by rw [h]; decide) (by rw [h]; decide) (by rw [h]; rfl) rfl (lc_12 hl hO C0 hR ha hm hI hS hL hin hcs K0)
    · exact lv_tableIn (off := 651) (tgt := 691) hx hb dL_law_40 (by rw [h]; decide) (by rw [h]; decide) (by rw [h]; rfl) rfl (lc_13 hl hO C0 hR ha hm hI hS hL hin hcs K0)
    · exact lv_tableIn (off := 676) (tgt := 716) hx hb dL_law_40 (by rw [h]; decide) (by rw [h]; decide) (by rw [h]; rfl) rfl (lc_14 hl hO C0 hR ha hm hI hS hL hin hcs K0)
    · exact lv_tableIn (off := 702) (tgt := 742) hx hb dL_law_40 (by rw [h]; decide) (by rw [h]; decide) (by rw [h]; rfl) rfl (lc_15 hl hO C0 hR ha hm hI hS hL hin hcs K0)
    · exact lv_tableIn (off := 727) (tgt := 767) hx hb dL_law_40 (by rw [h]; decide) (by rw [h]; decide) (by rw [h]; rfl) rfl (lc_16 hl hO C0 hR ha hm hI hS hL hin hcs K0)
    · exact lv_tableIn (off := 765) (tgt := 805) hx hb dL_law_40 (by rw [h]; decide) (by rw [h]; decide) (by rw [h]; rfl) rfl (lc_17 hl hO C0 hR ha hm hI hS hL hin hcs K0)
    · exact lv_tableIn (off := 790) (tgt := 830) hx hb dL_law_40 (by rw [h]; decide) (by rw [h]; decide) (by rw [h]; rfl) rfl (lc_18 hl hO C0 hR ha hm hI hS hL hin hcs K0)
    · exact lv_tableIn (off := 839) (tgt := 879) hx hb dL_law_40 (by rw [h]; decide) (by rw [h]; decide) (by rw [h]; rfl) rfl (lc_19 hl hO C0 hR ha hm hI hS hL hin hcs K0)
    · exact lv_tableIn (off := 864) (tgt := 904) hx hb dL_law_40 (by rw [h]; decide) (by rw [h]; decide) (by rw [h]; rfl) rfl (lc_20 hl hO C0 hR ha hm hI hS hL hin hcs K0)
    · exact lv_tableIn (off := 877) (tgt := 917) hx hb dL_law_40 (by rw [h]; decide) (by rw [h]; decide) (by rw [h]; rfl) rfl (lc_21 hl hO C0 hR ha hm hI hS hL hin hcs K0)
    · exact lv_tableIn (off := 914) (tgt := 954) hx hb dL_law_40 (by rw [h]; decide) (by rw [h]; decide) (by rw [h]; rfl) rfl (lc_22 hl hO C0 hR ha hm hI hS hL hin hcs K0)
    · exact lv_tableIn (off := 939) (tgt := 979) hx hb dL_law_40 (by rw [h]; decide) (by rw [h]; decide) (by rw [h]; rfl) rfl (lc_23 hl hO C0 hR ha hm hI hS hL hin hcs K0)
    · exact lv_tableIn (off := 976) (tgt := 1016) hx hb dL_law_40 (by rw [h]; decide) (by rw [h]; decide) (by rw [h]; rfl) rfl (lc_24 hl hO C0 hR ha hm hI hS hL hin hcs K0)
    · exact lv_tableIn (off := 1001) (tgt := 1041) hx hb dL_law_40 (by rw [h]; decide) (by rw [h]; decide) (by rw [h]; rfl) rfl (lc_25 hl hO C0 hR ha hm hI hS hL hin hcs K0)
    · exact lv_tableIn (off := 1014) (tgt := 1054) hx hb dL_law_40 (by rw [h]; decide) (by rw [h]; decide) (by rw [h]; rfl) rfl (lc_26 hl hO C0 hR ha hm hI hS hL hin hcs K0)
    · exact lv_tableIn (off := 1039) (tgt := 1079) hx hb dL_law_40 (by rw [h]; decide) (by rw [h]; decide) (by rw [h]; rfl) rfl (lc_27 hl hO C0 hR ha hm hI hS hL hin hcs K0)
    · exact lv_tableIn (off := 1076) (tgt := 1116) hx hb dL_law_40 (by rw [h]; decide) (by rw [h]; decide) (by rw [h]; rfl) rfl (lc_28 hl hO C0 hR ha hm hI hS hL hin hcs K0)
    · exact lv_tableIn (off := 1101) (tgt := 1141) hx hb dL_law_40 (by rw [h]; decide) (by rw [h]; decide) (by rw [h]; rfl) rfl (lc_29 hl hO C0 hR ha hm hI hS hL hin hcs K0)
    · exact lv_tableIn (off := 1126) (tgt := 1166) hx hb dL_law_40 (by rw [h]; decide) (by rw [h]; decide) (by rw [h]; rfl) rfl (lc_30 hl hO C0 hR ha hm hI hS hL hin hcs K0)
    · exact lv_tableIn (off := 1139) (tgt := 1179) hx hb dL_law_40 (by rw [h]; decide) (by rw [h]; decide) (by rw [h]; rfl) rfl (lc_31 hl hO C0 hR ha hm hI hS hL hin hcs K0)
    · exact lv_tableIn (off := 1164) (tgt := 1204) hx hb dL_law_40 (by rw [h]; decide) (by rw [h]; decide) (by rw [h]; rfl) rfl (lc_32 hl hO C0 hR ha hm hI hS hL hin hcs K0)
    · exact lv_tableIn (off := 1213) (tgt := 1253) hx hb dL_law_40 (by rw [h]; decide) (by rw [h]; decide) (by rw [h]; rfl) rfl (lc_33 hl hO C0 hR ha hm hI hS hL hin hcs K0)
    · exact lv_tableIn (off := 1269) (tgt := 1309) hx hb dL_law_40 (by rw [h]; decide) (by rw [h]; decide) (by rw [h]; rfl) rfl (lc_34 hl hO C0 hR ha hm hI hS hL hin hcs K0)
    · exact lv_tableIn (off := 1282) (tgt := 1322) hx hb dL_law_40 (by rw [h]; decide) (by rw [h]; decide) (by rw [h]; rfl) rfl (lc_35 hl hO C0 hR ha hm hI hS hL hin hcs K0)
    · exact lv_tableIn (off := 1331) (tgt := 1371) hx hb dL_law_40 (by rw [h]; decide) (by rw [h]; decide) (by rw [h]; rfl) rfl (lc_36 hl hO C0 hR ha hm hI hS hL hin hcs K0)
    · exact lv_tableIn (off := 1344) (tgt := 1384) hx hb dL_law_40 (by rw [h]; decide) (by rw [h]; decide) (by rw [h]; rfl) rfl (lc_37 hl hO C0 hR ha hm hI hS hL hin hcs K0)
    · exact lv_tableIn (off := 1369) (tgt := 1409) hx hb dL_law_40 (by rw [h]; decide) (by rw [h]; decide) (by rw [h]; rfl) rfl (lc_38 hl hO C0 hR ha hm hI hS hL hin hcs K0)
    · exact lv_tableIn (off := 1406) (tgt := 1446) hx hb dL_law_40 (by rw [h]; decide) (by rw [h]; decide) (by rw [h]; rfl) rfl (lc_39 hl hO C0 hR ha hm hI hS hL hin hcs K0)
    · exact lv_tableIn (off := 1431) (tgt := 1471) hx hb dL_law_40 (by rw [h]; decide) (by rw [h]; decide) (by rw [h]; rfl) rfl (lc_40 hl hO C0 hR ha hm hI hS hL hin hcs K0)
    · exact lv_tableIn (off := 1456) (tgt := 1496) hx hb dL_law_40 (by rw [h]; decide) (by rw [h]; decide) (by rw [h]; rfl) rfl (lc_41 hl hO C0 hR ha hm hI hS hL hin hcs K0)
end LCASES
set_option maxHeartbeats 4000000 in
set_option maxRecDepth 20000 in
theorem lz_loop {p : Program} {l : Launch} {e : Env} {s : State} {m : MethodId} {below : List Frame} {meth : Method} {c : Code} {b L : Nat} {xs : Nat → Int32} {D : va_G} {cy : Nat → ClassId} {ad0 : Nat → Nat} {ao : Nat} {RR : fm_T → fm_T → Prop} (hl : l.stackTraces = false) (hO : ob_all RR) (hLL : L ≤ 3584) (C0 : lz_C p s m meth c b L xs D cy ad0) :
    ∀ (n i cells slots : Nat) (x4 : Int32), L + 7 ≤ i + 7 * n → i ≤ L → x4 = nI i → cells + 40 * n ≤ 601024 → slots + 3000 * n ≤ 7293034 → ∀ (ls : Array Slot) (ad am : Nat → Nat) (μ ν : fm_T) (o : Nat → Int64) (H : Heap) (locs : List Loc), lv_has ls 7 [(0, .ref b), (1, .ref (ad 0)), (2, .ref (am 0)), (3, .ref ao), (4, .int x4)] → (∀ k, 4000 ≤ k → ad k = ad0 k) → (∀ k, 4000 ≤ k → am k = ad0 k) → RR μ ν → lz_I (fun q => s.heap.size ≤ q) D cy ad am ao μ ν o H → va_S (fun q => s.heap.size ≤ q) s.heap H locs → W p l e room_1 s m #[Value.ref b] below meth c H locs cells slots (lw_Z below #[Value.ref b] s) (F0 m 23 ls []) := by
  obtain ⟨hx, hb, hr, hml, hown, hts, hX, hbl, hlocks, hgv⟩ := C0.1
  have hbA : ¬ (fun q : Nat => s.heap.size ≤ q) b := Nat.not_le.mpr hbl
  intro n
  induction n with
  | zero => intro i cells slots x4 h1 h2; omega
  | succ n ih =>
    intro i cells slots x4 h1 h2 h3 h4 h5 ls ad am μ ν o H locs hL ha hm hR hI hS
    refine lv_iload hx hb dL_law_23 (lv_at hL 4 rfl) ?_
    refine lv_aload_n hx hb dL_law_25 rfl (lv_at hL 0 rfl) ?_
    refine va_slen hx hb hX hbl hbA hS dL_law_26 ?_
    refine lv_bipush (v := 7) hx hb dL_law_27 rfl ?_
    refine lv_isub hx hb dL_law_29 ?_
    refine lv_icmp_gt (tgt := 1527) hx hb dL_law_30 rfl (fun _ => ?_) (fun c1 => ?_)
    · refine lv_iconst (v := 1) hx hb dL_law_1527 rfl ?_
      refine va_forget (fun q hq => hS.2.2 q hq) ?_
      refine W.widen (k := 601024) (n := 7293034) (by omega) (by omega) ?_
      exact lw_ret hx hb hr hlocks dL_law_1528
    · have hi7 : i + 7 ≤ L := lz_i7 hLL h2 (by rw [← h3]; exact c1)
      have hin : ∀ j : Nat, j < 7 → vp_in (x4 + nI j) L := fun j hj => by
        rw [h3, lz_add]
        exact vp_in_nI (by omega) (by omega)
      have hin0 : vp_in x4 L := by rw [h3]; exact vp_in_nI (by omega) (by omega)
      refine lv_aload_n hx hb dL_law_33 rfl (lv_at hL 0 rfl) ?_
      refine lv_iload hx hb dL_law_34 (lv_at hL 4 rfl) ?_
      refine va_sld hx hb hX hbl hbA hS hin0 dL_law_36 ?_
      refine lv_bipush (v := 63) hx hb dL_law_37 rfl ?_
      refine lv_iand hx hb dL_law_39 ?_
      refine lz_switch hl hO C0 hR ha hm hI hS hL hin ⟨by omega, by omega⟩ ?_ _
      intro ls2 ad2 am2 μ2 ν2 o2 H2 locs2 hL2 ha2 hm2 hR2 hI2 hS2
      refine lv_iinc (v := x4 + 7) (lv' := [(4, .int (x4 + 7)), (0, .ref b), (1, .ref (ad2 0)), (2, .ref (am2 0)), (3, .ref ao)]) hx hb dL_law_1521 hL2 (k := 4) rfl rfl (by decide) rfl (fun ls3 hL3 => ?_)
      refine lv_goto (tgt := 23) hx hb dL_law_1524 rfl ?_
      exact ih (i + 7) (cells + 40) (slots + 3000) (x4 + 7) (by omega) hi7 (by rw [h3]; exact lz_add) (by omega) (by omega) ls3 ad2 am2 μ2 ν2 o2 H2 locs2 (lv_sub hL3 [1, 2, 3, 4, 0] rfl) ha2 hm2 hR2 hI2 hS2
