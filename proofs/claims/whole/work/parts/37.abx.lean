theorem wi_01 (μ : fm_T) (a b c : Int32) : gX11_within μ a b c = 0 ∨ gX11_within μ a b c = 1 := by
  unfold gX11_within
  split
  · exact Or.inl rfl
  · split
    · exact Or.inl rfl
    · exact Or.inr rfl
section GW2
variable {p : Program} {l : Launch} {e : Env} {R : Room} {s : State} {m : MethodId} {args : Array Value} {below : List Frame} {meth : Method} {c : Code} {H : Heap} {locs : List Loc} {cells slots : Nat} {Q : State → Prop}
variable {S : fs_T} {pc : Nat} {D : va_G} {cy : Nat → ClassId} {ad : Nat → Nat} {μ : fm_T} {ls : Array Slot} {rest : List Value}
theorem gw_get {ci N idx j k f nL : Nat} {C own : String} {T : u_T} {fs : List Nat} {Ts : List Cond} {cc : ByteArray} {v : Value} (CF : CallFix p m c cc nL s args Ts own) (hTs : ∀ w ∈ fg_l, w ∈ Ts) (hK : va_K D vwCl (fx_t S cy) s) (hN : ∀ w ∈ fg_h, va_Nw w s) (h6 : va_P D vwCl (fc_w ad cy μ) H) (hd : decode cc pc = .ok (.getfield idx, 3)) (hC : fk_C ci C T N) (hF : fk_F own idx T N j) (hk : k < μ.1) (hs : μ.2.1 k = (0, ci, fs)) (hj : fs[j]? = some f) (hvv : fc_p (μ.2.2.1 k j) (μ.2.2.2 k j) f = v)
    (kk : W p l e R s m args below meth c H locs cells slots Q (F0 m (pc + 3) ls (fv_v ad v :: rest))) : W p l e R s m args below meth c H locs cells slots Q (F0 m pc ls (.ref (ad k) :: rest)) := by
  subst hvv
  have he : (fc_w ad cy μ)[k]? = some (ad k, .inr (ci, fs.mapIdx (fun j f => fc_f ad (μ.2.2.1 k j) (μ.2.2.2 k j) f))) := by rw [fc_at hk, fc_eo hs]
  have hv : (fs.mapIdx (fun j f => fc_f ad (μ.2.2.1 k j) (μ.2.2.2 k j) f))[j]? = some (fv_v ad (fc_p (μ.2.2.1 k j) (μ.2.2.2 k j) f)) := by
    rw [List.getElem?_mapIdx, hj, fc_pv]; rfl
  have hts := fun w (h : w ∈ fg_l) => CF.2.2.2.2 w (hTs w h)
  rcases hF.2 with q | ⟨host, q⟩
  · exact va_get CF.1 CF.2.1 hts hC.2.1 CF.2.2.2.1 hK h6 k he hC.1 j hF.1 (hts _ q) (fun _ h => h) hv hd kk
  · exact va_getN CF.1 CF.2.1 hts hC.2.1 CF.2.2.2.1 hK h6 k he hC.1 j hF.1 (va_Nw.use rfl (hN _ q)) (fun _ h => h) hv hd kk
end GW2
def thrX (D : va_G) (cy : Nat → ClassId) (ad : Nat → Nat) (μ : fm_T) (sz : Nat) : String → State → State → Prop := fun E st t => E = nse ∧ va_P D vwCl (fc_w ad cy μ) t.heap ∧ va_F (va_A (fc_w ad cy μ) sz) st t
theorem thrX_of {D : va_G} {cy : Nat → ClassId} {ad : Nat → Nat} {μ : fm_T} {s t : State} {H : Heap} {locs : List Loc} (hP : va_P D vwCl (fc_w ad cy μ) H) (hS : va_S (va_A (fc_w ad cy μ) s.heap.size) s.heap H locs) (h1 : H.size ≤ t.heap.size) (h2 : ∀ q : Nat, q < H.size → t.heap[q]? = H[q]?) : thrX D cy ad μ s.heap.size nse s t :=
  ⟨rfl, hP.kept (fun k q hk => h2 q.1 ((hP k q hk).lt)), Nat.le_trans hS.1 h1, fun q hq hn => (h2 q (Nat.lt_of_lt_of_le hq hS.1)).trans (hS.2.1 q hq hn)⟩
set_option maxHeartbeats 4000000 in
set_option maxRecDepth 20000 in
theorem xX11_about {l : Launch} (hl : l.stackTraces = false) {r0 r1 : Nat} {μ : fm_T} (hμ : μ.2.1 = shC r0 r1) (hok : fm_ok μ) (hn : 89 ≤ μ.1) (x1 x2 : Int32) (hq : gX11_isTicket μ x1 = 0 ∨ (¬ gX11_isTicket μ x1 = 0 ∧ gX11_within μ x2 0 9 = 0)) (D : va_G) (cy : Nat → ClassId) (ad : Nat → Nat) (sz : Nat) :
    vx_Met l mX11_about.1 (fx_T mX11_about) (fx_R 6 1 6) (va_Pc [.ref (ad 0), .int x1, .int x2] (fx_P sC D cy ad μ sz)) (fun _ _ _ _ => False) (thrX D cy ad μ sz) 1 6 (va_A (fc_w ad cy μ) sz) := by
  refine vx_ofW (cc := mX11_about.2.1) (maxL := mX11_about.2.2.1) (ret := mX11_about.2.2.2) kmX11_about.1 rfl ?_
  intro p e s m args below meth c s₁ B hml hex hv
  obtain ⟨rfl, hsz, hP, hK, hD0, hN, hS0⟩ := hv
  have hts := atoms_spec (ws := fx_T mX11_about) B.pre
  have hown : s.vm.findClass RX11 = some m.cls := findClass_of_methodNamed B.named
  subst hsz
  have hlocks := B.notSynchronized
  have hl0 := lv_entry [.ref (ad 0), .int x1, .int x2] (n := 3) (Nat.le_of_ble_eq_true rfl)
  rw [lg_entry_eq]
  generalize (lg_sl [Value.ref (ad 0), .int x1, .int x2] ++ List.replicate (mX11_about.2.2.1 - (lg_sl [Value.ref (ad 0), .int x1, .int x2]).length) Slot.unset).toArray = ls at hl0 ⊢
  have hl0 : lv_has ls 3 [(0, .ref (ad 0)), (1, .int x1), (2, .int x2)] := hl0
  have hA : ∀ q, s.heap.size ≤ q → va_A (fc_w ad cy μ) s.heap.size q := fun q h => Or.inr h
  have hD := hD0.self (sz := s.heap.size)
  have CF : CallFix p m c cX11_about 3 s #[Value.ref (ad 0), .int x1, .int x2] (fx_T mX11_about) RX11 := ⟨B.exec, B.bytes, hml, hown, hts⟩
  have hTs : ∀ w ∈ fg_l, w ∈ fx_T mX11_about := fun w h => List.mem_cons_of_mem _ h
  have hz := fx_nse hS0.2
  have thr : ∀ (H : Heap) (locs : List Loc), va_P D vwCl (fc_w ad cy μ) H → va_S (va_A (fc_w ad cy μ) s.heap.size) s.heap H locs → W p l e (fx_R 6 1 6) s m #[Value.ref (ad 0), .int x1, .int x2] below meth c H locs 0 0 (vx_MQ below (fun _ _ _ _ => False) (thrX D cy ad μ s.heap.size) #[Value.ref (ad 0), .int x1, .int x2] s 1 6 (va_A (fc_w ad cy μ) s.heap.size)) (F0 m 18 ls []) := fun H locs hP hS =>
    nse_throw (k := 6) (is := 166) (text := txA) (sa := ad 4012) B.exec B.bytes hl hown (hz.1 _).2.1 (hz.1 _).2.2 hz.2.2.2.1 (hz.1 _).1 hz.2.1 hz.2.2.1 hS (hl0.1.trans hml.symm) dX11_about_18 dX11_about_21 (Or.inl ⟨rfl, dX11_about_22⟩) dX11_about_24 dX11_about_27 (fun x hx => (hex x hx).elim) (by decide) (by decide) (by decide) (by decide) hlocks (fun t _ h1 h2 => thrX_of hP hS h1 h2) hS.2.2 (by decide) (by decide)
  show W p l e (fx_R 6 1 6) s m #[Value.ref (ad 0), .int x1, .int x2] below meth c s.heap [] 0 0 _ (F0 m 0 ls [])
  refine lv_aload_n B.exec B.bytes dX11_about_0 rfl (lv_at hl0 0 rfl) ?_
  refine lv_iload_n B.exec B.bytes dX11_about_1 rfl (lv_at hl0 1 rfl) ?_
  refine gw_callV (b := 0) (as := [.int x1]) (rest := []) (ci := 11) CF hTs hK hN hS0 hA hok hP hD va_S.rf dX11_about_2 kvX11_161 kmX11_isTicket (d2 := 1) ⟨by decide, by decide⟩ rfl rfl (by omega) (hC_0 hμ) rfl rfl (fs_c trivial (fun _ h => by cases h)) (Nat.le_of_ble_eq_true rfl) (Nat.le_of_ble_eq_true rfl) hl0.1 (mc2 := 0) (ms2 := 0) ⟨by decide, by decide⟩ (wX11_isTicket hμ x1 (wi_01 _ _ _ _)) ?_
  rintro v μ' ad' H' locs' ⟨rfl, rfl⟩ - h2 h3 h4 - - - h8
  rw [fc_w_ag (fun k hk => h2 k (Or.inl hk)) h3] at h4
  show W p l e (fx_R 6 1 6) s m #[Value.ref (ad 0), .int x1, .int x2] below meth c H' locs' 0 0 _ (F0 m 5 ls [.int (gX11_isTicket μ' x1)])
  rcases hq with hq | ⟨hq1, hq2⟩
  · exact lv_if_eq (tgt := 18) B.exec B.bytes dX11_about_5 rfl (fun _ => thr H' locs' h4 h8) (fun q => absurd hq q)
  · refine lv_if_eq (tgt := 18) B.exec B.bytes dX11_about_5 rfl (fun q => absurd q hq1) (fun _ => ?_)
    refine lv_iload_n B.exec B.bytes dX11_about_8 rfl (lv_at hl0 2 rfl) ?_
    refine lv_iconst (v := 0) B.exec B.bytes dX11_about_9 rfl ?_
    refine lv_bipush (v := 9) B.exec B.bytes dX11_about_10 rfl ?_
    refine gw_callS (as := [.int x2, .int 0, .int 9]) (rest := []) CF hTs hK hN hS0 hA h3 h4 hD h8 dX11_about_12 kvX11_141 kmX11_within (d2 := 0) ⟨by decide, by decide⟩ rfl rfl (fs_c trivial (fs_c trivial (fs_c trivial (fun _ h => by cases h)))) (Nat.le_of_ble_eq_true rfl) (Nat.le_of_ble_eq_true rfl) hl0.1 (mc2 := 0) (ms2 := 0) ⟨by decide, by decide⟩ (wX11_within hμ x2 0 9) ?_
    rintro v μ2 ad2 H2 locs2 ⟨rfl, rfl⟩ - k2 k3 k4 - - - k8
    rw [fc_w_ag (fun k hk => k2 k (Or.inl hk)) k3] at k4
    show W p l e (fx_R 6 1 6) s m #[Value.ref (ad 0), .int x1, .int x2] below meth c H2 locs2 0 0 _ (F0 m 15 ls [.int (gX11_within μ2 x2 0 9)])
    exact lv_if_ne (tgt := 28) B.exec B.bytes dX11_about_15 rfl (fun q => absurd hq2 q) (fun _ => thr H2 locs2 k4 k8)
set_option maxHeartbeats 4000000 in
set_option maxRecDepth 20000 in
theorem xX11_lost {l : Launch} (hl : l.stackTraces = false) {r0 r1 : Nat} {μ : fm_T} (hμ : μ.2.1 = shC r0 r1) (hok : fm_ok μ) (hn : 89 ≤ μ.1) (x1 : Int32) (hq : gX11_within μ x1 0 (fI μ 15 8 - 1) = 0) (D : va_G) (cy : Nat → ClassId) (ad : Nat → Nat) (sz : Nat) :
    vx_Met l mX11_lost.1 (fx_T mX11_lost) (fx_R 6 1 6) (va_Pc [.ref (ad 0), .int x1] (fx_P sC D cy ad μ sz)) (fun _ _ _ _ => False) (thrX D cy ad μ sz) 1 6 (va_A (fc_w ad cy μ) sz) := by
  refine vx_ofW (cc := mX11_lost.2.1) (maxL := mX11_lost.2.2.1) (ret := mX11_lost.2.2.2) kmX11_lost.1 rfl ?_
  intro p e s m args below meth c s₁ B hml hex hv
  obtain ⟨rfl, hsz, hP, hK, hD0, hN, hS0⟩ := hv
  have hts := atoms_spec (ws := fx_T mX11_lost) B.pre
  have hown : s.vm.findClass RX11 = some m.cls := findClass_of_methodNamed B.named
  subst hsz
  have hlocks := B.notSynchronized
  have hl0 := lv_entry [.ref (ad 0), .int x1] (n := 2) (Nat.le_of_ble_eq_true rfl)
  rw [lg_entry_eq]
  generalize (lg_sl [Value.ref (ad 0), .int x1] ++ List.replicate (mX11_lost.2.2.1 - (lg_sl [Value.ref (ad 0), .int x1]).length) Slot.unset).toArray = ls at hl0 ⊢
  have hl0 : lv_has ls 2 [(0, .ref (ad 0)), (1, .int x1)] := hl0
  have hA : ∀ q, s.heap.size ≤ q → va_A (fc_w ad cy μ) s.heap.size q := fun q h => Or.inr h
  have hD := hD0.self (sz := s.heap.size)
  have CF : CallFix p m c cX11_lost 2 s #[Value.ref (ad 0), .int x1] (fx_T mX11_lost) RX11 := ⟨B.exec, B.bytes, hml, hown, hts⟩
  have hTs : ∀ w ∈ fg_l, w ∈ fx_T mX11_lost := fun w h => List.mem_cons_of_mem _ h
  have hz := fx_nse hS0.2
  show W p l e (fx_R 6 1 6) s m #[Value.ref (ad 0), .int x1] below meth c s.heap [] 0 0 _ (F0 m 0 ls [])
  refine lv_iload_n B.exec B.bytes dX11_lost_0 rfl (lv_at hl0 1 rfl) ?_
  refine lv_iconst (v := 0) B.exec B.bytes dX11_lost_1 rfl ?_
  refine lv_aload_n B.exec B.bytes dX11_lost_2 rfl (lv_at hl0 0 rfl) ?_
  refine gw_get (v := .ref 8) (k := 0) CF hTs hK hN hP dX11_lost_3 kcX11 kfX11_19 (by omega) (hC_0 hμ) rfl rfl ?_
  refine gw_get (v := .ref 15) (k := 8) CF hTs hK hN hP dX11_lost_6 kcX10 kfX11_122 (by omega) (hC_8 hμ) rfl rfl ?_
  refine gw_get (v := .int (fI μ 15 8)) (k := 15) CF hTs hK hN hP dX11_lost_9 kcX3 kfX11_357 (by omega) (hC_15 hμ) rfl rfl ?_
  refine lv_iconst (v := 1) B.exec B.bytes dX11_lost_12 rfl ?_
  refine lv_isub B.exec B.bytes dX11_lost_13 ?_
  refine gw_callS (as := [.int x1, .int 0, .int (fI μ 15 8 - 1)]) (rest := []) CF hTs hK hN hS0 hA hok hP hD va_S.rf dX11_lost_14 kvX11_141 kmX11_within (d2 := 0) ⟨by decide, by decide⟩ rfl rfl (fs_c trivial (fs_c trivial (fs_c trivial (fun _ h => by cases h)))) (Nat.le_of_ble_eq_true rfl) (Nat.le_of_ble_eq_true rfl) hl0.1 (mc2 := 0) (ms2 := 0) ⟨by decide, by decide⟩ (wX11_within hμ x1 0 (fI μ 15 8 - 1)) ?_
  rintro v μ' ad' H' locs' ⟨rfl, rfl⟩ - h2 h3 h4 - - - h8
  rw [fc_w_ag (fun k hk => h2 k (Or.inl hk)) h3] at h4
  show W p l e (fx_R 6 1 6) s m #[Value.ref (ad 0), .int x1] below meth c H' locs' 0 0 _ (F0 m 17 ls [.int (gX11_within μ' x1 0 (fI μ' 15 8 - 1))])
  refine lv_if_ne (tgt := 31) B.exec B.bytes dX11_lost_17 rfl (fun q => absurd hq q) (fun _ => ?_)
  exact nse_throw (k := 7) (is := 360) (text := txB) (sa := ad 4013) B.exec B.bytes hl hown (hz.1 _).2.1 (hz.1 _).2.2 hz.2.2.2.2 (hz.1 _).1 hz.2.1 hz.2.2.1 h8 (hl0.1.trans hml.symm) dX11_lost_20 dX11_lost_23 (Or.inr ⟨rfl, dX11_lost_24⟩) dX11_lost_27 dX11_lost_30 (fun x hx => (hex x hx).elim) (by decide) (by decide) (by decide) (by decide) hlocks (fun t _ h1 h2 => thrX_of h4 h8 h1 h2) h8.2.2 (by decide) (by decide)
set_option maxRecDepth 20000 in
theorem wX11_about {l : Launch} {r0 r1 : Nat} {μ : fm_T} (hμ : μ.2.1 = shC r0 r1) (x1 x2 : Int32) (h1 : ¬ gX11_isTicket μ x1 = 0) (h2 : ¬ gX11_within μ x2 0 9 = 0) (hp : pX8_of μ x1 x2) : fwp l sC mX11_about 2 0 0 0 0 0 (fl_ent [.ref 0, .int x1, .int x2] mX11_about.2.2.1) [] μ (fp_f (some (.int (gX8_of μ x1 x2))) μ) :=
  fw_aload_n dX11_about_0 rfl rfl (fw_iload_n dX11_about_1 rfl rfl (fw_callVfx (as := [.int x1]) (rest := []) dX11_about_2 kvX11_161 kmX11_isTicket (d2 := 1) (by decide) (ci := 11) rfl rfl (by decide) (hC_0 hμ) rfl rfl (Nat.le_of_ble_eq_true rfl) (Nat.le_of_ble_eq_true rfl) ⟨Nat.le_refl _, Nat.le_refl _⟩ (mc2 := 0) (ms2 := 0) (wX11_isTicket hμ x1 (wi_01 _ _ _ _)) (fw_if_eq (tgt := 18) dX11_about_5 rfl (fun q => absurd q h1) (fun _ => fw_iload_n dX11_about_8 rfl rfl (fw_iconst (v := 0) dX11_about_9 rfl (fw_bipush (v := 9) dX11_about_10 rfl (fw_callSfx (as := [.int x2, .int 0, .int 9]) (rest := []) dX11_about_12 kvX11_141 kmX11_within (d2 := 0) (by decide) rfl rfl (Nat.le_of_ble_eq_true rfl) (Nat.le_of_ble_eq_true rfl) ⟨Nat.le_refl _, Nat.le_refl _⟩ (mc2 := 0) (ms2 := 0) (wX11_within (μ := μ) hμ x2 0 9) (fw_if_ne (tgt := 28) dX11_about_15 rfl (fun _ => fw_aload_n dX11_about_28 rfl rfl (fw_get (v := .ref 8) dX11_about_29 kcX11 kfX11_19 (by decide) (hC_0 hμ) rfl rfl (fw_get (v := .ref 9) dX11_about_32 kcX10 kfX11_115 (by decide) (hC_8 hμ) rfl rfl (fw_iload_n dX11_about_35 rfl rfl (fw_iload_n dX11_about_36 rfl rfl (fw_callVfx (as := [.int x1, .int x2]) (rest := []) dX11_about_37 kvX11_171 kmX8_of (d2 := 1) (by decide) (ci := 8) rfl rfl (by decide) (hC_9 hμ) rfl rfl (Nat.le_of_ble_eq_true rfl) (Nat.le_of_ble_eq_true rfl) ⟨Nat.le_refl _, Nat.le_refl _⟩ (mc2 := 0) (ms2 := 0) (wX8_of hμ x1 x2 hp) (fw_iret dX11_about_40 rfl (by decide) (by decide) ⟨rfl, rfl⟩))))))) (fun q => absurd q h2)))))))))
set_option maxRecDepth 20000 in
theorem wX11_lost {l : Launch} {r0 r1 : Nat} {μ : fm_T} (hμ : μ.2.1 = shC r0 r1) (x1 : Int32) (h1 : ¬ gX11_within μ x1 0 (fI μ 15 8 - 1) = 0) (hp : pX3_lostOn μ x1) : fwp l sC mX11_lost 2 0 0 0 0 0 (fl_ent [.ref 0, .int x1] mX11_lost.2.2.1) [] μ (fp_f (some (.int (gX3_lostOn μ x1))) μ) :=
  fw_iload_n dX11_lost_0 rfl rfl (fw_iconst (v := 0) dX11_lost_1 rfl (fw_aload_n dX11_lost_2 rfl rfl (fw_get (v := .ref 8) dX11_lost_3 kcX11 kfX11_19 (by decide) (hC_0 hμ) rfl rfl (fw_get (v := .ref 15) dX11_lost_6 kcX10 kfX11_122 (by decide) (hC_8 hμ) rfl rfl (fw_get (v := .int (fI μ 15 8)) dX11_lost_9 kcX3 kfX11_357 (by decide) (hC_15 hμ) rfl rfl (fw_iconst (v := 1) dX11_lost_12 rfl (fw_isub dX11_lost_13 (fw_callSfx (as := [.int x1, .int 0, .int (fI μ 15 8 - 1)]) (rest := []) dX11_lost_14 kvX11_141 kmX11_within (d2 := 0) (by decide) rfl rfl (Nat.le_of_ble_eq_true rfl) (Nat.le_of_ble_eq_true rfl) ⟨Nat.le_refl _, Nat.le_refl _⟩ (mc2 := 0) (ms2 := 0) (wX11_within (μ := μ) hμ x1 0 (fI μ 15 8 - 1)) (fw_if_ne (tgt := 31) dX11_lost_17 rfl (fun _ => fw_aload_n dX11_lost_31 rfl rfl (fw_get (v := .ref 8) dX11_lost_32 kcX11 kfX11_19 (by decide) (hC_0 hμ) rfl rfl (fw_get (v := .ref 15) dX11_lost_35 kcX10 kfX11_122 (by decide) (hC_8 hμ) rfl rfl (fw_iload_n dX11_lost_38 rfl rfl (fw_callVfx (as := [.int x1]) (rest := []) dX11_lost_39 kvX11_362 kmX3_lostOn (d2 := 1) (by decide) (ci := 3) rfl rfl (by decide) (hC_15 hμ) rfl rfl (Nat.le_of_ble_eq_true rfl) (Nat.le_of_ble_eq_true rfl) ⟨Nat.le_refl _, Nat.le_refl _⟩ (mc2 := 0) (ms2 := 0) (wX3_lostOn hμ x1 hp) (fw_iret dX11_lost_42 rfl (by decide) (by decide) ⟨rfl, rfl⟩)))))) (fun q => absurd q h1))))))))))
