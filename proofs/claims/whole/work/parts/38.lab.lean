def lo_e (cy : Nat → ClassId) (o : Nat → Int64) : va_E := .inl (cy 1, 1, .inr (.inl o))
def lo_w (cy : Nat → ClassId) (ao : Nat) (o : Nat → Int64) : va_W := [(ao, lo_e cy o)]
def lb_P (D : va_G) (cy : Nat → ClassId) (ad : Nat → Nat) (μ : fm_T) (ao : Nat) (o : Nat → Int64) (sz : Nat) (U : State) : Prop := fx_P sC D cy ad μ sz U ∧ va_P D vwCl (lo_w cy ao o) U.heap ∧ ∀ k, k < μ.1 → ad k ≠ ao
def lb_A (cy : Nat → ClassId) (ad : Nat → Nat) (μ : fm_T) (ao : Nat) (o : Nat → Int64) (sz : Nat) : Nat → Prop := va_A (fc_w ad cy μ ++ lo_w cy ao o) sz
def lb_Q (post : Int32 → (Nat → Int64) → Prop) (D : va_G) (cy : Nat → ClassId) (ad : Nat → Nat) (μ : fm_T) (ao : Nat) (A : Nat → Prop) : Array Value → State → Outcome → State → Prop := fun _ st oc t => ∃ (k : Int32) (o' : Nat → Int64), oc = .returned (some (.int k)) ∧ post k o' ∧ va_P D vwCl (fc_w ad cy μ) t.heap ∧ va_P D vwCl (lo_w cy ao o') t.heap ∧ va_F A st t
theorem lo_at {cy : Nat → ClassId} {ao k : Nat} {o : Nat → Int64} {q : Nat × va_E} (h : (lo_w cy ao o)[k]? = some q) : q = (ao, lo_e cy o) := by
  have hz : k < 1 := (List.getElem?_eq_some_iff.mp h).1
  rw [show k = 0 by omega] at h
  exact (Option.some.inj h).symm
theorem lb_blind {D : va_G} {cy : Nat → ClassId} {ad : Nat → Nat} {μ : fm_T} {ao : Nat} {o : Nat → Int64} {sz : Nat} {av : List Value} : FrameBlind (va_Pc av (lb_P D cy ad μ ao o sz)) := by
  intro a U g mk q
  have h := fx_blind (av := av) a U g mk ⟨q.1, q.2.1⟩
  exact ⟨q.1, h.2, q.2.2.1, q.2.2.2⟩
theorem lb_in {cy : Nat → ClassId} {ad : Nat → Nat} {μ : fm_T} {ao : Nat} {o : Nat → Int64} {sz sz' : Nat} (hs : sz ≤ sz') : ∀ q, va_A (fc_w ad cy μ) sz' q → lb_A cy ad μ ao o sz q := by
  intro q hq
  rcases hq with ⟨k, x, hk⟩ | hq
  · refine Or.inl ⟨k, x, ?_⟩
    rw [List.getElem?_append_left (List.getElem?_eq_some_iff.mp hk).1]
    exact hk
  · exact Or.inr (Nat.le_trans hs hq)
theorem lb_ao {cy : Nat → ClassId} {ad : Nat → Nat} {μ : fm_T} {ao : Nat} {o : Nat → Int64} {sz : Nat} : lb_A cy ad μ ao o sz ao := by
  refine Or.inl ⟨(fc_w ad cy μ).length, lo_e cy o, ?_⟩
  rw [List.getElem?_append_right (Nat.le_refl _), Nat.sub_self]
  rfl
theorem lb_no {cy : Nat → ClassId} {ad : Nat → Nat} {μ : fm_T} {ao sz : Nat} (h : ∀ k, k < μ.1 → ad k ≠ ao) (hl : ao < sz) : ¬ va_A (fc_w ad cy μ) sz ao := by
  rintro (⟨k, x, hk⟩ | hq)
  · obtain ⟨h1, h2⟩ := fc_in hk
    exact h k h1 (congrArg Prod.fst h2).symm
  · omega
theorem lb_ok {l : Launch} {M2 : fy_T} {idx n maxL pc : Nat} {y : MethodName} {cc : ByteArray} {as : List Value} {d2 : Nat} {r0 r1 : Nat} {μ : fm_T} {g : Int32} (hμ : μ.2.1 = shC r0 r1) (hok : fm_ok μ) (hn : 89 ≤ μ.1) (D : va_G) (cy : Nat → ClassId) (ad : Nat → Nat) (ao : Nat) (o : Nat → Int64)
    {p : Program} {e : Env} {R : Room} {s : State} {m : MethodId} {args : Array Value} {below : List Frame} {meth : Method} {c : Code} {ls : Array Slot} {Ts : List Cond} (CF : CallFix p m c cc maxL s args Ts RL) (hTs : ∀ w ∈ fg_l, w ∈ Ts) (hlocks : meth.locks = false) (hr : meth.sig.returnType = some .int) (hv : lb_P D cy ad μ ao o s.heap.size s)
    (hd : decode cc pc = .ok (.invokevirtual idx, 3)) (hV : fk_V RL idx M2) (hM : fk_M M2 n) (hroom : d2 + 1 ≤ R.frames ∧ 59 + 64 * d2 ≤ R.locals) (hC : M2.1.cls = RX11) (hln : as.length = n) (hoa : fs_ok μ.1 as) (hl : (lg_sl (.ref 0 :: as)).length ≤ M2.2.2.1) (hsz : ls.size = maxL)
    (callee : fwp l sC M2 d2 0 0 0 0 0 (fl_ent (.ref 0 :: as) M2.2.2.1) [] μ (fp_f (some (.int g)) μ))
    (d3 : decode cc (pc + 3) = .ok (.i2l, 1)) (d4 : decode cc (pc + 4) = .ok (.lastore, 1)) {off : Int} {tgt : Nat} (d5 : decode cc (pc + 5) = .ok (.goto off, 3)) (ht : ((pc + 5 : Nat) : Int) + off = (tgt : Int)) (d6 : decode cc tgt = .ok (.iconst 0, 1)) (d7 : decode cc (tgt + 1) = .ok (.ireturn, 1)) :
    W p l e R s m args below meth c s.heap [] 0 0 (MQ below (lb_Q (fun k o' => k = 0 ∧ o' = vp_updL o 0 g.toInt64) D cy ad μ ao (lb_A cy ad μ ao o s.heap.size)) args s 1 6 (lb_A cy ad μ ao o s.heap.size)) (F0 m pc ls ((as.map (fv_v ad)).reverse ++ .ref (ad 0) :: [.int 0, .ref ao])) := by
  obtain ⟨⟨-, hP, hK, hD0, hN, hS0⟩, hPo, hap⟩ := hv
  have hao : ao < s.heap.size := (hPo 0 _ rfl).lt
  have hA : ∀ q, s.heap.size ≤ q → lb_A cy ad μ ao o s.heap.size q := fun q h => Or.inr h
  have hD : va_D (lb_A cy ad μ ao o s.heap.size) (fc_w ad cy μ) := (hD0.self (sz := s.heap.size)).weaken (fun k q _ h => lb_in (Nat.le_refl _) q.1 h)
  refine gw_back (A := lb_A cy ad μ ao o s.heap.size) (P2 := fp_f (some (.int g)) μ) (a := (Value.ref (ad 0) :: as.map (fv_v ad)).toArray) (D := D) (cy := cy) (ad := ad) (μ := μ) (mc2 := 0) (ms2 := 0) (rest := [.int 0, .ref ao]) va_S.rf (lb_in (Nat.le_refl _)) ?_ ?_
  · have h0 : 0 < μ.1 := by omega
    have hoa' : fs_ok μ.1 (.ref 0 :: as) := fs_c (Or.inl h0) hoa
    have hmet := fz_met hM.1 hl callee hok hoa' D cy ad s.heap.size
    have hts := CF.2.2.2.2
    have hroom : (fx_R d2 0 0).frames + 1 ≤ R.frames ∧ 8 + (M2.2.2.1 + 11) + (fx_R d2 0 0).locals ≤ R.locals := by
      have := hM.2.2.2.2.2
      refine ⟨hroom.1, ?_⟩
      have := hroom.2
      show 8 + (M2.2.2.1 + 11) + 64 * d2 ≤ R.locals
      omega
    have hPV : PreV s s.heap M2.1.cls (ad 0) (va_Pc ((Value.ref 0 :: as).map (fv_v ad)) (fx_P sC D cy ad μ s.heap.size)) (as.map (fv_v ad)) := ⟨fx_blind, va_recv (cl := vwCl) (ci := 11) (q := (RX11, TX11, 13)) hK hP rfl (q0 := 0) (by rw [fc_at (by omega), fc_eo (hC_0 hμ)]) |> (by rw [hC]; exact ·), fun U hU hW => ⟨rfl, by rw [hU], by rw [hU]; exact hP, va_K.moved hW.alike hK, hD0, fun w hw => fg_nw hw hW (hN w hw), by rw [hU]; exact hS0.moved hW⟩⟩
    rcases hV.1 with q | ⟨host, q⟩
    · exact va_runV (C := M2.1.cls) (As := as.map (fv_v ad)) (b := ad 0) CF hmet (cwV n hts (fun w hw => by
        rcases List.mem_append.mp hw with g | g
        · have h : w ∈ fg_l := by
            rcases List.mem_cons.mp g with g | g
            · rw [g]; exact q
            rcases List.mem_cons.mp g with g | g
            · rw [g]; exact hV.2.1
            rcases List.mem_cons.mp g with g | g
            · rw [g]; exact hV.2.2
            rw [List.mem_singleton.mp g]; exact hM.2.2.1
          exact ⟨hTs _ h, fg_good h⟩
        · have h1 : w ∈ fg_l := (List.mem_cons.mp g).elim (fun e => by rw [e]; exact hM.2.1) id
          exact ⟨hTs _ h1, fg_good h1⟩) rfl rfl rfl ⟨rfl, hM.2.2.2.1.1, hM.2.2.2.1.2, hM.2.2.2.2.1⟩ hroom) hPV rfl (by rw [List.length_map]; exact hln) hsz rfl (lv_room (Nat.le_of_ble_eq_true rfl)) hd ⟨Nat.zero_le _, Nat.zero_le _⟩
    · exact va_runVN (C := M2.1.cls) (As := as.map (fv_v ad)) (b := ad 0) CF hmet ⟨va_cnB n hts (fun w hw => by
          have h1 : w ∈ fg_l := (List.mem_cons.mp hw).elim (fun e => by rw [e]; exact hM.2.1) id
          exact ⟨hTs _ h1, fg_good h1⟩) rfl rfl rfl (hN _ q) (hts _ (hTs _ hM.2.2.1)) ⟨hM.2.2.2.1.1, hM.2.2.2.1.2, hM.2.2.2.2.1⟩ hroom, hts _ (hTs _ hV.2.1), hts _ (hTs _ hV.2.2)⟩ hPV rfl (by rw [List.length_map]; exact hln) hsz rfl (lv_room (Nat.le_of_ble_eq_true rfl)) hd ⟨Nat.zero_le _, Nat.zero_le _⟩
  · rintro v μ' ad' H' locs' ⟨rfl, rfl⟩ - h2 h3 h4 - h6 h7 h8
    rw [fc_w_ag (fun k hk => h2 k (Or.inl hk)) h3] at h4
    have hPo' : va_P D vwCl (lo_w cy ao o) H' := hPo.kept (fun k q hk => by
      rw [lo_at hk]
      exact h7 ao hao (lb_no hap hao))
    have hPw : va_P D vwCl (fc_w ad cy μ' ++ lo_w cy ao o) H' := h4.app hPo'
    have hDo : va_D (lb_A cy ad μ' ao o s.heap.size) (lo_w cy ao o) := ⟨fun i j p q hi hj _ => by
        have h1 : i < 1 := (List.getElem?_eq_some_iff.mp hi).1
        have h2 : j < 1 := (List.getElem?_eq_some_iff.mp hj).1
        omega, fun k q hk => by rw [lo_at hk]; exact lb_ao⟩
    have hDw : va_D (lb_A cy ad μ' ao o s.heap.size) (fc_w ad cy μ' ++ lo_w cy ao o) := hD.app hDo (fun i j x y hi hj hxy => by
      obtain ⟨h1, rfl⟩ := fc_in hi
      rw [lo_at hj] at hxy
      exact hap i h1 hxy)
    have hlen : (fc_w ad cy μ').length = μ'.1 := by simp [fc_w]
    have hat : (fc_w ad cy μ' ++ lo_w cy ao o)[μ'.1]? = some (ao, .inl (cy 1, 1, .inr (.inl o))) := by
      rw [List.getElem?_append_right (by rw [hlen]; exact Nat.le_refl _), hlen, Nat.sub_self]
      rfl
    show W p l e R s m args below meth c H' locs' 0 0 _ (F0 m (pc + 3) ls [.int g, .int 0, .ref ao])
    refine lv_i2l CF.1 CF.2.1 d3 rfl ?_
    refine va_last CF.1 CF.2.1 hK hPw hDw h8 μ'.1 1 hat rfl (i := 0) (by unfold vp_in; decide) d4 (fun H1 locs1 g1 _ g3 => ?_)
    refine lv_goto (tgt := tgt) CF.1 CF.2.1 d5 ht ?_
    refine lv_iconst (v := 0) CF.1 CF.2.1 d6 rfl ?_
    have hset : (fc_w ad cy μ' ++ lo_w cy ao o).set μ'.1 (ao, .inl (cy 1, 1, .inr (.inl (vp_updL o (0 : Int32).toNatClampNeg g.toInt64)))) = fc_w ad cy μ' ++ lo_w cy ao (vp_updL o 0 g.toInt64) := by
      rw [List.set_append_right _ _ (by rw [hlen]; exact Nat.le_refl _), hlen, Nat.sub_self]
      rfl
    rw [hset] at g1
    refine W.widen (k := 1) (n := 6) (by decide) (by decide) ?_
    refine W.iret (v := 0) CF.1 CF.2.1 hr (fun t ht hW => ⟨0, vp_updL o 0 g.toInt64, rfl, ⟨rfl, rfl⟩, ?_, ?_, g3.F ht⟩) g3.2.2 d7
    · rw [ht]
      exact fun k q hk => g1 k q (by rw [List.getElem?_append_left (List.getElem?_eq_some_iff.mp hk).1]; exact hk)
    · rw [ht]
      exact fun k q hk => g1 (μ'.1 + k) q (by rw [List.getElem?_append_right (by rw [hlen]; omega), hlen, Nat.add_sub_cancel_left]; exact hk)
theorem lb_th {l : Launch} {M2 : fy_T} {idx n maxL pc : Nat} {cc : ByteArray} {as : List Value} {r0 r1 : Nat} {μ : fm_T} (hμ : μ.2.1 = shC r0 r1) (hn : 89 ≤ μ.1) (D : va_G) (cy : Nat → ClassId) (ad : Nat → Nat) (ao : Nat) (o : Nat → Int64)
    {p : Program} {e : Env} {R : Room} {s : State} {m : MethodId} {args : Array Value} {below : List Frame} {meth : Method} {c : Code} {ls : Array Slot} {Ts : List Cond} (CF : CallFix p m c cc maxL s args Ts RL) (hTs : ∀ w ∈ fg_l, w ∈ Ts) (hv : lb_P D cy ad μ ao o s.heap.size s)
    (hd : decode cc pc = .ok (.invokevirtual idx, 3)) (hV : fk_V RL idx M2) (q : Cond.methodLink RL idx M2.1 ∈ fg_l) (hM : fk_M M2 n) (hR : 7 ≤ R.frames ∧ 443 ≤ R.locals ∧ 1 ≤ R.cells ∧ 6 ≤ R.slots) (hC : M2.1.cls = RX11) (hln : as.length = n) (hsz : ls.size = maxL)
    (callee : vx_Met l M2.1 (fx_T M2) (fx_R 6 1 6) (va_Pc (.ref (ad 0) :: as) (fx_P sC D cy ad μ s.heap.size)) (fun _ _ _ _ => False) (thrX D cy ad μ s.heap.size) 1 6 (va_A (fc_w ad cy μ) s.heap.size))
    (x : ExceptionTableEntry) (hsplit : c.exceptionTable.toList = [x]) (hx : covers x pc = true) (hct : x.catchType = 13)
    (kk : ∀ (H : Heap) (locs : List Loc) (q : Nat), (∀ t : State, t.heap = H → lb_Q (fun k o' => k = 1 ∧ o' = o) D cy ad μ ao (lb_A cy ad μ ao o s.heap.size) args s (.returned (some (.int 1))) t) → (∀ z ∈ locs, lb_A cy ad μ ao o s.heap.size z.base) → W p l e R s m args below meth c H locs 1 6 (MQ below (lb_Q (fun k o' => k = 1 ∧ o' = o) D cy ad μ ao (lb_A cy ad μ ao o s.heap.size)) args s 1 6 (lb_A cy ad μ ao o s.heap.size)) (F0 m x.handlerPc ls [.ref q])) :
    W p l e R s m args below meth c s.heap [] 0 0 (MQ below (lb_Q (fun k o' => k = 1 ∧ o' = o) D cy ad μ ao (lb_A cy ad μ ao o s.heap.size)) args s 1 6 (lb_A cy ad μ ao o s.heap.size)) (F0 m pc ls (as.reverse ++ .ref (ad 0) :: [.int 0, .ref ao])) := by
  obtain ⟨⟨-, hP, hK, hD0, hN, hS0⟩, hPo, hap⟩ := hv
  have hao : ao < s.heap.size := (hPo 0 _ rfl).lt
  have hts := CF.2.2.2.2
  have h0 : 0 < μ.1 := by omega
  have hz := fx_nse hS0.2
  have hroom : (fx_R 6 1 6).frames + 1 ≤ R.frames ∧ 8 + (M2.2.2.1 + 11) + (fx_R 6 1 6).locals ≤ R.locals := by
    have := hM.2.2.2.2.2
    refine ⟨hR.1, ?_⟩
    have := hR.2.1
    show 8 + (M2.2.2.1 + 11) + 64 * 6 ≤ R.locals
    omega
  have hPV : PreV s s.heap M2.1.cls (ad 0) (va_Pc (Value.ref (ad 0) :: as) (fx_P sC D cy ad μ s.heap.size)) as := ⟨fx_blind, va_recv (cl := vwCl) (ci := 11) (q := (RX11, TX11, 13)) hK hP rfl (q0 := 0) (by rw [fc_at h0, fc_eo (hC_0 hμ)]) |> (by rw [hC]; exact ·), fun U hU hW => ⟨rfl, by rw [hU], by rw [hU]; exact hP, va_K.moved hW.alike hK, hD0, fun w hw => fg_nw hw hW (hN w hw), by rw [hU]; exact hS0.moved hW⟩⟩
  · have hr : vx_Run p l e R s m args below meth c s.heap [] 0 0 1 6 (F0 m pc ls (as.reverse ++ .ref (ad 0) :: [.int 0, .ref ao])) [.int 0, .ref ao] _ (thrX D cy ad μ s.heap.size) (va_A (fc_w ad cy μ) s.heap.size) := vx_runV (C := M2.1.cls) (As := as) (b := ad 0) CF callee (cwV n hts (fun w hw => by
        rcases List.mem_append.mp hw with g | g
        · have h : w ∈ fg_l := by
            rcases List.mem_cons.mp g with g | g
            · rw [g]; exact q
            rcases List.mem_cons.mp g with g | g
            · rw [g]; exact hV.2.1
            rcases List.mem_cons.mp g with g | g
            · rw [g]; exact hV.2.2
            rw [List.mem_singleton.mp g]; exact hM.2.2.1
          exact ⟨hTs _ h, fg_good h⟩
        · have h1 : w ∈ fg_l := (List.mem_cons.mp g).elim (fun e => by rw [e]; exact hM.2.1) id
          exact ⟨hTs _ h1, fg_good h1⟩) rfl rfl rfl ⟨rfl, hM.2.2.2.1.1, hM.2.2.2.1.2, hM.2.2.2.2.1⟩ hroom) hPV rfl hln hsz rfl (lv_room (Nat.le_of_ble_eq_true rfl)) hd ⟨by have := hR.2.2.1; omega, by have := hR.2.2.2; omega⟩
    intro T hT X
    rcases hr T hT X with ⟨v, st₀, t, T', L, q0, X', hL, e1, e2, hF, go⟩ | ⟨q, st₀, t, T', L, E, ce, q0, X', hL, e1, e2, ⟨rfl, hx1, hx2⟩, hce, hcv, hcl, st⟩
    · exact hF.elim
    · have hcast : (Cond.castable nse nse).before args s = true := (hz.1 args).1 _ (List.mem_filter.mpr ⟨by simp [nse_w, nse_t], by decide +kernel⟩)
      have hlink : (Cond.classLink RL x.catchType nse).before args s = true := by
        rw [hct]
        exact hts _ (hTs _ (fg_c6 16 (by decide +kernel) (by decide +kernel)))
      have hk1 : ∀ z ∈ ([] ++ L : List Loc), lb_A cy ad μ ao o s.heap.size z.base := fun z hz' => lb_in (Nat.le_refl _) _ (hL z (by simpa using hz'))
      have hF2 : va_F (lb_A cy ad μ ao o s.heap.size) s t := ⟨by rw [← q0]; exact hx2.1, fun q hq hn' => by rw [← q0]; exact hx2.2 q (by rw [q0]; exact hq) (fun z => hn' (lb_in (Nat.le_refl _) q z))⟩
      have hPo' : va_P D vwCl (lo_w cy ao o) t.heap := hPo.kept (fun k q hk => by
        rw [lo_at hk, ← q0]
        exact hx2.2 ao (by rw [q0]; exact hao) (lb_no hap hao))
      have go := nc_catch (rest := [.int 0, .ref ao]) (pc := pc) CF.2.2.2.1 x hsplit hx (by rw [hct]; decide) hlink hcast (H := T'.heap) (q := q) (by rw [e1]; exact hce) hcv hcl (kk T'.heap ([] ++ L) q (fun t' ht' => ⟨1, o, rfl, ⟨rfl, rfl⟩, by rw [ht', e1]; exact hx1, by rw [ht', e1]; exact hPo', by rw [ht', e1]; exact hF2.1, fun q hq hn' => by rw [ht', e1]; exact hF2.2 q hq hn'⟩) hk1)
      obtain ⟨t2, a1, b1⟩ := go T' rfl X'
      exact ⟨t2, st.trans a1, b1⟩
set_option maxHeartbeats 4000000 in
set_option maxRecDepth 20000 in
theorem mL_about_ok {l : Launch} {r0 r1 : Nat} {μ : fm_T} (hμ : μ.2.1 = shC r0 r1) (hok : fm_ok μ) (hn : 89 ≤ μ.1) (x1 x2 : Int32) (h1 : ¬ gX11_isTicket μ x1 = 0) (h2 : ¬ gX11_within μ x2 0 9 = 0) (hp : pX8_of μ x1 x2) (D : va_G) (cy : Nat → ClassId) (ad : Nat → Nat) (ao : Nat) (o : Nat → Int64) (sz : Nat) :
    Met l yL_about (Cond.codeWith yL_about cL_about 5 (some .int) [(0, 10, 13, 13)] :: fg_l) (fx_R 7 1 6) (va_Pc [.ref (ad 0), .int x1, .int x2, .ref ao] (lb_P D cy ad μ ao o sz)) (lb_Q (fun k o' => k = 0 ∧ o' = vp_updL o 0 (gX8_of μ x1 x2).toInt64) D cy ad μ ao (lb_A cy ad μ ao o sz)) 1 6 (lb_A cy ad μ ao o sz) := by
  refine va_MetW (cc := cL_about) (maxL := 5) (ret := some .int) (hh := [(0, 10, 13, 13)]) (by decide +kernel) rfl ?_
  intro p e s m args below meth c s₁ B hml hv
  obtain ⟨rfl, hv⟩ := hv
  have hsz : s.heap.size = sz := hv.1.1
  subst hsz
  have hts := atoms_spec (ws := Cond.codeWith yL_about cL_about 5 (some .int) [(0, 10, 13, 13)] :: fg_l) B.pre
  have hown : s.vm.findClass RL = some m.cls := findClass_of_methodNamed B.named
  have hlocks := B.notSynchronized
  have hl0 := lv_entry [.ref (ad 0), .int x1, .int x2, .ref ao] (n := 5) (Nat.le_of_ble_eq_true rfl)
  rw [lg_entry_eq]
  generalize (lg_sl [Value.ref (ad 0), .int x1, .int x2, .ref ao] ++ List.replicate (5 - (lg_sl [Value.ref (ad 0), .int x1, .int x2, .ref ao]).length) Slot.unset).toArray = ls at hl0 ⊢
  have hl0 : lv_has ls 5 [(0, .ref (ad 0)), (1, .int x1), (2, .int x2), (3, .ref ao)] := hl0
  have CF : CallFix p m c cL_about 5 s #[Value.ref (ad 0), .int x1, .int x2, .ref ao] (Cond.codeWith yL_about cL_about 5 (some .int) [(0, 10, 13, 13)] :: fg_l) RL := ⟨B.exec, B.bytes, hml, hown, hts⟩
  show W p l e (fx_R 7 1 6) s m #[Value.ref (ad 0), .int x1, .int x2, .ref ao] below meth c s.heap [] 0 0 _ (F0 m 0 ls [])
  refine lv_aload_n B.exec B.bytes dL_about_0 rfl (lv_at hl0 3 rfl) ?_
  refine lv_iconst (v := 0) B.exec B.bytes dL_about_1 rfl ?_
  refine lv_aload_n B.exec B.bytes dL_about_2 rfl (lv_at hl0 0 rfl) ?_
  refine lv_iload_n B.exec B.bytes dL_about_3 rfl (lv_at hl0 1 rfl) ?_
  refine lv_iload_n B.exec B.bytes dL_about_4 rfl (lv_at hl0 2 rfl) ?_
  exact lb_ok (as := [.int x1, .int x2]) (y := yL_about) (pc := 5) (d2 := 2) hμ hok hn D cy ad ao o CF (fun w h => List.mem_cons_of_mem _ h) hlocks B.returns hv dL_about_5 kvL_7 kmX11_about ⟨by decide, by decide⟩ rfl rfl (fs_c trivial (fs_c trivial (fun _ h => by cases h))) (Nat.le_of_ble_eq_true rfl) hl0.1 (wX11_about hμ x1 x2 h1 h2 hp) dL_about_8 dL_about_9 dL_about_10 (tgt := 17) rfl dL_about_17 dL_about_18
set_option maxHeartbeats 4000000 in
set_option maxRecDepth 20000 in
theorem mL_about_th {l : Launch} {r0 r1 : Nat} {μ : fm_T} (hμ : μ.2.1 = shC r0 r1) (hok : fm_ok μ) (hn : 89 ≤ μ.1) (x1 x2 : Int32) (hl : l.stackTraces = false) (hq : gX11_isTicket μ x1 = 0 ∨ (¬ gX11_isTicket μ x1 = 0 ∧ gX11_within μ x2 0 9 = 0)) (D : va_G) (cy : Nat → ClassId) (ad : Nat → Nat) (ao : Nat) (o : Nat → Int64) (sz : Nat) :
    Met l yL_about (Cond.codeWith yL_about cL_about 5 (some .int) [(0, 10, 13, 13)] :: fg_l) (fx_R 7 1 6) (va_Pc [.ref (ad 0), .int x1, .int x2, .ref ao] (lb_P D cy ad μ ao o sz)) (lb_Q (fun k o' => k = 1 ∧ o' = o) D cy ad μ ao (lb_A cy ad μ ao o sz)) 1 6 (lb_A cy ad μ ao o sz) := by
  refine va_MetW (cc := cL_about) (maxL := 5) (ret := some .int) (hh := [(0, 10, 13, 13)]) (by decide +kernel) rfl ?_
  intro p e s m args below meth c s₁ B hml hv
  obtain ⟨rfl, hv⟩ := hv
  have hsz : s.heap.size = sz := hv.1.1
  subst hsz
  have hts := atoms_spec (ws := Cond.codeWith yL_about cL_about 5 (some .int) [(0, 10, 13, 13)] :: fg_l) B.pre
  have hown : s.vm.findClass RL = some m.cls := findClass_of_methodNamed B.named
  have hlocks := B.notSynchronized
  have hl0 := lv_entry [.ref (ad 0), .int x1, .int x2, .ref ao] (n := 5) (Nat.le_of_ble_eq_true rfl)
  rw [lg_entry_eq]
  generalize (lg_sl [Value.ref (ad 0), .int x1, .int x2, .ref ao] ++ List.replicate (5 - (lg_sl [Value.ref (ad 0), .int x1, .int x2, .ref ao]).length) Slot.unset).toArray = ls at hl0 ⊢
  have hl0 : lv_has ls 5 [(0, .ref (ad 0)), (1, .int x1), (2, .int x2), (3, .ref ao)] := hl0
  have CF : CallFix p m c cL_about 5 s #[Value.ref (ad 0), .int x1, .int x2, .ref ao] (Cond.codeWith yL_about cL_about 5 (some .int) [(0, 10, 13, 13)] :: fg_l) RL := ⟨B.exec, B.bytes, hml, hown, hts⟩
  show W p l e (fx_R 7 1 6) s m #[Value.ref (ad 0), .int x1, .int x2, .ref ao] below meth c s.heap [] 0 0 _ (F0 m 0 ls [])
  refine lv_aload_n B.exec B.bytes dL_about_0 rfl (lv_at hl0 3 rfl) ?_
  refine lv_iconst (v := 0) B.exec B.bytes dL_about_1 rfl ?_
  refine lv_aload_n B.exec B.bytes dL_about_2 rfl (lv_at hl0 0 rfl) ?_
  refine lv_iload_n B.exec B.bytes dL_about_3 rfl (lv_at hl0 1 rfl) ?_
  refine lv_iload_n B.exec B.bytes dL_about_4 rfl (lv_at hl0 2 rfl) ?_
  have htab : c.exceptionTable.toList = [⟨0, 10, 13, 13⟩] := vx_table (x := yL_about) B (hts _ List.mem_cons_self)
  refine lb_th (as := [.int x1, .int x2]) (pc := 5) hμ hn D cy ad ao o CF (fun w h => List.mem_cons_of_mem _ h) hv dL_about_5 kvL_7 (fg_c6 17 (by decide +kernel) (by decide +kernel)) kmX11_about ⟨by decide, by decide, by decide, by decide⟩ rfl rfl hl0.1 (xX11_about hl hμ hok hn x1 x2 hq D cy ad s.heap.size) _ htab (by decide +kernel) rfl (fun H locs q hq hf => ?_)
  refine lv_astore (lv' := (4, .ref q) :: [(0, .ref (ad 0)), (1, .int x1), (2, .int x2), (3, .ref ao)]) B.exec B.bytes dL_about_13 hl0 (by decide) rfl (fun ls2 hl2 => ?_)
  refine lv_iconst (v := 1) B.exec B.bytes dL_about_15 rfl ?_
  exact W.iret (v := 1) B.exec B.bytes B.returns (fun t ht _ => hq t ht) hf dL_about_16
set_option maxHeartbeats 4000000 in
set_option maxRecDepth 20000 in
theorem mL_lost_ok {l : Launch} {r0 r1 : Nat} {μ : fm_T} (hμ : μ.2.1 = shC r0 r1) (hok : fm_ok μ) (hn : 89 ≤ μ.1) (x1 : Int32) (h1 : ¬ gX11_within μ x1 0 (fI μ 15 8 - 1) = 0) (hp : pX3_lostOn μ x1) (D : va_G) (cy : Nat → ClassId) (ad : Nat → Nat) (ao : Nat) (o : Nat → Int64) (sz : Nat) :
    Met l yL_lost (Cond.codeWith yL_lost cL_lost 4 (some .int) [(0, 9, 12, 13)] :: fg_l) (fx_R 7 1 6) (va_Pc [.ref (ad 0), .int x1, .ref ao] (lb_P D cy ad μ ao o sz)) (lb_Q (fun k o' => k = 0 ∧ o' = vp_updL o 0 (gX3_lostOn μ x1).toInt64) D cy ad μ ao (lb_A cy ad μ ao o sz)) 1 6 (lb_A cy ad μ ao o sz) := by
  refine va_MetW (cc := cL_lost) (maxL := 4) (ret := some .int) (hh := [(0, 9, 12, 13)]) (by decide +kernel) rfl ?_
  intro p e s m args below meth c s₁ B hml hv
  obtain ⟨rfl, hv⟩ := hv
  have hsz : s.heap.size = sz := hv.1.1
  subst hsz
  have hts := atoms_spec (ws := Cond.codeWith yL_lost cL_lost 4 (some .int) [(0, 9, 12, 13)] :: fg_l) B.pre
  have hown : s.vm.findClass RL = some m.cls := findClass_of_methodNamed B.named
  have hlocks := B.notSynchronized
  have hl0 := lv_entry [.ref (ad 0), .int x1, .ref ao] (n := 4) (Nat.le_of_ble_eq_true rfl)
  rw [lg_entry_eq]
  generalize (lg_sl [Value.ref (ad 0), .int x1, .ref ao] ++ List.replicate (4 - (lg_sl [Value.ref (ad 0), .int x1, .ref ao]).length) Slot.unset).toArray = ls at hl0 ⊢
  have hl0 : lv_has ls 4 [(0, .ref (ad 0)), (1, .int x1), (2, .ref ao)] := hl0
  have CF : CallFix p m c cL_lost 4 s #[Value.ref (ad 0), .int x1, .ref ao] (Cond.codeWith yL_lost cL_lost 4 (some .int) [(0, 9, 12, 13)] :: fg_l) RL := ⟨B.exec, B.bytes, hml, hown, hts⟩
  show W p l e (fx_R 7 1 6) s m #[Value.ref (ad 0), .int x1, .ref ao] below meth c s.heap [] 0 0 _ (F0 m 0 ls [])
  refine lv_aload_n B.exec B.bytes dL_lost_0 rfl (lv_at hl0 2 rfl) ?_
  refine lv_iconst (v := 0) B.exec B.bytes dL_lost_1 rfl ?_
  refine lv_aload_n B.exec B.bytes dL_lost_2 rfl (lv_at hl0 0 rfl) ?_
  refine lv_iload_n B.exec B.bytes dL_lost_3 rfl (lv_at hl0 1 rfl) ?_
  exact lb_ok (as := [.int x1]) (y := yL_lost) (pc := 4) (d2 := 2) hμ hok hn D cy ad ao o CF (fun w h => List.mem_cons_of_mem _ h) hlocks B.returns hv dL_lost_4 kvL_15 kmX11_lost ⟨by decide, by decide⟩ rfl rfl (fs_c trivial (fun _ h => by cases h)) (Nat.le_of_ble_eq_true rfl) hl0.1 (wX11_lost hμ x1 h1 hp) dL_lost_7 dL_lost_8 dL_lost_9 (tgt := 15) rfl dL_lost_15 dL_lost_16
set_option maxHeartbeats 4000000 in
set_option maxRecDepth 20000 in
theorem mL_lost_th {l : Launch} {r0 r1 : Nat} {μ : fm_T} (hμ : μ.2.1 = shC r0 r1) (hok : fm_ok μ) (hn : 89 ≤ μ.1) (x1 : Int32) (hl : l.stackTraces = false) (hq : gX11_within μ x1 0 (fI μ 15 8 - 1) = 0) (D : va_G) (cy : Nat → ClassId) (ad : Nat → Nat) (ao : Nat) (o : Nat → Int64) (sz : Nat) :
    Met l yL_lost (Cond.codeWith yL_lost cL_lost 4 (some .int) [(0, 9, 12, 13)] :: fg_l) (fx_R 7 1 6) (va_Pc [.ref (ad 0), .int x1, .ref ao] (lb_P D cy ad μ ao o sz)) (lb_Q (fun k o' => k = 1 ∧ o' = o) D cy ad μ ao (lb_A cy ad μ ao o sz)) 1 6 (lb_A cy ad μ ao o sz) := by
  refine va_MetW (cc := cL_lost) (maxL := 4) (ret := some .int) (hh := [(0, 9, 12, 13)]) (by decide +kernel) rfl ?_
  intro p e s m args below meth c s₁ B hml hv
  obtain ⟨rfl, hv⟩ := hv
  have hsz : s.heap.size = sz := hv.1.1
  subst hsz
  have hts := atoms_spec (ws := Cond.codeWith yL_lost cL_lost 4 (some .int) [(0, 9, 12, 13)] :: fg_l) B.pre
  have hown : s.vm.findClass RL = some m.cls := findClass_of_methodNamed B.named
  have hlocks := B.notSynchronized
  have hl0 := lv_entry [.ref (ad 0), .int x1, .ref ao] (n := 4) (Nat.le_of_ble_eq_true rfl)
  rw [lg_entry_eq]
  generalize (lg_sl [Value.ref (ad 0), .int x1, .ref ao] ++ List.replicate (4 - (lg_sl [Value.ref (ad 0), .int x1, .ref ao]).length) Slot.unset).toArray = ls at hl0 ⊢
  have hl0 : lv_has ls 4 [(0, .ref (ad 0)), (1, .int x1), (2, .ref ao)] := hl0
  have CF : CallFix p m c cL_lost 4 s #[Value.ref (ad 0), .int x1, .ref ao] (Cond.codeWith yL_lost cL_lost 4 (some .int) [(0, 9, 12, 13)] :: fg_l) RL := ⟨B.exec, B.bytes, hml, hown, hts⟩
  show W p l e (fx_R 7 1 6) s m #[Value.ref (ad 0), .int x1, .ref ao] below meth c s.heap [] 0 0 _ (F0 m 0 ls [])
  refine lv_aload_n B.exec B.bytes dL_lost_0 rfl (lv_at hl0 2 rfl) ?_
  refine lv_iconst (v := 0) B.exec B.bytes dL_lost_1 rfl ?_
  refine lv_aload_n B.exec B.bytes dL_lost_2 rfl (lv_at hl0 0 rfl) ?_
  refine lv_iload_n B.exec B.bytes dL_lost_3 rfl (lv_at hl0 1 rfl) ?_
  have htab : c.exceptionTable.toList = [⟨0, 9, 12, 13⟩] := vx_table (x := yL_lost) B (hts _ List.mem_cons_self)
  refine lb_th (as := [.int x1]) (pc := 4) hμ hn D cy ad ao o CF (fun w h => List.mem_cons_of_mem _ h) hv dL_lost_4 kvL_15 (fg_c6 89 (by decide +kernel) (by decide +kernel)) kmX11_lost ⟨by decide, by decide, by decide, by decide⟩ rfl rfl hl0.1 (xX11_lost hl hμ hok hn x1 hq D cy ad s.heap.size) _ htab (by decide +kernel) rfl (fun H locs q hq hf => ?_)
  refine lv_astore_n (lv' := (3, .ref q) :: [(0, .ref (ad 0)), (1, .int x1), (2, .ref ao)]) B.exec B.bytes dL_lost_12 rfl hl0 (by decide) rfl (fun ls2 hl2 => ?_)
  refine lv_iconst (v := 1) B.exec B.bytes dL_lost_13 rfl ?_
  exact W.iret (v := 1) B.exec B.bytes B.returns (fun t ht _ => hq t ht) hf dL_lost_14
