noncomputable def mu0 : fm_T := (89, shC 2 2, va_up (va_up (va_up (va_up (fun _ _ => 0) 19 (zfill 100)) 20 (zfill 40)) 35 zset) 84 zset, va_up (fun _ _ => 0) 2 wcode)
def nu0 : fm_T := (34, shM, fun _ _ => 0, fun _ _ => 0)
def lC0 : List fc_C := [(0, 11, [0 + 1 + 3, 0 + 8 + 3, 0 + 40 + 3, 0 + 41 + 3, 0 + 51 + 3, 0 + 57 + 3, 0 + 61 + 3, 0 + 66 + 3, 0 + 72 + 3, 0 + 73 + 3, 0 + 85 + 3, 0, 0]), (0, 7, [(0 + 1) + 1 + 3, (0 + 1) + 2 + 3, 0, (0 + 1) + 3 + 3, (0 + 1) + 4 + 3, (0 + 1) + 5 + 3, (0 + 1) + 6 + 3, 0, 0, 0, 0, 0, 1, 0, 0]), (2, 25, []), (1, 940, []), (1, 941, []), (1, 941, []), (1, 941, []), (2, 941, []), (0, 10, [(0 + 8) + 1 + 3, (0 + 8) + 7 + 3, (0 + 8) + 16 + 3, (0 + 8) + 28 + 3, 0]), (0, 8, [((0 + 8) + 1) + 1 + 3, ((0 + 8) + 1) + 2 + 3, ((0 + 8) + 1) + 3 + 3, ((0 + 8) + 1) + 4 + 3, ((0 + 8) + 1) + 5 + 3, 0, 0, 0]), (1, 560, []), (1, 240, []), (1, 240, []), (1, 240, []), (1, 240, []), (0, 3, [((0 + 8) + 7) + 1 + 3, ((0 + 8) + 7) + 2 + 3, ((0 + 8) + 7) + 3 + 3, ((0 + 8) + 7) + 4 + 3, ((0 + 8) + 7) + 5 + 3, ((0 + 8) + 7) + 6 + 3, ((0 + 8) + 7) + 7 + 3, ((0 + 8) + 7) + 8 + 3, 0]), (1, 200, []), (1, 200, []), (1, 200, []), (1, 100, []), (1, 40, []), (1, 40, []), (1, 40, []), (1, 40, []), (0, 2, [((0 + 8) + 16) + 1 + 3, ((0 + 8) + 16) + 2 + 3, ((0 + 8) + 16) + 3 + 3, ((0 + 8) + 16) + 4 + 3, ((0 + 8) + 16) + 5 + 3, ((0 + 8) + 16) + 6 + 3, ((0 + 8) + 16) + 7 + 3, ((0 + 8) + 16) + 8 + 3, ((0 + 8) + 16) + 9 + 3, ((0 + 8) + 16) + 10 + 3, ((0 + 8) + 16) + 11 + 3, 0, 0]), (2, 32, []), (1, 4, []), (1, 6, []), (1, 36, []), (1, 8, []), (1, 8, []), (1, 8, []), (1, 8, []), (1, 4, []), (1, 4, []), (1, 4, []), (0, 5, [((0 + 8) + 28) + 1 + 3, ((0 + 8) + 28) + 2 + 3, ((0 + 8) + 28) + 3 + 3, 0, 0]), (1, 40, []), (1, 40, []), (1, 40, []), (4, 2, [2, 2]), (0, 4, [(0 + 41) + 1 + 3, (0 + 41) + 2 + 3, (0 + 41) + 3 + 3, (0 + 41) + 4 + 3, (0 + 41) + 5 + 3, (0 + 41) + 6 + 3, (0 + 41) + 7 + 3, (0 + 41) + 8 + 3, (0 + 41) + 9 + 3, 0]), (1, 10, []), (1, 10, []), (1, 10, []), (1, 10, []), (1, 1024, []), (1, 1024, []), (1, 1024, []), (1, 1024, []), (1, 1024, []), (0, 1, [(0 + 51) + 1 + 3, (0 + 51) + 2 + 3, (0 + 51) + 3 + 3, (0 + 51) + 4 + 3, (0 + 51) + 5 + 3, 1, 0, 0, 0]), (1, 40, []), (2, 256, []), (1, 8, []), (1, 40, []), (1, 8, []), (0, 6, [(0 + 57) + 1 + 3, (0 + 57) + 2 + 3, (0 + 57) + 3 + 3, 0, 0]), (2, 64, []), (2, 64, []), (1, 6, []), (0, 0, [(0 + 61) + 1 + 3, (0 + 61) + 2 + 3, (0 + 61) + 3 + 3, (0 + 61) + 4 + 3, 0, 0]), (1, 240, []), (1, 36, []), (1, 4096, []), (1, 12, []), (0, 9, [(0 + 66) + 1 + 3, (0 + 66) + 2 + 3, (0 + 66) + 3 + 3, (0 + 66) + 4 + 3, (0 + 66) + 5 + 3, 0]), (1, 9, []), (1, 9, []), (1, 9, []), (1, 9, []), (1, 4608, []), (1, 40, []), (0, 2, [(0 + 73) + 1 + 3, (0 + 73) + 2 + 3, (0 + 73) + 3 + 3, (0 + 73) + 4 + 3, (0 + 73) + 5 + 3, (0 + 73) + 6 + 3, (0 + 73) + 7 + 3, (0 + 73) + 8 + 3, (0 + 73) + 9 + 3, (0 + 73) + 10 + 3, (0 + 73) + 11 + 3, 0, 0]), (2, 32, []), (1, 4, []), (1, 6, []), (1, 36, []), (1, 8, []), (1, 8, []), (1, 8, []), (1, 8, []), (1, 4, []), (1, 4, []), (1, 4, []), (0, 5, [(0 + 85) + 1 + 3, (0 + 85) + 2 + 3, (0 + 85) + 3 + 3, 0, 0]), (1, 40, []), (1, 40, []), (1, 40, [])]
def lM0 : List fc_C := [(0, 12, [0, 0 + 1 + 3, 0, 0, 0, 0, 0, 0, 0, 0, 0, 0, 1, 0, 0 + 2 + 3, 0 + 3 + 3, 0 + 4 + 3, 0 + 5 + 3, 0 + 6 + 3, 0 + 7 + 3, 0 + 8 + 3, 0, 0, 0 + 9 + 3, 0 + 10 + 3, 0 + 11 + 3, 0 + 12 + 3, 0 + 13 + 3, 0 + 14 + 3, 0 + 15 + 3, 0 + 16 + 3, 0, 0, 0, 0, 0 + 17 + 3, 0 + 18 + 3, 0 + 19 + 3, 0 + 20 + 3, 0, 0 + 21 + 3, 0 + 22 + 3, 0 + 23 + 3, 0 + 24 + 3, 1, 0, 0, 0 + 25 + 3, 0, 0 + 26 + 3, 0 + 27 + 3, 0 + 28 + 3, 0 + 29 + 3, 0, 0, 0 + 30 + 3, 0 + 31 + 3, 0 + 32 + 3, 0, 0, 0 + 33 + 3, 0, 0, 0, 0]), (1, 940, []), (1, 2560, []), (1, 130, []), (1, 5120, []), (2, 24, []), (2, 24, []), (2, 48, []), (3, 2, []), (1, 10, []), (1, 10, []), (1, 10, []), (1, 10, []), (1, 10, []), (1, 10, []), (1, 10, []), (1, 10, []), (3, 320, []), (2, 256, []), (2, 256, []), (1, 8, []), (2, 6, []), (1, 6, []), (1, 6, []), (1, 6, []), (1, 40, []), (1, 36, []), (1, 36, []), (1, 12, []), (1, 12, []), (1, 4608, []), (1, 9, []), (1, 9, []), (1, 240, [])]
theorem lC0_s : lC0.length = 89 ∧ ∀ k, k < 89 → lC0.getD k (0, 0, []) = shC 2 2 k := by decide +kernel
theorem lM0_s : lM0.length = 34 ∧ ∀ k, k < 34 → lM0.getD k (0, 0, []) = shM k := by decide +kernel
theorem ag_mu0 (μ : fm_T) : ag (cm 0 lC0 μ (va_up (va_up (va_up (va_up (fun _ _ => 0) (((0 + 8) + 7) + 4) (zfill 100)) (((0 + 8) + 7) + 5) (zfill 40)) (((0 + 8) + 16) + 11) zset) ((0 + 73) + 11) zset) (va_up (fun _ _ => 0) ((0 + 1) + 1) wcode)) mu0 := by
  refine ⟨?_, fun k hk => ⟨?_, ?_, ?_⟩⟩
  · show 89 = 0 + lC0.length
    rw [lC0_s.1]
  · show shC 2 2 k = if k < 0 then μ.2.1 k else lC0.getD (k - 0) (0, 0, [])
    have hk2 : k < 0 + lC0.length := hk
    rw [lC0_s.1] at hk2
    rw [if_neg (Nat.not_lt_zero k), Nat.sub_zero, lC0_s.2 k (by omega)]
  · show _ = if k < 0 then μ.2.2.1 k else _
    rw [if_neg (Nat.not_lt_zero k)]
    rfl
  · show _ = if k < 0 then μ.2.2.2 k else _
    rw [if_neg (Nat.not_lt_zero k)]
    rfl
theorem ag_nu0 (μ : fm_T) : ag (cm 0 lM0 μ (fun _ _ => 0) (fun _ _ => 0)) nu0 := by
  refine ⟨?_, fun k hk => ⟨?_, ?_, ?_⟩⟩
  · show 34 = 0 + lM0.length
    rw [lM0_s.1]
  · show shM k = if k < 0 then μ.2.1 k else lM0.getD (k - 0) (0, 0, [])
    have hk2 : k < 0 + lM0.length := hk
    rw [lM0_s.1] at hk2
    rw [if_neg (Nat.not_lt_zero k), Nat.sub_zero, lM0_s.2 k (by omega)]
  · show _ = if k < 0 then μ.2.2.1 k else _
    rw [if_neg (Nat.not_lt_zero k)]
    rfl
  · show _ = if k < 0 then μ.2.2.2 k else _
    rw [if_neg (Nat.not_lt_zero k)]
    rfl
theorem va_sp {D : va_G} {cl : List vw_C} {w1 w2 : va_W} {H : Heap} (h : va_P D cl (w1 ++ w2) H) : va_P D cl w1 H ∧ va_P D cl w2 H := by
  refine ⟨fun k q hk => h k q ?_, fun k q hk => h (w1.length + k) q ?_⟩
  · rw [List.getElem?_append_left (List.getElem?_eq_some_iff.mp hk).1]; exact hk
  · rw [List.getElem?_append_right (by omega), Nat.add_sub_cancel_left]; exact hk
theorem va_sd {A : Nat → Prop} {w1 w2 : va_W} (h : va_D A (w1 ++ w2)) : va_D A w1 ∧ va_D A w2 ∧ ∀ (i j : Nat) (p q : Nat × va_E), w1[i]? = some p → w2[j]? = some q → p.1 ≠ q.1 := by
  have a1 : ∀ (k : Nat) (q : Nat × va_E), w1[k]? = some q → (w1 ++ w2)[k]? = some q := fun k q hk => by rw [List.getElem?_append_left (List.getElem?_eq_some_iff.mp hk).1]; exact hk
  have a2 : ∀ (k : Nat) (q : Nat × va_E), w2[k]? = some q → (w1 ++ w2)[w1.length + k]? = some q := fun k q hk => by rw [List.getElem?_append_right (by omega), Nat.add_sub_cancel_left]; exact hk
  refine ⟨⟨fun i j p q hi hj e => h.1 i j p q (a1 i p hi) (a1 j q hj) e, fun k q hk => h.2 k q (a1 k q hk)⟩, ⟨fun i j p q hi hj e => ?_, fun k q hk => h.2 _ q (a2 k q hk)⟩, fun i j p q hi hj e => ?_⟩
  · have := h.1 _ _ p q (a2 i p hi) (a2 j q hj) e
    omega
  · have := h.1 _ _ p q (a1 i p hi) (a2 j q hj) e
    have h3 : i < w1.length := (List.getElem?_eq_some_iff.mp hi).1
    omega
section GWI
variable {p : Program} {l : Launch} {e : Env} {R : Room} {s : State} {m : MethodId} {args : Array Value} {below : List Frame} {meth : Method} {c : Code} {H : Heap} {locs : List Loc} {cells slots : Nat} {Q : State → Prop}
variable {S : fs_T} {M2 : fy_T} {d2 mc2 ms2 idx n pc : Nat} {D : va_G} {cy : Nat → ClassId} {A : Nat → Prop} {ad : Nat → Nat} {μ : fm_T} {P2 : Option Value → fm_T → Prop} {ls : Array Slot} {st0 rest : List Value}
theorem gw_callI {b nL : Nat} {own : String} {Ts : List Cond} {cc : ByteArray} (CF : CallFix p m c cc nL s args Ts own) (hTs : ∀ w ∈ fg_l, w ∈ Ts) (hK : va_K D vwCl (fx_t S cy) s) (hN : ∀ w ∈ fg_h, va_Nw w s) (hS0 : fx_S S A ad s s.heap) (hA : ∀ q, s.heap.size ≤ q → A q) (h3 : fm_ok μ) (h6 : va_P D vwCl (fc_w ad cy μ) H) (h7 : va_D A (fc_w ad cy μ)) (h8 : va_S A s.heap H locs)
    (hd : decode cc pc = .ok (.invokespecial idx, 3)) (hV : fk_I own idx M2) (hM : fk_M M2 0) (hroom : d2 + 1 ≤ R.frames ∧ 59 + 64 * d2 ≤ R.locals) (hb : b < μ.1) (hst : st0 = .ref (ad b) :: rest) (hcat : (rest.map fun v => v.category).sum ≤ 8) (hl : (lg_sl [.ref b]).length ≤ M2.2.2.1) (hsz : ls.size = nL) (hcs : cells + mc2 ≤ R.cells ∧ slots + ms2 ≤ R.slots)
    (callee : fwp l S M2 d2 mc2 ms2 0 0 0 (fl_ent [.ref b] M2.2.2.1) [] μ P2)
    (kk : ∀ (v : Option Value) (μ' : fm_T) (ad' : Nat → Nat) (H' : Heap) (locs' : List Loc), P2 v μ' → μ.1 ≤ μ'.1 → (∀ k, k < μ.1 ∨ 4000 ≤ k → ad' k = ad k) → fm_ok μ' → va_P D vwCl (fc_w ad' cy μ') H' → va_D (va_A (fc_w ad cy μ) H.size) (fc_w ad' cy μ') → H.size ≤ H'.size → (∀ q : Nat, q < H.size → ¬ va_A (fc_w ad cy μ) H.size q → H'[q]? = H[q]?) → va_S A s.heap H' locs' → W p l e R s m args below meth c H' locs' (cells + mc2) (slots + ms2) Q (F0 m (pc + 3) ls ((v.map (fv_v ad')).toList ++ rest))) :
    W p l e R s m args below meth c H locs cells slots Q (F0 m pc ls st0) := by
  subst hst
  have hFc := gw_free (s := s) hA h7 h8
  have hoa' : fs_ok μ.1 [.ref b] := fs_c (Or.inl hb) (fun _ h => by cases h)
  have hts := CF.2.2.2.2
  have hmet := fz_met hM.1 hl callee h3 hoa' D cy ad H.size
  have hroom : (fx_R d2 mc2 ms2).frames + 1 ≤ R.frames ∧ 8 + (M2.2.2.1 + 11) + (fx_R d2 mc2 ms2).locals ≤ R.locals := by
    have := hM.2.2.2.2.2
    refine ⟨hroom.1, ?_⟩
    have := hroom.2
    show 8 + (M2.2.2.1 + 11) + 64 * d2 ≤ R.locals
    omega
  have hPS : PreS s H (va_Pc ([Value.ref b].map (fv_v ad)) (fx_P S D cy ad μ H.size)) [.ref (ad b)] := ⟨fx_blind, fun U hU hW => ⟨rfl, gw_pre hK hN hS0 h6 h7 h8 hFc U hU hW⟩⟩
  have hcode : fx_T M2 = Cond.code M2.1 M2.2.1 M2.2.2.1 none :: fg_l := by unfold fx_T; rw [hV.2.2.2]
  have hgd : GoodIn Ts (fx_T M2) := fun w hw => by
    have h1 : w ∈ fg_l := (List.mem_cons.mp hw).elim (fun e => by rw [e]; exact hM.2.1) id
    exact ⟨hTs _ h1, fg_good h1⟩
  refine gw_back h8 hFc (a := [Value.ref (ad b)].toArray) (P2 := P2) ?_ kk
  rcases hV.1 with q | ⟨host, q⟩
  · exact va_runI (As := []) (b := ad b) CF hmet (cwI 0 hts hgd hcode rfl rfl (hts _ (hTs _ hM.2.2.1)) (hts _ (hTs _ q)) (hts _ (hTs _ hV.2.1)) hV.2.2.1 ⟨hM.2.2.2.1.1, hM.2.2.2.1.2, hM.2.2.2.2.1⟩ hroom) hPS rfl rfl hsz rfl (lv_room hcat) hd hcs
  · exact va_runIN (As := []) (b := ad b) CF hmet ⟨va_cnB 0 hts hgd hcode rfl rfl (hN _ q) (hts _ (hTs _ hM.2.2.1)) ⟨hM.2.2.2.1.1, hM.2.2.2.1.2, hM.2.2.2.2.1⟩ hroom, hV.2.2.1, hts _ (hTs _ hV.2.1)⟩ hPS rfl rfl hsz rfl (lv_room hcat) hd hcs
end GWI
theorem fc_c0 (ad0 : Nat → Nat) (q : Nat) (cy : Nat → ClassId) : fc_w (va_up ad0 0 q) cy (cm 0 [(0, 11, [2, 2, 2, 2, 2, 2, 2, 2, 2, 2, 2, 0, 0])] nu0 (fun _ _ => 0) (fun _ _ => 0)) = [(q, .inr (11, [.null, .null, .null, .null, .null, .null, .null, .null, .null, .null, .null, .int 0, .int 0]))] := rfl
theorem fc_one (ad0 : Nat → Nat) (q ci : Nat) (fs : List Nat) (cy : Nat → ClassId) (μ : fm_T) (hx : ∀ f ∈ fs, f < 3) : fc_w (va_up ad0 0 q) cy (cm 0 [(0, ci, fs)] μ (fun _ _ => 0) (fun _ _ => 0)) = [(q, .inr (ci, fs.map (fc_p 0 0)))] := by
  have e : fc_e (va_up ad0 0 q) cy (cm 0 [(0, ci, fs)] μ (fun _ _ => 0) (fun _ _ => 0)) 0 = .inr (ci, fs.map (fc_p 0 0)) := by
    rw [fc_eo (ci := ci) (fs := fs) rfl]
    congr 2
    apply List.ext_getElem?
    intro i
    rw [List.getElem?_mapIdx, List.getElem?_map]
    cases hi : fs[i]? with
    | none => rfl
    | some f =>
      have hf := hx f (List.mem_of_getElem? hi)
      simp only [Option.map_some]
      match f, hf with
      | 0, _ => rfl
      | 1, _ => rfl
      | 2, _ => rfl
  show [(va_up ad0 0 q 0, fc_e (va_up ad0 0 q) cy (cm 0 [(0, ci, fs)] μ (fun _ _ => 0) (fun _ _ => 0)) 0)] = _
  rw [e]
  rfl
set_option maxRecDepth 20000 in
theorem fc_m0 (ad0 : Nat → Nat) (q : Nat) (cy : Nat → ClassId) : fc_w (va_up ad0 0 q) cy (cm 0 [(0, 12, [0, 2, 0, 0, 0, 0, 0, 0, 0, 0, 0, 0, 1, 0, 2, 2, 2, 2, 2, 2, 2, 0, 0, 2, 2, 2, 2, 2, 2, 2, 2, 0, 0, 0, 0, 2, 2, 2, 2, 0, 2, 2, 2, 2, 1, 0, 0, 2, 0, 2, 2, 2, 2, 0, 0, 2, 2, 2, 0, 0, 2, 0, 0, 0, 0])] nu0 (fun _ _ => 0) (fun _ _ => 0)) = [(q, .inr (12, [.int 0, .null, .int 0, .int 0, .int 0, .int 0, .int 0, .int 0, .int 0, .int 0, .int 0, .int 0, .long 0, .int 0, .null, .null, .null, .null, .null, .null, .null, .int 0, .int 0, .null, .null, .null, .null, .null, .null, .null, .null, .int 0, .int 0, .int 0, .int 0, .null, .null, .null, .null, .int 0, .null, .null, .null, .null, .long 0, .int 0, .int 0, .null, .int 0, .null, .null, .null, .null, .int 0, .int 0, .null, .null, .null, .int 0, .int 0, .null, .int 0, .int 0, .int 0, .int 0]))] := fc_one ad0 q 12 [0, 2, 0, 0, 0, 0, 0, 0, 0, 0, 0, 0, 1, 0, 2, 2, 2, 2, 2, 2, 2, 0, 0, 2, 2, 2, 2, 2, 2, 2, 2, 0, 0, 0, 0, 2, 2, 2, 2, 0, 2, 2, 2, 2, 1, 0, 0, 2, 0, 2, 2, 2, 2, 0, 0, 2, 2, 2, 0, 0, 2, 0, 0, 0, 0] cy nu0 (by decide)
theorem fm_c0 : fm_ok (cm 0 [(0, 11, [2, 2, 2, 2, 2, 2, 2, 2, 2, 2, 2, 0, 0])] nu0 (fun _ _ => 0) (fun _ _ => 0)) := by
  intro k hk f hf
  have h0 : k < 1 := hk
  have : k = 0 := by omega
  subst this
  have h2 : ∀ f ∈ ([2, 2, 2, 2, 2, 2, 2, 2, 2, 2, 2, 0, 0] : List Nat), f < 1 + 3 := by decide
  exact h2 f hf
theorem fm_m0 : fm_ok (cm 0 [(0, 12, [0, 2, 0, 0, 0, 0, 0, 0, 0, 0, 0, 0, 1, 0, 2, 2, 2, 2, 2, 2, 2, 0, 0, 2, 2, 2, 2, 2, 2, 2, 2, 0, 0, 0, 0, 2, 2, 2, 2, 0, 2, 2, 2, 2, 1, 0, 0, 2, 0, 2, 2, 2, 2, 0, 0, 2, 2, 2, 0, 0, 2, 0, 0, 0, 0])] nu0 (fun _ _ => 0) (fun _ _ => 0)) := by
  intro k hk f hf
  have h0 : k < 1 := hk
  have : k = 0 := by omega
  subst this
  have h2 : ∀ f ∈ ([0, 2, 0, 0, 0, 0, 0, 0, 0, 0, 0, 0, 1, 0, 2, 2, 2, 2, 2, 2, 2, 0, 0, 2, 2, 2, 2, 2, 2, 2, 2, 0, 0, 0, 0, 2, 2, 2, 2, 0, 2, 2, 2, 2, 1, 0, 0, 2, 0, 2, 2, 2, 2, 0, 0, 2, 2, 2, 0, 0, 2, 0, 0, 0, 0] : List Nat), f < 1 + 3 := by decide
  exact h2 f hf
theorem df_11 (ty : Nat → FieldType) (h : ∀ k, k < 13 → parseFieldDescriptor (TX11 k).2.2.1 = some (ty k)) : ∀ j, j < 13 → defaultValue (ty j) = vp_V [.null, .null, .null, .null, .null, .null, .null, .null, .null, .null, .null, .int 0, .int 0] j := by
  have h2 : ∀ j, j < 13 → (parseFieldDescriptor (TX11 j).2.2.1).map defaultValue = some (vp_V [.null, .null, .null, .null, .null, .null, .null, .null, .null, .null, .null, .int 0, .int 0] j) := by decide +kernel
  intro j hj
  have h3 := h2 j hj
  rw [h j hj] at h3
  exact Option.some.inj h3
theorem df_12 (ty : Nat → FieldType) (h : ∀ k, k < 65 → parseFieldDescriptor (TX12 k).2.2.1 = some (ty k)) : ∀ j, j < 65 → defaultValue (ty j) = vp_V [.int 0, .null, .int 0, .int 0, .int 0, .int 0, .int 0, .int 0, .int 0, .int 0, .int 0, .int 0, .long 0, .int 0, .null, .null, .null, .null, .null, .null, .null, .int 0, .int 0, .null, .null, .null, .null, .null, .null, .null, .null, .int 0, .int 0, .int 0, .int 0, .null, .null, .null, .null, .int 0, .null, .null, .null, .null, .long 0, .int 0, .int 0, .null, .int 0, .null, .null, .null, .null, .int 0, .int 0, .null, .null, .null, .int 0, .int 0, .null, .int 0, .int 0, .int 0, .int 0] j := by
  have h2 : ∀ j, j < 65 → (parseFieldDescriptor (TX12 j).2.2.1).map defaultValue = some (vp_V [.int 0, .null, .int 0, .int 0, .int 0, .int 0, .int 0, .int 0, .int 0, .int 0, .int 0, .int 0, .long 0, .int 0, .null, .null, .null, .null, .null, .null, .null, .int 0, .int 0, .null, .null, .null, .null, .null, .null, .null, .null, .int 0, .int 0, .int 0, .int 0, .null, .null, .null, .null, .int 0, .null, .null, .null, .null, .long 0, .int 0, .int 0, .null, .int 0, .null, .null, .null, .null, .int 0, .int 0, .null, .null, .null, .int 0, .int 0, .null, .int 0, .int 0, .int 0, .int 0] j) := by decide +kernel
  intro j hj
  have h3 := h2 j hj
  rw [h j hj] at h3
  exact Option.some.inj h3
set_option maxHeartbeats 8000000 in
set_option maxRecDepth 20000 in
theorem whole_go {RR : fm_T → fm_T → Prop} (hO : ob_all RR) (h00 : RR mu0 nu0) {p : Program} {e : Env} {s : State} {m : MethodId} {below : List Frame} {meth : Method} {c : Code} (l : Launch) (hl : l.stackTraces = false) {b L : Nat} {xs : Nat → Int32} (hL : L ≤ 3584) (C0 : lw_At p s m meth c b L xs) : W p l e room_1 s m #[Value.ref b] below meth c s.heap [] 0 0 (lw_Z below #[Value.ref b] s) (entryFrame m ([Value.ref b] : List Value).toArray 7) := by
  obtain ⟨hx, hb, hr, hml, hown, hts, hX, hbl, hlocks, hgv⟩ := id C0
  have hA : ∀ q : Nat, s.heap.size ≤ q → (fun q : Nat => s.heap.size ≤ q) q := fun _ h => h
  have hbA : ¬ (fun q : Nat => s.heap.size ≤ q) b := Nat.not_le.mpr hbl
  obtain ⟨D, cy, hKC, hKM⟩ := lz_known hts
  obtain ⟨ad0, hSC, hSM⟩ := lz_stat (A := fun q => s.heap.size ≤ q) hts hgv (fun a ha => Nat.not_le.mpr ha)
  have hN := lz_nest hts
  have CZ : lz_C p s m meth c b L xs D cy ad0 := ⟨C0, hKC, hKM, hN, hSC, hSM⟩
  have CF : CallFix p m c cL_law 7 s #[Value.ref b] lw_tbl RL := ⟨hx, hb, hml, hown, hts⟩
  have hS : va_S (fun q : Nat => s.heap.size ≤ q) s.heap s.heap [] := va_S.rf
  have hP : va_P D vwCl [] s.heap := fun k q h => by simp at h
  have hD : va_D (fun q : Nat => s.heap.size ≤ q) [] := ⟨fun i j p q h => by simp at h, fun k q h => by simp at h⟩
  have hl0 := lv_entry ([.ref b]) (n := 7) (Nat.le_of_ble_eq_true rfl)
  rw [lg_entry_eq]
  generalize (lg_sl ([.ref b]) ++ List.replicate (7 - (lg_sl ([.ref b])).length) Slot.unset).toArray = ls at hl0 ⊢
  have hl0 : lv_has ls 7 [(0, .ref b)] := hl0
  refine va_new (ci := 11) (fs := [.null, .null, .null, .null, .null, .null, .null, .null, .null, .null, .null, .int 0, .int 0]) (C := RX11) (T := TX11) (N := 13) hx hb hts (fun w h => lz_tl w (kcX11.2.1 w h)) _ kcX11.2.2.1.choose_spec hown (hts _ (lz_tl _ kqL_8)) (hts _ (lz_tl _ keX11)) (hts _ (lz_tl _ kuX11)) hKC hP hD hS hA rfl (df_11 _ kcX11.2.2.1.choose_spec) (Nat.le_of_ble_eq_true rfl) (Nat.le_of_ble_eq_true rfl) dL_law_0 (fun q0 H0 hP0 hD0 hS0 => ?_)
  refine lv_dup hx hb dL_law_3 rfl ?_
  rw [List.nil_append, ← fc_c0 ad0 q0 cy] at hP0 hD0
  have hag0 : ∀ k, 4000 ≤ k → va_up ad0 0 q0 k = ad0 k := fun k hk => zu_ne (by omega)
  refine gw_callI (b := 0) (rest := [.ref q0]) (S := sC) (A := fun q => s.heap.size ≤ q) (ad := va_up ad0 0 q0) CF lz_tl hKC hN (hSC.ag hag0) hA fm_c0 hP0 hD0 hS0 dL_law_4 kIL_19 kmX11_init (d2 := 6) ⟨by decide, by decide⟩ (by decide) rfl (Nat.le_of_ble_eq_true rfl) (Nat.le_of_ble_eq_true rfl) hl0.1 (mc2 := 88) (ms2 := 22418) ⟨by decide, by decide⟩ (iX11 (b := 0) (μ := nu0) (zi := fun _ _ => 0) (zl := fun _ _ => 0) (by decide) (fun _ _ => ⟨rfl, rfl⟩)) ?_
  rintro v μ1 ad1 H1 locs1 ⟨rfl, hμ1⟩ - g3 g4 g5 g6 - - g9
  have hag1 : ag μ1 mu0 := by rw [hμ1]; exact ag_mu0 nu0
  rw [← ag_w hag1] at g5 g6
  have g4' : fm_ok mu0 := ag_ok hag1 g4
  have hD1 : va_D (fun q : Nat => s.heap.size ≤ q) (fc_w ad1 cy mu0) := g6.weaken (fun k q _ h => gw_free (A := fun q => s.heap.size ≤ q) hA hD0 hS0 q.1 h)
  have ha1 : ∀ k, 4000 ≤ k → ad1 k = ad0 k := fun k hk => (g3 k (Or.inr hk)).trans (hag0 k hk)
  have hq0 : ad1 0 = q0 := g3 0 (Or.inl (by decide))
  show W p l e room_1 s m #[Value.ref b] below meth c H1 locs1 (0 + 1 + 88) (0 + 13 + 22418) _ (F0 m 7 ls [.ref q0])
  refine lv_astore_n (lv' := [(1, .ref q0), (0, .ref b)]) hx hb dL_law_7 rfl hl0 (by decide) rfl (fun ls1 hl1 => ?_)
  refine va_new (ci := 12) (fs := [.int 0, .null, .int 0, .int 0, .int 0, .int 0, .int 0, .int 0, .int 0, .int 0, .int 0, .int 0, .long 0, .int 0, .null, .null, .null, .null, .null, .null, .null, .int 0, .int 0, .null, .null, .null, .null, .null, .null, .null, .null, .int 0, .int 0, .int 0, .int 0, .null, .null, .null, .null, .int 0, .null, .null, .null, .null, .long 0, .int 0, .int 0, .null, .int 0, .null, .null, .null, .null, .int 0, .int 0, .null, .null, .null, .int 0, .int 0, .null, .int 0, .int 0, .int 0, .int 0]) (C := RX12) (T := TX12) (N := 65) hx hb hts (fun w h => lz_tl w (kcX12.2.1 w h)) _ kcX12.2.2.1.choose_spec hown (hts _ (lz_tl _ kqL_20)) (hts _ (lz_tl _ keX12)) (hts _ (lz_tl _ kuX12)) hKC g5 hD1 g9 hA rfl (df_12 _ kcX12.2.2.1.choose_spec) (Nat.le_of_ble_eq_true rfl) (Nat.le_of_ble_eq_true rfl) dL_law_8 (fun q2 H2 hP2 hD2 hS2 => ?_)
  refine lv_dup hx hb dL_law_11 rfl ?_
  obtain ⟨p1, p2⟩ := va_sp hP2
  obtain ⟨d1, d2, d3⟩ := va_sd hD2
  rw [← fc_m0 ad0 q2 cy] at p2 d2
  have hag2 : ∀ k, 4000 ≤ k → va_up ad0 0 q2 k = ad0 k := fun k hk => zu_ne (by omega)
  refine gw_callI (b := 0) (rest := [.ref q2]) (S := sM) (A := fun q => s.heap.size ≤ q) (ad := va_up ad0 0 q2) CF lz_tl hKM hN (hSM.ag hag2) hA fm_m0 p2 d2 hS2 dL_law_12 kIL_22 kmX12_init (d2 := 1) ⟨by decide, by decide⟩ (by decide) rfl (Nat.le_of_ble_eq_true rfl) (Nat.le_of_ble_eq_true rfl) hl1.1 (mc2 := 33) (ms2 := 14794) ⟨by decide, by decide⟩ (iX12 (b := 0) (μ := nu0) (zi := fun _ _ => 0) (zl := fun _ _ => 0) (by decide) (fun _ _ => ⟨rfl, rfl⟩)) ?_
  rintro v ν1 am1 H3 locs3 ⟨rfl, hν1⟩ - k3 k4 k5 k6 - k8 k9
  have hagn : ag ν1 nu0 := by rw [hν1]; exact ag_nu0 nu0
  rw [← ag_w hagn] at k5 k6
  have k4' : fm_ok nu0 := ag_ok hagn k4
  have hDm : va_D (fun q : Nat => s.heap.size ≤ q) (fc_w am1 cy nu0) := k6.weaken (fun k q _ h => gw_free (A := fun q => s.heap.size ≤ q) hA d2 hS2 q.1 h)
  have hm1 : ∀ k, 4000 ≤ k → am1 k = ad0 k := fun k hk => (k3 k (Or.inr hk)).trans (hag2 k hk)
  have hq2 : am1 0 = q2 := k3 0 (Or.inl (by decide))
  have hap : ∀ k, k < mu0.1 → ¬ va_A (fc_w (va_up ad0 0 q2) cy (cm 0 [(0, 12, [0, 2, 0, 0, 0, 0, 0, 0, 0, 0, 0, 0, 1, 0, 2, 2, 2, 2, 2, 2, 2, 0, 0, 2, 2, 2, 2, 2, 2, 2, 2, 0, 0, 0, 0, 2, 2, 2, 2, 0, 2, 2, 2, 2, 1, 0, 0, 2, 0, 2, 2, 2, 2, 0, 0, 2, 2, 2, 0, 0, 2, 0, 0, 0, 0])] nu0 (fun _ _ => 0) (fun _ _ => 0))) H2.size (ad1 k) ∧ ad1 k < H2.size := by
    intro k hk
    have hlt : ad1 k < H2.size := (p1 k _ (fc_at hk)).lt
    refine ⟨?_, hlt⟩
    rintro (⟨j, x, hj⟩ | hz)
    · rw [fc_m0] at hj
      exact d3 k j _ _ (fc_at hk) hj rfl
    · omega
  have p3 : va_P D vwCl (fc_w ad1 cy mu0) H3 := p1.kept (fun k q hk => by
    obtain ⟨z1, rfl⟩ := fc_in hk
    exact k8 _ (hap k z1).2 (hap k z1).1)
  have hcm : ∀ i j, i < mu0.1 → j < nu0.1 → ad1 i ≠ am1 j := by
    intro i j hi hj e
    have h := k6.2 j _ (fc_at hj)
    rw [show (am1 j, fc_e am1 cy nu0 j).1 = ad1 i from e.symm] at h
    exact (hap i hi).1 h
  show W p l e room_1 s m #[Value.ref b] below meth c H3 locs3 (0 + 1 + 88 + 1 + 33) (0 + 13 + 22418 + 65 + 14794) _ (F0 m 15 ls1 [.ref q2])
  refine lv_astore_n (lv' := [(2, .ref q2), (1, .ref q0), (0, .ref b)]) hx hb dL_law_15 rfl hl1 (by decide) rfl (fun ls2 hl2 => ?_)
  refine lv_iconst (v := 1) hx hb dL_law_16 rfl ?_
  have pw : va_P D vwCl (fc_w ad1 cy mu0 ++ fc_w am1 cy nu0) H3 := p3.app k5
  have dw : va_D (fun q : Nat => s.heap.size ≤ q) (fc_w ad1 cy mu0 ++ fc_w am1 cy nu0) := hD1.app hDm (fun i j x y hi hj => by
    obtain ⟨z1, rfl⟩ := fc_in hi
    obtain ⟨z2, rfl⟩ := fc_in hj
    exact hcm i j z1 z2)
  refine va_newa (atype := .long) (ty := .long) hx hb (hts _ (lz_tl _ ka_long)) rfl hKC pw dw k9 hA (a0 := (1, .inr (.inl (fun _ => 0)))) (fun _ => rfl) (by decide) (N' := 1) (by decide) (by decide) (Nat.le_of_ble_eq_true rfl) (Nat.le_of_ble_eq_true rfl) dL_law_17 (fun ao cA H4 gK p4 d4 hS4 => ?_)
  have hcA : cA = cy 1 := by
    have k1 := (hKC.2 1 (cy 1, .long) rfl).2
    have k2 := (gK.2 (fx_t sC cy).length (cA, .long) (by simp)).2
    exact fx_cls (fun C h => by cases h) k2 k1
  subst hcA
  obtain ⟨p5, p6⟩ := va_sp p4
  obtain ⟨p7, p8⟩ := va_sp p5
  obtain ⟨e1, e2, e3⟩ := va_sd d4
  refine lv_astore_n (lv' := [(3, .ref ao), (2, .ref q2), (1, .ref q0), (0, .ref b)]) hx hb dL_law_19 rfl hl2 (by decide) rfl (fun ls3 hl3 => ?_)
  refine lv_iconst (v := 0) hx hb dL_law_20 rfl ?_
  refine lv_istore (lv' := [(4, .int 0), (3, .ref ao), (2, .ref q2), (1, .ref q0), (0, .ref b)]) hx hb dL_law_21 hl3 (by decide) rfl (fun ls4 hl4 => ?_)
  refine lz_loop (RR := RR) (ao := ao) hl hO hL CZ 513 0 _ _ 0 (by omega) (Nat.zero_le _) rfl (by decide) (by decide) ls4 ad1 am1 mu0 nu0 (fun _ => 0) H4 _ (by rw [hq0, hq2]; exact lv_sub hl4 [4, 3, 2, 1, 0] rfl) ha1 hm1 h00 ⟨⟨g4', p7, hD1⟩, ⟨k4', p8, hDm⟩, ⟨p6, e2.2 0 _ rfl⟩, hcm, fun i hi => ?_, fun j hj => ?_⟩ hS4
  · exact e3 i 0 _ _ (by rw [List.getElem?_append_left (by simp [fc_w]; exact hi)]; exact fc_at hi) rfl
  · have hlen : (fc_w ad1 cy mu0).length = mu0.1 := by simp [fc_w]
    exact e3 (mu0.1 + j) 0 _ _ (by rw [List.getElem?_append_right (by rw [hlen]; omega), hlen, Nat.add_sub_cancel_left]; exact fc_at hj) rfl
