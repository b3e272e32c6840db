section GW
variable {p : Program} {l : Launch} {e : Env} {R : Room} {s : State} {m : MethodId} {args : Array Value} {below : List Frame} {meth : Method} {c : Code} {H : Heap} {locs : List Loc} {cells slots : Nat} {Q : State → Prop}
variable {S : fs_T} {M2 : fy_T} {d2 mc2 ms2 idx n pc : Nat} {D : va_G} {cy : Nat → ClassId} {A : Nat → Prop} {ad : Nat → Nat} {μ : fm_T} {P2 : Option Value → fm_T → Prop} {ls : Array Slot} {st0 rest as : List Value}
theorem gw_free (hA : ∀ q, s.heap.size ≤ q → A q) (h7 : va_D A (fc_w ad cy μ)) (h8 : va_S A s.heap H locs) : ∀ q, va_A (fc_w ad cy μ) H.size q → A q := by
  intro q hq
  rcases hq with ⟨k, x, hk⟩ | hq
  · exact h7.2 k (q, x) hk
  · exact hA q (Nat.le_trans h8.1 hq)
theorem gw_back {a : Array Value} (h8 : va_S A s.heap H locs) (hFc : ∀ q, va_A (fc_w ad cy μ) H.size q → A q)
    (hr : va_Run p l e R s m args below meth c H locs cells slots mc2 ms2 (F0 m pc ls st0) rest (fx_Q P2 D cy (va_A (fc_w ad cy μ) H.size) ad μ.1 a) (va_A (fc_w ad cy μ) H.size))
    (kk : ∀ (v : Option Value) (μ' : fm_T) (ad' : Nat → Nat) (H' : Heap) (locs' : List Loc), P2 v μ' → μ.1 ≤ μ'.1 → (∀ k, k < μ.1 ∨ 4000 ≤ k → ad' k = ad k) → fm_ok μ' → va_P D vwCl (fc_w ad' cy μ') H' → va_D (va_A (fc_w ad cy μ) H.size) (fc_w ad' cy μ') → H.size ≤ H'.size → (∀ q : Nat, q < H.size → ¬ va_A (fc_w ad cy μ) H.size q → H'[q]? = H[q]?) → va_S A s.heap H' locs' → W p l e R s m args below meth c H' locs' (cells + mc2) (slots + ms2) Q (F0 m (pc + 3) ls ((v.map (fv_v ad')).toList ++ rest))) :
    W p l e R s m args below meth c H locs cells slots Q (F0 m pc ls st0) := by
  intro T hT X
  obtain ⟨v, st₀, t, T', L, q0, X', hL, e1, e2, ⟨⟨v', μ', ad', c1, c2, c3, c4, c5, c6, c7, c8⟩, hz, hk⟩, go⟩ := hr T hT X
  have hv : v = v'.map (fv_v ad') := by injection c1
  subst hv
  rw [q0] at hz hk
  have hS1 : va_S A s.heap T'.heap (locs ++ L) := by
    refine ⟨Nat.le_trans h8.1 (by rw [e1]; exact hz), fun q g1 g2 => ?_, fun q hq => ?_⟩
    · rw [e1, hk q (Nat.lt_of_lt_of_le g1 h8.1) (fun z => g2 (hFc q z))]
      exact h8.2.1 q g1 g2
    · rcases List.mem_append.mp hq with g | g
      · exact h8.2.2 q g
      · exact hFc _ (hL q g)
  obtain ⟨t2, a1, b1⟩ := kk v' μ' ad' T'.heap (locs ++ L) c2 c3 c4 c5 (by rw [e1]; exact c7) c8 (by rw [e1]; exact hz) (fun q g1 g2 => by rw [e1]; exact hk q g1 g2) hS1 T' rfl X'
  exact ⟨t2, go t2 a1, b1⟩
theorem gw_pre (hK : va_K D vwCl (fx_t S cy) s) (hN : ∀ w ∈ fg_h, va_Nw w s) (hS0 : fx_S S A ad s s.heap) (h6 : va_P D vwCl (fc_w ad cy μ) H) (h7 : va_D A (fc_w ad cy μ)) (h8 : va_S A s.heap H locs) (hFc : ∀ q, va_A (fc_w ad cy μ) H.size q → A q) : ∀ U : State, U.heap = H → s.WarmedH U.vm → fx_P S D cy ad μ H.size U := by
  intro U hU hW
  refine ⟨by rw [hU], by rw [hU]; exact h6, va_K.moved hW.alike hK, h7.weaken (fun _ _ _ _ => trivial), fun w hw => fg_nw hw hW (hN w hw), ?_⟩
  rw [hU]
  exact ((hS0.kept h8.2.1).narrow hFc).moved hW
theorem gw_callV {ci N b nL : Nat} {C own : String} {T : u_T} {fs : List Nat} {Ts : List Cond} {cc : ByteArray} (CF : CallFix p m c cc nL s args Ts own) (hTs : ∀ w ∈ fg_l, w ∈ Ts) (hK : va_K D vwCl (fx_t S cy) s) (hN : ∀ w ∈ fg_h, va_Nw w s) (hS0 : fx_S S A ad s s.heap) (hA : ∀ q, s.heap.size ≤ q → A q) (h3 : fm_ok μ) (h6 : va_P D vwCl (fc_w ad cy μ) H) (h7 : va_D A (fc_w ad cy μ)) (h8 : va_S A s.heap H locs)
    (hd : decode cc pc = .ok (.invokevirtual idx, 3)) (hV : fk_V own idx M2) (hM : fk_M M2 n) (hroom : d2 + 1 ≤ R.frames ∧ 59 + 64 * d2 ≤ R.locals) (hc : vwCl[ci]? = some (C, T, N)) (hC : M2.1.cls = C) (hb : b < μ.1) (hs : μ.2.1 b = (0, ci, fs)) (hst : st0 = (as.map (fv_v ad)).reverse ++ .ref (ad b) :: rest) (hn : as.length = n) (hoa : fs_ok μ.1 as) (hcat : (rest.map fun v => v.category).sum ≤ 8) (hl : (lg_sl (.ref b :: as)).length ≤ M2.2.2.1) (hsz : ls.size = nL) (hcs : cells + mc2 ≤ R.cells ∧ slots + ms2 ≤ R.slots)
    (callee : fwp l S M2 d2 mc2 ms2 0 0 0 (fl_ent (.ref b :: as) M2.2.2.1) [] μ P2)
    (kk : ∀ (v : Option Value) (μ' : fm_T) (ad' : Nat → Nat) (H' : Heap) (locs' : List Loc), P2 v μ' → μ.1 ≤ μ'.1 → (∀ k, k < μ.1 ∨ 4000 ≤ k → ad' k = ad k) → fm_ok μ' → va_P D vwCl (fc_w ad' cy μ') H' → va_D (va_A (fc_w ad cy μ) H.size) (fc_w ad' cy μ') → H.size ≤ H'.size → (∀ q : Nat, q < H.size → ¬ va_A (fc_w ad cy μ) H.size q → H'[q]? = H[q]?) → va_S A s.heap H' locs' → W p l e R s m args below meth c H' locs' (cells + mc2) (slots + ms2) Q (F0 m (pc + 3) ls ((v.map (fv_v ad')).toList ++ rest))) :
    W p l e R s m args below meth c H locs cells slots Q (F0 m pc ls st0) := by
  subst hst
  have hFc := gw_free (s := s) hA h7 h8
  have hoa' : fs_ok μ.1 (.ref b :: as) := fs_c (Or.inl hb) hoa
  have hts := CF.2.2.2.2
  have hmet := fz_met hM.1 hl callee h3 hoa' D cy ad H.size
  have hroom : (fx_R d2 mc2 ms2).frames + 1 ≤ R.frames ∧ 8 + (M2.2.2.1 + 11) + (fx_R d2 mc2 ms2).locals ≤ R.locals := by
    have := hM.2.2.2.2.2
    refine ⟨hroom.1, ?_⟩
    have := hroom.2
    show 8 + (M2.2.2.1 + 11) + 64 * d2 ≤ R.locals
    omega
  have hPV : PreV s H M2.1.cls (ad b) (va_Pc ((Value.ref b :: as).map (fv_v ad)) (fx_P S D cy ad μ H.size)) (as.map (fv_v ad)) := ⟨fx_blind, va_recv (cl := vwCl) (q := (C, T, N)) hK h6 hc (q0 := b) (by rw [fc_at hb, fc_eo hs]) |> (by rw [hC]; exact ·), fun U hU hW => ⟨rfl, gw_pre hK hN hS0 h6 h7 h8 hFc U hU hW⟩⟩
  refine gw_back h8 hFc (a := (Value.ref (ad b) :: as.map (fv_v ad)).toArray) (P2 := P2) ?_ kk
  rcases hV.1 with q | ⟨host, q⟩
  · exact va_runV (C := M2.1.cls) (As := as.map (fv_v ad)) (b := ad b) CF hmet (cwV n hts (fun w hw => by
      rcases List.mem_append.mp hw with g | g
      · have h : w ∈ fg_l := by
          rcases List.mem_cons.mp g with g | g
          · rw [g]; exact q
          rcases List.mem_cons.mp g with g | g
          · rw [g]; exact hV.2.1
          rcases List.mem_cons.mp g with g | g
          · rw [g]; exact hV.2.2
          rw [List.mem_singleton.mp g]; exact hM.2.2.1
        exact ⟨hTs _ h, fg_good h⟩
      · have h1 : w ∈ fg_l := (List.mem_cons.mp g).elim (fun e => by rw [e]; exact hM.2.1) id
        exact ⟨hTs _ h1, fg_good h1⟩) rfl rfl rfl ⟨rfl, hM.2.2.2.1.1, hM.2.2.2.1.2, hM.2.2.2.2.1⟩ hroom) hPV rfl (by rw [List.length_map]; exact hn) hsz rfl (lv_room hcat) hd hcs
  · exact va_runVN (C := M2.1.cls) (As := as.map (fv_v ad)) (b := ad b) CF hmet ⟨va_cnB n hts (fun w hw => by
        have h1 : w ∈ fg_l := (List.mem_cons.mp hw).elim (fun e => by rw [e]; exact hM.2.1) id
        exact ⟨hTs _ h1, fg_good h1⟩) rfl rfl rfl (hN _ q) (hts _ (hTs _ hM.2.2.1)) ⟨hM.2.2.2.1.1, hM.2.2.2.1.2, hM.2.2.2.2.1⟩ hroom, hts _ (hTs _ hV.2.1), hts _ (hTs _ hV.2.2)⟩ hPV rfl (by rw [List.length_map]; exact hn) hsz rfl (lv_room hcat) hd hcs
theorem gw_callS {nL : Nat} {own : String} {Ts : List Cond} {cc : ByteArray} (CF : CallFix p m c cc nL s args Ts own) (hTs : ∀ w ∈ fg_l, w ∈ Ts) (hK : va_K D vwCl (fx_t S cy) s) (hN : ∀ w ∈ fg_h, va_Nw w s) (hS0 : fx_S S A ad s s.heap) (hA : ∀ q, s.heap.size ≤ q → A q) (h3 : fm_ok μ) (h6 : va_P D vwCl (fc_w ad cy μ) H) (h7 : va_D A (fc_w ad cy μ)) (h8 : va_S A s.heap H locs)
    (hd : decode cc pc = .ok (.invokestatic idx, 3)) (hV : fk_S own idx M2) (hM : fk_M M2 n) (hroom : d2 + 1 ≤ R.frames ∧ 59 + 64 * d2 ≤ R.locals) (hst : st0 = (as.map (fv_v ad)).reverse ++ rest) (hn : as.length = n) (hoa : fs_ok μ.1 as) (hcat : (rest.map fun v => v.category).sum ≤ 8) (hl : (lg_sl as).length ≤ M2.2.2.1) (hsz : ls.size = nL) (hcs : cells + mc2 ≤ R.cells ∧ slots + ms2 ≤ R.slots)
    (callee : fwp l S M2 d2 mc2 ms2 0 0 0 (fl_ent as M2.2.2.1) [] μ P2)
    (kk : ∀ (v : Option Value) (μ' : fm_T) (ad' : Nat → Nat) (H' : Heap) (locs' : List Loc), P2 v μ' → μ.1 ≤ μ'.1 → (∀ k, k < μ.1 ∨ 4000 ≤ k → ad' k = ad k) → fm_ok μ' → va_P D vwCl (fc_w ad' cy μ') H' → va_D (va_A (fc_w ad cy μ) H.size) (fc_w ad' cy μ') → H.size ≤ H'.size → (∀ q : Nat, q < H.size → ¬ va_A (fc_w ad cy μ) H.size q → H'[q]? = H[q]?) → va_S A s.heap H' locs' → W p l e R s m args below meth c H' locs' (cells + mc2) (slots + ms2) Q (F0 m (pc + 3) ls ((v.map (fv_v ad')).toList ++ rest))) :
    W p l e R s m args below meth c H locs cells slots Q (F0 m pc ls st0) := by
  subst hst
  have hFc := gw_free (s := s) hA h7 h8
  have hts := CF.2.2.2.2
  have hmet := fz_met hM.1 hl callee h3 hoa D cy ad H.size
  have hroom : (fx_R d2 mc2 ms2).frames + 1 ≤ R.frames ∧ 8 + (M2.2.2.1 + 11) + (fx_R d2 mc2 ms2).locals ≤ R.locals := by
    have := hM.2.2.2.2.2
    refine ⟨hroom.1, ?_⟩
    have := hroom.2
    show 8 + (M2.2.2.1 + 11) + 64 * d2 ≤ R.locals
    omega
  have hPS : PreS s H (va_Pc (as.map (fv_v ad)) (fx_P S D cy ad μ H.size)) (as.map (fv_v ad)) := ⟨fx_blind, fun U hU hW => ⟨rfl, gw_pre hK hN hS0 h6 h7 h8 hFc U hU hW⟩⟩
  refine gw_back h8 hFc (a := (as.map (fv_v ad)).toArray) (P2 := P2) ?_ kk
  rcases hV.1 with q | ⟨host, q⟩
  · exact va_runS (As := as.map (fv_v ad)) CF hmet (va_cwS n hts (fun w hw => by
      rcases List.mem_append.mp hw with g | g
      · have h : w ∈ fg_l := by
          rcases List.mem_cons.mp g with g | g
          · rw [g]; exact q
          rcases List.mem_cons.mp g with g | g
          · rw [g]; exact hV.2
          rw [List.mem_singleton.mp g]; exact hM.2.2.1
        exact ⟨hTs _ h, fg_good h⟩
      · have h1 : w ∈ fg_l := (List.mem_cons.mp g).elim (fun e => by rw [e]; exact hM.2.1) id
        exact ⟨hTs _ h1, fg_good h1⟩) rfl rfl rfl ⟨hM.2.2.2.1.1, hM.2.2.2.1.2, hM.2.2.2.2.1⟩ hroom) hPS rfl (by rw [List.length_map]; exact hn) hsz rfl (lv_room hcat) hd hcs
  · exact va_runSN (As := as.map (fv_v ad)) CF hmet ⟨va_cnB n hts (fun w hw => by
        have h1 : w ∈ fg_l := (List.mem_cons.mp hw).elim (fun e => by rw [e]; exact hM.2.1) id
        exact ⟨hTs _ h1, fg_good h1⟩) rfl rfl rfl (hN _ q) (hts _ (hTs _ hM.2.2.1)) ⟨hM.2.2.2.1.1, hM.2.2.2.1.2, hM.2.2.2.2.1⟩ hroom, hts _ (hTs _ hV.2), trivial⟩ hPS rfl (by rw [List.length_map]; exact hn) hsz rfl (lv_room hcat) hd hcs
end GW
