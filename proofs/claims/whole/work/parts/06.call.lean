def fx_P (S : fs_T) (D : va_G) (cy : Nat → ClassId) (ad : Nat → Nat) (μ : fm_T) (sz : Nat) (U : State) : Prop := U.heap.size = sz ∧ va_P D vwCl (fc_w ad cy μ) U.heap ∧ va_K D vwCl (fx_t S cy) U ∧ va_D (fun _ => True) (fc_w ad cy μ) ∧ (∀ w ∈ fg_h, va_Nw w U) ∧ fx_S S (va_A (fc_w ad cy μ) sz) ad U U.heap
theorem fx_V.moved {A : Nat → Prop} {ad : Nat → Nat} {u U : State} {H : Heap} (hW : u.WarmedH U.vm) (h : fx_V ad A u H) : fx_V ad A U H := by
  obtain ⟨s0, a0, h1, h2, h3⟩ := h
  exact ⟨s0, a0, h1, h2.trans hW, h3⟩
theorem fx_V.kept {A : Nat → Prop} {ad : Nat → Nat} {U : State} {H H1 : Heap} (h : fx_V ad A U H) (ho : ∀ a : Nat, a < H.size → ¬ A a → H1[a]? = H[a]?) : fx_V ad A U H1 := by
  obtain ⟨s0, a0, h1, h2, h3⟩ := h
  refine ⟨s0, a0, h1, h2, fun a ha => ⟨(h3 a ha).1, ?_⟩⟩
  have e := (h3 a ha).2
  rw [Array.getElem?_eq_getElem ha] at e
  rw [ho a (Array.getElem?_eq_some_iff.mp e).1 (h3 a ha).1]
  exact (h3 a ha).2
theorem fx_V.narrow {A B : Nat → Prop} {ad : Nat → Nat} {U : State} {H : Heap} (h : fx_V ad A U H) (hAB : ∀ q, B q → A q) : fx_V ad B U H := by
  obtain ⟨s0, a0, h1, h2, h3⟩ := h
  exact ⟨s0, a0, h1, h2, fun a ha => ⟨fun z => (h3 a ha).1 (hAB a z), (h3 a ha).2⟩⟩
theorem fx_V.ag {A : Nat → Prop} {ad ad' : Nat → Nat} {U : State} {H : Heap} (h : fx_V ad A U H) (ha : ∀ k, 4000 ≤ k → ad' k = ad k) : fx_V ad' A U H := by
  obtain ⟨s0, a0, h1, h2, h3⟩ := h
  refine ⟨s0, a0, ?_, h2, h3⟩
  unfold fx_0
  rw [ha 4010 (by omega), ha 4011 (by omega), ha 4012 (by omega), ha 4013 (by omega), ha 4014 (by omega)]
  exact h1
theorem fx_S.moved {S : fs_T} {A : Nat → Prop} {ad : Nat → Nat} {u U : State} {H : Heap} (hW : u.WarmedH U.vm) (h : fx_S S A ad u H) : fx_S S A ad U H := ⟨fun j q hq => ⟨va_Z.moved hW.alike (h.1 j q hq).1, va_T.moved hW.alike (h.1 j q hq).2⟩, h.2.moved hW⟩
theorem fx_S.kept {S : fs_T} {A : Nat → Prop} {ad : Nat → Nat} {U : State} {H H1 : Heap} (h : fx_S S A ad U H) (ho : ∀ a : Nat, a < H.size → ¬ A a → H1[a]? = H[a]?) : fx_S S A ad U H1 := ⟨fun j q hq => ⟨(h.1 j q hq).1.kept ho, (h.1 j q hq).2.kept ho⟩, h.2.kept ho⟩
theorem fx_S.narrow {S : fs_T} {A B : Nat → Prop} {ad : Nat → Nat} {U : State} {H : Heap} (h : fx_S S A ad U H) (hAB : ∀ q, B q → A q) : fx_S S B ad U H := ⟨fun j q hq => ⟨(h.1 j q hq).1.narrow hAB, (h.1 j q hq).2.narrow hAB⟩, h.2.narrow hAB⟩
theorem fx_S.ag {S : fs_T} {A : Nat → Prop} {ad ad' : Nat → Nat} {U : State} {H : Heap} (h : fx_S S A ad U H) (ha : ∀ k, 4000 ≤ k → ad' k = ad k) : fx_S S A ad' U H := ⟨fun j q hq => by
  rw [ha (4000 + j) (by omega)]
  exact h.1 j q hq, h.2.ag ha⟩
theorem fx_blind {S : fs_T} {D : va_G} {cy : Nat → ClassId} {ad : Nat → Nat} {μ : fm_T} {sz : Nat} {av : List Value} : FrameBlind (va_Pc av (fx_P S D cy ad μ sz)) := by
  intro a U g mk q
  obtain ⟨q0, q1, qP, qK, qD, qN, qS⟩ := q
  exact ⟨q0, q1, qP, va_K.moved (u := U) (U := U.calling g mk a) (Vm.Alike.refl U.vm) qK, qD, fun w hw => fg_ns (s := U) (U := U.calling g mk a) hw rfl (qN w hw), fx_S.moved (u := U) (U := U.calling g mk a) (State.WarmedH.refl U) qS⟩
theorem fz_met {l : Launch} {S : fs_T} {M : fy_T} {d mc ms : Nat} {μ : fm_T} {P : Option Value → fm_T → Prop} {as : List Value} (hy : plainName M.1.cls = true) (hn : (lg_sl as).length ≤ M.2.2.1) (hb : fwp l S M d mc ms 0 0 0 (fl_ent as M.2.2.1) [] μ P) (hok : fm_ok μ) (hoa : fs_ok μ.1 as) (D : va_G) (cy : Nat → ClassId) (ad : Nat → Nat) (sz : Nat) :
    Met l M.1 (fx_T M) (fx_R d mc ms) (va_Pc (as.map (fv_v ad)) (fx_P S D cy ad μ sz)) (fx_Q P D cy (va_A (fc_w ad cy μ) sz) ad μ.1) mc ms (va_A (fc_w ad cy μ) sz) := by
  refine Met.ofW (cc := M.2.1) (maxL := M.2.2.1) (ret := M.2.2.2) hy rfl ?_
  intro p e s m args below meth c s₁ B hml hv
  obtain ⟨rfl, hsz, hP, hK, hD0, hN, hS0⟩ := hv
  have hts := atoms_spec (ws := fx_T M) B.pre
  have hown : s.vm.findClass M.1.cls = some m.cls := findClass_of_methodNamed B.named
  subst hsz
  have hlen : (lg_sl (as.map (fv_v ad))).length = (lg_sl as).length := by
    unfold lg_sl
    rw [List.length_flatMap, List.length_flatMap, List.map_map]
    congr 1
    apply List.map_congr_left
    intro v _
    simp only [Function.comp]
    rw [fv_cat]
    split <;> rfl
  have hl := lv_entry (as.map (fv_v ad)) (n := M.2.2.1) (by rw [hlen]; exact hn)
  rw [lg_entry_eq]
  exact hb p e _ s m _ below meth c D cy (va_A (fc_w ad cy μ) s.heap.size) ad μ.1 ⟨B.exec, B.bytes, hml, B.returns, B.notSynchronized, hown, (name_of_methodNamed B.named B.method).1, hts, hN, hK, fun q h => Or.inr h, hS0, rfl⟩ s.heap [] _ ad (Nat.le_refl _) (fun _ _ => rfl) hok (fun v hv => by cases hv) (fun i v h => hoa v (fl_ent_get ad h).2) hP hD0.self va_S.rf ⟨hl.1, hl.2.1, fun i v h => hl.2.2 _ (fl_ent_get ad h).1⟩
def fk_M (M2 : fy_T) (n : Nat) : Prop := plainName M2.1.cls = true ∧ Cond.code M2.1 M2.2.1 M2.2.2.1 M2.2.2.2 ∈ fg_l ∧ Cond.initialized M2.1.cls ∈ fg_l ∧ (M2.1.cls ≠ "java/lang/invoke/MethodHandle" ∧ M2.1.cls ≠ "java/lang/invoke/VarHandle") ∧ (parseMethodDescriptor M2.1.desc).map (fun d => d.parameters.length) = some n ∧ M2.2.2.1 ≤ 40
def fk_V (own : String) (idx : Nat) (M2 : fy_T) : Prop := (Cond.methodLink own idx M2.1 ∈ fg_l ∨ ∃ host, Cond.methodLinkNest own idx M2.1 host ∈ fg_h) ∧ Cond.instanceMethod M2.1 ∈ fg_l ∧ Cond.selects M2.1.cls M2.1 M2.1 ∈ fg_l
def fk_S (own : String) (idx : Nat) (M2 : fy_T) : Prop := (Cond.methodLink own idx M2.1 ∈ fg_l ∨ ∃ host, Cond.methodLinkNest own idx M2.1 host ∈ fg_h) ∧ Cond.static M2.1 ∈ fg_l
theorem fg_good {w : Cond} (h : w ∈ fg_l) : (w.onTables && w.keeps) = true ∨ ∃ ty, w = .arrayClass ty := good_of_word (List.mem_filter.mp h).2
theorem fg_in {M M2 : fy_T} (h : Cond.code M2.1 M2.2.1 M2.2.2.1 M2.2.2.2 ∈ fg_l) : GoodIn (fx_T M) (fx_T M2) := by
  intro w hw
  have h1 : w ∈ fg_l := (List.mem_cons.mp hw).elim (fun e => by rw [e]; exact h) id
  exact ⟨List.mem_cons_of_mem _ h1, fg_good h1⟩
section FCALL
variable {l : Launch} {S : fs_T} {M M2 : fy_T} {d d2 mc ms mc2 ms2 cells slots pc idx n : Nat} {loc : List (Option Value)} {st rest as : List Value} {μ : fm_T} {P P2 : Option Value → fm_T → Prop}
theorem fw_back {A : Nat → Prop} {D : va_G} {cy : Nat → ClassId} {ad0 ad : Nat → Nat} {n0 : Nat} {p : Program} {e : Env} {R : Room} {s : State} {m : MethodId} {args : Array Value} {below : List Frame} {meth : Method} {c : Code} {H : Heap} {locs : List Loc} {ls : Array Slot} {a : Array Value} {st0 : List Value}
    (K : fx_K p R s m args meth c S M d mc ms D cy A ad0) (h1 : n0 ≤ μ.1) (h2 : ∀ k, k < n0 ∨ 4000 ≤ k → ad k = ad0 k) (h4 : fs_ok μ.1 rest) (h5 : fl_ok μ.1 loc) (h7 : va_D A (fc_w ad cy μ)) (h8 : va_S A s.heap H locs) (h9 : fl_has ad ls M.2.2.1 loc)
    (hr : va_Run p l e R s m args below meth c H locs cells slots mc2 ms2 (F0 m pc ls st0) (rest.map (fv_v ad)) (fx_Q P2 D cy (va_A (fc_w ad cy μ) H.size) ad μ.1 a) (va_A (fc_w ad cy μ) H.size))
    (kk : ∀ v μ', P2 v μ' → fwp l S M d mc ms (cells + mc2) (slots + ms2) (pc + 3) loc (v.toList ++ rest) μ' P) : W p l e R s m args below meth c H locs cells slots (MQ below (fx_Q P D cy A ad0 n0) args s mc ms A) (F0 m pc ls st0) := by
  have hFc : ∀ q, va_A (fc_w ad cy μ) H.size q → A q := by
    intro q hq
    rcases hq with ⟨k, x, hk⟩ | hq
    · exact h7.2 k (q, x) hk
    · exact K.2.2.2.2.2.2.2.2.2.2.1 q (Nat.le_trans h8.1 hq)
  intro T hT X
  obtain ⟨v, st₀, t, T', L, q0, X', hL, e1, e2, ⟨⟨v', μ', ad', c1, c2, c3, c4, c5, c6, c7, c8⟩, hz, hk⟩, go⟩ := hr T hT X
  have hv : v = v'.map (fv_v ad') := by injection c1
  subst hv
  rw [q0] at hz hk
  have hS1 : va_S A s.heap T'.heap (locs ++ L) := by
    refine ⟨Nat.le_trans h8.1 (by rw [e1]; exact hz), fun q g1 g2 => ?_, fun q hq => ?_⟩
    · rw [e1, hk q (Nat.lt_of_lt_of_le g1 h8.1) (fun z => g2 (hFc q z))]
      exact h8.2.1 q g1 g2
    · rcases List.mem_append.mp hq with g | g
      · exact h8.2.2 q g
      · exact hFc _ (hL q g)
  have hst : ((v'.toList ++ rest).map (fv_v ad')) = (v'.map (fv_v ad')).toList ++ rest.map (fv_v ad) := by
    rw [List.map_append, fs_ag c4 h4]
    cases v' <;> rfl
  have W1 := kk v' μ' c2 p e R s m args below meth c D cy A ad0 n0 K T'.heap (locs ++ L) ls ad' (Nat.le_trans h1 c3) (fun k hk => (c4 k (hk.elim (fun q => Or.inl (Nat.lt_of_lt_of_le q h1)) Or.inr)).trans (h2 k hk)) c5
    (fun x hx => by
      rcases List.mem_append.mp hx with g | g
      · exact c6 x (Option.mem_toList.mp g)
      · exact fv_mono c3 (h4 x g)) (fl_mono c3 h5) (by rw [e1]; exact c7) (c8.weaken (fun _ q _ h => hFc q.1 h)) hS1 (fl_ag c4 h5 h9)
  rw [hst] at W1
  obtain ⟨t2, a1, b1⟩ := W1 T' rfl X'
  exact ⟨t2, go t2 a1, b1⟩
theorem fw_pre {A : Nat → Prop} {D : va_G} {cy : Nat → ClassId} {ad0 ad : Nat → Nat} {n0 : Nat} {p : Program} {R : Room} {s : State} {m : MethodId} {args : Array Value} {meth : Method} {c : Code} {H : Heap} {locs : List Loc}
    (K : fx_K p R s m args meth c S M d mc ms D cy A ad0) (h2 : ∀ k, k < n0 ∨ 4000 ≤ k → ad k = ad0 k) (h6 : va_P D vwCl (fc_w ad cy μ) H) (h7 : va_D A (fc_w ad cy μ)) (h8 : va_S A s.heap H locs) : ∀ U : State, U.heap = H → s.WarmedH U.vm → fx_P S D cy ad μ H.size U := by
  intro U hU hW
  have hFc : ∀ q, va_A (fc_w ad cy μ) H.size q → A q := by
    intro q hq
    rcases hq with ⟨k, x, hk⟩ | hq
    · exact h7.2 k (q, x) hk
    · exact K.2.2.2.2.2.2.2.2.2.2.1 q (Nat.le_trans h8.1 hq)
  refine ⟨by rw [hU], by rw [hU]; exact h6, va_K.moved hW.alike K.2.2.2.2.2.2.2.2.2.1, h7.weaken (fun _ _ _ _ => trivial), fun w hw => fg_nw hw hW (K.2.2.2.2.2.2.2.2.1 w hw), ?_⟩
  rw [hU]
  exact (((K.2.2.2.2.2.2.2.2.2.2.2.1.ag (fun k hk => h2 k (Or.inr hk))).kept h8.2.1).narrow hFc).moved hW
theorem fw_callV {b ci N : Nat} {C : String} {T : u_T} {fs : List Nat} (hd : decode M.2.1 pc = .ok (.invokevirtual idx, 3)) (hV : fk_V M.1.cls idx M2) (hM : fk_M M2 n) (hd2 : d2 + 1 ≤ d) (hc : vwCl[ci]? = some (C, T, N)) (hC : M2.1.cls = C) (hb : b < 4000) (hs : μ.2.1 b = (0, ci, fs)) (hst : st = as.reverse ++ .ref b :: rest) (hn : as.length = n) (hcat : (rest.map fun v => v.category).sum ≤ 8) (hl : (lg_sl (.ref b :: as)).length ≤ M2.2.2.1) (hcs : cells + mc2 ≤ mc ∧ slots + ms2 ≤ ms) 
    (callee : fwp l S M2 d2 mc2 ms2 0 0 0 (fl_ent (.ref b :: as) M2.2.2.1) [] μ P2) (kk : ∀ v μ', P2 v μ' → fwp l S M d mc ms (cells + mc2) (slots + ms2) (pc + 3) loc (v.toList ++ rest) μ' P) : fwp l S M d mc ms cells slots pc loc st μ P := by
  subst hst
  intro p e R s m args below meth c D cy A ad0 n0 K H locs ls ad h1 h2 h3 h4 h5 h6 h7 h8 h9
  have hb : b < μ.1 := fv_lt (h4 _ (by simp)) hb
  have hoa : fs_ok μ.1 (.ref b :: as) := fun x hx => h4 x (by rcases List.mem_cons.mp hx with g | g <;> simp [g])
  have hor : fs_ok μ.1 rest := fun x hx => h4 x (by simp [hx])
  have hts := fun w (h : w ∈ fg_l) => K.2.2.2.2.2.2.2.1 w (List.mem_cons_of_mem _ h)
  have hmet := fz_met hM.1 hl callee h3 hoa D cy ad H.size
  have hR := K.2.2.2.2.2.2.2.2.2.2.2.2
  have hroom : (fx_R d2 mc2 ms2).frames + 1 ≤ R.frames ∧ 8 + (M2.2.2.1 + 11) + (fx_R d2 mc2 ms2).locals ≤ R.locals := by
    have := hM.2.2.2.2.2
    subst hR
    refine ⟨hd2, ?_⟩
    show 8 + (M2.2.2.1 + 11) + 64 * d2 ≤ 64 * d
    omega
  have hPV : PreV s H M2.1.cls (ad b) (va_Pc ((Value.ref b :: as).map (fv_v ad)) (fx_P S D cy ad μ H.size)) (as.map (fv_v ad)) := ⟨fx_blind, va_recv (cl := vwCl) (q := (C, T, N)) K.2.2.2.2.2.2.2.2.2.1 h6 hc (q0 := b) (by rw [fc_at hb, fc_eo hs]) |> (by rw [hC]; exact ·), fun U hU hW => ⟨rfl, fw_pre K h2 h6 h7 h8 U hU hW⟩⟩
  have hcs' : cells + mc2 ≤ R.cells ∧ slots + ms2 ≤ R.slots := by rw [hR]; exact hcs
  have hcat' : 2 * (F0 m pc ls ((as.reverse ++ .ref b :: rest).map (fv_v ad))).monitorRoom + ((rest.map (fv_v ad)).map fun v => v.category).sum ≤ 8 := by
    rw [List.map_map, show ((fun v : Value => v.category) ∘ fv_v ad) = (fun v : Value => v.category) from funext fun v => fv_cat ad v]
    exact lv_room hcat
  refine fw_back K h1 h2 hor h5 h7 h8 h9 (a := (Value.ref (ad b) :: as.map (fv_v ad)).toArray) (P2 := P2) ?_ kk
  rcases hV.1 with q | ⟨host, q⟩
  · exact va_runV (C := M2.1.cls) (As := as.map (fv_v ad)) (b := ad b) ⟨K.1, K.2.1, K.2.2.1, K.2.2.2.2.2.1, K.2.2.2.2.2.2.2.1⟩ hmet (cwV n K.2.2.2.2.2.2.2.1 (fun w hw => by
      rcases List.mem_append.mp hw with g | g
      · have h : w ∈ fg_l := by
          rcases List.mem_cons.mp g with g | g
          · rw [g]; exact q
          rcases List.mem_cons.mp g with g | g
          · rw [g]; exact hV.2.1
          rcases List.mem_cons.mp g with g | g
          · rw [g]; exact hV.2.2
          rw [List.mem_singleton.mp g]; exact hM.2.2.1
        exact ⟨List.mem_cons_of_mem _ h, fg_good h⟩
      · exact fg_in hM.2.1 w g) rfl rfl rfl ⟨rfl, hM.2.2.2.1.1, hM.2.2.2.1.2, hM.2.2.2.2.1⟩ hroom) hPV rfl (by rw [List.length_map]; exact hn) h9.1 (by simp [fv_v]) hcat' hd hcs'
  · exact va_runVN (C := M2.1.cls) (As := as.map (fv_v ad)) (b := ad b) ⟨K.1, K.2.1, K.2.2.1, K.2.2.2.2.2.1, K.2.2.2.2.2.2.2.1⟩ hmet ⟨va_cnB n K.2.2.2.2.2.2.2.1 (fg_in hM.2.1) rfl rfl rfl (K.2.2.2.2.2.2.2.2.1 _ q) (hts _ hM.2.2.1) ⟨hM.2.2.2.1.1, hM.2.2.2.1.2, hM.2.2.2.2.1⟩ hroom, hts _ hV.2.1, hts _ hV.2.2⟩ hPV rfl (by rw [List.length_map]; exact hn) h9.1 (by simp [fv_v]) hcat' hd hcs'
theorem fw_callS (hd : decode M.2.1 pc = .ok (.invokestatic idx, 3)) (hV : fk_S M.1.cls idx M2) (hM : fk_M M2 n) (hd2 : d2 + 1 ≤ d) (hst : st = as.reverse ++ rest) (hn : as.length = n) (hcat : (rest.map fun v => v.category).sum ≤ 8) (hl : (lg_sl as).length ≤ M2.2.2.1) (hcs : cells + mc2 ≤ mc ∧ slots + ms2 ≤ ms) 
    (callee : fwp l S M2 d2 mc2 ms2 0 0 0 (fl_ent as M2.2.2.1) [] μ P2) (kk : ∀ v μ', P2 v μ' → fwp l S M d mc ms (cells + mc2) (slots + ms2) (pc + 3) loc (v.toList ++ rest) μ' P) : fwp l S M d mc ms cells slots pc loc st μ P := by
  subst hst
  intro p e R s m args below meth c D cy A ad0 n0 K H locs ls ad h1 h2 h3 h4 h5 h6 h7 h8 h9
  have hoa : fs_ok μ.1 as := fun x hx => h4 x (by simp [hx])
  have hor : fs_ok μ.1 rest := fun x hx => h4 x (by simp [hx])
  have hts := fun w (h : w ∈ fg_l) => K.2.2.2.2.2.2.2.1 w (List.mem_cons_of_mem _ h)
  have hmet := fz_met hM.1 hl callee h3 hoa D cy ad H.size
  have hR := K.2.2.2.2.2.2.2.2.2.2.2.2
  have hroom : (fx_R d2 mc2 ms2).frames + 1 ≤ R.frames ∧ 8 + (M2.2.2.1 + 11) + (fx_R d2 mc2 ms2).locals ≤ R.locals := by
    have := hM.2.2.2.2.2
    subst hR
    refine ⟨hd2, ?_⟩
    show 8 + (M2.2.2.1 + 11) + 64 * d2 ≤ 64 * d
    omega
  have hPS : PreS s H (va_Pc (as.map (fv_v ad)) (fx_P S D cy ad μ H.size)) (as.map (fv_v ad)) := ⟨fx_blind, fun U hU hW => ⟨rfl, fw_pre K h2 h6 h7 h8 U hU hW⟩⟩
  have hcs' : cells + mc2 ≤ R.cells ∧ slots + ms2 ≤ R.slots := by rw [hR]; exact hcs
  have hcat' : 2 * (F0 m pc ls ((as.reverse ++ rest).map (fv_v ad))).monitorRoom + ((rest.map (fv_v ad)).map fun v => v.category).sum ≤ 8 := by
    rw [List.map_map, show ((fun v : Value => v.category) ∘ fv_v ad) = (fun v : Value => v.category) from funext fun v => fv_cat ad v]
    exact lv_room hcat
  refine fw_back K h1 h2 hor h5 h7 h8 h9 (a := (as.map (fv_v ad)).toArray) (P2 := P2) ?_ kk
  rcases hV.1 with q | ⟨host, q⟩
  · exact va_runS (As := as.map (fv_v ad)) ⟨K.1, K.2.1, K.2.2.1, K.2.2.2.2.2.1, K.2.2.2.2.2.2.2.1⟩ hmet (va_cwS n K.2.2.2.2.2.2.2.1 (fun w hw => by
      rcases List.mem_append.mp hw with g | g
      · have h : w ∈ fg_l := by
          rcases List.mem_cons.mp g with g | g
          · rw [g]; exact q
          rcases List.mem_cons.mp g with g | g
          · rw [g]; exact hV.2
          rw [List.mem_singleton.mp g]; exact hM.2.2.1
        exact ⟨List.mem_cons_of_mem _ h, fg_good h⟩
      · exact fg_in hM.2.1 w g) rfl rfl rfl ⟨hM.2.2.2.1.1, hM.2.2.2.1.2, hM.2.2.2.2.1⟩ hroom) hPS rfl (by rw [List.length_map]; exact hn) h9.1 (by simp) hcat' hd hcs'
  · exact va_runSN (As := as.map (fv_v ad)) ⟨K.1, K.2.1, K.2.2.1, K.2.2.2.2.2.1, K.2.2.2.2.2.2.2.1⟩ hmet ⟨va_cnB n K.2.2.2.2.2.2.2.1 (fg_in hM.2.1) rfl rfl rfl (K.2.2.2.2.2.2.2.2.1 _ q) (hts _ hM.2.2.1) ⟨hM.2.2.2.1.1, hM.2.2.2.1.2, hM.2.2.2.2.1⟩ hroom, hts _ hV.2, trivial⟩ hPS rfl (by rw [List.length_map]; exact hn) h9.1 (by simp) hcat' hd hcs'
end FCALL

