theorem tlen_lt {args : Array Value} {s : State} {t : Term} {v : Value} {a : Addr} {cell : Cell} (h : (Term.length t).eval args s none [] s = some v) (ht : t.eval args s none [] s = some (.ref a)) (hat : s.arrayAt? a = some cell) : cell.slots.size < 2 ^ 31 := by
  by_cases q : cell.slots.size < 2 ^ 31
  · exact q
  · simp only [Term.eval, Option.bind_eq_bind, ht, Option.bind_some, hat] at h
    rw [if_neg q] at h
    cases h
theorem va_Z_one {C n d : String} {v w : Value} {A : Nat → Prop} {U : State} {H : Heap} (h1 : va_Z C n d v A U H) (h2 : va_Z C n d w A U H) : v = w := by
  obtain ⟨cf, kf, fi, f, a, cell, a1, a2, a3, a4, a5, a6, a7, -⟩ := h1
  obtain ⟨cf', kf', fi', f', a', cell', b1, b2, b3, b4, b5, b6, b7, -⟩ := h2
  rw [a1] at b1
  cases b1
  rw [a4] at b4
  cases b4
  rw [a5] at b5
  cases b5
  rw [a7] at b7
  exact Option.some.inj b7
def stU : Term := .static "CoatWorks$House" "UNTOLD_SETTING" "[I"
theorem fx_cl0 {args : Array Value} {s : State} (h : (Jvm.Cond.and given_1 narrow_1).before args s = true) : ∃ (t : Nat) (cell : Cell), stU.eval args s none [] s = some (.ref t) ∧ s.heap[t]? = some cell ∧ (∀ k, cell.vm ≠ .statics k) ∧ cell.vm ≠ .unknown ∧ s.vm.findClass "[I" = some cell.cls ∧ cell.slots.size = 4 ∧ ∀ j : Nat, j < 4 → cell.slots[j]? = some (.int ([(2 : Int32), 30, 20, 150].getD j 0)) := by
  have hs := flat_of_before _ h
  have hex : (Cond.exactly stU "[I").before args s = true := hs _ (by decide +kernel)
  have har : (Cond.arrayOf stU .int).before args s = true := hs _ (by decide +kernel)
  have hle : (Cond.eq (.length stU) (.int 4)).before args s = true := hs _ (by decide +kernel)
  have h0 : (Cond.eq (.elem stU (.int 0)) (.int 2)).before args s = true := hs _ (by decide +kernel)
  have h1 : (Cond.eq (.elem stU (.int 1)) (.int 30)).before args s = true := hs _ (by decide +kernel)
  have h2 : (Cond.eq (.elem stU (.int 2)) (.int 20)).before args s = true := hs _ (by decide +kernel)
  have h3 : (Cond.eq (.elem stU (.int 3)) (.int 150)).before args s = true := hs _ (by decide +kernel)
  obtain ⟨a, c, cell, k, q1, q2, q3, q4, q5, q6, -⟩ := Cond.exactly_spec (args := args) (first := s) (o := none) (s := s) (idx := []) (t := stU) (cls := "[I") hex
  have hl := va_eqt hle
  obtain ⟨a', cell', p1, p2, p3⟩ := Term.length_spec hl
  cases q1.symm.trans p1
  obtain ⟨hcell, hkn, -, -⟩ := State.arrayAt?_spec p2
  cases q3.symm.trans hcell
  have hlt := tlen_lt hl p1 p2
  have hof := (Cond.arrayOf_spec (args := args) (first := s) (o := none) (idx := []) har q1 q3).1
  have hsz : cell.slots.size = 4 := by
    have e : (Value.int 4) = .int cell.slots.size.toInt32 := p3
    have e2 : (4 : Int32) = Int32.ofNat cell.slots.size := Value.int.inj e
    have e3 := congrArg Int32.toNatClampNeg e2
    rw [Int32.toNatClampNeg_ofNat_of_lt hlt] at e3
    exact e3.symm
  have el : ∀ (j : Nat) (v : Int32), j < 4 → (Term.elem stU (.int (Int32.ofNat j))).eval args s none [] s = some (.int v) → cell.slots[j]? = some (.int v) := by
    intro j v hj he
    obtain ⟨a2, i, cell2, r1, r2, r3, r4, r5⟩ := Term.elem_spec he
    cases q1.symm.trans r1
    cases p2.symm.trans r3
    have e : (Term.int (Int32.ofNat j)).eval args s none [] s = some (.int (Int32.ofNat j)) := rfl
    cases r2.symm.trans e
    rw [Int32.toNatClampNeg_ofNat_of_lt (by omega)] at r5
    exact r5
  refine ⟨a, cell, q1, q3, hof.1, hkn, by rw [q6]; exact q2, hsz, fun j hj => ?_⟩
  match j, hj with
  | 0, _ => exact el 0 2 (by omega) (va_eqt h0)
  | 1, _ => exact el 1 30 (by omega) (va_eqt h1)
  | 2, _ => exact el 2 20 (by omega) (va_eqt h2)
  | 3, _ => exact el 3 150 (by omega) (va_eqt h3)
def fm_nf (μ : fm_T) (x : fc_C) (f : Nat → Int32) : fm_T := (μ.1 + 1, va_up μ.2.1 μ.1 x, va_up μ.2.2.1 μ.1 f, va_up μ.2.2.2 μ.1 (fun _ => 0))
theorem fm_nf_w {μ : fm_T} {x : fc_C} {f : Nat → Int32} {ad : Nat → Nat} {cy : Nat → ClassId} {q : Nat} {y : va_E} (h : fm_ok μ) (hy : fc_e (va_up ad μ.1 q) cy (fm_nf μ x f) μ.1 = y) : fc_w ad cy μ ++ [(q, y)] = fc_w (va_up ad μ.1 q) cy (fm_nf μ x f) := by
  show (List.range μ.1).map _ ++ [(q, y)] = (List.range (μ.1 + 1)).map _
  rw [List.range_succ, List.map_append]
  congr 1
  · apply List.map_congr_left
    intro k hk
    have hk : k < μ.1 := List.mem_range.mp hk
    have e : k ≠ μ.1 := by omega
    have e1 : fc_e (va_up ad μ.1 q) cy (fm_nf μ x f) k = fc_e (va_up ad μ.1 q) cy μ k := fc_ecg (by simp [fm_nf, va_up, e]) (by simp [fm_nf, va_up, e]) (by simp [fm_nf, va_up, e])
    rw [e1, fc_e_ag (ad := ad) (ad' := va_up ad μ.1 q) (fun j hj => by have hne : j ≠ μ.1 := (by omega); simp [va_up, hne]) h hk]
    simp [va_up, e]
  · rw [List.map_singleton, hy]
    simp [va_up]
section FST
variable {l : Launch} {M : fy_T} {d mc ms cells slots pc : Nat} {loc : List (Option Value)} {st : List Value} {μ : fm_T} {P : Option Value → fm_T → Prop}
theorem fw_cloneS {idx : Nat} (hd : decode M.2.1 pc = .ok (.invokevirtual idx, 3)) (hlink : Cond.methodLink M.1.cls idx ⟨"[I", "clone", "()Ljava/lang/Object;"⟩ ∈ fg_l) (hd2 : 1 ≤ d) (hcat : (st.map fun v => v.category).sum ≤ 8) (hn : μ.1 < 4000) (hcs : cells + 1 ≤ mc) (hss : slots + 4 ≤ ms) (kk : fwp l sC M d mc ms (cells + 1) (slots + 4) (pc + 3) loc (.ref μ.1 :: st) (fm_nf μ (1, 4, []) zset) P) : fwp l sC M d mc ms cells slots pc loc (.ref 4001 :: st) μ P := by
  intro p e R s m args below meth c D cy A ad0 n0 K H locs ls ad h1 h2 h3 h4 h5 h6 h7 h8 h9
  have hts := fun w (h : w ∈ fg_l) => K.2.2.2.2.2.2.2.1 w (List.mem_cons_of_mem _ h)
  have hR := K.2.2.2.2.2.2.2.2.2.2.2.2
  have hK := K.2.2.2.2.2.2.2.2.2.1
  have hA := K.2.2.2.2.2.2.2.2.2.2.1
  obtain ⟨hSt, s0, a0, ⟨hw0, hp0, -⟩, hW0, hag0⟩ := K.2.2.2.2.2.2.2.2.2.2.2.1
  obtain ⟨t, cell, c1, c2, c3, c4, c5, c6, c7⟩ := fx_cl0 hp0
  have ht0 : t < s0.heap.size := (Array.getElem?_eq_some_iff.mp c2).1
  have hsame : (Cond.sameMethod "[I" "java/lang/Object" "clone" "()Ljava/lang/Object;").before args s = true := hts _ (fg_c2 10 (by decide +kernel) (by decide +kernel))
  have hnat : (Cond.native ⟨"java/lang/Object", "clone", "()Ljava/lang/Object;"⟩).before args s = true := hts _ (fg_c2 11 (by decide +kernel) (by decide +kernel))
  have hinst : (Cond.instanceMethod ⟨"java/lang/Object", "clone", "()Ljava/lang/Object;"⟩).before args s = true := hts _ (fg_c2 12 (by decide +kernel) (by decide +kernel))
  have hsel : (Cond.selects "[I" ⟨"[I", "clone", "()Ljava/lang/Object;"⟩ ⟨"java/lang/Object", "clone", "()Ljava/lang/Object;"⟩).before args s = true := hts _ (fg_c2 13 (by decide +kernel) (by decide +kernel))
  have hlays : (Cond.laysStatic "CoatWorks$House" "UNTOLD_SETTING" "[I").before a0 s0 = true := hw0 _ (List.mem_of_getElem? (i := 358) (by decide +kernel))
  have hini : (Cond.initialized "CoatWorks$House").before a0 s0 = true := hw0 _ (List.mem_filter.mp kuX2).1
  have hz0 := va_Zof (A := A) hlays hini c1 (fun a ha => (hag0 a ha).1)
  have hz1 : va_Z "CoatWorks$House" "UNTOLD_SETTING" "[I" (.ref t) A s s.heap := va_Z.moved hW0.alike (hz0.kept (fun a ha _ => (hag0 a ha).2))
  have hz2 := (hSt 1 _ rfl).1
  have etA : t = ad0 4001 := by
    have := va_Z_one hz1 hz2
    exact Value.ref.inj this
  have eadA : ad 4001 = t := (h2 4001 (Or.inr (by omega))).trans etA.symm
  have hcl : va_Nw (.castable "[I" "java/lang/Cloneable") s := va_Nw.warmC hW0 (va_Nw.of rfl (hw0 _ (List.mem_of_getElem? (i := 364) (by decide +kernel))))
  obtain ⟨cI, cC, f1, f2, f3⟩ := Cond.castable_spec (va_Nw.use (A := args) rfl hcl)
  have hnm : s.vm.findClass "[I" = some (cy 0) := va_nm_int (hK.2 0 (cy 0, .int) rfl).2
  have hcls : s.vm.findClass "[I" = some cell.cls := by rw [hW0.alike.findClass]; exact c5
  have ecls : cell.cls = cy 0 := Option.some.inj (hcls.symm.trans hnm)
  cases hnm.symm.trans f1
  have hcell : H[t]? = some cell := by
    have e1 := (hag0 t ht0).2
    rw [c2] at e1
    rw [h8.2.1 t (Array.getElem?_eq_some_iff.mp e1).1 (hag0 t ht0).1]
    exact e1
  have hcellE : ({ cls := cell.cls, slots := cell.slots } : Cell) = vp_cell (cy 0) (4, .inl zset) := by
    rw [ecls]
    show ({ cls := cy 0, slots := cell.slots } : Cell) = arrV (cy 0) 4 (fun j => .int (zset j))
    unfold arrV
    congr 1
    apply Array.ext_getElem?
    intro i
    rcases Nat.lt_or_ge i 4 with q | q
    · rw [c7 i q]
      simp [q, zset]
    · rw [Array.getElem?_eq_none (by omega), Array.getElem?_eq_none (by simp; omega)]
  have hstk : ((Value.ref 4001 :: st).map (fv_v ad)) = .ref t :: st.map (fv_v ad) := by simp [fv_v, eadA]
  rw [hstk]
  intro T hT X
  obtain ⟨-, kA, hkA, comp, hkind⟩ := State.isArrayOf_alike X.warmed.alike ((hK.2 0 (cy 0, .int) rfl).1 0 (fun _ => .null))
  obtain ⟨-, kS, hkS, compS, hkindS⟩ := (hK.2 0 (cy 0, .int) rfl).1 0 (fun _ => .null)
  obtain ⟨vm', X', stp⟩ := X.cloneArray K.1 K.2.2.2.2.2.1 (hts _ hlink) hsame hnat hinst hsel (a := t) (cell := cell) (by rw [hT]; exact hcell) c3 c4 hcls f2 (by rw [ecls]; exact f3)
    (fun i v hv => by
      rw [ecls]
      have hk' : T.vm.classes[cy 0]? = some kA := hkA
      have hi : i < 4 := by rw [← c6]; exact (Array.getElem?_eq_some_iff.mp hv).1
      rw [c7 i hi] at hv
      cases hv
      simp [State.fitsSlot, State.slotType?, hk', hkind, fits])
    (g := F0 m pc ls (.ref t :: st.map (fv_v ad))) rfl (h9.1.trans K.2.2.1.symm) rfl (by rw [K.2.1]; exact hd) (by rw [hR]; exact hd2) (by rw [fx_cat, hR]; show 2 * 0 + _ + 14 ≤ 64 * d; omega) (by rw [hR]; exact hcs) (by rw [hR, c6]; exact hss) (hloader := by rw [ecls]; exact Vm.clonesLoader_of_array hkS hkindS)
  rw [hcellE, c6] at X'
  generalize hH1 : H.push (vp_cell (cy 0) (4, .inl zset)) = H1
  have e1 : H1[H.size]? = some (vp_cell (cy 0) (4, .inl zset)) := by rw [← hH1, Array.getElem?_push_size]
  have z1 : H1.size = H.size + 1 := by rw [← hH1, Array.size_push]
  have o1 : ∀ q : Nat, q < H.size → H1[q]? = H[q]? := fun q hq => by rw [← hH1, Array.getElem?_push, if_neg (Nat.ne_of_lt hq)]
  have hk : ∀ (k : Nat) (y : Nat × va_E), (fc_w ad cy μ)[k]? = some y → H1[y.1]? = H[y.1]? := fun k y hy => o1 y.1 ((h6 k y hy).lt)
  have g1 : va_P D vwCl (fc_w ad cy μ ++ [(H.size, .inl (cy 0, 4, .inl zset))]) H1 := (h6.kept hk).app (fun k y hy => by
      have hz : k < 1 := (List.getElem?_eq_some_iff.mp hy).1
      rw [show k = 0 by omega] at hy
      cases hy
      exact e1)
  have g2 : va_D A (fc_w ad cy μ ++ [(H.size, .inl (cy 0, 4, .inl zset))]) := h7.push h6 rfl (hA _ h8.1)
  have g3 : va_S A s.heap H1 locs := ⟨Nat.le_trans h8.1 (by omega), fun y y1 y2 => (o1 y (Nat.lt_of_lt_of_le y1 h8.1)).trans (h8.2.1 y y1 y2), h8.2.2⟩
  have hy : fc_e (va_up ad μ.1 H.size) cy (fm_nf μ (1, 4, []) zset) μ.1 = .inl (cy 0, 4, .inl zset) := by
    rw [fc_ei (n := 4) (fs := []) (by simp [fm_nf, va_up])]
    simp [fm_nf, va_up]
  have e2 := fm_nf_w (ad := ad) (cy := cy) (q := H.size) h3 hy
  rw [e2] at g1 g2
  have hag : ∀ k, k < μ.1 ∨ 4000 ≤ k → va_up ad μ.1 H.size k = ad k := fun k hk => fm_n_ag hk hn
  have go := kk p e R s m args below meth c D cy A ad0 n0 K H1 locs ls (va_up ad μ.1 H.size) (Nat.le_succ_of_le h1) (fun k hk => (hag k (hk.elim (fun z => Or.inl (Nat.lt_of_lt_of_le z h1)) Or.inr)).trans (h2 k hk)) (fm_n_ok (x := (1, 4, [])) h3 (fun f hf => by cases hf)) (fs_c (Or.inl (Nat.lt_succ_self _)) (fs_mono (Nat.le_succ _) (fs_t h4))) (fl_mono (Nat.le_succ _) h5) g1 g2 g3 (fl_ag hag h5 h9)
  rw [List.map_cons, fs_ag hag (fs_t h4)] at go
  have e3 : fv_v (va_up ad μ.1 H.size) (.ref μ.1) = .ref H.size := by simp [fv_v, va_up]
  rw [e3] at go
  obtain ⟨t2, b1, b2⟩ := go ((T.setVm vm').pushCell (vp_cell (cy 0) (4, .inl zset))) (by rw [← hH1, ← hT]; rfl) X'
  refine ⟨t2, stp t2 ?_, b2⟩
  rw [hcellE, hT]
  exact b1
theorem fw_castI {idx k n : Nat} {fs : List Nat} (hd : decode M.2.1 pc = .ok (.checkcast idx, 3)) (hlink : Cond.classLink M.1.cls idx "[I" ∈ fg_l) (hk : k < 4000) (hs : μ.2.1 k = (1, n, fs)) (kk : fwp l sC M d mc ms cells slots (pc + 3) loc (.ref k :: st) μ P) : fwp l sC M d mc ms cells slots pc loc (.ref k :: st) μ P := by
  intro p e R s m args below meth c D cy A ad0 n0 K H locs ls ad h1 h2 h3 h4 h5 h6 h7 h8 h9
  have hts := fun w (h : w ∈ fg_l) => K.2.2.2.2.2.2.2.1 w (List.mem_cons_of_mem _ h)
  have hk := fv_lt (fs_h h4) hk
  exact va_castA K.1 K.2.1 K.2.2.2.2.2.1 (hts _ hlink) h6 k (by rw [fc_at hk, fc_ei hs]) (va_nm_int (K.2.2.2.2.2.2.2.2.2.1.2 0 (cy 0, .int) rfl).2) hd (kk p e R s m args below meth c D cy A ad0 n0 K H locs ls ad h1 h2 h3 h4 h5 h6 h7 h8 h9)
end FST
