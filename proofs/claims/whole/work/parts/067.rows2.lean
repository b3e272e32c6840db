def fk_N (own : String) (idx : Nat) (y : MethodName) (cc : ByteArray) (n : Nat) (r : Option FieldType) : Prop := Cond.methodLink own idx y ∈ fg_l ∧ Cond.static y ∈ fg_l ∧ Cond.initialized "java/lang/Math" ∈ fg_l ∧ Cond.code y cc n r ∈ fg_l
def fk_Y (own : String) (idx : Nat) : Prop := Cond.methodLink own idx arraycopyName ∈ fg_l ∧ Cond.native arraycopyName ∈ fg_l ∧ Cond.static arraycopyName ∈ fg_l ∧ Cond.initialized "java/lang/System" ∈ fg_l
def fm_c (μ : fm_T) (k k0 sp dp n : Nat) : fm_T := (μ.1, μ.2.1, va_up μ.2.2.1 k (va_cpy (μ.2.2.1 k0) (μ.2.2.1 k) sp dp n), μ.2.2.2)
def fm_d (μ : fm_T) (k k0 sp dp n : Nat) : fm_T := (μ.1, μ.2.1, μ.2.2.1, va_up μ.2.2.2 k (va_cpy (μ.2.2.2 k0) (μ.2.2.2 k) sp dp n))
theorem fm_c_sh (μ : fm_T) (k k0 sp dp n : Nat) : (fm_c μ k k0 sp dp n).2.1 = μ.2.1 := by cases μ; rfl
theorem fm_d_sh (μ : fm_T) (k k0 sp dp n : Nat) : (fm_d μ k k0 sp dp n).2.1 = μ.2.1 := by cases μ; rfl
theorem fx_cat {rest : List Value} (ad : Nat → Nat) : ((rest.map (fv_v ad)).map fun v => v.category).sum = (rest.map fun v => v.category).sum := by
  rw [List.map_map, show ((fun v : Value => v.category) ∘ fv_v ad) = (fun v : Value => v.category) from funext fun v => fv_cat ad v]
section FR2
variable {l : Launch} {S : fs_T} {M : fy_T} {d mc ms cells slots pc : Nat} {loc : List (Option Value)} {st : List Value} {μ : fm_T} {P : Option Value → fm_T → Prop}
theorem fw_max {idx : Nat} {x y : Int32} (hd : decode M.2.1 pc = .ok (.invokestatic idx, 3)) (hN : fk_N M.1.cls idx Lib.Math.max.name Lib.Math.max.code 2 (some .int)) (hd2 : 1 ≤ d) (hcat : (st.map fun v => v.category).sum ≤ 8) (hcs : cells ≤ mc ∧ slots ≤ ms) (k : fwp l S M d mc ms cells slots (pc + 3) loc (.int (if x < y then y else x) :: st) μ P) : fwp l S M d mc ms cells slots pc loc (.int y :: .int x :: st) μ P := by
  intro p e R s m args below meth c D cy A ad0 n0 K H locs ls ad h1 h2 h3 h4 h5 h6 h7 h8 h9
  have hts := fun w (h : w ∈ fg_l) => K.2.2.2.2.2.2.2.1 w (List.mem_cons_of_mem _ h)
  have hR := K.2.2.2.2.2.2.2.2.2.2.2.2
  exact va_mmax K.1 K.2.1 (K.2.2.1.trans h9.1.symm) K.2.2.2.2.2.1 (hts _ hN.1) (hts _ hN.2.1) (hts _ hN.2.2.1) (hts _ hN.2.2.2) (by rw [hR]; exact hd2) (by rw [fx_cat, hR]; show _ ≤ 64 * d; omega) (by rw [hR]; exact hcs.1) (by rw [hR]; exact hcs.2) hd (k p e R s m args below meth c D cy A ad0 n0 K H locs ls ad h1 h2 h3 (fs_c trivial (fs_t (fs_t h4))) h5 h6 h7 h8 h9)
theorem fw_min {idx : Nat} {x y : Int32} (hd : decode M.2.1 pc = .ok (.invokestatic idx, 3)) (hN : fk_N M.1.cls idx Lib.Math.min.name Lib.Math.min.code 2 (some .int)) (hd2 : 1 ≤ d) (hcat : (st.map fun v => v.category).sum ≤ 8) (hcs : cells ≤ mc ∧ slots ≤ ms) (k : fwp l S M d mc ms cells slots (pc + 3) loc (.int (if y < x then y else x) :: st) μ P) : fwp l S M d mc ms cells slots pc loc (.int y :: .int x :: st) μ P := by
  intro p e R s m args below meth c D cy A ad0 n0 K H locs ls ad h1 h2 h3 h4 h5 h6 h7 h8 h9
  have hts := fun w (h : w ∈ fg_l) => K.2.2.2.2.2.2.2.1 w (List.mem_cons_of_mem _ h)
  have hR := K.2.2.2.2.2.2.2.2.2.2.2.2
  exact va_mmin K.1 K.2.1 (K.2.2.1.trans h9.1.symm) K.2.2.2.2.2.1 (hts _ hN.1) (hts _ hN.2.1) (hts _ hN.2.2.1) (hts _ hN.2.2.2) (by rw [hR]; exact hd2) (by rw [fx_cat, hR]; show _ ≤ 64 * d; omega) (by rw [hR]; exact hcs.1) (by rw [hR]; exact hcs.2) hd (k p e R s m args below meth c D cy A ad0 n0 K H locs ls ad h1 h2 h3 (fs_c trivial (fs_t (fs_t h4))) h5 h6 h7 h8 h9)
theorem fw_abs {idx : Nat} {x : Int32} (hd : decode M.2.1 pc = .ok (.invokestatic idx, 3)) (hN : fk_N M.1.cls idx Lib.Math.abs.name Lib.Math.abs.code 1 (some .int)) (hd2 : 1 ≤ d) (hcat : (st.map fun v => v.category).sum ≤ 8) (hcs : cells ≤ mc ∧ slots ≤ ms) (k : fwp l S M d mc ms cells slots (pc + 3) loc (.int (if 0 ≤ x then x else 0 - x) :: st) μ P) : fwp l S M d mc ms cells slots pc loc (.int x :: st) μ P := by
  intro p e R s m args below meth c D cy A ad0 n0 K H locs ls ad h1 h2 h3 h4 h5 h6 h7 h8 h9
  have hts := fun w (h : w ∈ fg_l) => K.2.2.2.2.2.2.2.1 w (List.mem_cons_of_mem _ h)
  have hR := K.2.2.2.2.2.2.2.2.2.2.2.2
  exact va_mabs K.1 K.2.1 (K.2.2.1.trans h9.1.symm) K.2.2.2.2.2.1 (hts _ hN.1) (hts _ hN.2.1) (hts _ hN.2.2.1) (hts _ hN.2.2.2) (by rw [hR]; exact hd2) (by rw [fx_cat, hR]; show _ ≤ 64 * d; omega) (by rw [hR]; exact hcs.1) (by rw [hR]; exact hcs.2) hd (k p e R s m args below meth c D cy A ad0 n0 K H locs ls ad h1 h2 h3 (fs_c trivial (fs_t h4)) h5 h6 h7 h8 h9)
theorem fw_maxL {idx : Nat} {x y : Int64} (hd : decode M.2.1 pc = .ok (.invokestatic idx, 3)) (hN : fk_N M.1.cls idx Lib.MathLoose.max_long.x Lib.MathLoose.max_long.code 4 (some .long)) (hd2 : 1 ≤ d) (hcat : (st.map fun v => v.category).sum ≤ 8) (hcs : cells ≤ mc ∧ slots ≤ ms) (k : fwp l S M d mc ms cells slots (pc + 3) loc (.long (if y < x then x else y) :: st) μ P) : fwp l S M d mc ms cells slots pc loc (.long y :: .long x :: st) μ P := by
  intro p e R s m args below meth c D cy A ad0 n0 K H locs ls ad h1 h2 h3 h4 h5 h6 h7 h8 h9
  have hts := fun w (h : w ∈ fg_l) => K.2.2.2.2.2.2.2.1 w (List.mem_cons_of_mem _ h)
  have hR := K.2.2.2.2.2.2.2.2.2.2.2.2
  exact va_mmax_long K.1 K.2.1 (K.2.2.1.trans h9.1.symm) K.2.2.2.2.2.1 (hts _ hN.1) (hts _ hN.2.1) (hts _ hN.2.2.1) (hts _ hN.2.2.2) (by rw [hR]; exact hd2) (by rw [fx_cat, hR]; show _ ≤ 64 * d; omega) (by rw [hR]; exact hcs.1) (by rw [hR]; exact hcs.2) hd (k p e R s m args below meth c D cy A ad0 n0 K H locs ls ad h1 h2 h3 (fs_c trivial (fs_t (fs_t h4))) h5 h6 h7 h8 h9)
theorem fm_c_o {k k0 sp dp n : Nat} (ad : Nat → Nat) (cy : Nat → ClassId) (a : Nat) (h : a ≠ k) : fc_e ad cy (fm_c μ k k0 sp dp n) a = fc_e ad cy μ a := fc_ecg rfl (by simp [fm_c, va_up, h]) rfl
theorem fw_copyi {idx k k0 n0 n1 t0 : Nat} {fs fs0 : List Nat} {sp dp n : Int32} (hd : decode M.2.1 pc = .ok (.invokestatic idx, 3)) (hY : fk_Y M.1.cls idx) (ht0 : S.1[t0]? = some (0, .int)) (hk : k < 4000) (hk0 : k0 < 4000) (hs : μ.2.1 k = (1, n1, fs)) (hs0 : μ.2.1 k0 = (1, n0, fs0)) (g1 : ¬ sp < 0) (g2 : ¬ dp < 0) (g3 : ¬ n < 0) (g4 : sp.toNatClampNeg + n.toNatClampNeg ≤ n0) (g5 : dp.toNatClampNeg + n.toNatClampNeg ≤ n1) (hd2 : 1 ≤ d) (hcat : (st.map fun v => v.category).sum ≤ 8) (kk : fwp l S M d mc ms cells slots (pc + 3) loc st (fm_c μ k k0 sp.toNatClampNeg dp.toNatClampNeg n.toNatClampNeg) P) : fwp l S M d mc ms cells slots pc loc (.int n :: .int dp :: .ref k :: .int sp :: .ref k0 :: st) μ P := by
  intro p e R s m args below meth c D cy A ad0 n9 K H locs ls ad h1 h2 h3 h4 h5 h6 h7 h8 h9
  have hts := fun w (h : w ∈ fg_l) => K.2.2.2.2.2.2.2.1 w (List.mem_cons_of_mem _ h)
  have hR := K.2.2.2.2.2.2.2.2.2.2.2.2
  have hk := fv_lt (fs_h (fs_t (fs_t h4))) hk
  have hk0 := fv_lt (fs_h (fs_t (fs_t (fs_t (fs_t h4))))) hk0
  have hnw : nativeFrameWords "java/lang/System" "arraycopy" 5 ≤ 40 := by decide +kernel
  have htt : (fx_t S cy)[t0]? = some (cy 0, .int) := by rw [fx_t, List.getElem?_map, ht0]; rfl
  refine va_copyi K.1 K.2.1 (K.2.2.1.trans h9.1.symm) K.2.2.2.2.2.1 (hts _ hY.1) (hts _ hY.2.1) (hts _ hY.2.2.1) (hts _ hY.2.2.2) K.2.2.2.2.2.2.2.2.2.1 h6 h7 h8 k0 k t0 t0 (by rw [fc_at hk0, fc_ei hs0]) (by rw [fc_at hk, fc_ei hs]) htt htt rfl g1 g2 g3 g4 g5 (fun _ _ => rfl) (by rw [hR]; exact hd2) (by rw [fx_cat, hR]; show _ ≤ 64 * d; omega) hd (fun H1 locs1 q1 q2 q3 => ?_)
  have e1 := fc_set (ad := ad) (cy := cy) (μ' := fm_c μ k k0 sp.toNatClampNeg dp.toNatClampNeg n.toNatClampNeg) (x := .inl (cy 0, n1, .inl (va_cpy (μ.2.2.1 k0) (μ.2.2.1 k) sp.toNatClampNeg dp.toNatClampNeg n.toNatClampNeg))) hk rfl ((fc_ei (μ := fm_c μ k k0 sp.toNatClampNeg dp.toNatClampNeg n.toNatClampNeg) hs).trans (by simp [fm_c, va_up])) (fm_c_o ad cy)
  rw [e1] at q1 q2
  exact kk p e R s m args below meth c D cy A ad0 n9 K H1 locs1 ls ad h1 h2 h3 (fs_t (fs_t (fs_t (fs_t (fs_t h4))))) h5 q1 q2 q3 h9
theorem fm_d_o {k k0 sp dp n : Nat} (ad : Nat → Nat) (cy : Nat → ClassId) (a : Nat) (h : a ≠ k) : fc_e ad cy (fm_d μ k k0 sp dp n) a = fc_e ad cy μ a := fc_ecg rfl rfl (by simp [fm_d, va_up, h])
theorem fw_copyl {idx k k0 n0 n1 t0 : Nat} {fs fs0 : List Nat} {sp dp n : Int32} (hd : decode M.2.1 pc = .ok (.invokestatic idx, 3)) (hY : fk_Y M.1.cls idx) (ht0 : S.1[t0]? = some (1, .long)) (hk : k < 4000) (hk0 : k0 < 4000) (hs : μ.2.1 k = (2, n1, fs)) (hs0 : μ.2.1 k0 = (2, n0, fs0)) (g1 : ¬ sp < 0) (g2 : ¬ dp < 0) (g3 : ¬ n < 0) (g4 : sp.toNatClampNeg + n.toNatClampNeg ≤ n0) (g5 : dp.toNatClampNeg + n.toNatClampNeg ≤ n1) (hd2 : 1 ≤ d) (hcat : (st.map fun v => v.category).sum ≤ 8) (kk : fwp l S M d mc ms cells slots (pc + 3) loc st (fm_d μ k k0 sp.toNatClampNeg dp.toNatClampNeg n.toNatClampNeg) P) : fwp l S M d mc ms cells slots pc loc (.int n :: .int dp :: .ref k :: .int sp :: .ref k0 :: st) μ P := by
  intro p e R s m args below meth c D cy A ad0 n9 K H locs ls ad h1 h2 h3 h4 h5 h6 h7 h8 h9
  have hts := fun w (h : w ∈ fg_l) => K.2.2.2.2.2.2.2.1 w (List.mem_cons_of_mem _ h)
  have hR := K.2.2.2.2.2.2.2.2.2.2.2.2
  have hk := fv_lt (fs_h (fs_t (fs_t h4))) hk
  have hk0 := fv_lt (fs_h (fs_t (fs_t (fs_t (fs_t h4))))) hk0
  have hnw : nativeFrameWords "java/lang/System" "arraycopy" 5 ≤ 40 := by decide +kernel
  have htt : (fx_t S cy)[t0]? = some (cy 1, .long) := by rw [fx_t, List.getElem?_map, ht0]; rfl
  refine va_copyl K.1 K.2.1 (K.2.2.1.trans h9.1.symm) K.2.2.2.2.2.1 (hts _ hY.1) (hts _ hY.2.1) (hts _ hY.2.2.1) (hts _ hY.2.2.2) K.2.2.2.2.2.2.2.2.2.1 h6 h7 h8 k0 k t0 t0 (by rw [fc_at hk0, fc_el hs0]) (by rw [fc_at hk, fc_el hs]) htt htt rfl g1 g2 g3 g4 g5 (fun _ _ => rfl) (by rw [hR]; exact hd2) (by rw [fx_cat, hR]; show _ ≤ 64 * d; omega) hd (fun H1 locs1 q1 q2 q3 => ?_)
  have e1 := fc_set (ad := ad) (cy := cy) (μ' := fm_d μ k k0 sp.toNatClampNeg dp.toNatClampNeg n.toNatClampNeg) (x := .inl (cy 1, n1, .inr (.inl (va_cpy (μ.2.2.2 k0) (μ.2.2.2 k) sp.toNatClampNeg dp.toNatClampNeg n.toNatClampNeg)))) hk rfl ((fc_el (μ := fm_d μ k k0 sp.toNatClampNeg dp.toNatClampNeg n.toNatClampNeg) hs).trans (by simp [fm_d, va_up])) (fm_d_o ad cy)
  rw [e1] at q1 q2
  exact kk p e R s m args below meth c D cy A ad0 n9 K H1 locs1 ls ad h1 h2 h3 (fs_t (fs_t (fs_t (fs_t (fs_t h4))))) h5 q1 q2 q3 h9
theorem fw_gets {idx j : Nat} {q : String × String × List Int32} (hd : decode M.2.1 pc = .ok (.getstatic idx, 3)) (hq : S.2[j]? = some q) (hw : Cond.fieldLink M.1.cls idx q.1 q.2.1 "[I" ∈ fg_l) (k : fwp l S M d mc ms cells slots (pc + 3) loc (.ref (4000 + j) :: st) μ P) : fwp l S M d mc ms cells slots pc loc st μ P := by
  intro p e R s m args below meth c D cy A ad0 n0 K H locs ls ad h1 h2 h3 h4 h5 h6 h7 h8 h9
  have hts := fun w (h : w ∈ fg_l) => K.2.2.2.2.2.2.2.1 w (List.mem_cons_of_mem _ h)
  have hR := K.2.2.2.2.2.2.2.2.2.2.2.2
  have hz := K.2.2.2.2.2.2.2.2.2.2.2.1.1 j q hq
  rw [← h2 (4000 + j) (Or.inr (by omega))] at hz
  exact va_gets K.1 K.2.1 hz.1 h8 K.2.2.2.2.2.1 (hts _ hw) (fun _ h => h) hd (k p e R s m args below meth c D cy A ad0 n0 K H locs ls ad h1 h2 h3 (fs_c (Or.inr (Nat.le_add_right _ _)) h4) h5 h6 h7 h8 h9)
theorem fw_sald {j : Nat} {i : Int32} {q : String × String × List Int32} (hd : decode M.2.1 pc = .ok (.iaload, 1)) (hq : S.2[j]? = some q) (hi : vp_in i q.2.2.length) (k : fwp l S M d mc ms cells slots (pc + 1) loc (.int (q.2.2.getD i.toNatClampNeg 0) :: st) μ P) : fwp l S M d mc ms cells slots pc loc (.int i :: .ref (4000 + j) :: st) μ P := by
  intro p e R s m args below meth c D cy A ad0 n0 K H locs ls ad h1 h2 h3 h4 h5 h6 h7 h8 h9
  have hz := K.2.2.2.2.2.2.2.2.2.2.2.1.1 j q hq
  rw [← h2 (4000 + j) (Or.inr (by omega))] at hz
  exact va_ti K.1 K.2.1 hz.2 h8 hi rfl hd (k p e R s m args below meth c D cy A ad0 n0 K H locs ls ad h1 h2 h3 (fs_c trivial (fs_t (fs_t h4))) h5 h6 h7 h8 h9)
theorem fw_slen {j : Nat} {v : Int32} {q : String × String × List Int32} (hd : decode M.2.1 pc = .ok (.arraylength, 1)) (hq : S.2[j]? = some q) (hv : Int32.ofNat q.2.2.length = v) (k : fwp l S M d mc ms cells slots (pc + 1) loc (.int v :: st) μ P) : fwp l S M d mc ms cells slots pc loc (.ref (4000 + j) :: st) μ P := by
  intro p e R s m args below meth c D cy A ad0 n0 K H locs ls ad h1 h2 h3 h4 h5 h6 h7 h8 h9
  have hz := K.2.2.2.2.2.2.2.2.2.2.2.1.1 j q hq
  rw [← h2 (4000 + j) (Or.inr (by omega))] at hz
  exact va_tlen K.1 K.2.1 hz.2 h8 hv hd (k p e R s m args below meth c D cy A ad0 n0 K H locs ls ad h1 h2 h3 (fs_c trivial (fs_t h4)) h5 h6 h7 h8 h9)
end FR2
def fm_s (μ : fm_T) (k : Nat) (L : List Int32) (sp dp n : Nat) : fm_T := (μ.1, μ.2.1, va_up μ.2.2.1 k (va_cpy (fun i => L.getD i 0) (μ.2.2.1 k) sp dp n), μ.2.2.2)
theorem fm_s_sh (μ : fm_T) (k : Nat) (L : List Int32) (sp dp n : Nat) : (fm_s μ k L sp dp n).2.1 = μ.2.1 := by cases μ; rfl
theorem fz_copyt {p : Program} {l : Launch} {e : Env} {R : Room} {s : State} {m : MethodId} {args : Array Value} {below : List Frame} {meth : Method} {c : Code} {H : Heap} {locs : List Loc} {cells slots : Nat} {Q : State → Prop} {cc : ByteArray} {pc : Nat} {ls : Array Slot} {rest : List Value} {D : va_G} {cl : List vw_C} {A : Nat → Prop} {a : Nat} {tys : List (ClassId × FieldType)} {ws : va_W}
    (hexec : p.tables.exec = Jvm.exec) (hb : c.code = cc) (hml : c.maxLocals = ls.size) {own : String} {index : Nat} (hown : s.vm.findClass own = some m.cls) (hlink : (Cond.methodLink own index arraycopyName).before args s = true) (hnat : (Cond.native arraycopyName).before args s = true) (hstat : (Cond.static arraycopyName).before args s = true) (hini : (Cond.initialized "java/lang/System").before args s = true)
    (hK : va_K D cl tys s) (hP : va_P D cl ws H) (hD : va_D A ws) (hS : va_S A s.heap H locs) {b0 n0 : Nat} {f : Nat → Int32} (hX : va_T .int b0 n0 (fun i => .int (f i)) A s s.heap) (q1 t1 : Nat) {c1 : ClassId} {n1 : Nat} {g : Nat → Int32} (ha1 : ws[q1]? = some (a, .inl (c1, n1, .inl g))) (ht1 : tys[t1]? = some (c1, .int))
    {sp dp n : Int32} (h1 : ¬ sp < 0) (h2 : ¬ dp < 0) (h3 : ¬ n < 0) (h4 : sp.toNatClampNeg + n.toNatClampNeg ≤ n0) (h5 : dp.toNatClampNeg + n.toNatClampNeg ≤ n1)
    (hframes : 1 ≤ R.frames) (hlocals : (rest.map fun v => v.category).sum + (nativeFrameWords "java/lang/System" "arraycopy" 5 + 11) ≤ R.locals) (hdg : decode cc pc = .ok (.invokestatic index, 3))
    (kk : ∀ (H1 : Heap) (locs1 : List Loc), va_P D cl (ws.set q1 (a, .inl (c1, n1, .inl (va_cpy f g sp.toNatClampNeg dp.toNatClampNeg n.toNatClampNeg)))) H1 → va_D A (ws.set q1 (a, .inl (c1, n1, .inl (va_cpy f g sp.toNatClampNeg dp.toNatClampNeg n.toNatClampNeg)))) → va_S A s.heap H1 locs1 → W p l e R s m args below meth c H1 locs1 cells slots Q (F0 m (pc + 3) ls rest)) : W p l e R s m args below meth c H locs cells slots Q (F0 m pc ls (.int n :: .int dp :: .ref a :: .int sp :: .ref b0 :: rest)) := by
  have nn : ∀ z : Int32, ¬ z < 0 → z.toInt = (z.toNatClampNeg : Int) := by
    intro z hz
    have hz0 : (0 : Int) ≤ z.toInt := by
      have := Int32.not_lt.mp hz
      simpa using Int32.le_iff_toInt_le.mp this
    show z.toInt = ((z.toInt.toNat : Nat) : Int)
    omega
  intro T hT X
  obtain ⟨scr, hs1, hs2, hs3, hsN, -, hs5, hbA⟩ := hX
  have hbl : b0 < s.heap.size := (Array.getElem?_eq_some_iff.mp hs1).1
  have hc0 : H[b0]? = some scr := by rw [hS.2.1 b0 hbl hbA]; exact hs1
  have hc1 : H[a]? = some (vp_cell c1 (n1, .inl g)) := hP q1 _ ha1
  obtain ⟨hs6, k0, hk0, cm0, hkk0⟩ := hs2
  obtain ⟨-, k1, hk1, cm1, hkk1⟩ := (hK.2 t1 _ ht1).1 n1 (fun j => .int (g j))
  obtain ⟨vm', X', step⟩ := X.arraycopy hexec hown hlink hnat hstat hini (src := b0) (dst := a) (cs := scr) (cd := vp_cell c1 (n1, .inl g)) (srcPos := sp) (destPos := dp) (n := n) (by rw [hT]; exact hc0) (by rw [hT]; exact hc1)
    hs6 (fun _ h => by cases h) hs3 (fun h => by cases h) hk0 hk1 hkk0 hkk1 (by simp [refKind]) h1 h2 h3
    (by rw [nn sp h1, nn n h3]; omega)
    (by rw [nn dp h2, nn n h3]; show ¬ _ > ((arrV c1 n1 (fun j => .int (g j))).slots.size : Int); rw [arrV_size]; omega)
    (fun vm₁ _ i hi => by
      have e : scr.slots.getD (sp.toNatClampNeg + i) .null = .int (f (sp.toNatClampNeg + i)) := by
        rw [Array.getD_eq_getD_getElem?, hs5 _ (by omega)]
        rfl
      refine ⟨?_, ?_⟩
      · rw [e]
        rfl
      · rw [e]
        exact trivial)
    (g := F0 m pc ls (.int n :: .int dp :: .ref a :: .int sp :: .ref b0 :: rest)) rfl (by rw [hml]) (rest := rest) rfl (by rw [hb]; exact hdg) hframes (by show 2 * 0 + _ + _ ≤ _; omega)
  have e1 : copied scr (vp_cell c1 (n1, .inl g)) sp dp n = vp_cell c1 (n1, .inl (va_cpy f g sp.toNatClampNeg dp.toNatClampNeg n.toNatClampNeg)) := va_copiedX (fun z => .int z) scr c1 f g hs5 h4
  rw [e1] at X' step
  have hl : a < H.size := (Array.getElem?_eq_some_iff.mp hc1).1
  have hheap : ((T.setVm vm').setCell a (vp_cell c1 (n1, .inl (va_cpy f g sp.toNatClampNeg dp.toNatClampNeg n.toNatClampNeg)))).heap = H.setIfInBounds a (vp_cell c1 (n1, .inl (va_cpy f g sp.toNatClampNeg dp.toNatClampNeg n.toNatClampNeg))) := by rw [← hT]; rfl
  have oq : ∀ q : Nat, q ≠ a → (H.setIfInBounds a (vp_cell c1 (n1, .inl (va_cpy f g sp.toNatClampNeg dp.toNatClampNeg n.toNatClampNeg))))[q]? = H[q]? := fun q hq => by simp [Array.getElem?_setIfInBounds, Ne.symm hq]
  obtain ⟨t, a1, b1⟩ := kk _ _ (hP.set hD ha1 (show (H.setIfInBounds a _)[a]? = some _ by simp [Array.getElem?_setIfInBounds, hl]) oq) (hD.set ha1) ⟨by simp; exact hS.1, fun q g1 g2 => by
      rw [oq q (fun e => g2 (by rw [e]; exact hD.2 q1 _ ha1))]
      exact hS.2.1 q g1 g2, fun q hq => by
      rcases List.mem_append.mp hq with h | h
      · exact hS.2.2 q h
      · obtain ⟨z, -, hz⟩ := List.mem_map.mp h
        rw [← hz]
        exact hD.2 q1 _ ha1⟩ _ hheap X'
  exact ⟨t, step t a1, b1⟩
section FR3
variable {l : Launch} {S : fs_T} {M : fy_T} {d mc ms cells slots pc : Nat} {loc : List (Option Value)} {st : List Value} {μ : fm_T} {P : Option Value → fm_T → Prop}
theorem fm_s_o {k sp dp n : Nat} {L : List Int32} (ad : Nat → Nat) (cy : Nat → ClassId) (a : Nat) (h : a ≠ k) : fc_e ad cy (fm_s μ k L sp dp n) a = fc_e ad cy μ a := fc_ecg rfl (by simp [fm_s, va_up, h]) rfl
theorem fw_copys {idx k j n1 t0 : Nat} {fs : List Nat} {q : String × String × List Int32} {sp dp n : Int32} (hd : decode M.2.1 pc = .ok (.invokestatic idx, 3)) (hY : fk_Y M.1.cls idx) (hq : S.2[j]? = some q) (ht0 : S.1[t0]? = some (0, .int)) (hk : k < 4000) (hs : μ.2.1 k = (1, n1, fs)) (g1 : ¬ sp < 0) (g2 : ¬ dp < 0) (g3 : ¬ n < 0) (g4 : sp.toNatClampNeg + n.toNatClampNeg ≤ q.2.2.length) (g5 : dp.toNatClampNeg + n.toNatClampNeg ≤ n1) (hd2 : 1 ≤ d) (hcat : (st.map fun v => v.category).sum ≤ 8) (kk : fwp l S M d mc ms cells slots (pc + 3) loc st (fm_s μ k q.2.2 sp.toNatClampNeg dp.toNatClampNeg n.toNatClampNeg) P) : fwp l S M d mc ms cells slots pc loc (.int n :: .int dp :: .ref k :: .int sp :: .ref (4000 + j) :: st) μ P := by
  intro p e R s m args below meth c D cy A ad0 n0 K H locs ls ad h1 h2 h3 h4 h5 h6 h7 h8 h9
  have hts := fun w (h : w ∈ fg_l) => K.2.2.2.2.2.2.2.1 w (List.mem_cons_of_mem _ h)
  have hR := K.2.2.2.2.2.2.2.2.2.2.2.2
  have hk := fv_lt (fs_h (fs_t (fs_t h4))) hk
  have hz := K.2.2.2.2.2.2.2.2.2.2.2.1.1 j q hq
  rw [← h2 (4000 + j) (Or.inr (by omega))] at hz
  have hnw : nativeFrameWords "java/lang/System" "arraycopy" 5 ≤ 40 := by decide +kernel
  have htt : (fx_t S cy)[t0]? = some (cy 0, .int) := by rw [fx_t, List.getElem?_map, ht0]; rfl
  refine fz_copyt K.1 K.2.1 (K.2.2.1.trans h9.1.symm) K.2.2.2.2.2.1 (hts _ hY.1) (hts _ hY.2.1) (hts _ hY.2.2.1) (hts _ hY.2.2.2) K.2.2.2.2.2.2.2.2.2.1 h6 h7 h8 (f := fun i => q.2.2.getD i 0) hz.2 k t0 (by rw [fc_at hk, fc_ei hs]) htt g1 g2 g3 g4 g5 (by rw [hR]; exact hd2) (by rw [fx_cat, hR]; show _ ≤ 64 * d; omega) hd (fun H1 locs1 q1 q2 q3 => ?_)
  have e1 := fc_set (ad := ad) (cy := cy) (μ' := fm_s μ k q.2.2 sp.toNatClampNeg dp.toNatClampNeg n.toNatClampNeg) (x := .inl (cy 0, n1, .inl (va_cpy (fun i => q.2.2.getD i 0) (μ.2.2.1 k) sp.toNatClampNeg dp.toNatClampNeg n.toNatClampNeg))) hk rfl ((fc_ei (μ := fm_s μ k q.2.2 sp.toNatClampNeg dp.toNatClampNeg n.toNatClampNeg) hs).trans (by simp [fm_s, va_up])) (fm_s_o ad cy)
  rw [e1] at q1 q2
  exact kk p e R s m args below meth c D cy A ad0 n0 K H1 locs1 ls ad h1 h2 h3 (fs_t (fs_t (fs_t (fs_t (fs_t h4))))) h5 q1 q2 q3 h9
end FR3
