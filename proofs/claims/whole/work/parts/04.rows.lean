def fg_l : List Cond := lw_tbl.filter goodWord
def fg_n (w : Cond) : Bool := match w with
  | .fieldLinkNest _ _ _ _ _ _ => true
  | .methodLinkNest _ _ _ _ => true
  | _ => false
def fg_h : List Cond := lw_tbl.filter fg_n
theorem fg_at {w : Cond} (i : Nat) (h : lw_tbl[i]? = some w) (hg : goodWord w = true) : w ∈ fg_l := List.mem_filter.mpr ⟨List.mem_of_getElem? h, hg⟩
theorem fg_ah {w : Cond} (i : Nat) (h : lw_tbl[i]? = some w) (hg : fg_n w = true) : w ∈ fg_h := List.mem_filter.mpr ⟨List.mem_of_getElem? h, hg⟩
def fx_T (M : fy_T) : List Cond := Cond.code M.1 M.2.1 M.2.2.1 M.2.2.2 :: fg_l
theorem fg_nw {w : Cond} (h : w ∈ fg_h) {s U : State} (hW : s.WarmedH U.vm) (hZ : va_Nw w s) : va_Nw w U := by
  have hg := (List.mem_filter.mp h).2
  cases w <;> first | (cases hg; done) | exact va_Nw.warmF hW hZ | exact va_Nw.warmM hW hZ
theorem fg_ns {w : Cond} (h : w ∈ fg_h) {s U : State} (hW : s.vm = U.vm) (hZ : va_Nw w s) : va_Nw w U := by
  have hg := (List.mem_filter.mp h).2
  cases w <;> first | (cases hg; done) | exact va_Nw.same rfl hW hZ
def fx_R (d mc ms : Nat) : Room := { frames := d, cells := mc, slots := ms, locals := 64 * d }
def fx_0 (ad : Nat → Nat) (s0 : State) (a0 : Array Value) : Prop := (∀ w ∈ lw_tbl, w.before a0 s0 = true) ∧ (Jvm.Cond.and given_1 narrow_1).before a0 s0 = true ∧ (Term.string "CoatWorks$Tape" 11).eval a0 s0 none [] s0 = some (.ref (ad 4010)) ∧ (Term.field (.string "CoatWorks$Tape" 11) "java/lang/String" "value" "[B").eval a0 s0 none [] s0 = some (.ref (ad 4011)) ∧ (Term.string "CoatWorks" 166).eval a0 s0 none [] s0 = some (.ref (ad 4012)) ∧ (Term.string "CoatWorks" 360).eval a0 s0 none [] s0 = some (.ref (ad 4013)) ∧ ((Term.static "jdk/internal/util/Preconditions" "SIOOBE_FORMATTER" "Ljava/util/function/BiFunction;").eval a0 s0 none [] s0 = some .null ∨ (Term.static "jdk/internal/util/Preconditions" "SIOOBE_FORMATTER" "Ljava/util/function/BiFunction;").eval a0 s0 none [] s0 = some (.ref (ad 4014)))
def fx_V (ad : Nat → Nat) (A : Nat → Prop) (U : State) (H : Heap) : Prop := ∃ (s0 : State) (a0 : Array Value), fx_0 ad s0 a0 ∧ s0.WarmedH U.vm ∧ ∀ a : Nat, a < s0.heap.size → ¬ A a ∧ H[a]? = s0.heap[a]?
def fx_S (S : fs_T) (A : Nat → Prop) (ad : Nat → Nat) (U : State) (H : Heap) : Prop := (∀ (j : Nat) (q : String × String × List Int32), S.2[j]? = some q → va_Z q.1 q.2.1 "[I" (.ref (ad (4000 + j))) A U H ∧ va_T .int (ad (4000 + j)) q.2.2.length (fun i => .int (q.2.2.getD i 0)) A U H) ∧ fx_V ad A U H
def fx_t (S : fs_T) (cy : Nat → ClassId) : List (ClassId × FieldType) := S.1.map (fun q => (cy q.1, q.2))
def fx_K (p : Program) (R : Room) (s : State) (m : MethodId) (args : Array Value) (meth : Method) (c : Code) (S : fs_T) (M : fy_T) (d mc ms : Nat) (D : va_G) (cy : Nat → ClassId) (A : Nat → Prop) (ad0 : Nat → Nat) : Prop :=
  p.tables.exec = Jvm.exec ∧ c.code = M.2.1 ∧ c.maxLocals = M.2.2.1 ∧ meth.sig.returnType = M.2.2.2 ∧ meth.locks = false ∧ s.vm.findClass M.1.cls = some m.cls ∧ meth.name = M.1.name ∧ (∀ w ∈ fx_T M, w.before args s = true) ∧ (∀ w ∈ fg_h, va_Nw w s) ∧ va_K D vwCl (fx_t S cy) s ∧ (∀ q, s.heap.size ≤ q → A q) ∧ fx_S S A ad0 s s.heap ∧ R = fx_R d mc ms
def fx_Q (P : Option Value → fm_T → Prop) (D : va_G) (cy : Nat → ClassId) (A : Nat → Prop) (ad0 : Nat → Nat) (n0 : Nat) : Array Value → State → Outcome → State → Prop := fun _ st oc t => (∃ (v : Option Value) (μ : fm_T) (ad : Nat → Nat), oc = .returned (v.map (fv_v ad)) ∧ P v μ ∧ n0 ≤ μ.1 ∧ (∀ k, k < n0 ∨ 4000 ≤ k → ad k = ad0 k) ∧ fm_ok μ ∧ (∀ x, v = some x → fv_ok μ.1 x) ∧ va_P D vwCl (fc_w ad cy μ) t.heap ∧ va_D A (fc_w ad cy μ)) ∧ va_F A st t
def fwp (l : Launch) (S : fs_T) (M : fy_T) (d mc ms cells slots pc : Nat) (loc : List (Option Value)) (st : List Value) (μ : fm_T) (P : Option Value → fm_T → Prop) : Prop :=
  ∀ (p : Program) (e : Env) (R : Room) (s : State) (m : MethodId) (args : Array Value) (below : List Frame) (meth : Method) (c : Code) (D : va_G) (cy : Nat → ClassId) (A : Nat → Prop) (ad0 : Nat → Nat) (n0 : Nat), fx_K p R s m args meth c S M d mc ms D cy A ad0 →
  ∀ (H : Heap) (locs : List Loc) (ls : Array Slot) (ad : Nat → Nat), n0 ≤ μ.1 → (∀ k, k < n0 ∨ 4000 ≤ k → ad k = ad0 k) → fm_ok μ → fs_ok μ.1 st → fl_ok μ.1 loc → va_P D vwCl (fc_w ad cy μ) H → va_D A (fc_w ad cy μ) → va_S A s.heap H locs → fl_has ad ls M.2.2.1 loc →
    W p l e R s m args below meth c H locs cells slots (MQ below (fx_Q P D cy A ad0 n0) args s mc ms A) (F0 m pc ls (st.map (fv_v ad)))
section FROWS
variable {l : Launch} {S : fs_T} {M : fy_T} {d mc ms cells slots pc : Nat} {loc : List (Option Value)} {st : List Value} {μ : fm_T} {P : Option Value → fm_T → Prop}
theorem fw_mono {P' : Option Value → fm_T → Prop} (h : fwp l S M d mc ms cells slots pc loc st μ P) (hP : ∀ v μ, P v μ → P' v μ) : fwp l S M d mc ms cells slots pc loc st μ P' := by
  intro p e R s m args below meth c D cy A ad0 n0 K H locs ls ad h1 h2 h3 h4 h5 h6 h7 h8 h9 T hT X
  obtain ⟨t, a, o, b1, b2, ⟨⟨v, μ', ad', c1, c2, c3⟩, c4⟩, b4⟩ := h p e R s m args below meth c D cy A ad0 n0 K H locs ls ad h1 h2 h3 h4 h5 h6 h7 h8 h9 T hT X
  exact ⟨t, a, o, b1, b2, ⟨⟨v, μ', ad', c1, hP _ _ c2, c3⟩, c4⟩, b4⟩
def fl_fg : List Bool → List (Option Value) → List (Option Value)
  | _, [] => []
  | [], l => l
  | true :: b, _ :: l => none :: fl_fg b l
  | false :: b, o :: l => o :: fl_fg b l
theorem fl_fg_get : ∀ (b : List Bool) (loc : List (Option Value)) (i : Nat) (v : Value), (fl_fg b loc)[i]? = some (some v) → loc[i]? = some (some v)
  | [], [], i, v, h => h
  | _ :: _, [], i, v, h => by simp [fl_fg] at h
  | [], a :: l, i, v, h => by simpa [fl_fg] using h
  | true :: b, a :: l, i, v, h => by
    cases i with
    | zero => simp [fl_fg] at h
    | succ i => simp [fl_fg] at h; simpa using fl_fg_get b l i v h
  | false :: b, a :: l, i, v, h => by
    cases i with
    | zero => simpa [fl_fg] using h
    | succ i => simp [fl_fg] at h; simpa using fl_fg_get b l i v h
theorem fw_fg (b : List Bool) {loc' : List (Option Value)} (hb : fl_fg b loc = loc') (k : fwp l S M d mc ms cells slots pc loc' st μ P) : fwp l S M d mc ms cells slots pc loc st μ P := by
  subst hb
  intro p e R s m args below meth c D cy A ad0 n0 K H locs ls ad h1 h2 h3 h4 h5 h6 h7 h8 h9
  exact k p e R s m args below meth c D cy A ad0 n0 K H locs ls ad h1 h2 h3 h4 (fun i v h => h5 i v (fl_fg_get _ _ _ _ h)) h6 h7 h8 ⟨h9.1, h9.2.1, fun i v h => h9.2.2 i v (fl_fg_get _ _ _ _ h)⟩

theorem fw_iconst {n : Int} {v : Int32} (hd : decode M.2.1 pc = .ok (.iconst n, 1)) (hv : Int32.ofInt n = v) (k : fwp l S M d mc ms cells slots (pc + 1) loc (.int v :: st) μ P) : fwp l S M d mc ms cells slots pc loc st μ P := by
  intro p e R s m args below meth c D cy A ad0 n0 K H locs ls ad h1 h2 h3 h4 h5 h6 h7 h8 h9
  exact lv_iconst K.1 K.2.1 hd hv (k p e R s m args below meth c D cy A ad0 n0 K H locs ls ad h1 h2 h3 (fs_c trivial h4) h5 h6 h7 h8 h9)
theorem fw_bipush {n : Int} {v : Int32} (hd : decode M.2.1 pc = .ok (.bipush n, 2)) (hv : (Int8.ofInt n).toInt32 = v) (k : fwp l S M d mc ms cells slots (pc + 2) loc (.int v :: st) μ P) : fwp l S M d mc ms cells slots pc loc st μ P := by
  intro p e R s m args below meth c D cy A ad0 n0 K H locs ls ad h1 h2 h3 h4 h5 h6 h7 h8 h9
  exact lv_bipush K.1 K.2.1 hd hv (k p e R s m args below meth c D cy A ad0 n0 K H locs ls ad h1 h2 h3 (fs_c trivial h4) h5 h6 h7 h8 h9)
theorem fw_sipush {n : Int} {v : Int32} (hd : decode M.2.1 pc = .ok (.sipush n, 3)) (hv : (Int16.ofInt n).toInt32 = v) (k : fwp l S M d mc ms cells slots (pc + 3) loc (.int v :: st) μ P) : fwp l S M d mc ms cells slots pc loc st μ P := by
  intro p e R s m args below meth c D cy A ad0 n0 K H locs ls ad h1 h2 h3 h4 h5 h6 h7 h8 h9
  exact lv_sipush K.1 K.2.1 hd hv (k p e R s m args below meth c D cy A ad0 n0 K H locs ls ad h1 h2 h3 (fs_c trivial h4) h5 h6 h7 h8 h9)
theorem fw_lconst {n : Fin 2} {v : Int64} (hd : decode M.2.1 pc = .ok (.lconst n, 1)) (hv : Int64.ofNat (n : Nat) = v) (k : fwp l S M d mc ms cells slots (pc + 1) loc (.long v :: st) μ P) : fwp l S M d mc ms cells slots pc loc st μ P := by
  intro p e R s m args below meth c D cy A ad0 n0 K H locs ls ad h1 h2 h3 h4 h5 h6 h7 h8 h9
  exact lv_lconst K.1 K.2.1 hd hv (k p e R s m args below meth c D cy A ad0 n0 K H locs ls ad h1 h2 h3 (fs_c trivial h4) h5 h6 h7 h8 h9)
theorem fw_ldc2 {i : Nat} {v : Int64} (hd : decode M.2.1 pc = .ok (.ldc2_w i, 3)) (hw : Cond.constantLong M.1.cls i v ∈ fg_l) (k : fwp l S M d mc ms cells slots (pc + 3) loc (.long v :: st) μ P) : fwp l S M d mc ms cells slots pc loc st μ P := by
  intro p e R s m args below meth c D cy A ad0 n0 K H locs ls ad h1 h2 h3 h4 h5 h6 h7 h8 h9
  exact lv_ldc2 K.1 K.2.1 K.2.2.2.2.2.1 (K.2.2.2.2.2.2.2.1 _ (List.mem_cons_of_mem _ hw)) hd (k p e R s m args below meth c D cy A ad0 n0 K H locs ls ad h1 h2 h3 (fs_c trivial h4) h5 h6 h7 h8 h9)
theorem fw_ldcw {i : Nat} {v : Int32} (hd : decode M.2.1 pc = .ok (.ldc_w i, 3)) (hw : Cond.constant M.1.cls i v ∈ fg_l) (k : fwp l S M d mc ms cells slots (pc + 3) loc (.int v :: st) μ P) : fwp l S M d mc ms cells slots pc loc st μ P := by
  intro p e R s m args below meth c D cy A ad0 n0 K H locs ls ad h1 h2 h3 h4 h5 h6 h7 h8 h9
  exact lv_ldcw K.1 K.2.1 K.2.2.2.2.2.1 (K.2.2.2.2.2.2.2.1 _ (List.mem_cons_of_mem _ hw)) hd (k p e R s m args below meth c D cy A ad0 n0 K H locs ls ad h1 h2 h3 (fs_c trivial h4) h5 h6 h7 h8 h9)
theorem fw_ldc {i : Nat} {v : Int32} (hd : decode M.2.1 pc = .ok (.ldc i, 2)) (hw : Cond.constant M.1.cls i v ∈ fg_l) (k : fwp l S M d mc ms cells slots (pc + 2) loc (.int v :: st) μ P) : fwp l S M d mc ms cells slots pc loc st μ P := by
  intro p e R s m args below meth c D cy A ad0 n0 K H locs ls ad h1 h2 h3 h4 h5 h6 h7 h8 h9
  exact lv_ldc K.1 K.2.1 K.2.2.2.2.2.1 (K.2.2.2.2.2.2.2.1 _ (List.mem_cons_of_mem _ hw)) hd (k p e R s m args below meth c D cy A ad0 n0 K H locs ls ad h1 h2 h3 (fs_c trivial h4) h5 h6 h7 h8 h9)
theorem fw_iload_n {k0 : Fin 4} {i : Nat} {x : Int32} (hd : decode M.2.1 pc = .ok (.iload_n k0, 1)) (hi : (k0 : Nat) = i) (hl : loc[i]? = some (some (.int x))) (k : fwp l S M d mc ms cells slots (pc + 1) loc (.int x :: st) μ P) : fwp l S M d mc ms cells slots pc loc st μ P := by
  intro p e R s m args below meth c D cy A ad0 n0 K H locs ls ad h1 h2 h3 h4 h5 h6 h7 h8 h9
  exact lv_iload_n K.1 K.2.1 hd hi (h9.2.2 _ _ hl) (k p e R s m args below meth c D cy A ad0 n0 K H locs ls ad h1 h2 h3 (fs_c (trivial) h4) h5 h6 h7 h8 h9)
theorem fw_iload {i : Nat} {x : Int32} (hd : decode M.2.1 pc = .ok (.iload i, 2)) (hl : loc[i]? = some (some (.int x))) (k : fwp l S M d mc ms cells slots (pc + 2) loc (.int x :: st) μ P) : fwp l S M d mc ms cells slots pc loc st μ P := by
  intro p e R s m args below meth c D cy A ad0 n0 K H locs ls ad h1 h2 h3 h4 h5 h6 h7 h8 h9
  exact lv_iload K.1 K.2.1 hd (h9.2.2 _ _ hl) (k p e R s m args below meth c D cy A ad0 n0 K H locs ls ad h1 h2 h3 (fs_c (trivial) h4) h5 h6 h7 h8 h9)
theorem fw_lload_n {k0 : Fin 4} {i : Nat} {x : Int64} (hd : decode M.2.1 pc = .ok (.lload_n k0, 1)) (hi : (k0 : Nat) = i) (hl : loc[i]? = some (some (.long x))) (k : fwp l S M d mc ms cells slots (pc + 1) loc (.long x :: st) μ P) : fwp l S M d mc ms cells slots pc loc st μ P := by
  intro p e R s m args below meth c D cy A ad0 n0 K H locs ls ad h1 h2 h3 h4 h5 h6 h7 h8 h9
  exact lv_lload_n K.1 K.2.1 hd hi (h9.2.2 _ _ hl) (k p e R s m args below meth c D cy A ad0 n0 K H locs ls ad h1 h2 h3 (fs_c (trivial) h4) h5 h6 h7 h8 h9)
theorem fw_lload {i : Nat} {x : Int64} (hd : decode M.2.1 pc = .ok (.lload i, 2)) (hl : loc[i]? = some (some (.long x))) (k : fwp l S M d mc ms cells slots (pc + 2) loc (.long x :: st) μ P) : fwp l S M d mc ms cells slots pc loc st μ P := by
  intro p e R s m args below meth c D cy A ad0 n0 K H locs ls ad h1 h2 h3 h4 h5 h6 h7 h8 h9
  exact lv_lload K.1 K.2.1 hd (h9.2.2 _ _ hl) (k p e R s m args below meth c D cy A ad0 n0 K H locs ls ad h1 h2 h3 (fs_c (trivial) h4) h5 h6 h7 h8 h9)
theorem fw_aload_n {k0 : Fin 4} {i : Nat} {x : Nat} (hd : decode M.2.1 pc = .ok (.aload_n k0, 1)) (hi : (k0 : Nat) = i) (hl : loc[i]? = some (some (.ref x))) (k : fwp l S M d mc ms cells slots (pc + 1) loc (.ref x :: st) μ P) : fwp l S M d mc ms cells slots pc loc st μ P := by
  intro p e R s m args below meth c D cy A ad0 n0 K H locs ls ad h1 h2 h3 h4 h5 h6 h7 h8 h9
  exact lv_aload_n K.1 K.2.1 hd hi (h9.2.2 _ _ hl) (k p e R s m args below meth c D cy A ad0 n0 K H locs ls ad h1 h2 h3 (fs_c (h5 _ _ hl) h4) h5 h6 h7 h8 h9)
theorem fw_aload {i : Nat} {x : Nat} (hd : decode M.2.1 pc = .ok (.aload i, 2)) (hl : loc[i]? = some (some (.ref x))) (k : fwp l S M d mc ms cells slots (pc + 2) loc (.ref x :: st) μ P) : fwp l S M d mc ms cells slots pc loc st μ P := by
  intro p e R s m args below meth c D cy A ad0 n0 K H locs ls ad h1 h2 h3 h4 h5 h6 h7 h8 h9
  exact lv_aload K.1 K.2.1 hd (h9.2.2 _ _ hl) (k p e R s m args below meth c D cy A ad0 n0 K H locs ls ad h1 h2 h3 (fs_c (h5 _ _ hl) h4) h5 h6 h7 h8 h9)
theorem fw_istore_n {k0 : Fin 4} {i : Nat} {x : Int32} {loc' : List (Option Value)} (hd : decode M.2.1 pc = .ok (.istore_n k0, 1)) (hi : (k0 : Nat) = i) (hn : i < M.2.2.1) (hl : fl_set loc i (.int x) = loc') (k : fwp l S M d mc ms cells slots (pc + 1) loc' st μ P) : fwp l S M d mc ms cells slots pc loc (.int x :: st) μ P := by
  intro p e R s m args below meth c D cy A ad0 n0 K H locs ls ad h1 h2 h3 h4 h5 h6 h7 h8 h9
  exact lv_istore_n K.1 K.2.1 hd hi (fl_lv h9) hn rfl (fun ls' hls => k p e R s m args below meth c D cy A ad0 n0 K H locs ls' ad h1 h2 h3 (fs_t h4) (fl_so hl (fs_h h4) h5) h6 h7 h8 (fl_st hl hls))
theorem fw_istore {i : Nat} {x : Int32} {loc' : List (Option Value)} (hd : decode M.2.1 pc = .ok (.istore i, 2)) (hn : i < M.2.2.1) (hl : fl_set loc i (.int x) = loc') (k : fwp l S M d mc ms cells slots (pc + 2) loc' st μ P) : fwp l S M d mc ms cells slots pc loc (.int x :: st) μ P := by
  intro p e R s m args below meth c D cy A ad0 n0 K H locs ls ad h1 h2 h3 h4 h5 h6 h7 h8 h9
  exact lv_istore K.1 K.2.1 hd (fl_lv h9) hn rfl (fun ls' hls => k p e R s m args below meth c D cy A ad0 n0 K H locs ls' ad h1 h2 h3 (fs_t h4) (fl_so hl (fs_h h4) h5) h6 h7 h8 (fl_st hl hls))
theorem fw_lstore_n {k0 : Fin 4} {i : Nat} {x : Int64} {loc' : List (Option Value)} (hd : decode M.2.1 pc = .ok (.lstore_n k0, 1)) (hi : (k0 : Nat) = i) (hn : i + 1 < M.2.2.1) (hl : fl_set2 loc i (.long x) = loc') (k : fwp l S M d mc ms cells slots (pc + 1) loc' st μ P) : fwp l S M d mc ms cells slots pc loc (.long x :: st) μ P := by
  intro p e R s m args below meth c D cy A ad0 n0 K H locs ls ad h1 h2 h3 h4 h5 h6 h7 h8 h9
  exact lv_lstore_n K.1 K.2.1 hd hi (fl_lv h9) hn rfl (fun ls' hls => k p e R s m args below meth c D cy A ad0 n0 K H locs ls' ad h1 h2 h3 (fs_t h4) (fl_so2 hl (fs_h h4) h5) h6 h7 h8 (fl_st2 hl hls))
theorem fw_lstore {i : Nat} {x : Int64} {loc' : List (Option Value)} (hd : decode M.2.1 pc = .ok (.lstore i, 2)) (hn : i + 1 < M.2.2.1) (hl : fl_set2 loc i (.long x) = loc') (k : fwp l S M d mc ms cells slots (pc + 2) loc' st μ P) : fwp l S M d mc ms cells slots pc loc (.long x :: st) μ P := by
  intro p e R s m args below meth c D cy A ad0 n0 K H locs ls ad h1 h2 h3 h4 h5 h6 h7 h8 h9
  exact lv_lstore K.1 K.2.1 hd (fl_lv h9) hn rfl (fun ls' hls => k p e R s m args below meth c D cy A ad0 n0 K H locs ls' ad h1 h2 h3 (fs_t h4) (fl_so2 hl (fs_h h4) h5) h6 h7 h8 (fl_st2 hl hls))
theorem fw_astore_n {k0 : Fin 4} {i : Nat} {x : Nat} {loc' : List (Option Value)} (hd : decode M.2.1 pc = .ok (.astore_n k0, 1)) (hi : (k0 : Nat) = i) (hn : i < M.2.2.1) (hl : fl_set loc i (.ref x) = loc') (k : fwp l S M d mc ms cells slots (pc + 1) loc' st μ P) : fwp l S M d mc ms cells slots pc loc (.ref x :: st) μ P := by
  intro p e R s m args below meth c D cy A ad0 n0 K H locs ls ad h1 h2 h3 h4 h5 h6 h7 h8 h9
  exact lv_astore_n K.1 K.2.1 hd hi (fl_lv h9) hn rfl (fun ls' hls => k p e R s m args below meth c D cy A ad0 n0 K H locs ls' ad h1 h2 h3 (fs_t h4) (fl_so hl (fs_h h4) h5) h6 h7 h8 (fl_st hl hls))
theorem fw_astore {i : Nat} {x : Nat} {loc' : List (Option Value)} (hd : decode M.2.1 pc = .ok (.astore i, 2)) (hn : i < M.2.2.1) (hl : fl_set loc i (.ref x) = loc') (k : fwp l S M d mc ms cells slots (pc + 2) loc' st μ P) : fwp l S M d mc ms cells slots pc loc (.ref x :: st) μ P := by
  intro p e R s m args below meth c D cy A ad0 n0 K H locs ls ad h1 h2 h3 h4 h5 h6 h7 h8 h9
  exact lv_astore K.1 K.2.1 hd (fl_lv h9) hn rfl (fun ls' hls => k p e R s m args below meth c D cy A ad0 n0 K H locs ls' ad h1 h2 h3 (fs_t h4) (fl_so hl (fs_h h4) h5) h6 h7 h8 (fl_st hl hls))
theorem fw_iinc {i : Nat} {n : Int} {x v : Int32} {loc' : List (Option Value)} (hd : decode M.2.1 pc = .ok (.iinc i n, 3)) (hn : i < M.2.2.1) (hg : loc[i]? = some (some (.int x))) (hv : x + Int32.ofInt n = v) (hl : fl_set loc i (.int v) = loc') (k : fwp l S M d mc ms cells slots (pc + 3) loc' st μ P) : fwp l S M d mc ms cells slots pc loc st μ P := by
  intro p e R s m args below meth c D cy A ad0 n0 K H locs ls ad h1 h2 h3 h4 h5 h6 h7 h8 h9
  obtain ⟨j, hj⟩ := List.getElem?_of_mem ((fl_ps_mem ad loc 0 (i, .int x)).mpr ⟨i, .int x, hg, by simp [fv_v]⟩)
  exact lv_iinc K.1 K.2.1 hd (fl_lv h9) hj hv hn rfl (fun ls' hls => k p e R s m args below meth c D cy A ad0 n0 K H locs ls' ad h1 h2 h3 h4 (fl_so hl trivial h5) h6 h7 h8 (fl_st hl hls))
theorem fw_iadd {x y : Int32} (hd : decode M.2.1 pc = .ok (.iadd, 1)) (k : fwp l S M d mc ms cells slots (pc + 1) loc (.int (x + y) :: st) μ P) : fwp l S M d mc ms cells slots pc loc (.int y :: .int x :: st) μ P := by
  intro p e R s m args below meth c D cy A ad0 n0 K H locs ls ad h1 h2 h3 h4 h5 h6 h7 h8 h9
  exact lv_iadd K.1 K.2.1 hd (k p e R s m args below meth c D cy A ad0 n0 K H locs ls ad h1 h2 h3 (fs_c trivial (fs_t (fs_t h4))) h5 h6 h7 h8 h9)
theorem fw_isub {x y : Int32} (hd : decode M.2.1 pc = .ok (.isub, 1)) (k : fwp l S M d mc ms cells slots (pc + 1) loc (.int (x - y) :: st) μ P) : fwp l S M d mc ms cells slots pc loc (.int y :: .int x :: st) μ P := by
  intro p e R s m args below meth c D cy A ad0 n0 K H locs ls ad h1 h2 h3 h4 h5 h6 h7 h8 h9
  exact lv_isub K.1 K.2.1 hd (k p e R s m args below meth c D cy A ad0 n0 K H locs ls ad h1 h2 h3 (fs_c trivial (fs_t (fs_t h4))) h5 h6 h7 h8 h9)
theorem fw_imul {x y : Int32} (hd : decode M.2.1 pc = .ok (.imul, 1)) (k : fwp l S M d mc ms cells slots (pc + 1) loc (.int (x * y) :: st) μ P) : fwp l S M d mc ms cells slots pc loc (.int y :: .int x :: st) μ P := by
  intro p e R s m args below meth c D cy A ad0 n0 K H locs ls ad h1 h2 h3 h4 h5 h6 h7 h8 h9
  exact lv_imul K.1 K.2.1 hd (k p e R s m args below meth c D cy A ad0 n0 K H locs ls ad h1 h2 h3 (fs_c trivial (fs_t (fs_t h4))) h5 h6 h7 h8 h9)
theorem fw_iand {x y : Int32} (hd : decode M.2.1 pc = .ok (.iand, 1)) (k : fwp l S M d mc ms cells slots (pc + 1) loc (.int (x &&& y) :: st) μ P) : fwp l S M d mc ms cells slots pc loc (.int y :: .int x :: st) μ P := by
  intro p e R s m args below meth c D cy A ad0 n0 K H locs ls ad h1 h2 h3 h4 h5 h6 h7 h8 h9
  exact lv_iand K.1 K.2.1 hd (k p e R s m args below meth c D cy A ad0 n0 K H locs ls ad h1 h2 h3 (fs_c trivial (fs_t (fs_t h4))) h5 h6 h7 h8 h9)
theorem fw_ior {x y : Int32} (hd : decode M.2.1 pc = .ok (.ior, 1)) (k : fwp l S M d mc ms cells slots (pc + 1) loc (.int (x ||| y) :: st) μ P) : fwp l S M d mc ms cells slots pc loc (.int y :: .int x :: st) μ P := by
  intro p e R s m args below meth c D cy A ad0 n0 K H locs ls ad h1 h2 h3 h4 h5 h6 h7 h8 h9
  exact lv_ior K.1 K.2.1 hd (k p e R s m args below meth c D cy A ad0 n0 K H locs ls ad h1 h2 h3 (fs_c trivial (fs_t (fs_t h4))) h5 h6 h7 h8 h9)
theorem fw_ixor {x y : Int32} (hd : decode M.2.1 pc = .ok (.ixor, 1)) (k : fwp l S M d mc ms cells slots (pc + 1) loc (.int (x ^^^ y) :: st) μ P) : fwp l S M d mc ms cells slots pc loc (.int y :: .int x :: st) μ P := by
  intro p e R s m args below meth c D cy A ad0 n0 K H locs ls ad h1 h2 h3 h4 h5 h6 h7 h8 h9
  exact lv_ixor K.1 K.2.1 hd (k p e R s m args below meth c D cy A ad0 n0 K H locs ls ad h1 h2 h3 (fs_c trivial (fs_t (fs_t h4))) h5 h6 h7 h8 h9)
theorem fw_ishl {x y : Int32} (hd : decode M.2.1 pc = .ok (.ishl, 1)) (k : fwp l S M d mc ms cells slots (pc + 1) loc (.int (x <<< (y &&& 31)) :: st) μ P) : fwp l S M d mc ms cells slots pc loc (.int y :: .int x :: st) μ P := by
  intro p e R s m args below meth c D cy A ad0 n0 K H locs ls ad h1 h2 h3 h4 h5 h6 h7 h8 h9
  exact lv_ishl K.1 K.2.1 hd (k p e R s m args below meth c D cy A ad0 n0 K H locs ls ad h1 h2 h3 (fs_c trivial (fs_t (fs_t h4))) h5 h6 h7 h8 h9)
theorem fw_ishr {x y : Int32} (hd : decode M.2.1 pc = .ok (.ishr, 1)) (k : fwp l S M d mc ms cells slots (pc + 1) loc (.int (x >>> (y &&& 31)) :: st) μ P) : fwp l S M d mc ms cells slots pc loc (.int y :: .int x :: st) μ P := by
  intro p e R s m args below meth c D cy A ad0 n0 K H locs ls ad h1 h2 h3 h4 h5 h6 h7 h8 h9
  exact lv_ishr K.1 K.2.1 hd (k p e R s m args below meth c D cy A ad0 n0 K H locs ls ad h1 h2 h3 (fs_c trivial (fs_t (fs_t h4))) h5 h6 h7 h8 h9)
theorem fw_iushr {x y : Int32} (hd : decode M.2.1 pc = .ok (.iushr, 1)) (k : fwp l S M d mc ms cells slots (pc + 1) loc (.int ((x.toUInt32 >>> (y.toUInt32 &&& Int32.toUInt32 31)).toInt32) :: st) μ P) : fwp l S M d mc ms cells slots pc loc (.int y :: .int x :: st) μ P := by
  intro p e R s m args below meth c D cy A ad0 n0 K H locs ls ad h1 h2 h3 h4 h5 h6 h7 h8 h9
  exact lv_iushr K.1 K.2.1 hd rfl (k p e R s m args below meth c D cy A ad0 n0 K H locs ls ad h1 h2 h3 (fs_c trivial (fs_t (fs_t h4))) h5 h6 h7 h8 h9)
theorem fw_idiv {x y : Int32} (hd : decode M.2.1 pc = .ok (.idiv, 1)) (hne : ¬ y = 0) (k : fwp l S M d mc ms cells slots (pc + 1) loc (.int (x / y) :: st) μ P) : fwp l S M d mc ms cells slots pc loc (.int y :: .int x :: st) μ P := by
  intro p e R s m args below meth c D cy A ad0 n0 K H locs ls ad h1 h2 h3 h4 h5 h6 h7 h8 h9
  exact lv_idiv K.1 K.2.1 hd hne (k p e R s m args below meth c D cy A ad0 n0 K H locs ls ad h1 h2 h3 (fs_c trivial (fs_t (fs_t h4))) h5 h6 h7 h8 h9)
theorem fw_irem {x y : Int32} (hd : decode M.2.1 pc = .ok (.irem, 1)) (hne : ¬ y = 0) (k : fwp l S M d mc ms cells slots (pc + 1) loc (.int (x - x / y * y) :: st) μ P) : fwp l S M d mc ms cells slots pc loc (.int y :: .int x :: st) μ P := by
  intro p e R s m args below meth c D cy A ad0 n0 K H locs ls ad h1 h2 h3 h4 h5 h6 h7 h8 h9
  exact lv_irem K.1 K.2.1 hd hne (k p e R s m args below meth c D cy A ad0 n0 K H locs ls ad h1 h2 h3 (fs_c trivial (fs_t (fs_t h4))) h5 h6 h7 h8 h9)
theorem fw_ladd {x y : Int64} (hd : decode M.2.1 pc = .ok (.ladd, 1)) (k : fwp l S M d mc ms cells slots (pc + 1) loc (.long (x + y) :: st) μ P) : fwp l S M d mc ms cells slots pc loc (.long y :: .long x :: st) μ P := by
  intro p e R s m args below meth c D cy A ad0 n0 K H locs ls ad h1 h2 h3 h4 h5 h6 h7 h8 h9
  exact lv_ladd K.1 K.2.1 hd (k p e R s m args below meth c D cy A ad0 n0 K H locs ls ad h1 h2 h3 (fs_c trivial (fs_t (fs_t h4))) h5 h6 h7 h8 h9)
theorem fw_lsub {x y : Int64} (hd : decode M.2.1 pc = .ok (.lsub, 1)) (k : fwp l S M d mc ms cells slots (pc + 1) loc (.long (x - y) :: st) μ P) : fwp l S M d mc ms cells slots pc loc (.long y :: .long x :: st) μ P := by
  intro p e R s m args below meth c D cy A ad0 n0 K H locs ls ad h1 h2 h3 h4 h5 h6 h7 h8 h9
  exact lv_lsub K.1 K.2.1 hd (k p e R s m args below meth c D cy A ad0 n0 K H locs ls ad h1 h2 h3 (fs_c trivial (fs_t (fs_t h4))) h5 h6 h7 h8 h9)
theorem fw_lmul {x y : Int64} (hd : decode M.2.1 pc = .ok (.lmul, 1)) (k : fwp l S M d mc ms cells slots (pc + 1) loc (.long (x * y) :: st) μ P) : fwp l S M d mc ms cells slots pc loc (.long y :: .long x :: st) μ P := by
  intro p e R s m args below meth c D cy A ad0 n0 K H locs ls ad h1 h2 h3 h4 h5 h6 h7 h8 h9
  exact lv_lmul K.1 K.2.1 hd (k p e R s m args below meth c D cy A ad0 n0 K H locs ls ad h1 h2 h3 (fs_c trivial (fs_t (fs_t h4))) h5 h6 h7 h8 h9)
theorem fw_land {x y : Int64} (hd : decode M.2.1 pc = .ok (.land, 1)) (k : fwp l S M d mc ms cells slots (pc + 1) loc (.long (x &&& y) :: st) μ P) : fwp l S M d mc ms cells slots pc loc (.long y :: .long x :: st) μ P := by
  intro p e R s m args below meth c D cy A ad0 n0 K H locs ls ad h1 h2 h3 h4 h5 h6 h7 h8 h9
  exact lv_land K.1 K.2.1 hd (k p e R s m args below meth c D cy A ad0 n0 K H locs ls ad h1 h2 h3 (fs_c trivial (fs_t (fs_t h4))) h5 h6 h7 h8 h9)
theorem fw_lor {x y : Int64} (hd : decode M.2.1 pc = .ok (.lor, 1)) (k : fwp l S M d mc ms cells slots (pc + 1) loc (.long (x ||| y) :: st) μ P) : fwp l S M d mc ms cells slots pc loc (.long y :: .long x :: st) μ P := by
  intro p e R s m args below meth c D cy A ad0 n0 K H locs ls ad h1 h2 h3 h4 h5 h6 h7 h8 h9
  exact lv_lor K.1 K.2.1 hd (k p e R s m args below meth c D cy A ad0 n0 K H locs ls ad h1 h2 h3 (fs_c trivial (fs_t (fs_t h4))) h5 h6 h7 h8 h9)
theorem fw_lshl {x : Int64} {y : Int32} (hd : decode M.2.1 pc = .ok (.lshl, 1)) (k : fwp l S M d mc ms cells slots (pc + 1) loc (.long (x <<< (y.toInt64 &&& 63)) :: st) μ P) : fwp l S M d mc ms cells slots pc loc (.int y :: .long x :: st) μ P := by
  intro p e R s m args below meth c D cy A ad0 n0 K H locs ls ad h1 h2 h3 h4 h5 h6 h7 h8 h9
  exact lv_lshl K.1 K.2.1 hd rfl (k p e R s m args below meth c D cy A ad0 n0 K H locs ls ad h1 h2 h3 (fs_c trivial (fs_t (fs_t h4))) h5 h6 h7 h8 h9)
theorem fw_lshr {x : Int64} {y : Int32} (hd : decode M.2.1 pc = .ok (.lshr, 1)) (k : fwp l S M d mc ms cells slots (pc + 1) loc (.long (x >>> (y.toInt64 &&& 63)) :: st) μ P) : fwp l S M d mc ms cells slots pc loc (.int y :: .long x :: st) μ P := by
  intro p e R s m args below meth c D cy A ad0 n0 K H locs ls ad h1 h2 h3 h4 h5 h6 h7 h8 h9
  exact lv_lshr K.1 K.2.1 hd rfl (k p e R s m args below meth c D cy A ad0 n0 K H locs ls ad h1 h2 h3 (fs_c trivial (fs_t (fs_t h4))) h5 h6 h7 h8 h9)
theorem fw_i2l {x : Int32} (hd : decode M.2.1 pc = .ok (.i2l, 1)) (k : fwp l S M d mc ms cells slots (pc + 1) loc (.long x.toInt64 :: st) μ P) : fwp l S M d mc ms cells slots pc loc (.int x :: st) μ P := by
  intro p e R s m args below meth c D cy A ad0 n0 K H locs ls ad h1 h2 h3 h4 h5 h6 h7 h8 h9
  exact lv_i2l K.1 K.2.1 hd rfl (k p e R s m args below meth c D cy A ad0 n0 K H locs ls ad h1 h2 h3 (fs_c trivial (fs_t h4)) h5 h6 h7 h8 h9)
theorem fw_lcmp {x y : Int64} (hd : decode M.2.1 pc = .ok (.lcmp, 1)) (k : fwp l S M d mc ms cells slots (pc + 1) loc (.int (lg_cmp x y) :: st) μ P) : fwp l S M d mc ms cells slots pc loc (.long y :: .long x :: st) μ P := by
  intro p e R s m args below meth c D cy A ad0 n0 K H locs ls ad h1 h2 h3 h4 h5 h6 h7 h8 h9
  exact W.lcmp K.1 K.2.1 hd (k p e R s m args below meth c D cy A ad0 n0 K H locs ls ad h1 h2 h3 (fs_c trivial (fs_t (fs_t h4))) h5 h6 h7 h8 h9)
theorem fw_dup {a : Value} (hd : decode M.2.1 pc = .ok (.dup, 1)) (ha : a.category = 1) (k : fwp l S M d mc ms cells slots (pc + 1) loc (a :: a :: st) μ P) : fwp l S M d mc ms cells slots pc loc (a :: st) μ P := by
  intro p e R s m args below meth c D cy A ad0 n0 K H locs ls ad h1 h2 h3 h4 h5 h6 h7 h8 h9
  exact lv_dup K.1 K.2.1 hd ((fv_cat ad a).trans ha) (k p e R s m args below meth c D cy A ad0 n0 K H locs ls ad h1 h2 h3 (fs_c (fs_h h4) h4) h5 h6 h7 h8 h9)
theorem fw_dup2 {a b : Value} (hd : decode M.2.1 pc = .ok (.dup2, 1)) (ha : a.category = 1) (hb : b.category = 1) (k : fwp l S M d mc ms cells slots (pc + 1) loc (a :: b :: a :: b :: st) μ P) : fwp l S M d mc ms cells slots pc loc (a :: b :: st) μ P := by
  intro p e R s m args below meth c D cy A ad0 n0 K H locs ls ad h1 h2 h3 h4 h5 h6 h7 h8 h9
  exact lv_dup2_11 K.1 K.2.1 hd ((fv_cat ad a).trans ha) ((fv_cat ad b).trans hb) (k p e R s m args below meth c D cy A ad0 n0 K H locs ls ad h1 h2 h3 (fs_c (fs_h h4) (fs_c (fs_h (fs_t h4)) h4)) h5 h6 h7 h8 h9)
theorem fw_pop {a : Value} (hd : decode M.2.1 pc = .ok (.pop, 1)) (ha : a.category = 1) (k : fwp l S M d mc ms cells slots (pc + 1) loc st μ P) : fwp l S M d mc ms cells slots pc loc (a :: st) μ P := by
  intro p e R s m args below meth c D cy A ad0 n0 K H locs ls ad h1 h2 h3 h4 h5 h6 h7 h8 h9
  exact lv_pop K.1 K.2.1 hd ((fv_cat ad a).trans ha) (k p e R s m args below meth c D cy A ad0 n0 K H locs ls ad h1 h2 h3 (fs_t h4) h5 h6 h7 h8 h9)
theorem fw_if_eq {x : Int32} {off : Int} {tgt : Nat} (hd : decode M.2.1 pc = .ok (.ifCond .eq off, 3)) (ht : (pc : Int) + off = (tgt : Int)) (kt : x = 0 → fwp l S M d mc ms cells slots tgt loc st μ P) (kf : ¬ x = 0 → fwp l S M d mc ms cells slots (pc + 3) loc st μ P) : fwp l S M d mc ms cells slots pc loc (.int x :: st) μ P := by
  intro p e R s m args below meth c D cy A ad0 n0 K H locs ls ad h1 h2 h3 h4 h5 h6 h7 h8 h9
  exact lv_if_eq K.1 K.2.1 hd ht (fun q => kt q p e R s m args below meth c D cy A ad0 n0 K H locs ls ad h1 h2 h3 (fs_t h4) h5 h6 h7 h8 h9) (fun q => kf q p e R s m args below meth c D cy A ad0 n0 K H locs ls ad h1 h2 h3 (fs_t h4) h5 h6 h7 h8 h9)
theorem fw_icmp_eq {x y : Int32} {off : Int} {tgt : Nat} (hd : decode M.2.1 pc = .ok (.if_icmp .eq off, 3)) (ht : (pc : Int) + off = (tgt : Int)) (kt : x = y → fwp l S M d mc ms cells slots tgt loc st μ P) (kf : ¬ x = y → fwp l S M d mc ms cells slots (pc + 3) loc st μ P) : fwp l S M d mc ms cells slots pc loc (.int y :: .int x :: st) μ P := by
  intro p e R s m args below meth c D cy A ad0 n0 K H locs ls ad h1 h2 h3 h4 h5 h6 h7 h8 h9
  exact lv_icmp_eq K.1 K.2.1 hd ht (fun q => kt q p e R s m args below meth c D cy A ad0 n0 K H locs ls ad h1 h2 h3 (fs_t (fs_t h4)) h5 h6 h7 h8 h9) (fun q => kf q p e R s m args below meth c D cy A ad0 n0 K H locs ls ad h1 h2 h3 (fs_t (fs_t h4)) h5 h6 h7 h8 h9)
theorem fw_if_ne {x : Int32} {off : Int} {tgt : Nat} (hd : decode M.2.1 pc = .ok (.ifCond .ne off, 3)) (ht : (pc : Int) + off = (tgt : Int)) (kt : ¬ x = 0 → fwp l S M d mc ms cells slots tgt loc st μ P) (kf : x = 0 → fwp l S M d mc ms cells slots (pc + 3) loc st μ P) : fwp l S M d mc ms cells slots pc loc (.int x :: st) μ P := by
  intro p e R s m args below meth c D cy A ad0 n0 K H locs ls ad h1 h2 h3 h4 h5 h6 h7 h8 h9
  exact lv_if_ne K.1 K.2.1 hd ht (fun q => kt q p e R s m args below meth c D cy A ad0 n0 K H locs ls ad h1 h2 h3 (fs_t h4) h5 h6 h7 h8 h9) (fun q => kf q p e R s m args below meth c D cy A ad0 n0 K H locs ls ad h1 h2 h3 (fs_t h4) h5 h6 h7 h8 h9)
theorem fw_icmp_ne {x y : Int32} {off : Int} {tgt : Nat} (hd : decode M.2.1 pc = .ok (.if_icmp .ne off, 3)) (ht : (pc : Int) + off = (tgt : Int)) (kt : ¬ x = y → fwp l S M d mc ms cells slots tgt loc st μ P) (kf : x = y → fwp l S M d mc ms cells slots (pc + 3) loc st μ P) : fwp l S M d mc ms cells slots pc loc (.int y :: .int x :: st) μ P := by
  intro p e R s m args below meth c D cy A ad0 n0 K H locs ls ad h1 h2 h3 h4 h5 h6 h7 h8 h9
  exact lv_icmp_ne K.1 K.2.1 hd ht (fun q => kt q p e R s m args below meth c D cy A ad0 n0 K H locs ls ad h1 h2 h3 (fs_t (fs_t h4)) h5 h6 h7 h8 h9) (fun q => kf q p e R s m args below meth c D cy A ad0 n0 K H locs ls ad h1 h2 h3 (fs_t (fs_t h4)) h5 h6 h7 h8 h9)
theorem fw_if_lt {x : Int32} {off : Int} {tgt : Nat} (hd : decode M.2.1 pc = .ok (.ifCond .lt off, 3)) (ht : (pc : Int) + off = (tgt : Int)) (kt : x < 0 → fwp l S M d mc ms cells slots tgt loc st μ P) (kf : ¬ x < 0 → fwp l S M d mc ms cells slots (pc + 3) loc st μ P) : fwp l S M d mc ms cells slots pc loc (.int x :: st) μ P := by
  intro p e R s m args below meth c D cy A ad0 n0 K H locs ls ad h1 h2 h3 h4 h5 h6 h7 h8 h9
  exact lv_if_lt K.1 K.2.1 hd ht (fun q => kt q p e R s m args below meth c D cy A ad0 n0 K H locs ls ad h1 h2 h3 (fs_t h4) h5 h6 h7 h8 h9) (fun q => kf q p e R s m args below meth c D cy A ad0 n0 K H locs ls ad h1 h2 h3 (fs_t h4) h5 h6 h7 h8 h9)
theorem fw_icmp_lt {x y : Int32} {off : Int} {tgt : Nat} (hd : decode M.2.1 pc = .ok (.if_icmp .lt off, 3)) (ht : (pc : Int) + off = (tgt : Int)) (kt : x < y → fwp l S M d mc ms cells slots tgt loc st μ P) (kf : ¬ x < y → fwp l S M d mc ms cells slots (pc + 3) loc st μ P) : fwp l S M d mc ms cells slots pc loc (.int y :: .int x :: st) μ P := by
  intro p e R s m args below meth c D cy A ad0 n0 K H locs ls ad h1 h2 h3 h4 h5 h6 h7 h8 h9
  exact lv_icmp_lt K.1 K.2.1 hd ht (fun q => kt q p e R s m args below meth c D cy A ad0 n0 K H locs ls ad h1 h2 h3 (fs_t (fs_t h4)) h5 h6 h7 h8 h9) (fun q => kf q p e R s m args below meth c D cy A ad0 n0 K H locs ls ad h1 h2 h3 (fs_t (fs_t h4)) h5 h6 h7 h8 h9)
theorem fw_if_ge {x : Int32} {off : Int} {tgt : Nat} (hd : decode M.2.1 pc = .ok (.ifCond .ge off, 3)) (ht : (pc : Int) + off = (tgt : Int)) (kt : 0 ≤ x → fwp l S M d mc ms cells slots tgt loc st μ P) (kf : ¬ 0 ≤ x → fwp l S M d mc ms cells slots (pc + 3) loc st μ P) : fwp l S M d mc ms cells slots pc loc (.int x :: st) μ P := by
  intro p e R s m args below meth c D cy A ad0 n0 K H locs ls ad h1 h2 h3 h4 h5 h6 h7 h8 h9
  exact lv_if_ge K.1 K.2.1 hd ht (fun q => kt q p e R s m args below meth c D cy A ad0 n0 K H locs ls ad h1 h2 h3 (fs_t h4) h5 h6 h7 h8 h9) (fun q => kf q p e R s m args below meth c D cy A ad0 n0 K H locs ls ad h1 h2 h3 (fs_t h4) h5 h6 h7 h8 h9)
theorem fw_icmp_ge {x y : Int32} {off : Int} {tgt : Nat} (hd : decode M.2.1 pc = .ok (.if_icmp .ge off, 3)) (ht : (pc : Int) + off = (tgt : Int)) (kt : y ≤ x → fwp l S M d mc ms cells slots tgt loc st μ P) (kf : ¬ y ≤ x → fwp l S M d mc ms cells slots (pc + 3) loc st μ P) : fwp l S M d mc ms cells slots pc loc (.int y :: .int x :: st) μ P := by
  intro p e R s m args below meth c D cy A ad0 n0 K H locs ls ad h1 h2 h3 h4 h5 h6 h7 h8 h9
  exact lv_icmp_ge K.1 K.2.1 hd ht (fun q => kt q p e R s m args below meth c D cy A ad0 n0 K H locs ls ad h1 h2 h3 (fs_t (fs_t h4)) h5 h6 h7 h8 h9) (fun q => kf q p e R s m args below meth c D cy A ad0 n0 K H locs ls ad h1 h2 h3 (fs_t (fs_t h4)) h5 h6 h7 h8 h9)
theorem fw_if_gt {x : Int32} {off : Int} {tgt : Nat} (hd : decode M.2.1 pc = .ok (.ifCond .gt off, 3)) (ht : (pc : Int) + off = (tgt : Int)) (kt : 0 < x → fwp l S M d mc ms cells slots tgt loc st μ P) (kf : ¬ 0 < x → fwp l S M d mc ms cells slots (pc + 3) loc st μ P) : fwp l S M d mc ms cells slots pc loc (.int x :: st) μ P := by
  intro p e R s m args below meth c D cy A ad0 n0 K H locs ls ad h1 h2 h3 h4 h5 h6 h7 h8 h9
  exact lv_if_gt K.1 K.2.1 hd ht (fun q => kt q p e R s m args below meth c D cy A ad0 n0 K H locs ls ad h1 h2 h3 (fs_t h4) h5 h6 h7 h8 h9) (fun q => kf q p e R s m args below meth c D cy A ad0 n0 K H locs ls ad h1 h2 h3 (fs_t h4) h5 h6 h7 h8 h9)
theorem fw_icmp_gt {x y : Int32} {off : Int} {tgt : Nat} (hd : decode M.2.1 pc = .ok (.if_icmp .gt off, 3)) (ht : (pc : Int) + off = (tgt : Int)) (kt : y < x → fwp l S M d mc ms cells slots tgt loc st μ P) (kf : ¬ y < x → fwp l S M d mc ms cells slots (pc + 3) loc st μ P) : fwp l S M d mc ms cells slots pc loc (.int y :: .int x :: st) μ P := by
  intro p e R s m args below meth c D cy A ad0 n0 K H locs ls ad h1 h2 h3 h4 h5 h6 h7 h8 h9
  exact lv_icmp_gt K.1 K.2.1 hd ht (fun q => kt q p e R s m args below meth c D cy A ad0 n0 K H locs ls ad h1 h2 h3 (fs_t (fs_t h4)) h5 h6 h7 h8 h9) (fun q => kf q p e R s m args below meth c D cy A ad0 n0 K H locs ls ad h1 h2 h3 (fs_t (fs_t h4)) h5 h6 h7 h8 h9)
theorem fw_if_le {x : Int32} {off : Int} {tgt : Nat} (hd : decode M.2.1 pc = .ok (.ifCond .le off, 3)) (ht : (pc : Int) + off = (tgt : Int)) (kt : x ≤ 0 → fwp l S M d mc ms cells slots tgt loc st μ P) (kf : ¬ x ≤ 0 → fwp l S M d mc ms cells slots (pc + 3) loc st μ P) : fwp l S M d mc ms cells slots pc loc (.int x :: st) μ P := by
  intro p e R s m args below meth c D cy A ad0 n0 K H locs ls ad h1 h2 h3 h4 h5 h6 h7 h8 h9
  exact lv_if_le K.1 K.2.1 hd ht (fun q => kt q p e R s m args below meth c D cy A ad0 n0 K H locs ls ad h1 h2 h3 (fs_t h4) h5 h6 h7 h8 h9) (fun q => kf q p e R s m args below meth c D cy A ad0 n0 K H locs ls ad h1 h2 h3 (fs_t h4) h5 h6 h7 h8 h9)
theorem fw_icmp_le {x y : Int32} {off : Int} {tgt : Nat} (hd : decode M.2.1 pc = .ok (.if_icmp .le off, 3)) (ht : (pc : Int) + off = (tgt : Int)) (kt : x ≤ y → fwp l S M d mc ms cells slots tgt loc st μ P) (kf : ¬ x ≤ y → fwp l S M d mc ms cells slots (pc + 3) loc st μ P) : fwp l S M d mc ms cells slots pc loc (.int y :: .int x :: st) μ P := by
  intro p e R s m args below meth c D cy A ad0 n0 K H locs ls ad h1 h2 h3 h4 h5 h6 h7 h8 h9
  exact lv_icmp_le K.1 K.2.1 hd ht (fun q => kt q p e R s m args below meth c D cy A ad0 n0 K H locs ls ad h1 h2 h3 (fs_t (fs_t h4)) h5 h6 h7 h8 h9) (fun q => kf q p e R s m args below meth c D cy A ad0 n0 K H locs ls ad h1 h2 h3 (fs_t (fs_t h4)) h5 h6 h7 h8 h9)
theorem fw_goto {off : Int} {tgt : Nat} (hd : decode M.2.1 pc = .ok (.goto off, 3)) (ht : (pc : Int) + off = (tgt : Int)) (k : fwp l S M d mc ms cells slots tgt loc st μ P) : fwp l S M d mc ms cells slots pc loc st μ P := by
  intro p e R s m args below meth c D cy A ad0 n0 K H locs ls ad h1 h2 h3 h4 h5 h6 h7 h8 h9
  exact lv_goto K.1 K.2.1 hd ht (k p e R s m args below meth c D cy A ad0 n0 K H locs ls ad h1 h2 h3 (h4) h5 h6 h7 h8 h9)
theorem fw_nonnull {x : Nat} {off : Int} {tgt : Nat} (hd : decode M.2.1 pc = .ok (.ifnonnull off, 3)) (ht : (pc : Int) + off = (tgt : Int)) (k : fwp l S M d mc ms cells slots tgt loc st μ P) : fwp l S M d mc ms cells slots pc loc (.ref x :: st) μ P := by
  intro p e R s m args below meth c D cy A ad0 n0 K H locs ls ad h1 h2 h3 h4 h5 h6 h7 h8 h9
  exact lv_ifnonnull K.1 K.2.1 hd ht (k p e R s m args below meth c D cy A ad0 n0 K H locs ls ad h1 h2 h3 (fs_t h4) h5 h6 h7 h8 h9)
theorem fw_nonnullN {off : Int} (hd : decode M.2.1 pc = .ok (.ifnonnull off, 3)) (k : fwp l S M d mc ms cells slots (pc + 3) loc st μ P) : fwp l S M d mc ms cells slots pc loc (.null :: st) μ P := by
  intro p e R s m args below meth c D cy A ad0 n0 K H locs ls ad h1 h2 h3 h4 h5 h6 h7 h8 h9
  exact lv_ifnonnullN K.1 K.2.1 hd (k p e R s m args below meth c D cy A ad0 n0 K H locs ls ad h1 h2 h3 (fs_t h4) h5 h6 h7 h8 h9)
theorem fw_tabOut {dflt lo hi : Int} {offs : Array Int} {len : Nat} {x : Int32} {tgt : Nat} (hd : decode M.2.1 pc = .ok (.tableswitch dflt lo hi offs, len)) (h : x.toInt < lo ∨ hi < x.toInt) (ht : (pc : Int) + dflt = (tgt : Int)) (k : fwp l S M d mc ms cells slots tgt loc st μ P) : fwp l S M d mc ms cells slots pc loc (.int x :: st) μ P := by
  intro p e R s m args below meth c D cy A ad0 n0 K H locs ls ad h1 h2 h3 h4 h5 h6 h7 h8 h9
  exact lv_tableOut K.1 K.2.1 hd h ht (k p e R s m args below meth c D cy A ad0 n0 K H locs ls ad h1 h2 h3 (fs_t h4) h5 h6 h7 h8 h9)
theorem fw_tabIn {dflt lo hi : Int} {offs : Array Int} {len : Nat} {x : Int32} {off : Int} {tgt : Nat} (hd : decode M.2.1 pc = .ok (.tableswitch dflt lo hi offs, len)) (g1 : ¬ x.toInt < lo) (g2 : ¬ hi < x.toInt) (ho : offs[(x.toInt - lo).toNat]? = some off) (ht : (pc : Int) + off = (tgt : Int)) (k : fwp l S M d mc ms cells slots tgt loc st μ P) : fwp l S M d mc ms cells slots pc loc (.int x :: st) μ P := by
  intro p e R s m args below meth c D cy A ad0 n0 K H locs ls ad h1 h2 h3 h4 h5 h6 h7 h8 h9
  exact lv_tableIn K.1 K.2.1 hd g1 g2 ho ht (k p e R s m args below meth c D cy A ad0 n0 K H locs ls ad h1 h2 h3 (fs_t h4) h5 h6 h7 h8 h9)
theorem fw_iret {v : Int32} (hd : decode M.2.1 pc = .ok (.ireturn, 1)) (hr : M.2.2.2 = some .int) (hc : cells ≤ mc) (hs : slots ≤ ms) (hP : P (some (.int v)) μ) : fwp l S M d mc ms cells slots pc loc [.int v] μ P := by
  intro p e R s m args below meth c D cy A ad0 n0 K H locs ls ad h1 h2 h3 h4 h5 h6 h7 h8 h9
  exact W.widen hc hs (W.iret K.1 K.2.1 (K.2.2.2.1.trans hr) (fun t ht _ => ⟨⟨some (.int v), μ, ad, rfl, hP, h1, h2, h3, (fun x hx => by cases hx; trivial), by rw [ht]; exact h6, h7⟩, h8.F ht⟩) h8.2.2 hd (hlocks := K.2.2.2.2.1))
theorem fw_lret {v : Int64} (hd : decode M.2.1 pc = .ok (.lreturn, 1)) (hr : M.2.2.2 = some .long) (hc : cells ≤ mc) (hs : slots ≤ ms) (hP : P (some (.long v)) μ) : fwp l S M d mc ms cells slots pc loc [.long v] μ P := by
  intro p e R s m args below meth c D cy A ad0 n0 K H locs ls ad h1 h2 h3 h4 h5 h6 h7 h8 h9
  exact W.widen hc hs (W.lret K.1 K.2.1 (K.2.2.2.1.trans hr) (fun t ht _ => ⟨⟨some (.long v), μ, ad, rfl, hP, h1, h2, h3, (fun x hx => by cases hx; trivial), by rw [ht]; exact h6, h7⟩, h8.F ht⟩) h8.2.2 hd (hlocks := K.2.2.2.2.1))
theorem fw_zret {v : Int32} (hd : decode M.2.1 pc = .ok (.ireturn, 1)) (hr : M.2.2.2 = some .boolean) (hc : cells ≤ mc) (hs : slots ≤ ms) (hv : v = 0 ∨ v = 1) (hP : P (some (.int v)) μ) : fwp l S M d mc ms cells slots pc loc [.int v] μ P := by
  intro p e R s m args below meth c D cy A ad0 n0 K H locs ls ad h1 h2 h3 h4 h5 h6 h7 h8 h9
  exact W.widen hc hs (W.zret K.1 K.2.1 (K.2.2.2.1.trans hr) (by rcases hv with rfl | rfl <;> rfl) (fun t ht _ => ⟨⟨some (.int v), μ, ad, rfl, hP, h1, h2, h3, (fun x hx => by cases hx; trivial), by rw [ht]; exact h6, h7⟩, h8.F ht⟩) h8.2.2 hd (hlocks := K.2.2.2.2.1))
theorem fw_vret (hd : decode M.2.1 pc = .ok (.return_, 1)) (hr : M.2.2.2 = none) (hc : cells ≤ mc) (hs : slots ≤ ms) (hP : P none μ) : fwp l S M d mc ms cells slots pc loc [] μ P := by
  intro p e R s m args below meth c D cy A ad0 n0 K H locs ls ad h1 h2 h3 h4 h5 h6 h7 h8 h9
  exact W.widen hc hs (W.vret K.1 K.2.1 (K.2.2.2.1.trans hr) (fun t ht _ => ⟨⟨none, μ, ad, rfl, hP, h1, h2, h3, (fun x hx => by cases hx), by rw [ht]; exact h6, h7⟩, h8.F ht⟩) h8.2.2 hd (hlocks := K.2.2.2.2.1))
end FROWS
