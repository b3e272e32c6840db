def wb : List Int32 := [115, 112, 111, 116, 32, 97, 103, 101, 110, 116, 32, 99, 108, 111, 116, 104, 32, 100, 114, 117, 109, 32, 108, 111, 97, 100, 115, 32, 115, 101, 108, 108, 32, 108, 111, 115, 101, 32, 101, 120, 112, 114, 101, 115, 115, 32, 98, 108, 101, 101, 100, 115, 32, 110, 111, 116, 32, 111, 114, 32, 97, 110, 100, 32, 110, 111, 32, 105, 115, 32, 115, 116, 97, 110, 100, 115, 32, 102, 97, 115, 116, 32, 99, 108, 97, 105, 109, 101, 100, 32, 97, 103, 101, 32, 108, 97, 116, 101, 32, 112, 114, 105, 99, 101, 32, 119, 101, 105, 103, 104, 116, 32, 115, 105, 122, 101, 32, 99, 111, 117, 110, 116, 101, 114, 32, 108, 111, 97, 100, 32, 108, 111, 97, 100, 101, 100]
def wtx : String := "spot agent cloth drum loads sell lose express bleeds not or and no is stands fast claimed age late price weight size counter load loaded"
def stT : Term := .string "CoatWorks$Tape" 11
def stV : Term := .field stT "java/lang/String" "value" "[B"
theorem wb_len : wb.length = 136 := by decide +kernel
theorem wb_mem : ∀ j : Nat, j < 136 → (flatC (Jvm.Cond.and given_1 narrow_1))[56 + j]? = some (Cond.eq (.elem stV (.int (Int32.ofNat j))) (.int (wb.getD j 0))) := by decide +kernel
theorem wb_ok : ∀ j : Nat, j < 136 → ((wb.getD j 0 &&& 255).toUInt32 % 65536).toInt32 = wb.getD j 0 ∧ narrow .char (.int (wb.getD j 0)) = .int (wb.getD j 0) := by decide +kernel
def fx_st (ad : Nat → Nat) (A : Nat → Prop) (s : State) (H : Heap) : Prop := vk_R "CoatWorks$Tape" 11 wtx (ad 4010) s ∧ va_O "java/lang/String" (ad 4010) A s H ∧ va_OF "java/lang/String" "coder" "B" (.int 0) (ad 4010) A s H ∧ va_OF "java/lang/String" "value" "[B" (.ref (ad 4011)) (ad 4010) A s H ∧ va_T .byte (ad 4011) 136 (fun j => .int (wb.getD j 0)) A s H ∧ va_Z "java/lang/String" "COMPACT_STRINGS" "Z" (.int 1) A s H ∧ (va_Z "jdk/internal/util/Preconditions" "SIOOBE_FORMATTER" "Ljava/util/function/BiFunction;" .null A s H ∨ va_Z "jdk/internal/util/Preconditions" "SIOOBE_FORMATTER" "Ljava/util/function/BiFunction;" (.ref (ad 4014)) A s H)
theorem fx_str {ad : Nat → Nat} {A : Nat → Prop} {s : State} (h : fx_V ad A s s.heap) : fx_st ad A s s.heap := by
  obtain ⟨s0, a0, ⟨hw, hp, e1, e2, -, -, e3⟩, hW, hag⟩ := h
  have hs := flat_of_before _ hp
  have hA : ∀ a : Nat, a < s0.heap.size → ¬ A a := fun a ha => (hag a ha).1
  have hkp : ∀ a : Nat, a < s0.heap.size → ¬ A a → s.heap[a]? = s0.heap[a]? := fun a ha _ => (hag a ha).2
  have hex : (Cond.exactly stT "java/lang/String").before a0 s0 = true := hs _ (by decide +kernel)
  have hco : (Cond.eq (.field stT "java/lang/String" "coder" "B") (.int 0)).before a0 s0 = true := hs _ (by decide +kernel)
  have har : (Cond.arrayOf stV .byte).before a0 s0 = true := hs _ (by decide +kernel)
  have hle : (Cond.eq (.length stV) (.int (Int32.ofNat 136))).before a0 s0 = true := hs _ (by decide +kernel)
  have hcm : (Cond.eq (.static "java/lang/String" "COMPACT_STRINGS" "Z") (.int 1)).before a0 s0 = true := hs _ (by decide +kernel)
  obtain ⟨a, c, cA, kA, q1, q2, q3, q4, q5, q6, -⟩ := Cond.exactly_spec (args := a0) (first := s0) (o := none) (s := s0) (idx := []) (t := stT) (cls := "java/lang/String") hex
  have ea : a = ad 4010 := by
    have := q1.symm.trans (show stT.eval a0 s0 none [] s0 = some (.ref (ad 4010)) from e1)
    exact Value.ref.inj (Option.some.inj this)
  subst ea
  obtain ⟨t, ht, hT⟩ := va_Tof (f := fun j => .int (wb.getD j 0)) (A := A) (N := 136) (by decide) har (va_eqt hle) (fun j hj => va_eqt (hs _ (List.mem_of_getElem? (wb_mem j hj)))) hA
  have et : t = ad 4011 := by
    have := ht.symm.trans (show stV.eval a0 s0 none [] s0 = some (.ref (ad 4011)) from e2)
    exact Value.ref.inj (Option.some.inj this)
  subst et
  have hl1 : (Cond.laysStatic "java/lang/String" "COMPACT_STRINGS" "Z").before a0 s0 = true := hw _ (List.mem_of_getElem? (i := 163) (by decide +kernel))
  have hi1 : (Cond.initialized "java/lang/String").before a0 s0 = true := hw _ (List.mem_of_getElem? (i := 113) (by decide +kernel))
  have hl2 : (Cond.laysStatic "jdk/internal/util/Preconditions" "SIOOBE_FORMATTER" "Ljava/util/function/BiFunction;").before a0 s0 = true := hw _ (List.mem_of_getElem? (i := 179) (by decide +kernel))
  have hi2 : (Cond.initialized "jdk/internal/util/Preconditions").before a0 s0 = true := hw _ (List.mem_of_getElem? (i := 115) (by decide +kernel))
  have hsr : (Cond.stringRef "CoatWorks$Tape" 11 wtx).before a0 s0 = true := hw _ (List.mem_of_getElem? (i := 150) (by decide +kernel))
  refine ⟨vk_R.warm hW (vk_R.of (A := a0) hsr e1), ?_, ?_, ?_, ?_, ?_, ?_⟩
  · have h0 : va_O "java/lang/String" (ad 4010) A s0 s0.heap := ⟨cA, q3, q5, by rw [q6]; exact q2, hA _ (Array.getElem?_eq_some_iff.mp q3).1⟩
    exact va_O.moved hW.alike (h0.kept hkp)
  · exact va_OF.moved hW.alike ((vk_OFof q1 (va_eqt hco) hA).kept hkp)
  · exact va_OF.moved hW.alike ((vk_OFof q1 e2 hA).kept hkp)
  · exact va_T.moved hW.alike (hT.kept hkp)
  · exact va_Z.moved hW.alike ((va_Zof hl1 hi1 (va_eqt hcm) hA).kept hkp)
  · rcases e3 with e | e
    · exact Or.inl (va_Z.moved hW.alike ((va_Zof hl2 hi2 e hA).kept hkp))
    · exact Or.inr (va_Z.moved hW.alike ((va_Zof hl2 hi2 e hA).kept hkp))
section FSTR
variable {l : Launch} {M M2 : fy_T} {d d2 mc ms mc2 ms2 cells slots pc idx n : Nat} {loc : List (Option Value)} {st rest as : List Value} {μ : fm_T} {P P2 : Option Value → fm_T → Prop}
theorem fw_ldcS (hd : decode M.2.1 pc = .ok (.ldc 11, 2)) (ho : M.1.cls = "CoatWorks$Tape") (k : fwp l sC M d mc ms cells slots (pc + 2) loc (.ref 4010 :: st) μ P) : fwp l sC M d mc ms cells slots pc loc st μ P := by
  intro p e R s m args below meth c D cy A ad0 n0 K H locs ls ad h1 h2 h3 h4 h5 h6 h7 h8 h9
  have hF := fx_str K.2.2.2.2.2.2.2.2.2.2.2.1.2
  have hz := hF.1
  rw [← h2 4010 (Or.inr (by omega))] at hz
  exact va_ldcS K.1 K.2.1 (by rw [← ho]; exact K.2.2.2.2.2.1) hz hd (k p e R s m args below meth c D cy A ad0 n0 K H locs ls ad h1 h2 h3 (fs_c (Or.inr (Nat.le_of_ble_eq_true rfl)) h4) h5 h6 h7 h8 h9)
theorem fw_getSv (hd : decode M.2.1 pc = .ok (.getfield idx, 3)) (hw : Cond.fieldLink M.1.cls idx "java/lang/String" "value" "[B" ∈ fg_l) (k : fwp l sC M d mc ms cells slots (pc + 3) loc (.ref 4011 :: st) μ P) : fwp l sC M d mc ms cells slots pc loc (.ref 4010 :: st) μ P := by
  intro p e R s m args below meth c D cy A ad0 n0 K H locs ls ad h1 h2 h3 h4 h5 h6 h7 h8 h9
  have hts := fun w (h : w ∈ fg_l) => K.2.2.2.2.2.2.2.1 w (List.mem_cons_of_mem _ h)
  have hF := fx_str K.2.2.2.2.2.2.2.2.2.2.2.1.2
  have hz := hF.2.2.2.1
  rw [← h2 4010 (Or.inr (by omega)), ← h2 4011 (Or.inr (by omega))] at hz
  exact vk_getf K.1 K.2.1 hz h8 K.2.2.2.2.2.1 (hts _ hw) (fun _ h => h) hd (k p e R s m args below meth c D cy A ad0 n0 K H locs ls ad h1 h2 h3 (fs_c (Or.inr (Nat.le_of_ble_eq_true rfl)) (fs_t h4)) h5 h6 h7 h8 h9)
theorem fw_getSc (hd : decode M.2.1 pc = .ok (.getfield idx, 3)) (hw : Cond.fieldLink M.1.cls idx "java/lang/String" "coder" "B" ∈ fg_l) (k : fwp l sC M d mc ms cells slots (pc + 3) loc (.int 0 :: st) μ P) : fwp l sC M d mc ms cells slots pc loc (.ref 4010 :: st) μ P := by
  intro p e R s m args below meth c D cy A ad0 n0 K H locs ls ad h1 h2 h3 h4 h5 h6 h7 h8 h9
  have hts := fun w (h : w ∈ fg_l) => K.2.2.2.2.2.2.2.1 w (List.mem_cons_of_mem _ h)
  have hF := fx_str K.2.2.2.2.2.2.2.2.2.2.2.1.2
  have hz := hF.2.2.1
  rw [← h2 4010 (Or.inr (by omega))] at hz
  exact vk_getf K.1 K.2.1 hz h8 K.2.2.2.2.2.1 (hts _ hw) (fun _ h => h) hd (k p e R s m args below meth c D cy A ad0 n0 K H locs ls ad h1 h2 h3 (fs_c trivial (fs_t h4)) h5 h6 h7 h8 h9)
theorem fw_getSC (hd : decode M.2.1 pc = .ok (.getstatic idx, 3)) (hw : Cond.fieldLink M.1.cls idx "java/lang/String" "COMPACT_STRINGS" "Z" ∈ fg_l) (k : fwp l sC M d mc ms cells slots (pc + 3) loc (.int 1 :: st) μ P) : fwp l sC M d mc ms cells slots pc loc st μ P := by
  intro p e R s m args below meth c D cy A ad0 n0 K H locs ls ad h1 h2 h3 h4 h5 h6 h7 h8 h9
  have hts := fun w (h : w ∈ fg_l) => K.2.2.2.2.2.2.2.1 w (List.mem_cons_of_mem _ h)
  have hF := fx_str K.2.2.2.2.2.2.2.2.2.2.2.1.2
  exact va_gets K.1 K.2.1 hF.2.2.2.2.2.1 h8 K.2.2.2.2.2.1 (hts _ hw) (fun _ h => h) hd (k p e R s m args below meth c D cy A ad0 n0 K H locs ls ad h1 h2 h3 (fs_c trivial h4) h5 h6 h7 h8 h9)
theorem fw_getSF (hd : decode M.2.1 pc = .ok (.getstatic idx, 3)) (hw : Cond.fieldLink M.1.cls idx "jdk/internal/util/Preconditions" "SIOOBE_FORMATTER" "Ljava/util/function/BiFunction;" ∈ fg_l) (k : ∀ v, (v = .null ∨ v = .ref 4014) → fwp l sC M d mc ms cells slots (pc + 3) loc (v :: st) μ P) : fwp l sC M d mc ms cells slots pc loc st μ P := by
  intro p e R s m args below meth c D cy A ad0 n0 K H locs ls ad h1 h2 h3 h4 h5 h6 h7 h8 h9
  have hts := fun w (h : w ∈ fg_l) => K.2.2.2.2.2.2.2.1 w (List.mem_cons_of_mem _ h)
  have hF := fx_str K.2.2.2.2.2.2.2.2.2.2.2.1.2
  rcases hF.2.2.2.2.2.2 with hz | hz
  · exact va_gets K.1 K.2.1 hz h8 K.2.2.2.2.2.1 (hts _ hw) (fun _ h => h) hd (k .null (Or.inl rfl) p e R s m args below meth c D cy A ad0 n0 K H locs ls ad h1 h2 h3 (fs_c trivial h4) h5 h6 h7 h8 h9)
  · rw [← h2 4014 (Or.inr (by omega))] at hz
    exact va_gets K.1 K.2.1 hz h8 K.2.2.2.2.2.1 (hts _ hw) (fun _ h => h) hd (k (.ref 4014) (Or.inr rfl) p e R s m args below meth c D cy A ad0 n0 K H locs ls ad h1 h2 h3 (fs_c (Or.inr (Nat.le_of_ble_eq_true rfl)) h4) h5 h6 h7 h8 h9)
theorem fw_alenB (hd : decode M.2.1 pc = .ok (.arraylength, 1)) (k : fwp l sC M d mc ms cells slots (pc + 1) loc (.int 136 :: st) μ P) : fwp l sC M d mc ms cells slots pc loc (.ref 4011 :: st) μ P := by
  intro p e R s m args below meth c D cy A ad0 n0 K H locs ls ad h1 h2 h3 h4 h5 h6 h7 h8 h9
  have hF := fx_str K.2.2.2.2.2.2.2.2.2.2.2.1.2
  have hz := hF.2.2.2.2.1
  rw [← h2 4011 (Or.inr (by omega))] at hz
  exact va_tlen K.1 K.2.1 hz h8 (v := 136) rfl hd (k p e R s m args below meth c D cy A ad0 n0 K H locs ls ad h1 h2 h3 (fs_c trivial (fs_t h4)) h5 h6 h7 h8 h9)
theorem fw_baldB {i : Nat} (hd : decode M.2.1 pc = .ok (.baload, 1)) (hi : i < 136) (k : fwp l sC M d mc ms cells slots (pc + 1) loc (.int (wb.getD i 0) :: st) μ P) : fwp l sC M d mc ms cells slots pc loc (.int (nI i) :: .ref 4011 :: st) μ P := by
  intro p e R s m args below meth c D cy A ad0 n0 K H locs ls ad h1 h2 h3 h4 h5 h6 h7 h8 h9
  have hF := fx_str K.2.2.2.2.2.2.2.2.2.2.2.1.2
  have hz := hF.2.2.2.2.1
  rw [← h2 4011 (Or.inr (by omega))] at hz
  exact va_tb K.1 K.2.1 hz h8 (vp_in_nI hi (by decide)) (v := .int (wb.getD i 0)) (by rw [nI_clamp (by omega)]) hd (k p e R s m args below meth c D cy A ad0 n0 K H locs ls ad h1 h2 h3 (fs_c trivial (fs_t (fs_t h4))) h5 h6 h7 h8 h9)
theorem fw_nret {v : Int32} {ty : FieldType} (hd : decode M.2.1 pc = .ok (.ireturn, 1)) (hr : M.2.2.2 = some ty) (hc : cells ≤ mc) (hs : slots ≤ ms) (hv : narrow ty (.int v) = .int v) (hP : P (some (.int v)) μ) : fwp l sC M d mc ms cells slots pc loc [.int v] μ P := by
  intro p e R s m args below meth c D cy A ad0 n0 K H locs ls ad h1 h2 h3 h4 h5 h6 h7 h8 h9
  exact W.widen hc hs (W.zret K.1 K.2.1 (K.2.2.2.1.trans hr) hv (fun t ht _ => ⟨⟨some (.int v), μ, ad, rfl, hP, h1, h2, h3, (fun x hx => by cases hx; trivial), by rw [ht]; exact h6, h7⟩, h8.F ht⟩) h8.2.2 hd (hlocks := K.2.2.2.2.1))
theorem fw_aret {k : Nat} {ty : FieldType} (hd : decode M.2.1 pc = .ok (.areturn, 1)) (hr : M.2.2.2 = some ty) (hn : (∃ n, ty = .object n) ∨ ∃ t, ty = .array t) (hc : cells ≤ mc) (hs : slots ≤ ms) (hP : P (some (.ref k)) μ) : fwp l sC M d mc ms cells slots pc loc [.ref k] μ P := by
  intro p e R s m args below meth c D cy A ad0 n0 K H locs ls ad h1 h2 h3 h4 h5 h6 h7 h8 h9
  exact W.widen hc hs (W.aret K.1 K.2.1 (K.2.2.2.1.trans hr) hn (v := .ref (ad k)) (Or.inr ⟨ad k, rfl⟩) (fun t ht _ => ⟨⟨some (.ref k), μ, ad, rfl, hP, h1, h2, h3, (fun x hx => by cases hx; exact fs_h h4), by rw [ht]; exact h6, h7⟩, h8.F ht⟩) h8.2.2 hd (hlocks := K.2.2.2.2.1))
theorem fw_i2c {x v : Int32} (hd : decode M.2.1 pc = .ok (.i2c, 1)) (hv : (x.toUInt32 % 65536).toInt32 = v) (k : fwp l sC M d mc ms cells slots (pc + 1) loc (.int v :: st) μ P) : fwp l sC M d mc ms cells slots pc loc (.int x :: st) μ P := by
  intro p e R s m args below meth c D cy A ad0 n0 K H locs ls ad h1 h2 h3 h4 h5 h6 h7 h8 h9
  exact lv_i2c K.1 K.2.1 hd hv (k p e R s m args below meth c D cy A ad0 n0 K H locs ls ad h1 h2 h3 (fs_c trivial (fs_t h4)) h5 h6 h7 h8 h9)
theorem fw_callVS (hd : decode M.2.1 pc = .ok (.invokevirtual idx, 3)) (hV : fk_V M.1.cls idx M2) (hM : fk_M M2 n) (hd2 : d2 + 1 ≤ d) (hC : M2.1.cls = "java/lang/String") (hst : st = as.reverse ++ .ref 4010 :: rest) (hn : as.length = n) (hcat : (rest.map fun v => v.category).sum ≤ 8) (hl : (lg_sl (.ref 4010 :: as)).length ≤ M2.2.2.1) (hcs : cells + mc2 ≤ mc ∧ slots + ms2 ≤ ms)
    (callee : fwp l sC M2 d2 mc2 ms2 0 0 0 (fl_ent (.ref 4010 :: as) M2.2.2.1) [] μ P2) (kk : ∀ v μ', P2 v μ' → fwp l sC M d mc ms (cells + mc2) (slots + ms2) (pc + 3) loc (v.toList ++ rest) μ' P) : fwp l sC M d mc ms cells slots pc loc st μ P := by
  subst hst
  intro p e R s m args below meth c D cy A ad0 n0 K H locs ls ad h1 h2 h3 h4 h5 h6 h7 h8 h9
  have hF := fx_str K.2.2.2.2.2.2.2.2.2.2.2.1.2
  have hz := hF.2.1
  rw [← h2 4010 (Or.inr (by omega))] at hz
  have hoa : fs_ok μ.1 (.ref 4010 :: as) := fun x hx => h4 x (by rcases List.mem_cons.mp hx with g | g <;> simp [g])
  have hor : fs_ok μ.1 rest := fun x hx => h4 x (by simp [hx])
  have hts := fun w (h : w ∈ fg_l) => K.2.2.2.2.2.2.2.1 w (List.mem_cons_of_mem _ h)
  have hmet := fz_met hM.1 hl callee h3 hoa D cy ad H.size
  have hR := K.2.2.2.2.2.2.2.2.2.2.2.2
  have hroom : (fx_R d2 mc2 ms2).frames + 1 ≤ R.frames ∧ 8 + (M2.2.2.1 + 11) + (fx_R d2 mc2 ms2).locals ≤ R.locals := by
    have := hM.2.2.2.2.2
    subst hR
    refine ⟨hd2, ?_⟩
    show 8 + (M2.2.2.1 + 11) + 64 * d2 ≤ 64 * d
    omega
  have hrc : ∃ cell : Cell, H[ad 4010]? = some cell ∧ cell.vm.isStatics = false ∧ s.vm.findClass M2.1.cls = some cell.cls := by
    obtain ⟨cell, g1, g2, g3, -⟩ := hz.kept h8.2.1
    exact ⟨cell, g1, g2, by rw [hC]; exact g3⟩
  have hPV : PreV s H M2.1.cls (ad 4010) (va_Pc ((Value.ref 4010 :: as).map (fv_v ad)) (fx_P sC D cy ad μ H.size)) (as.map (fv_v ad)) := ⟨fx_blind, hrc, fun U hU hW => ⟨rfl, fw_pre K h2 h6 h7 h8 U hU hW⟩⟩
  have hcs' : cells + mc2 ≤ R.cells ∧ slots + ms2 ≤ R.slots := by rw [hR]; exact hcs
  have hcat' : 2 * (F0 m pc ls ((as.reverse ++ .ref 4010 :: rest).map (fv_v ad))).monitorRoom + ((rest.map (fv_v ad)).map fun v => v.category).sum ≤ 8 := by
    rw [List.map_map, show ((fun v : Value => v.category) ∘ fv_v ad) = (fun v : Value => v.category) from funext fun v => fv_cat ad v]
    exact lv_room hcat
  refine fw_back K h1 h2 hor h5 h7 h8 h9 (a := (Value.ref (ad 4010) :: as.map (fv_v ad)).toArray) (P2 := P2) ?_ kk
  rcases hV.1 with q | ⟨host, q⟩
  · exact va_runV (C := M2.1.cls) (As := as.map (fv_v ad)) (b := ad 4010) ⟨K.1, K.2.1, K.2.2.1, K.2.2.2.2.2.1, K.2.2.2.2.2.2.2.1⟩ hmet (cwV n K.2.2.2.2.2.2.2.1 (fun w hw => by
      rcases List.mem_append.mp hw with g | g
      · have h : w ∈ fg_l := by
          rcases List.mem_cons.mp g with g | g
          · rw [g]; exact q
          rcases List.mem_cons.mp g with g | g
          · rw [g]; exact hV.2.1
          rcases List.mem_cons.mp g with g | g
          · rw [g]; exact hV.2.2
          rw [List.mem_singleton.mp g]; exact hM.2.2.1
        exact ⟨List.mem_cons_of_mem _ h, fg_good h⟩
      · exact fg_in hM.2.1 w g) rfl rfl rfl ⟨rfl, hM.2.2.2.1.1, hM.2.2.2.1.2, hM.2.2.2.2.1⟩ hroom) hPV rfl (by rw [List.length_map]; exact hn) h9.1 (by simp [fv_v]) hcat' hd hcs'
  · exact va_runVN (C := M2.1.cls) (As := as.map (fv_v ad)) (b := ad 4010) ⟨K.1, K.2.1, K.2.2.1, K.2.2.2.2.2.1, K.2.2.2.2.2.2.2.1⟩ hmet ⟨va_cnB n K.2.2.2.2.2.2.2.1 (fg_in hM.2.1) rfl rfl rfl (K.2.2.2.2.2.2.2.2.1 _ q) (hts _ hM.2.2.1) ⟨hM.2.2.2.1.1, hM.2.2.2.1.2, hM.2.2.2.2.1⟩ hroom, hts _ hV.2.1, hts _ hV.2.2⟩ hPV rfl (by rw [List.length_map]; exact hn) h9.1 (by simp [fv_v]) hcat' hd hcs'
theorem fw_callVSf {x : Value} (hd : decode M.2.1 pc = .ok (.invokevirtual idx, 3)) (hV : fk_V M.1.cls idx M2) (hM : fk_M M2 n) (hd2 : d2 + 1 ≤ d) (hC : M2.1.cls = "java/lang/String") (hst : st = as.reverse ++ .ref 4010 :: rest) (hn : as.length = n) (hcat : (rest.map fun v => v.category).sum ≤ 8) (hl : (lg_sl (.ref 4010 :: as)).length ≤ M2.2.2.1) (hcs : cells + 0 ≤ mc ∧ slots + 0 ≤ ms)
    (callee : fwp l sC M2 d2 0 0 0 0 0 (fl_ent (.ref 4010 :: as) M2.2.2.1) [] μ (fp_f (some x) μ)) (kk : fwp l sC M d mc ms cells slots (pc + 3) loc (x :: rest) μ P) : fwp l sC M d mc ms cells slots pc loc st μ P :=
  fw_callVS hd hV hM hd2 hC hst hn hcat hl hcs callee (fun v μ' h => by obtain ⟨rfl, rfl⟩ := h; exact kk)
end FSTR
section FSTM
variable {l : Launch} {μ : fm_T}
theorem kgJ0_9 : Cond.fieldLink RJ0 9 "java/lang/String" "value" "[B" ∈ fg_l := fg_c9 73 (by decide +kernel) (by decide +kernel)
theorem kgJ0_15 : Cond.fieldLink RJ0 15 "java/lang/String" "coder" "B" ∈ fg_l := fg_c9 74 (by decide +kernel) (by decide +kernel)
theorem kgJ0_38 : Cond.fieldLink RJ0 38 "java/lang/String" "COMPACT_STRINGS" "Z" ∈ fg_l := fg_c1 52 (by decide +kernel) (by decide +kernel)
theorem kgJ0_1053 : Cond.fieldLink RJ0 1053 "jdk/internal/util/Preconditions" "SIOOBE_FORMATTER" "Ljava/util/function/BiFunction;" ∈ fg_l := fg_c1 68 (by decide +kernel) (by decide +kernel)
theorem nN (n : Nat) : n ≤ n := Nat.le_refl n
set_option maxRecDepth 20000 in
theorem wJ0_coder : fwp l sC mJ0_coder_7d493 0 0 0 0 0 0 (fl_ent [.ref 4010] mJ0_coder_7d493.2.2.1) [] μ (fp_f (some (.int 0)) μ) :=
  fw_getSC dJ0_coder_7d493_0 kgJ0_38 (fw_if_eq (tgt := 13) dJ0_coder_7d493_3 rfl (fun q => absurd q (by decide)) (fun _ => fw_aload_n dJ0_coder_7d493_6 rfl rfl (fw_getSc dJ0_coder_7d493_7 kgJ0_15 (fw_goto (tgt := 14) dJ0_coder_7d493_10 rfl (fw_nret dJ0_coder_7d493_14 rfl (nN _) (nN _) (by decide) ⟨rfl, rfl⟩)))))
set_option maxRecDepth 20000 in
theorem wJ0_isLatin1 : fwp l sC mJ0_isLatin1_aae02 0 0 0 0 0 0 (fl_ent [.ref 4010] mJ0_isLatin1_aae02.2.2.1) [] μ (fp_f (some (.int 1)) μ) :=
  fw_getSC dJ0_isLatin1_aae02_0 kgJ0_38 (fw_if_eq (tgt := 17) dJ0_isLatin1_aae02_3 rfl (fun q => absurd q (by decide)) (fun _ => fw_aload_n dJ0_isLatin1_aae02_6 rfl rfl (fw_getSc dJ0_isLatin1_aae02_7 kgJ0_15 (fw_if_ne (tgt := 17) dJ0_isLatin1_aae02_10 rfl (fun q => absurd rfl q) (fun _ => fw_iconst (v := 1) dJ0_isLatin1_aae02_13 rfl (fw_goto (tgt := 18) dJ0_isLatin1_aae02_14 rfl (fw_nret dJ0_isLatin1_aae02_18 rfl (nN _) (nN _) (by decide) ⟨rfl, rfl⟩)))))))
set_option maxRecDepth 20000 in
theorem wJ0_length : fwp l sC mJ0_length_8abf5 1 0 0 0 0 0 (fl_ent [.ref 4010] mJ0_length_8abf5.2.2.1) [] μ (fp_f (some (.int 136)) μ) :=
  fw_aload_n dJ0_length_8abf5_0 rfl rfl (fw_getSv dJ0_length_8abf5_1 kgJ0_9 (fw_alenB dJ0_length_8abf5_4 (fw_aload_n dJ0_length_8abf5_5 rfl rfl (fw_callVSf dJ0_length_8abf5_6 kvJ0_335 kmJ0_coder_7d493 (d2 := 0) (as := []) (rest := [.int 136]) (nN _) rfl rfl rfl (by decide) (by decide) ⟨nN _, nN _⟩ wJ0_coder (fw_ishr dJ0_length_8abf5_9 (fw_nret dJ0_length_8abf5_10 rfl (nN _) (nN _) rfl ⟨rfl, rfl⟩))))))
set_option maxRecDepth 20000 in
theorem wJ3_checkIndex {i : Nat} {v : Value} (hi : i < 136) : fwp l sC mJ3_checkIndex_8e157 0 0 0 0 0 0 [some (.int (nI i)), some (.int 136), some v] [] μ (fp_f (some (.int (nI i))) μ) :=
  fw_iload_n dJ3_checkIndex_8e157_0 rfl rfl (fw_if_lt (tgt := 9) dJ3_checkIndex_8e157_1 rfl (fun q => absurd q (nI_pos (by omega))) (fun _ => fw_iload_n dJ3_checkIndex_8e157_4 rfl rfl (fw_iload_n dJ3_checkIndex_8e157_5 rfl rfl (fw_icmp_lt (tgt := 16) dJ3_checkIndex_8e157_6 rfl (fun _ => fw_iload_n dJ3_checkIndex_8e157_16 rfl rfl (fw_iret dJ3_checkIndex_8e157_17 rfl (nN _) (nN _) ⟨rfl, rfl⟩)) (fun q => absurd (nI_lt hi (by decide)) q)))))
set_option maxRecDepth 20000 in
theorem wJ0_checkIndex {i : Nat} (hi : i < 136) : fwp l sC mJ0_checkIndex_df160 1 0 0 0 0 0 (fl_ent [.int (nI i), .int 136] mJ0_checkIndex_df160.2.2.1) [] μ (fp_f none μ) :=
  fw_iload_n dJ0_checkIndex_df160_0 rfl rfl (fw_iload_n dJ0_checkIndex_df160_1 rfl rfl (fw_getSF dJ0_checkIndex_df160_2 kgJ0_1053 (fun v hv => by
    rcases hv with rfl | rfl
    · exact fw_callSfx dJ0_checkIndex_df160_5 kvJ0_1059 kmJ3_checkIndex_8e157 (d2 := 0) (as := [.int (nI i), .int 136, .null]) (rest := []) (nN _) rfl rfl (by decide) (Nat.le_of_ble_eq_true rfl) ⟨nN _, nN _⟩ (wJ3_checkIndex hi) (fw_pop dJ0_checkIndex_df160_8 rfl (fw_vret dJ0_checkIndex_df160_9 rfl (nN _) (nN _) ⟨rfl, rfl⟩))
    · exact fw_callSfx dJ0_checkIndex_df160_5 kvJ0_1059 kmJ3_checkIndex_8e157 (d2 := 0) (as := [.int (nI i), .int 136, .ref 4014]) (rest := []) (nN _) rfl rfl (by decide) (Nat.le_of_ble_eq_true rfl) ⟨nN _, nN _⟩ (wJ3_checkIndex hi) (fw_pop dJ0_checkIndex_df160_8 rfl (fw_vret dJ0_checkIndex_df160_9 rfl (nN _) (nN _) ⟨rfl, rfl⟩)))))
set_option maxRecDepth 20000 in
theorem wJ1_charAt {i : Nat} (hi : i < 136) : fwp l sC mJ1_charAt_3b067 2 0 0 0 0 0 (fl_ent [.ref 4011, .int (nI i)] mJ1_charAt_3b067.2.2.1) [] μ (fp_f (some (.int (wb.getD i 0))) μ) :=
  fw_iload_n dJ1_charAt_3b067_0 rfl rfl (fw_aload_n dJ1_charAt_3b067_1 rfl rfl (fw_alenB dJ1_charAt_3b067_2 (fw_callSfn dJ1_charAt_3b067_3 kvJ1_9 kmJ0_checkIndex_df160 (d2 := 1) (as := [.int (nI i), .int 136]) (rest := []) (nN _) rfl rfl (by decide) (Nat.le_of_ble_eq_true rfl) ⟨nN _, nN _⟩ (wJ0_checkIndex hi) (fw_aload_n dJ1_charAt_3b067_6 rfl rfl (fw_iload_n dJ1_charAt_3b067_7 rfl rfl (fw_baldB dJ1_charAt_3b067_8 hi (fw_sipush (v := 255) dJ1_charAt_3b067_9 rfl (fw_iand dJ1_charAt_3b067_12 (fw_i2c dJ1_charAt_3b067_13 (wb_ok i hi).1 (fw_nret dJ1_charAt_3b067_14 rfl (nN _) (nN _) (wb_ok i hi).2 ⟨rfl, rfl⟩))))))))))
set_option maxRecDepth 20000 in
theorem wJ0_charAt {i : Nat} (hi : i < 136) : fwp l sC mJ0_charAt_5068e 3 0 0 0 0 0 (fl_ent [.ref 4010, .int (nI i)] mJ0_charAt_5068e.2.2.1) [] μ (fp_f (some (.int (wb.getD i 0))) μ) :=
  fw_aload_n dJ0_charAt_5068e_0 rfl rfl (fw_callVSf dJ0_charAt_5068e_1 kvJ0_492 kmJ0_isLatin1_aae02 (d2 := 0) (as := []) (rest := []) (Nat.le_of_ble_eq_true rfl) rfl rfl rfl (by decide) (Nat.le_of_ble_eq_true rfl) ⟨nN _, nN _⟩ wJ0_isLatin1 (fw_if_eq (tgt := 16) dJ0_charAt_5068e_4 rfl (fun q => absurd q (by decide)) (fun _ => fw_aload_n dJ0_charAt_5068e_7 rfl rfl (fw_getSv dJ0_charAt_5068e_8 kgJ0_9 (fw_iload_n dJ0_charAt_5068e_11 rfl rfl (fw_callSfx dJ0_charAt_5068e_12 kvJ0_495 kmJ1_charAt_3b067 (d2 := 2) (as := [.ref 4011, .int (nI i)]) (rest := []) (nN _) rfl rfl (by decide) (Nat.le_of_ble_eq_true rfl) ⟨nN _, nN _⟩ (wJ1_charAt hi) (fw_nret dJ0_charAt_5068e_15 rfl (nN _) (nN _) (wb_ok i hi).2 ⟨rfl, rfl⟩)))))))
end FSTM
