def fk_O (own : String) (idx : Nat) : Prop := Cond.methodLink own idx Lib.objectInit ∈ fg_l ∧ Cond.instanceMethod Lib.objectInit ∈ fg_l ∧ Cond.code Lib.objectInit ⟨#[0xb1]⟩ 1 none ∈ fg_l
theorem fw_objInit {l : Launch} {S : fs_T} {M : fy_T} {d mc ms cells slots pc idx b : Nat} {loc : List (Option Value)} {st : List Value} {μ : fm_T} {P : Option Value → fm_T → Prop} (hd : decode M.2.1 pc = .ok (.invokespecial idx, 3)) (hO : fk_O M.1.cls idx) (hd2 : 1 ≤ d) (hcat : (st.map fun v => v.category).sum ≤ 8) (k : fwp l S M d mc ms cells slots (pc + 3) loc st μ P) : fwp l S M d mc ms cells slots pc loc (.ref b :: st) μ P := by
  intro p e R s m args below meth c D cy A ad0 n0 K H locs ls ad h1 h2 h3 h4 h5 h6 h7 h8 h9
  have hts := fun w (h : w ∈ fg_l) => K.2.2.2.2.2.2.2.1 w (List.mem_cons_of_mem _ h)
  have hR := K.2.2.2.2.2.2.2.2.2.2.2.2
  have hc : 2 * (F0 m pc ls ((.ref b :: st).map (fv_v ad))).monitorRoom + ((st.map (fv_v ad)).map fun v => v.category).sum ≤ 8 := by
    rw [fx_cat]
    exact lv_room hcat
  exact W.objInit K.1 K.2.1 K.2.2.2.2.2.1 (hts _ hO.1) (hts _ hO.2.1) (hts _ hO.2.2) rfl (h9.1.trans K.2.2.1.symm) rfl hd (by rw [hR]; exact hd2) (by rw [hR]; show _ ≤ 64 * d; omega) (k p e R s m args below meth c D cy A ad0 n0 K H locs ls ad h1 h2 h3 (fs_t h4) h5 h6 h7 h8 h9)
set_option maxRecDepth 100000 in
theorem koX12_1 : Cond.instanceMethod Lib.objectInit ∈ fg_l := fg_c1 32 (by decide +kernel) (by decide +kernel)
set_option maxRecDepth 100000 in
theorem koX12_2 : Cond.code Lib.objectInit ⟨#[0xb1]⟩ 1 none ∈ fg_l := fg_c1 33 (by decide +kernel) (by decide +kernel)
