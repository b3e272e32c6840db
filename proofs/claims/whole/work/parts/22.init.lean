def fk_I (own : String) (idx : Nat) (M2 : fy_T) : Prop := (Cond.methodLink own idx M2.1 ∈ fg_l ∨ ∃ host, Cond.methodLinkNest own idx M2.1 host ∈ fg_h) ∧ Cond.instanceMethod M2.1 ∈ fg_l ∧ M2.1.name = "<init>" ∧ M2.2.2.2 = none
section FINIT
variable {l : Launch} {S : fs_T} {M M2 : fy_T} {d d2 mc ms mc2 ms2 cells slots pc idx n : Nat} {loc : List (Option Value)} {st rest as : List Value} {μ : fm_T} {P P2 : Option Value → fm_T → Prop}
theorem fw_callI {b : Nat} (hd : decode M.2.1 pc = .ok (.invokespecial idx, 3)) (hV : fk_I M.1.cls idx M2) (hM : fk_M M2 n) (hd2 : d2 + 1 ≤ d) (hst : st = as.reverse ++ .ref b :: rest) (hn : as.length = n) (hcat : (rest.map fun v => v.category).sum ≤ 8) (hl : (lg_sl (.ref b :: as)).length ≤ M2.2.2.1) (hcs : cells + mc2 ≤ mc ∧ slots + ms2 ≤ ms)
    (callee : fwp l S M2 d2 mc2 ms2 0 0 0 (fl_ent (.ref b :: as) M2.2.2.1) [] μ P2) (kk : ∀ v μ', P2 v μ' → fwp l S M d mc ms (cells + mc2) (slots + ms2) (pc + 3) loc (v.toList ++ rest) μ' P) : fwp l S M d mc ms cells slots pc loc st μ P := by
  subst hst
  intro p e R s m args below meth c D cy A ad0 n0 K H locs ls ad h1 h2 h3 h4 h5 h6 h7 h8 h9
  have hoa : fs_ok μ.1 (.ref b :: as) := fun x hx => h4 x (by rcases List.mem_cons.mp hx with g | g <;> simp [g])
  have hor : fs_ok μ.1 rest := fun x hx => h4 x (by simp [hx])
  have hts := fun w (h : w ∈ fg_l) => K.2.2.2.2.2.2.2.1 w (List.mem_cons_of_mem _ h)
  have hmet := fz_met hM.1 hl callee h3 hoa D cy ad H.size
  have hR := K.2.2.2.2.2.2.2.2.2.2.2.2
  have hroom : (fx_R d2 mc2 ms2).frames + 1 ≤ R.frames ∧ 8 + (M2.2.2.1 + 11) + (fx_R d2 mc2 ms2).locals ≤ R.locals := by
    have := hM.2.2.2.2.2
    subst hR
    refine ⟨hd2, ?_⟩
    show 8 + (M2.2.2.1 + 11) + 64 * d2 ≤ 64 * d
    omega
  have hPS : PreS s H (va_Pc ((Value.ref b :: as).map (fv_v ad)) (fx_P S D cy ad μ H.size)) (.ref (ad b) :: as.map (fv_v ad)) := ⟨fx_blind, fun U hU hW => ⟨rfl, fw_pre K h2 h6 h7 h8 U hU hW⟩⟩
  have hcs' : cells + mc2 ≤ R.cells ∧ slots + ms2 ≤ R.slots := by rw [hR]; exact hcs
  have hcat' : 2 * (F0 m pc ls ((as.reverse ++ .ref b :: rest).map (fv_v ad))).monitorRoom + ((rest.map (fv_v ad)).map fun v => v.category).sum ≤ 8 := by
    rw [List.map_map, show ((fun v : Value => v.category) ∘ fv_v ad) = (fun v : Value => v.category) from funext fun v => fv_cat ad v]
    exact lv_room hcat
  have hcode : fx_T M2 = Cond.code M2.1 M2.2.1 M2.2.2.1 none :: fg_l := by unfold fx_T; rw [hV.2.2.2]
  refine fw_back K h1 h2 hor h5 h7 h8 h9 (a := (Value.ref (ad b) :: as.map (fv_v ad)).toArray) (P2 := P2) ?_ kk
  rcases hV.1 with q | ⟨host, q⟩
  · exact va_runI (As := as.map (fv_v ad)) (b := ad b) ⟨K.1, K.2.1, K.2.2.1, K.2.2.2.2.2.1, K.2.2.2.2.2.2.2.1⟩ hmet (cwI n K.2.2.2.2.2.2.2.1 (fg_in hM.2.1) hcode rfl rfl (hts _ hM.2.2.1) (hts _ q) (hts _ hV.2.1) hV.2.2.1 ⟨hM.2.2.2.1.1, hM.2.2.2.1.2, hM.2.2.2.2.1⟩ hroom) hPS rfl (by rw [List.length_map]; exact hn) h9.1 (by simp [fv_v]) hcat' hd hcs'
  · exact va_runIN (As := as.map (fv_v ad)) (b := ad b) ⟨K.1, K.2.1, K.2.2.1, K.2.2.2.2.2.1, K.2.2.2.2.2.2.2.1⟩ hmet ⟨va_cnB n K.2.2.2.2.2.2.2.1 (fg_in hM.2.1) hcode rfl rfl (K.2.2.2.2.2.2.2.2.1 _ q) (hts _ hM.2.2.1) ⟨hM.2.2.2.1.1, hM.2.2.2.1.2, hM.2.2.2.2.1⟩ hroom, hV.2.2.1, hts _ hV.2.1⟩ hPS rfl (by rw [List.length_map]; exact hn) h9.1 (by simp [fv_v]) hcat' hd hcs'
theorem fw_putFR {ci N j k f r : Nat} {C : String} {T : u_T} {fs : List Nat} {ty : FieldType} (hd : decode M.2.1 pc = .ok (.putfield idx, 3)) (hC : fk_C ci C T N) (hjN : j < N) (hF : Cond.fieldLink M.1.cls idx (T j).1 (T j).2.1 (T j).2.2.1 ∈ fg_l) (hk : k < 4000) (hr : r < 4000) (hs : μ.2.1 k = (0, ci, fs)) (hj : fs[j]? = some (f + 2)) (hty : parseFieldDescriptor (T j).2.2.1 = some ty) (hfin : (T j).2.2.2 = true) (hini : M.1.name = "<init>") (hdecl : (T j).1 = M.1.cls) (hnar : ∀ a, narrow ty (.ref a) = .ref a) (hfit : ∀ a, fits ty (.ref a) = true)
    (kk : fwp l S M d mc ms cells slots (pc + 3) loc st (fm_r μ k j (r + 3)) P) : fwp l S M d mc ms cells slots pc loc (.ref r :: .ref k :: st) μ P := by
  intro p e R s m args below meth c D cy A ad0 n0 K H locs ls ad h1 h2 h3 h4 h5 h6 h7 h8 h9
  have hk := fv_lt (fs_h (fs_t h4)) hk
  have hr := fv_lt (fs_h h4) hr
  have he : (fc_w ad cy μ)[k]? = some (ad k, .inr (ci, fs.mapIdx (fun j f => fc_f ad (μ.2.2.1 k j) (μ.2.2.2 k j) f))) := by rw [fc_at hk, fc_eo hs]
  have hl : j < (fs.mapIdx (fun j f => fc_f ad (μ.2.2.1 k j) (μ.2.2.2 k j) f)).length := by
    rw [List.length_mapIdx]; exact (List.getElem?_eq_some_iff.mp hj).1
  have hts := fun w (h : w ∈ fg_l) => K.2.2.2.2.2.2.2.1 w (List.mem_cons_of_mem _ h)
  have e1 := fc_set (ad := ad) (cy := cy) (μ' := fm_r μ k j (r + 3)) hk rfl (fm_r_s hs hj ad cy) (fm_r_o ad cy)
  obtain ⟨ty0, hty0⟩ := hC.2.2.1
  exact va_putF K.1 K.2.1 hts hC.2.1 ty0 hty0 hC.2.2.2 K.2.2.2.2.2.1 K.2.2.2.2.2.2.2.2.2.1 h6 h7 h8 k he hC.1 j hjN (hts _ hF) (fun _ h => h) hfin (K.2.2.2.2.2.2.1.trans hini) hdecl hty (hnar (ad r)) (hfit (ad r)) hl hd (fun H1 locs1 g1 g2 g3 => by
    have g1 : va_P D vwCl (fc_w ad cy (fm_r μ k j (r + 3))) H1 := by rw [← e1]; exact g1
    have g2 : va_D A (fc_w ad cy (fm_r μ k j (r + 3))) := by rw [← e1]; exact g2
    exact kk p e R s m args below meth c D cy A ad0 n0 K H1 locs1 ls ad h1 h2 (fm_r_ok h3 hr) (fs_t (fs_t h4)) h5 g1 g2 g3 h9)
end FINIT
