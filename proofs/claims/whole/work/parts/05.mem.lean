def fm_i (μ : fm_T) (k j : Nat) (v : Int32) : fm_T := (μ.1, μ.2.1, va_up μ.2.2.1 k (upd (μ.2.2.1 k) j v), μ.2.2.2)
def fm_l (μ : fm_T) (k j : Nat) (v : Int64) : fm_T := (μ.1, μ.2.1, μ.2.2.1, va_up μ.2.2.2 k (vp_updL (μ.2.2.2 k) j v))
def fm_r (μ : fm_T) (k j c : Nat) : fm_T := (μ.1, va_up μ.2.1 k ((μ.2.1 k).1, (μ.2.1 k).2.1, (μ.2.1 k).2.2.set j c), μ.2.2.1, μ.2.2.2)
def fk_C (ci : Nat) (C : String) (T : u_T) (N : Nat) : Prop := vwCl[ci]? = some (C, T, N) ∧ (∀ w ∈ u_ws C T N, w ∈ fg_l) ∧ (∃ ty : Nat → FieldType, ∀ k, k < N → parseFieldDescriptor (T k).2.2.1 = some (ty k)) ∧ ∀ a, a < N → ∀ b, b < N → a ≠ b → (T a).2.1 ≠ (T b).2.1
def fk_F (own : String) (idx : Nat) (T : u_T) (N j : Nat) : Prop := j < N ∧ (Cond.fieldLink own idx (T j).1 (T j).2.1 (T j).2.2.1 ∈ fg_l ∨ ∃ host, Cond.fieldLinkNest own idx (T j).1 (T j).2.1 (T j).2.2.1 host ∈ fg_h)
theorem fc_eo {ad : Nat → Nat} {cy : Nat → ClassId} {μ : fm_T} {k ci : Nat} {fs : List Nat} (hs : μ.2.1 k = (0, ci, fs)) : fc_e ad cy μ k = .inr (ci, fs.mapIdx (fun j f => fc_f ad (μ.2.2.1 k j) (μ.2.2.2 k j) f)) := by
  unfold fc_e; rw [hs]; rfl
theorem fc_ei {ad : Nat → Nat} {cy : Nat → ClassId} {μ : fm_T} {k n : Nat} {fs : List Nat} (hs : μ.2.1 k = (1, n, fs)) : fc_e ad cy μ k = .inl (cy 0, n, .inl (μ.2.2.1 k)) := by
  unfold fc_e; rw [hs]; rfl
theorem fc_el {ad : Nat → Nat} {cy : Nat → ClassId} {μ : fm_T} {k n : Nat} {fs : List Nat} (hs : μ.2.1 k = (2, n, fs)) : fc_e ad cy μ k = .inl (cy 1, n, .inr (.inl (μ.2.2.2 k))) := by
  unfold fc_e; rw [hs]; rfl
theorem fc_ez {ad : Nat → Nat} {cy : Nat → ClassId} {μ : fm_T} {k n : Nat} {fs : List Nat} (hs : μ.2.1 k = (3, n, fs)) : fc_e ad cy μ k = .inl (cy 2, n, .inl (μ.2.2.1 k)) := by
  unfold fc_e; rw [hs]; rfl
theorem fc_eq4 {ad : Nat → Nat} {cy : Nat → ClassId} {μ : fm_T} {k n : Nat} {fs : List Nat} (hs : μ.2.1 k = (4, n, fs)) : fc_e ad cy μ k = .inl (cy 3, n, .inr (.inr (.inr (.inr (fun j => fc_o ad (fs.getD j 2)))))) := by
  unfold fc_e; rw [hs]; rfl
theorem fc_ecg {ad : Nat → Nat} {cy : Nat → ClassId} {μ μ' : fm_T} {k : Nat} (hs : μ'.2.1 k = μ.2.1 k) (hi : μ'.2.2.1 k = μ.2.2.1 k) (hl : μ'.2.2.2 k = μ.2.2.2 k) : fc_e ad cy μ' k = fc_e ad cy μ k := by
  unfold fc_e; rw [hs, hi, hl]
theorem fv_lt {n k : Nat} (h : fv_ok n (.ref k)) (hk : k < 4000) : k < n := by
  have h : k < n ∨ 4000 ≤ k := h
  omega
section FMEM
variable {l : Launch} {S : fs_T} {M : fy_T} {d mc ms cells slots pc : Nat} {loc : List (Option Value)} {st : List Value} {μ : fm_T} {P : Option Value → fm_T → Prop}
theorem fw_get {ci N idx j k f : Nat} {C : String} {T : u_T} {fs : List Nat} {v : Value} (hd : decode M.2.1 pc = .ok (.getfield idx, 3)) (hC : fk_C ci C T N) (hF : fk_F M.1.cls idx T N j) (hk : k < 4000) (hs : μ.2.1 k = (0, ci, fs)) (hj : fs[j]? = some f) (hvv : fc_p (μ.2.2.1 k j) (μ.2.2.2 k j) f = v) (kk : fwp l S M d mc ms cells slots (pc + 3) loc (v :: st) μ P) : fwp l S M d mc ms cells slots pc loc (.ref k :: st) μ P := by
  subst hvv
  intro p e R s m args below meth c D cy A ad0 n0 K H locs ls ad h1 h2 h3 h4 h5 h6 h7 h8 h9
  have hk := fv_lt (fs_h h4) hk
  have he : (fc_w ad cy μ)[k]? = some (ad k, .inr (ci, fs.mapIdx (fun j f => fc_f ad (μ.2.2.1 k j) (μ.2.2.2 k j) f))) := by rw [fc_at hk, fc_eo hs]
  have hv : (fs.mapIdx (fun j f => fc_f ad (μ.2.2.1 k j) (μ.2.2.2 k j) f))[j]? = some (fv_v ad (fc_p (μ.2.2.1 k j) (μ.2.2.2 k j) f)) := by
    rw [List.getElem?_mapIdx, hj, fc_pv]; rfl
  have hok : fv_ok μ.1 (fc_p (μ.2.2.1 k j) (μ.2.2.2 k j) f) := by
    have h := h3 k hk f (by rw [hs]; exact List.mem_of_getElem? hj)
    match f, h with
    | 0, _ => trivial
    | 1, _ => trivial
    | 2, _ => trivial
    | q + 3, h =>
      show q < μ.1 ∨ 4000 ≤ q
      omega
  have go := kk p e R s m args below meth c D cy A ad0 n0 K H locs ls ad h1 h2 h3 (fs_c hok (fs_t h4)) h5 h6 h7 h8 h9
  have hts := fun w (h : w ∈ fg_l) => K.2.2.2.2.2.2.2.1 w (List.mem_cons_of_mem _ h)
  rcases hF.2 with q | ⟨host, q⟩
  · exact va_get K.1 K.2.1 hts hC.2.1 K.2.2.2.2.2.1 K.2.2.2.2.2.2.2.2.2.1 h6 k he hC.1 j hF.1 (hts _ q) (fun _ h => h) hv hd go
  · exact va_getN K.1 K.2.1 hts hC.2.1 K.2.2.2.2.2.1 K.2.2.2.2.2.2.2.2.2.1 h6 k he hC.1 j hF.1 (va_Nw.use rfl (K.2.2.2.2.2.2.2.2.1 _ q)) (fun _ h => h) hv hd go
theorem fw_put0 {ci N idx j k f : Nat} {C : String} {T : u_T} {fs : List Nat} {v : Value} {ty : FieldType} {μ' : fm_T} (hC : fk_C ci C T N) (hF : fk_F M.1.cls idx T N j) (hk : k < 4000) (hs : μ.2.1 k = (0, ci, fs)) (hj : fs[j]? = some f) (hty : parseFieldDescriptor (T j).2.2.1 = some ty) (hfin : (T j).2.2.2 = false)
    (hn1 : μ'.1 = μ.1) (hnar : ∀ ad, narrow ty (fv_v ad v) = fv_v ad v) (hfit : ∀ ad, fits ty (fv_v ad v) = true) (hok' : fm_ok μ → fv_ok μ.1 v → fm_ok μ')
    (hset : ∀ (ad : Nat → Nat) (cy : Nat → ClassId), fc_e ad cy μ' k = .inr (ci, (fs.mapIdx (fun j f => fc_f ad (μ.2.2.1 k j) (μ.2.2.2 k j) f)).set j (fv_v ad v))) (hoth : ∀ (ad : Nat → Nat) (cy : Nat → ClassId) (a : Nat), a ≠ k → fc_e ad cy μ' a = fc_e ad cy μ a)
    (hd : decode M.2.1 pc = .ok (.putfield idx, 3)) (kk : fwp l S M d mc ms cells slots (pc + 3) loc st μ' P) : fwp l S M d mc ms cells slots pc loc (v :: .ref k :: st) μ P := by
  intro p e R s m args below meth c D cy A ad0 n0 K H locs ls ad h1 h2 h3 h4 h5 h6 h7 h8 h9
  have hk := fv_lt (fs_h (fs_t h4)) hk
  have he : (fc_w ad cy μ)[k]? = some (ad k, .inr (ci, fs.mapIdx (fun j f => fc_f ad (μ.2.2.1 k j) (μ.2.2.2 k j) f))) := by rw [fc_at hk, fc_eo hs]
  have hl : j < (fs.mapIdx (fun j f => fc_f ad (μ.2.2.1 k j) (μ.2.2.2 k j) f)).length := by
    rw [List.length_mapIdx]; exact (List.getElem?_eq_some_iff.mp hj).1
  have hts := fun w (h : w ∈ fg_l) => K.2.2.2.2.2.2.2.1 w (List.mem_cons_of_mem _ h)
  have e1 := fc_set (ad := ad) (cy := cy) hk hn1 (hset ad cy) (hoth ad cy)
  obtain ⟨ty0, hty0⟩ := hC.2.2.1
  have go : ∀ (H1 : Heap) (locs1 : List Loc), va_P D vwCl ((fc_w ad cy μ).set k (ad k, .inr (ci, (fs.mapIdx (fun j f => fc_f ad (μ.2.2.1 k j) (μ.2.2.2 k j) f)).set j (fv_v ad v)))) H1 → va_D A ((fc_w ad cy μ).set k (ad k, .inr (ci, (fs.mapIdx (fun j f => fc_f ad (μ.2.2.1 k j) (μ.2.2.2 k j) f)).set j (fv_v ad v)))) → va_S A s.heap H1 locs1 → W p l e R s m args below meth c H1 locs1 cells slots (MQ below (fx_Q P D cy A ad0 n0) args s mc ms A) (F0 m (pc + 3) ls (st.map (fv_v ad))) := by
    intro H1 locs1 g1 g2 g3
    rw [e1] at g1 g2
    exact kk p e R s m args below meth c D cy A ad0 n0 K H1 locs1 ls ad (by rw [hn1]; exact h1) h2 (hok' h3 (fs_h h4)) (by rw [hn1]; exact fs_t (fs_t h4)) (by rw [hn1]; exact h5) g1 g2 g3 h9
  rcases hF.2 with q | ⟨host, q⟩
  · exact va_put K.1 K.2.1 hts hC.2.1 ty0 hty0 hC.2.2.2 K.2.2.2.2.2.1 K.2.2.2.2.2.2.2.2.2.1 h6 h7 h8 k he hC.1 j hF.1 (hts _ q) (fun _ h => h) hfin hty (hnar ad) (hfit ad) hl hd go
  · exact va_putN K.1 K.2.1 hts hC.2.1 ty0 hty0 hC.2.2.2 K.2.2.2.2.2.1 K.2.2.2.2.2.2.2.2.2.1 h6 h7 h8 k he hC.1 j hF.1 (va_Nw.use rfl (K.2.2.2.2.2.2.2.2.1 _ q)) (fun _ h => h) hfin hty (hnar ad) (hfit ad) hl hd go
theorem fm_i_o {k j : Nat} {v : Int32} (ad : Nat → Nat) (cy : Nat → ClassId) (a : Nat) (h : a ≠ k) : fc_e ad cy (fm_i μ k j v) a = fc_e ad cy μ a := fc_ecg rfl (by simp [fm_i, va_up, h]) rfl
theorem fm_l_o {k j : Nat} {v : Int64} (ad : Nat → Nat) (cy : Nat → ClassId) (a : Nat) (h : a ≠ k) : fc_e ad cy (fm_l μ k j v) a = fc_e ad cy μ a := fc_ecg rfl rfl (by simp [fm_l, va_up, h])
theorem fm_r_o {k j c : Nat} (ad : Nat → Nat) (cy : Nat → ClassId) (a : Nat) (h : a ≠ k) : fc_e ad cy (fm_r μ k j c) a = fc_e ad cy μ a := fc_ecg (by simp [fm_r, va_up, h]) rfl rfl
theorem fm_i_s {k j ci : Nat} {fs : List Nat} {v : Int32} (hs : μ.2.1 k = (0, ci, fs)) (hj : fs[j]? = some 0) (ad : Nat → Nat) (cy : Nat → ClassId) : fc_e ad cy (fm_i μ k j v) k = .inr (ci, (fs.mapIdx (fun j f => fc_f ad (μ.2.2.1 k j) (μ.2.2.2 k j) f)).set j (.int v)) := by
  rw [fc_eo (μ := fm_i μ k j v) hs]
  congr 2
  apply List.ext_getElem?
  intro i
  by_cases h : i = j
  · subst h
    rw [List.getElem?_set_self (by rw [List.length_mapIdx]; exact (List.getElem?_eq_some_iff.mp hj).1), List.getElem?_mapIdx, hj]
    simp [fm_i, va_up, upd, fc_f]
  · rw [List.getElem?_set_ne (Ne.symm h), List.getElem?_mapIdx, List.getElem?_mapIdx]
    simp [fm_i, va_up, upd, h]
theorem fm_l_s {k j ci : Nat} {fs : List Nat} {v : Int64} (hs : μ.2.1 k = (0, ci, fs)) (hj : fs[j]? = some 1) (ad : Nat → Nat) (cy : Nat → ClassId) : fc_e ad cy (fm_l μ k j v) k = .inr (ci, (fs.mapIdx (fun j f => fc_f ad (μ.2.2.1 k j) (μ.2.2.2 k j) f)).set j (.long v)) := by
  rw [fc_eo (μ := fm_l μ k j v) hs]
  congr 2
  apply List.ext_getElem?
  intro i
  by_cases h : i = j
  · subst h
    rw [List.getElem?_set_self (by rw [List.length_mapIdx]; exact (List.getElem?_eq_some_iff.mp hj).1), List.getElem?_mapIdx, hj]
    simp [fm_l, va_up, vp_updL, fc_f]
  · rw [List.getElem?_set_ne (Ne.symm h), List.getElem?_mapIdx, List.getElem?_mapIdx]
    simp [fm_l, va_up, vp_updL, h]
theorem fm_r_s {k j ci f r : Nat} {fs : List Nat} (hs : μ.2.1 k = (0, ci, fs)) (hj : fs[j]? = some (f + 2)) (ad : Nat → Nat) (cy : Nat → ClassId) : fc_e ad cy (fm_r μ k j (r + 3)) k = .inr (ci, (fs.mapIdx (fun j f => fc_f ad (μ.2.2.1 k j) (μ.2.2.2 k j) f)).set j (.ref (ad r))) := by
  rw [fc_eo (μ := fm_r μ k j (r + 3)) (ci := ci) (fs := fs.set j (r + 3)) (by simp [fm_r, va_up, hs])]
  congr 2
  apply List.ext_getElem?
  intro i
  have hl := (List.getElem?_eq_some_iff.mp hj).1
  by_cases h : i = j
  · subst h
    rw [List.getElem?_set_self (by rw [List.length_mapIdx]; exact hl), List.getElem?_mapIdx, List.getElem?_set_self hl]
    simp [fc_f]
  · rw [List.getElem?_set_ne (Ne.symm h), List.getElem?_mapIdx, List.getElem?_mapIdx, List.getElem?_set_ne (Ne.symm h)]
    rfl
theorem fm_r_ok {k j r : Nat} (h : fm_ok μ) (hr : r < μ.1) : fm_ok (fm_r μ k j (r + 3)) := by
  intro a ha f hf
  show f < μ.1 + 3
  by_cases q : a = k
  · subst q
    simp only [fm_r, va_up, if_pos rfl] at hf
    rcases List.mem_or_eq_of_mem_set hf with z | z
    · exact h a ha f z
    · omega
  · simp only [fm_r, va_up, if_neg q] at hf
    exact h a ha f hf
theorem fw_putI {ci N idx j k : Nat} {C : String} {T : u_T} {fs : List Nat} {v : Int32} (hd : decode M.2.1 pc = .ok (.putfield idx, 3)) (hC : fk_C ci C T N) (hF : fk_F M.1.cls idx T N j) (hk : k < 4000) (hs : μ.2.1 k = (0, ci, fs)) (hj : fs[j]? = some 0) (hty : parseFieldDescriptor (T j).2.2.1 = some .int) (hfin : (T j).2.2.2 = false) (kk : fwp l S M d mc ms cells slots (pc + 3) loc st (fm_i μ k j v) P) : fwp l S M d mc ms cells slots pc loc (.int v :: .ref k :: st) μ P :=
  fw_put0 (v := .int v) (μ' := fm_i μ k j v) (hd := hd) hC hF hk hs hj hty hfin rfl (fun _ => rfl) (fun _ => rfl) (fun h _ => h) (fm_i_s hs hj) fm_i_o kk
theorem fw_putL {ci N idx j k : Nat} {C : String} {T : u_T} {fs : List Nat} {v : Int64} (hd : decode M.2.1 pc = .ok (.putfield idx, 3)) (hC : fk_C ci C T N) (hF : fk_F M.1.cls idx T N j) (hk : k < 4000) (hs : μ.2.1 k = (0, ci, fs)) (hj : fs[j]? = some 1) (hty : parseFieldDescriptor (T j).2.2.1 = some .long) (hfin : (T j).2.2.2 = false) (kk : fwp l S M d mc ms cells slots (pc + 3) loc st (fm_l μ k j v) P) : fwp l S M d mc ms cells slots pc loc (.long v :: .ref k :: st) μ P :=
  fw_put0 (v := .long v) (μ' := fm_l μ k j v) (hd := hd) hC hF hk hs hj hty hfin rfl (fun _ => rfl) (fun _ => rfl) (fun h _ => h) (fm_l_s hs hj) fm_l_o kk
theorem fw_putZ {ci N idx j k : Nat} {C : String} {T : u_T} {fs : List Nat} {v : Int32} (hd : decode M.2.1 pc = .ok (.putfield idx, 3)) (hC : fk_C ci C T N) (hF : fk_F M.1.cls idx T N j) (hk : k < 4000) (hs : μ.2.1 k = (0, ci, fs)) (hj : fs[j]? = some 0) (hty : parseFieldDescriptor (T j).2.2.1 = some .boolean) (hfin : (T j).2.2.2 = false) (hv : v = 0 ∨ v = 1) (kk : fwp l S M d mc ms cells slots (pc + 3) loc st (fm_i μ k j v) P) : fwp l S M d mc ms cells slots pc loc (.int v :: .ref k :: st) μ P :=
  fw_put0 (v := .int v) (μ' := fm_i μ k j v) (hd := hd) hC hF hk hs hj hty hfin rfl (fun _ => by rcases hv with rfl | rfl <;> rfl) (fun _ => by rcases hv with rfl | rfl <;> rfl) (fun h _ => h) (fm_i_s hs hj) fm_i_o kk
theorem fw_putR {ci N idx j k f r : Nat} {C cr : String} {T : u_T} {fs : List Nat} (hd : decode M.2.1 pc = .ok (.putfield idx, 3)) (hC : fk_C ci C T N) (hF : fk_F M.1.cls idx T N j) (hk : k < 4000) (hr : r < 4000) (hs : μ.2.1 k = (0, ci, fs)) (hj : fs[j]? = some (f + 2)) (hty : parseFieldDescriptor (T j).2.2.1 = some (.object cr)) (hfin : (T j).2.2.2 = false) (kk : fwp l S M d mc ms cells slots (pc + 3) loc st (fm_r μ k j (r + 3)) P) : fwp l S M d mc ms cells slots pc loc (.ref r :: .ref k :: st) μ P :=
  fw_put0 (v := .ref r) (μ' := fm_r μ k j (r + 3)) (hd := hd) hC hF hk hs hj hty hfin rfl (fun _ => rfl) (fun _ => rfl) (fun h q => fm_r_ok h (fv_lt q hr)) (fm_r_s hs hj) fm_r_o kk
theorem fw_iald {k n t0 j : Nat} {fs : List Nat} {i : Int32} {v : Int32} (hd : decode M.2.1 pc = .ok (.iaload, 1)) (ht0 : S.1[t0]? = some (0, .int)) (hk : k < 4000) (hs : μ.2.1 k = (1, n, fs)) (hi : vp_in i n) (hj : i.toNatClampNeg = j) (hvv : μ.2.2.1 k j = v) (kk : fwp l S M d mc ms cells slots (pc + 1) loc (.int v :: st) μ P) : fwp l S M d mc ms cells slots pc loc (.int i :: .ref k :: st) μ P := by
  subst hj
  subst hvv
  intro p e R s m args below meth c D cy A ad0 n0 K H locs ls ad h1 h2 h3 h4 h5 h6 h7 h8 h9
  have hk := fv_lt (fs_h (fs_t h4)) hk
  exact va_iald K.1 K.2.1 K.2.2.2.2.2.2.2.2.2.1 h6 k t0 (by rw [fc_at hk, fc_ei hs]) (by rw [fx_t, List.getElem?_map, ht0]; rfl) hi hd (kk p e R s m args below meth c D cy A ad0 n0 K H locs ls ad h1 h2 h3 (fs_c trivial (fs_t (fs_t h4))) h5 h6 h7 h8 h9)
theorem fw_lald {k n t0 j : Nat} {fs : List Nat} {i : Int32} {v : Int64} (hd : decode M.2.1 pc = .ok (.laload, 1)) (ht0 : S.1[t0]? = some (1, .long)) (hk : k < 4000) (hs : μ.2.1 k = (2, n, fs)) (hi : vp_in i n) (hj : i.toNatClampNeg = j) (hvv : μ.2.2.2 k j = v) (kk : fwp l S M d mc ms cells slots (pc + 1) loc (.long v :: st) μ P) : fwp l S M d mc ms cells slots pc loc (.int i :: .ref k :: st) μ P := by
  subst hj
  subst hvv
  intro p e R s m args below meth c D cy A ad0 n0 K H locs ls ad h1 h2 h3 h4 h5 h6 h7 h8 h9
  have hk := fv_lt (fs_h (fs_t h4)) hk
  exact va_lald K.1 K.2.1 K.2.2.2.2.2.2.2.2.2.1 h6 k t0 (by rw [fc_at hk, fc_el hs]) (by rw [fx_t, List.getElem?_map, ht0]; rfl) hi hd (kk p e R s m args below meth c D cy A ad0 n0 K H locs ls ad h1 h2 h3 (fs_c trivial (fs_t (fs_t h4))) h5 h6 h7 h8 h9)
theorem fw_zald {k n t0 j : Nat} {fs : List Nat} {i : Int32} {v : Int32} (hd : decode M.2.1 pc = .ok (.baload, 1)) (ht0 : S.1[t0]? = some (2, .boolean)) (hk : k < 4000) (hs : μ.2.1 k = (3, n, fs)) (hi : vp_in i n) (hj : i.toNatClampNeg = j) (hvv : μ.2.2.1 k j = v) (kk : fwp l S M d mc ms cells slots (pc + 1) loc (.int v :: st) μ P) : fwp l S M d mc ms cells slots pc loc (.int i :: .ref k :: st) μ P := by
  subst hj
  subst hvv
  intro p e R s m args below meth c D cy A ad0 n0 K H locs ls ad h1 h2 h3 h4 h5 h6 h7 h8 h9
  have hk := fv_lt (fs_h (fs_t h4)) hk
  exact va_zald K.1 K.2.1 K.2.2.2.2.2.2.2.2.2.1 h6 k t0 (by rw [fc_at hk, fc_ez hs]) (by rw [fx_t, List.getElem?_map, ht0]; rfl) hi hd (kk p e R s m args below meth c D cy A ad0 n0 K H locs ls ad h1 h2 h3 (fs_c trivial (fs_t (fs_t h4))) h5 h6 h7 h8 h9)
theorem fw_iast {k n t0 j : Nat} {fs : List Nat} {i : Int32} {v : Int32} (hd : decode M.2.1 pc = .ok (.iastore, 1)) (ht0 : S.1[t0]? = some (0, .int)) (hk : k < 4000) (hs : μ.2.1 k = (1, n, fs)) (hi : vp_in i n) (hj : i.toNatClampNeg = j) (kk : fwp l S M d mc ms cells slots (pc + 1) loc st (fm_i μ k j v) P) : fwp l S M d mc ms cells slots pc loc (.int v :: .int i :: .ref k :: st) μ P := by
  subst hj
  intro p e R s m args below meth c D cy A ad0 n0 K H locs ls ad h1 h2 h3 h4 h5 h6 h7 h8 h9
  have hk := fv_lt (fs_h (fs_t (fs_t h4))) hk
  refine va_iast K.1 K.2.1 K.2.2.2.2.2.2.2.2.2.1 h6 h7 h8 k t0 (by rw [fc_at hk, fc_ei hs]) (by rw [fx_t, List.getElem?_map, ht0]; rfl) hi hd (fun H1 locs1 g1 g2 g3 => ?_)
  have e1 := fc_set (ad := ad) (cy := cy) (μ' := fm_i μ k i.toNatClampNeg v) (x := .inl (cy 0, n, .inl (upd (μ.2.2.1 k) i.toNatClampNeg v))) hk rfl ((fc_ei (μ := fm_i μ k i.toNatClampNeg v) hs).trans (by simp [fm_i, va_up])) (fm_i_o ad cy)
  skip
  rw [e1] at g1 g2
  exact kk p e R s m args below meth c D cy A ad0 n0 K H1 locs1 ls ad h1 h2 h3 (fs_t (fs_t (fs_t h4))) h5 g1 g2 g3 h9
theorem fw_last {k n t0 j : Nat} {fs : List Nat} {i : Int32} {v : Int64} (hd : decode M.2.1 pc = .ok (.lastore, 1)) (ht0 : S.1[t0]? = some (1, .long)) (hk : k < 4000) (hs : μ.2.1 k = (2, n, fs)) (hi : vp_in i n) (hj : i.toNatClampNeg = j) (kk : fwp l S M d mc ms cells slots (pc + 1) loc st (fm_l μ k j v) P) : fwp l S M d mc ms cells slots pc loc (.long v :: .int i :: .ref k :: st) μ P := by
  subst hj
  intro p e R s m args below meth c D cy A ad0 n0 K H locs ls ad h1 h2 h3 h4 h5 h6 h7 h8 h9
  have hk := fv_lt (fs_h (fs_t (fs_t h4))) hk
  refine va_last K.1 K.2.1 K.2.2.2.2.2.2.2.2.2.1 h6 h7 h8 k t0 (by rw [fc_at hk, fc_el hs]) (by rw [fx_t, List.getElem?_map, ht0]; rfl) hi hd (fun H1 locs1 g1 g2 g3 => ?_)
  have e1 := fc_set (ad := ad) (cy := cy) (μ' := fm_l μ k i.toNatClampNeg v) (x := .inl (cy 1, n, .inr (.inl (vp_updL (μ.2.2.2 k) i.toNatClampNeg v)))) hk rfl ((fc_el (μ := fm_l μ k i.toNatClampNeg v) hs).trans (by simp [fm_l, va_up])) (fm_l_o ad cy)
  skip
  rw [e1] at g1 g2
  exact kk p e R s m args below meth c D cy A ad0 n0 K H1 locs1 ls ad h1 h2 h3 (fs_t (fs_t (fs_t h4))) h5 g1 g2 g3 h9
theorem fw_zast {k n t0 j : Nat} {fs : List Nat} {i : Int32} {v : Int32} (hd : decode M.2.1 pc = .ok (.bastore, 1)) (ht0 : S.1[t0]? = some (2, .boolean)) (hk : k < 4000) (hs : μ.2.1 k = (3, n, fs)) (hi : vp_in i n) (hv : v = 0 ∨ v = 1) (hj : i.toNatClampNeg = j) (kk : fwp l S M d mc ms cells slots (pc + 1) loc st (fm_i μ k j v) P) : fwp l S M d mc ms cells slots pc loc (.int v :: .int i :: .ref k :: st) μ P := by
  subst hj
  intro p e R s m args below meth c D cy A ad0 n0 K H locs ls ad h1 h2 h3 h4 h5 h6 h7 h8 h9
  have hk := fv_lt (fs_h (fs_t (fs_t h4))) hk
  refine va_zast K.1 K.2.1 K.2.2.2.2.2.2.2.2.2.1 h6 h7 h8 k t0 (by rw [fc_at hk, fc_ez hs]) (by rw [fx_t, List.getElem?_map, ht0]; rfl) hi hd (fun H1 locs1 g1 g2 g3 => ?_)
  have e1 := fc_set (ad := ad) (cy := cy) (μ' := fm_i μ k i.toNatClampNeg v) (x := .inl (cy 2, n, .inl (upd (μ.2.2.1 k) i.toNatClampNeg v))) hk rfl ((fc_ez (μ := fm_i μ k i.toNatClampNeg v) hs).trans (by simp [fm_i, va_up])) (fm_i_o ad cy)
  have e2 : vp_nar .boolean v = v := by rcases hv with rfl | rfl <;> rfl
  rw [e2] at g1 g2
  rw [e1] at g1 g2
  exact kk p e R s m args below meth c D cy A ad0 n0 K H1 locs1 ls ad h1 h2 h3 (fs_t (fs_t (fs_t h4))) h5 g1 g2 g3 h9
theorem fw_alen {k n t0 : Nat} {fs : List Nat} {v : Int32} (hd : decode M.2.1 pc = .ok (.arraylength, 1)) (ht0 : S.1[t0]? = some (0, .int)) (hk : k < 4000) (hs : μ.2.1 k = (1, n, fs)) (hv : Int32.ofNat n = v) (kk : fwp l S M d mc ms cells slots (pc + 1) loc (.int v :: st) μ P) : fwp l S M d mc ms cells slots pc loc (.ref k :: st) μ P := by
  intro p e R s m args below meth c D cy A ad0 n0 K H locs ls ad h1 h2 h3 h4 h5 h6 h7 h8 h9
  have hk := fv_lt (fs_h h4) hk
  exact va_alen K.1 K.2.1 K.2.2.2.2.2.2.2.2.2.1 h6 k t0 (x := (n, .inl (μ.2.2.1 k))) (by rw [fc_at hk, fc_ei hs]) (ty := .int) (by rw [fx_t, List.getElem?_map, ht0]; rfl) hv hd (kk p e R s m args below meth c D cy A ad0 n0 K H locs ls ad h1 h2 h3 (fs_c trivial (fs_t h4)) h5 h6 h7 h8 h9)
theorem fw_alenL {k n t0 : Nat} {fs : List Nat} {v : Int32} (hd : decode M.2.1 pc = .ok (.arraylength, 1)) (ht0 : S.1[t0]? = some (1, .long)) (hk : k < 4000) (hs : μ.2.1 k = (2, n, fs)) (hv : Int32.ofNat n = v) (kk : fwp l S M d mc ms cells slots (pc + 1) loc (.int v :: st) μ P) : fwp l S M d mc ms cells slots pc loc (.ref k :: st) μ P := by
  intro p e R s m args below meth c D cy A ad0 n0 K H locs ls ad h1 h2 h3 h4 h5 h6 h7 h8 h9
  have hk := fv_lt (fs_h h4) hk
  exact va_alen K.1 K.2.1 K.2.2.2.2.2.2.2.2.2.1 h6 k t0 (x := (n, .inr (.inl (μ.2.2.2 k)))) (by rw [fc_at hk, fc_el hs]) (ty := .long) (by rw [fx_t, List.getElem?_map, ht0]; rfl) hv hd (kk p e R s m args below meth c D cy A ad0 n0 K H locs ls ad h1 h2 h3 (fs_c trivial (fs_t h4)) h5 h6 h7 h8 h9)
end FMEM
