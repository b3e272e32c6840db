def cm (b : Nat) (L : List fc_C) (μ : fm_T) (zi : Nat → Nat → Int32) (zl : Nat → Nat → Int64) : fm_T := (b + L.length, fun j => if j < b then μ.2.1 j else L.getD (j - b) (0, 0, []), fun j => if j < b then μ.2.2.1 j else zi j, fun j => if j < b then μ.2.2.2 j else zl j)
theorem fm_eq {μ ν : fm_T} (h1 : μ.1 = ν.1) (h2 : ∀ j, μ.2.1 j = ν.2.1 j) (h3 : ∀ j, μ.2.2.1 j = ν.2.2.1 j) (h4 : ∀ j, μ.2.2.2 j = ν.2.2.2 j) : μ = ν := by
  obtain ⟨a, b, c, d⟩ := μ
  obtain ⟨a', b', c', d'⟩ := ν
  have e1 : a = a' := h1
  have e2 : b = b' := funext h2
  have e3 : c = c' := funext h3
  have e4 : d = d' := funext h4
  rw [e1, e2, e3, e4]
theorem cm_at {b i : Nat} {L : List fc_C} {μ : fm_T} {zi : Nat → Nat → Int32} {zl : Nat → Nat → Int64} {x : fc_C} (h : L[i]? = some x) : (cm b L μ zi zl).2.1 (b + i) = x := by
  show (if b + i < b then μ.2.1 (b + i) else L.getD (b + i - b) (0, 0, [])) = x
  rw [if_neg (by omega), show b + i - b = i by omega, List.getD_eq_getElem?_getD, h]
  rfl
theorem cm_n {b : Nat} {L : List fc_C} {μ : fm_T} {zi : Nat → Nat → Int32} {zl : Nat → Nat → Int64} {x : fc_C} (h1 : zi (b + L.length) = fun _ => 0) (h2 : zl (b + L.length) = fun _ => 0) : fm_n (cm b L μ zi zl) x = cm b (L ++ [x]) μ zi zl := by
  apply fm_eq
  · show b + L.length + 1 = b + (L ++ [x]).length
    rw [List.length_append]; rfl
  · intro j
    show va_up (fun j => if j < b then μ.2.1 j else L.getD (j - b) (0, 0, [])) (b + L.length) x j = (if j < b then μ.2.1 j else (L ++ [x]).getD (j - b) (0, 0, []))
    unfold va_up
    by_cases e : j = b + L.length
    · subst e
      rw [if_pos rfl, if_neg (by omega), show b + L.length - b = L.length by omega, List.getD_eq_getElem?_getD, List.getElem?_append_right (Nat.le_refl _)]
      simp
    · rw [if_neg e]
      by_cases q : j < b
      · rw [if_pos q]
        show (if j < b then μ.2.1 j else L.getD (j - b) (0, 0, [])) = _
        rw [if_pos q]
      · rw [if_neg q]
        show (if j < b then μ.2.1 j else L.getD (j - b) (0, 0, [])) = _
        rw [if_neg q, List.getD_eq_getElem?_getD, List.getD_eq_getElem?_getD]
        rcases Nat.lt_or_ge (j - b) L.length with z | z
        · rw [List.getElem?_append_left z]
        · rw [List.getElem?_eq_none z, List.getElem?_eq_none (by simp; omega)]
  · intro j
    show va_up (fun j => if j < b then μ.2.2.1 j else zi j) (b + L.length) (fun _ => 0) j = (if j < b then μ.2.2.1 j else zi j)
    unfold va_up
    by_cases e : j = b + L.length
    · subst e
      rw [if_pos rfl, if_neg (by omega), h1]
    · rw [if_neg e]
  · intro j
    show va_up (fun j => if j < b then μ.2.2.2 j else zl j) (b + L.length) (fun _ => 0) j = (if j < b then μ.2.2.2 j else zl j)
    unfold va_up
    by_cases e : j = b + L.length
    · subst e
      rw [if_pos rfl, if_neg (by omega), h2]
    · rw [if_neg e]
theorem cm_r {b i j r : Nat} {L : List fc_C} {μ : fm_T} {zi : Nat → Nat → Int32} {zl : Nat → Nat → Int64} {kd ci : Nat} {fs : List Nat} (h : L[i]? = some (kd, ci, fs)) : fm_r (cm b L μ zi zl) (b + i) j r = cm b (L.set i (kd, ci, fs.set j r)) μ zi zl := by
  have hc := cm_at (b := b) (μ := μ) (zi := zi) (zl := zl) h
  apply fm_eq
  · show b + L.length = b + (L.set i _).length
    rw [List.length_set]
  · intro k
    show va_up (cm b L μ zi zl).2.1 (b + i) (((cm b L μ zi zl).2.1 (b + i)).1, ((cm b L μ zi zl).2.1 (b + i)).2.1, ((cm b L μ zi zl).2.1 (b + i)).2.2.set j r) k = (cm b (L.set i (kd, ci, fs.set j r)) μ zi zl).2.1 k
    rw [hc]
    have hi : i < L.length := (List.getElem?_eq_some_iff.mp h).1
    unfold va_up
    by_cases e : k = b + i
    · subst e
      rw [if_pos rfl]
      exact (cm_at (by rw [List.getElem?_set_self hi])).symm
    · rw [if_neg e]
      show (if k < b then μ.2.1 k else L.getD (k - b) (0, 0, [])) = (if k < b then μ.2.1 k else (L.set i (kd, ci, fs.set j r)).getD (k - b) (0, 0, []))
      by_cases q : k < b
      · rw [if_pos q, if_pos q]
      · rw [if_neg q, if_neg q, List.getD_eq_getElem?_getD, List.getD_eq_getElem?_getD, List.getElem?_set_ne (by omega)]
  · intro k; rfl
  · intro k; rfl
theorem cm_i {b i j : Nat} {v : Int32} {L : List fc_C} {μ : fm_T} {zi : Nat → Nat → Int32} {zl : Nat → Nat → Int64} : fm_i (cm b L μ zi zl) (b + i) j v = cm b L μ (va_up zi (b + i) (va_up (zi (b + i)) j v)) zl := by
  apply fm_eq
  · rfl
  · intro k; rfl
  · intro k
    show va_up (fun j => if j < b then μ.2.2.1 j else zi j) (b + i) (va_up (if b + i < b then μ.2.2.1 (b + i) else zi (b + i)) j v) k = (if k < b then μ.2.2.1 k else va_up zi (b + i) (va_up (zi (b + i)) j v) k)
    rw [if_neg (show ¬ b + i < b by omega)]
    by_cases e : k = b + i
    · subst e; rw [if_neg (show ¬ b + i < b by omega)]; simp [va_up]
    · simp [va_up, e]
  · intro k; rfl
theorem va_up_id {α : Type} {f : Nat → α} {k : Nat} {v : α} (h : f k = v) : va_up f k v = f := by
  funext j
  unfold va_up
  by_cases e : j = k
  · subst e; rw [if_pos rfl, h]
  · rw [if_neg e]
theorem zu_ne {α : Type} {f : Nat → α} {k j : Nat} {v : α} (h : j ≠ k) : va_up f k v j = f j := by
  unfold va_up; rw [if_neg h]
theorem cm_i0 {b i j : Nat} {L : List fc_C} {μ : fm_T} {zi : Nat → Nat → Int32} {zl : Nat → Nat → Int64} (h : zi (b + i) = fun _ => 0) : fm_i (cm b L μ zi zl) (b + i) j 0 = cm b L μ zi zl := by
  rw [cm_i, va_up_id (f := zi (b + i)) (by rw [h]), va_up_id rfl]
theorem cm_l0 {b i j : Nat} {L : List fc_C} {μ : fm_T} {zi : Nat → Nat → Int32} {zl : Nat → Nat → Int64} (h : zl (b + i) = fun _ => 0) : fm_l (cm b L μ zi zl) (b + i) j 0 = cm b L μ zi zl := by
  apply fm_eq
  · rfl
  · intro k; rfl
  · intro k; rfl
  · intro k
    show va_up (fun j => if j < b then μ.2.2.2 j else zl j) (b + i) (va_up (if b + i < b then μ.2.2.2 (b + i) else zl (b + i)) j 0) k = (if k < b then μ.2.2.2 k else zl k)
    rw [if_neg (show ¬ b + i < b by omega), h]
    by_cases e : k = b + i
    · subst e; rw [if_neg (show ¬ b + i < b by omega), h]
      funext a
      simp [va_up]
    · simp [va_up, e]
theorem cm_app {b : Nat} {L1 L2 : List fc_C} {μ : fm_T} {zi zi' : Nat → Nat → Int32} {zl zl' : Nat → Nat → Int64} (h : ∀ j, j < b + L1.length → zi' j = zi j ∧ zl' j = zl j) : cm (b + L1.length) L2 (cm b L1 μ zi zl) zi' zl' = cm b (L1 ++ L2) μ zi' zl' := by
  apply fm_eq
  · show b + L1.length + L2.length = b + (L1 ++ L2).length
    rw [List.length_append]; omega
  · intro j
    show (if j < b + L1.length then (if j < b then μ.2.1 j else L1.getD (j - b) (0, 0, [])) else L2.getD (j - (b + L1.length)) (0, 0, [])) = (if j < b then μ.2.1 j else (L1 ++ L2).getD (j - b) (0, 0, []))
    by_cases q : j < b
    · rw [if_pos (by omega), if_pos q, if_pos q]
    · by_cases z : j < b + L1.length
      · rw [if_pos z, if_neg q, if_neg q, List.getD_eq_getElem?_getD, List.getD_eq_getElem?_getD, List.getElem?_append_left (by omega)]
      · rw [if_neg z, if_neg q, List.getD_eq_getElem?_getD, List.getD_eq_getElem?_getD, List.getElem?_append_right (by omega), show j - b - L1.length = j - (b + L1.length) by omega]
  · intro j
    show (if j < b + L1.length then (if j < b then μ.2.2.1 j else zi j) else zi' j) = (if j < b then μ.2.2.1 j else zi' j)
    by_cases q : j < b
    · rw [if_pos (by omega), if_pos q, if_pos q]
    · rw [if_neg q, if_neg q]
      by_cases z : j < b + L1.length
      · rw [if_pos z, (h j z).1]
      · rw [if_neg z]
  · intro j
    show (if j < b + L1.length then (if j < b then μ.2.2.2 j else zl j) else zl' j) = (if j < b then μ.2.2.2 j else zl' j)
    by_cases q : j < b
    · rw [if_pos (by omega), if_pos q, if_pos q]
    · rw [if_neg q, if_neg q]
      by_cases z : j < b + L1.length
      · rw [if_pos z, (h j z).2]
      · rw [if_neg z]
section FCM
variable {l : Launch} {S : fs_T} {M : fy_T} {d mc ms cells slots pc : Nat} {loc : List (Option Value)} {st : List Value} {μ : fm_T} {P : Option Value → fm_T → Prop} {b : Nat} {L L' : List fc_C} {zi : Nat → Nat → Int32} {zl : Nat → Nat → Int64}
theorem cw_new {ci N idx : Nat} (n : Nat) {C : String} {T : u_T} {fs : List Nat} (hd : decode M.2.1 pc = .ok (.new idx, 3)) (hC : fk_C ci C T N) (hcl : Cond.classLink M.1.cls idx C ∈ fg_l) (hin : Cond.instantiable C N ∈ fg_l) (hini : Cond.initialized C ∈ fg_l) (hl : fs.length = N) (hx : ∀ f ∈ fs, f < 3) (hdef : ∀ j, j < N → (parseFieldDescriptor (T j).2.2.1).map defaultValue = some (vp_V (fs.map (fc_p 0 0)) j)) (hn : L.length = n) (hb : b + n < 4000) (hz : zi (b + n) = (fun _ => 0) ∧ zl (b + n) = fun _ => 0) (hL : L ++ [(0, ci, fs)] = L') (hcs : cells + 1 ≤ mc) (hss : slots + N ≤ ms) (kk : fwp l S M d mc ms (cells + 1) (slots + N) (pc + 3) loc (.ref (b + n) :: st) (cm b L' μ zi zl) P) : fwp l S M d mc ms cells slots pc loc st (cm b L μ zi zl) P := by
  subst hn; subst hL
  refine fw_new hd hC hcl hin hini hl hx hdef hb hcs hss ?_
  rw [cm_n hz.1 hz.2]; exact kk
theorem cw_newaI {v : Int32} {N t0 : Nat} (n : Nat) {atype : ArrayType} (hd : decode M.2.1 pc = .ok (.newarray atype, 2)) (hA : Cond.arrayClass (newarray.typeOf atype) ∈ fg_l) (hty : newarray.typeOf atype = .int) (ht0 : S.1[t0]? = some (0, .int)) (hn0 : ¬ v < 0) (hN : v.toNatClampNeg = N) (hNb : N ≤ 100000) (hn : L.length = n) (hb : b + n < 4000) (hz : zi (b + n) = (fun _ => 0) ∧ zl (b + n) = fun _ => 0) (hL : L ++ [(1, N, [])] = L') (hcs : cells + 1 ≤ mc) (hss : slots + N ≤ ms) (kk : fwp l S M d mc ms (cells + 1) (slots + N) (pc + 2) loc (.ref (b + n) :: st) (cm b L' μ zi zl) P) : fwp l S M d mc ms cells slots pc loc (.int v :: st) (cm b L μ zi zl) P := by
  subst hn; subst hL
  refine fw_newaI hd hA hty ht0 hn0 hN hNb hb hcs hss ?_
  rw [cm_n hz.1 hz.2]; exact kk
theorem cw_newaL {v : Int32} {N t0 : Nat} (n : Nat) {atype : ArrayType} (hd : decode M.2.1 pc = .ok (.newarray atype, 2)) (hA : Cond.arrayClass (newarray.typeOf atype) ∈ fg_l) (hty : newarray.typeOf atype = .long) (ht0 : S.1[t0]? = some (1, .long)) (hn0 : ¬ v < 0) (hN : v.toNatClampNeg = N) (hNb : N ≤ 100000) (hn : L.length = n) (hb : b + n < 4000) (hz : zi (b + n) = (fun _ => 0) ∧ zl (b + n) = fun _ => 0) (hL : L ++ [(2, N, [])] = L') (hcs : cells + 1 ≤ mc) (hss : slots + N ≤ ms) (kk : fwp l S M d mc ms (cells + 1) (slots + N) (pc + 2) loc (.ref (b + n) :: st) (cm b L' μ zi zl) P) : fwp l S M d mc ms cells slots pc loc (.int v :: st) (cm b L μ zi zl) P := by
  subst hn; subst hL
  refine fw_newaL hd hA hty ht0 hn0 hN hNb hb hcs hss ?_
  rw [cm_n hz.1 hz.2]; exact kk
theorem cw_newaZ {v : Int32} {N t0 : Nat} (n : Nat) {atype : ArrayType} (hd : decode M.2.1 pc = .ok (.newarray atype, 2)) (hA : Cond.arrayClass (newarray.typeOf atype) ∈ fg_l) (hty : newarray.typeOf atype = .boolean) (ht0 : S.1[t0]? = some (2, .boolean)) (hn0 : ¬ v < 0) (hN : v.toNatClampNeg = N) (hNb : N ≤ 100000) (hn : L.length = n) (hb : b + n < 4000) (hz : zi (b + n) = (fun _ => 0) ∧ zl (b + n) = fun _ => 0) (hL : L ++ [(3, N, [])] = L') (hcs : cells + 1 ≤ mc) (hss : slots + N ≤ ms) (kk : fwp l S M d mc ms (cells + 1) (slots + N) (pc + 2) loc (.ref (b + n) :: st) (cm b L' μ zi zl) P) : fwp l S M d mc ms cells slots pc loc (.int v :: st) (cm b L μ zi zl) P := by
  subst hn; subst hL
  refine fw_newaZ hd hA hty ht0 hn0 hN hNb hb hcs hss ?_
  rw [cm_n hz.1 hz.2]; exact kk
theorem cw_putFR {ci N idx : Nat} (i j f r : Nat) {C : String} {T : u_T} {fs : List Nat} {ty : FieldType} (hd : decode M.2.1 pc = .ok (.putfield idx, 3)) (hC : fk_C ci C T N) (hjN : j < N) (hF : Cond.fieldLink M.1.cls idx (T j).1 (T j).2.1 (T j).2.2.1 ∈ fg_l) (hk : b + i < 4000) (hr : b + r < 4000) (hs : L[i]? = some (0, ci, fs)) (hj : fs[j]? = some (f + 2)) (hty : parseFieldDescriptor (T j).2.2.1 = some ty) (hfin : (T j).2.2.2 = true) (hini : M.1.name = "<init>") (hdecl : (T j).1 = M.1.cls) (hnar : ∀ a, narrow ty (.ref a) = .ref a) (hfit : ∀ a, fits ty (.ref a) = true) (hL : L.set i (0, ci, fs.set j (b + r + 3)) = L')
    (kk : fwp l S M d mc ms cells slots (pc + 3) loc st (cm b L' μ zi zl) P) : fwp l S M d mc ms cells slots pc loc (.ref (b + r) :: .ref (b + i) :: st) (cm b L μ zi zl) P := by
  subst hL
  refine fw_putFR hd hC hjN hF hk hr (cm_at hs) hj hty hfin hini hdecl hnar hfit ?_
  rw [cm_r hs]; exact kk
theorem cw_putR {ci N idx : Nat} (i j f r : Nat) {C cr : String} {T : u_T} {fs : List Nat} (hd : decode M.2.1 pc = .ok (.putfield idx, 3)) (hC : fk_C ci C T N) (hF : fk_F M.1.cls idx T N j) (hk : b + i < 4000) (hr : b + r < 4000) (hs : L[i]? = some (0, ci, fs)) (hj : fs[j]? = some (f + 2)) (hty : parseFieldDescriptor (T j).2.2.1 = some (.object cr)) (hfin : (T j).2.2.2 = false) (hL : L.set i (0, ci, fs.set j (b + r + 3)) = L')
    (kk : fwp l S M d mc ms cells slots (pc + 3) loc st (cm b L' μ zi zl) P) : fwp l S M d mc ms cells slots pc loc (.ref (b + r) :: .ref (b + i) :: st) (cm b L μ zi zl) P := by
  subst hL
  refine fw_putR hd hC hF hk hr (cm_at hs) hj hty hfin ?_
  rw [cm_r hs]; exact kk
theorem cw_putI {ci N idx : Nat} (i j : Nat) {C : String} {T : u_T} {fs : List Nat} (hd : decode M.2.1 pc = .ok (.putfield idx, 3)) (hC : fk_C ci C T N) (hF : fk_F M.1.cls idx T N j) (hk : b + i < 4000) (hs : L[i]? = some (0, ci, fs)) (hj : fs[j]? = some 0) (hty : parseFieldDescriptor (T j).2.2.1 = some .int) (hfin : (T j).2.2.2 = false) (hz : zi (b + i) = fun _ => 0)
    (kk : fwp l S M d mc ms cells slots (pc + 3) loc st (cm b L μ zi zl) P) : fwp l S M d mc ms cells slots pc loc (.int 0 :: .ref (b + i) :: st) (cm b L μ zi zl) P := by
  refine fw_putI hd hC hF hk (cm_at hs) hj hty hfin ?_
  rw [cm_i0 hz]; exact kk
theorem cw_putL {ci N idx : Nat} (i j : Nat) {C : String} {T : u_T} {fs : List Nat} (hd : decode M.2.1 pc = .ok (.putfield idx, 3)) (hC : fk_C ci C T N) (hF : fk_F M.1.cls idx T N j) (hk : b + i < 4000) (hs : L[i]? = some (0, ci, fs)) (hj : fs[j]? = some 1) (hty : parseFieldDescriptor (T j).2.2.1 = some .long) (hfin : (T j).2.2.2 = false) (hz : zl (b + i) = fun _ => 0)
    (kk : fwp l S M d mc ms cells slots (pc + 3) loc st (cm b L μ zi zl) P) : fwp l S M d mc ms cells slots pc loc (.long 0 :: .ref (b + i) :: st) (cm b L μ zi zl) P := by
  refine fw_putL hd hC hF hk (cm_at hs) hj hty hfin ?_
  rw [cm_l0 hz]; exact kk
theorem cw_callI {M2 : fy_T} {d2 mc2 ms2 idx : Nat} (n : Nat) (L1 L2 : List fc_C) (x : fc_C) {zi' : Nat → Nat → Int32} {zl' : Nat → Nat → Int64} (hd : decode M.2.1 pc = .ok (.invokespecial idx, 3)) (hV : fk_I M.1.cls idx M2) (hM : fk_M M2 0) (hd2 : d2 + 1 ≤ d) (hcat : (st.map fun v => v.category).sum ≤ 8) (hl : (lg_sl [Value.ref (b + n)]).length ≤ M2.2.2.1) (hcs : cells + mc2 ≤ mc ∧ slots + ms2 ≤ ms) (hn : L1.length = n) (hL1 : L1 ++ [x] = L) (hL2 : L1 ++ L2 = L') (hag : ∀ j, j < b + n → zi' j = zi j ∧ zl' j = zl j)
    (callee : ∀ ν, fwp l S M2 d2 mc2 ms2 0 0 0 (fl_ent [.ref (b + n)] M2.2.2.1) [] (cm (b + n) [x] ν zi zl) (fun v μ' => v = none ∧ μ' = cm (b + n) L2 ν zi' zl'))
    (kk : fwp l S M d mc ms (cells + mc2) (slots + ms2) (pc + 3) loc st (cm b L' μ zi' zl') P) : fwp l S M d mc ms cells slots pc loc (.ref (b + n) :: st) (cm b L μ zi zl) P := by
  subst hn; subst hL1; subst hL2
  have e := cm_app (b := b) (L1 := L1) (L2 := [x]) (μ := μ) (zi := zi) (zi' := zi) (zl := zl) (zl' := zl) (fun j _ => ⟨rfl, rfl⟩)
  have c := callee (cm b L1 μ zi zl)
  rw [e] at c
  refine fw_callI (as := []) (rest := st) hd hV hM hd2 rfl rfl hcat hl hcs c ?_
  rintro v μ' ⟨rfl, rfl⟩
  rw [cm_app hag]
  exact kk
end FCM
def zfill (n : Nat) : Nat → Int32 := fun i => if i < n then -1 else 0
def zset : Nat → Int32 := fun i => [(2 : Int32), 30, 20, 150].getD i 0
def fillm (μ : fm_T) (k i N : Nat) (x : Int32) : fm_T := (μ.1, μ.2.1, va_up μ.2.2.1 k (fun j => if i ≤ j ∧ j < N then x else μ.2.2.1 k j), μ.2.2.2)
theorem fillm_end {μ : fm_T} {k N : Nat} {x : Int32} : fillm μ k N N x = μ := by
  obtain ⟨a, b, c, d⟩ := μ
  show (a, b, va_up c k (fun j => if N ≤ j ∧ j < N then x else c k j), d) = (a, b, c, d)
  rw [va_up_id]
  funext j
  rw [if_neg (by omega)]
theorem fillm_step {μ : fm_T} {k i N : Nat} {x : Int32} (h : i < N) : fillm (fm_i μ k i x) k (i + 1) N x = fillm μ k i N x := by
  obtain ⟨a, b, c, d⟩ := μ
  show (a, b, va_up (va_up c k (va_up (c k) i x)) k (fun j => if i + 1 ≤ j ∧ j < N then x else va_up c k (va_up (c k) i x) k j), d) = (a, b, va_up c k (fun j => if i ≤ j ∧ j < N then x else c k j), d)
  have e : va_up (va_up c k (va_up (c k) i x)) k (fun j => if i + 1 ≤ j ∧ j < N then x else va_up c k (va_up (c k) i x) k j) = va_up c k (fun j => if i ≤ j ∧ j < N then x else c k j) := by
    funext a j
    by_cases q : a = k
    · subst q
      show (if a = a then (fun j => if i + 1 ≤ j ∧ j < N then x else va_up c a (va_up (c a) i x) a j) else va_up c a (va_up (c a) i x) a) j = (if a = a then (fun j => if i ≤ j ∧ j < N then x else c a j) else c a) j
      rw [if_pos rfl, if_pos rfl]
      show (if i + 1 ≤ j ∧ j < N then x else va_up c a (va_up (c a) i x) a j) = (if i ≤ j ∧ j < N then x else c a j)
      have hs : va_up c a (va_up (c a) i x) a = va_up (c a) i x := by simp [va_up]
      rw [hs]
      by_cases z : j = i
      · subst z
        simp [va_up, h]
      · rw [zu_ne z]
        by_cases y : i + 1 ≤ j ∧ j < N
        · rw [if_pos y, if_pos (by omega)]
        · rw [if_neg y, if_neg (by omega)]
    · simp [va_up, q]
  rw [e]
set_option maxRecDepth 20000 in
theorem fz_fillL {l : Launch} {k N : Nat} {x : Int32} (hN : N < 2 ^ 31) (hk4 : k < 4000) : ∀ (c i : Nat) (μ : fm_T), i + c = N → μ.2.1 k = (1, N, []) → fwp l sC mJ7_fill_53178 0 0 0 0 0 5 [some (.ref k), some (.int x), some (.int (nI i)), some (.int (nI N))] [] μ (fun v μ' => v = none ∧ μ' = fillm μ k i N x)
  | 0, i, μ, he, hs => by
    have e : i = N := by omega
    subst e
    refine fw_iload_n dJ7_fill_53178_5 rfl rfl (fw_iload_n dJ7_fill_53178_6 rfl rfl (fw_icmp_ge (tgt := 20) dJ7_fill_53178_7 rfl (fun q1 => fw_vret dJ7_fill_53178_20 rfl (by decide) (by decide) ⟨rfl, fillm_end.symm⟩) (fun q1 => absurd (Int32.le_refl _) q1)))
  | c + 1, i, μ, he, hs => by
    have h1 : i < N := by omega
    have ih := fz_fillL (l := l) (x := x) hN hk4 c (i + 1) (fm_i μ k i x) (by omega) (by rw [fm_i_sh]; exact hs)
    rw [fillm_step h1] at ih
    have hn : ¬ nI N ≤ nI i := fun q => absurd (nI_lt h1 hN) (Int32.not_lt.mpr q)
    have hv : nI i + Int32.ofInt 1 = nI (i + 1) := by
      show Int32.ofNat i + 1 = Int32.ofNat (i + 1)
      rw [Int32.ofNat_add]; rfl
    refine fw_iload_n dJ7_fill_53178_5 rfl rfl (fw_iload_n dJ7_fill_53178_6 rfl rfl (fw_icmp_ge (tgt := 20) dJ7_fill_53178_7 rfl (fun q1 => absurd q1 hn) (fun q1 => fw_aload_n dJ7_fill_53178_10 rfl rfl (fw_iload_n dJ7_fill_53178_11 rfl rfl (fw_iload_n dJ7_fill_53178_12 rfl rfl (fw_iast (t0 := 0) dJ7_fill_53178_13 rfl hk4 hs (vp_in_nI h1 hN) rfl (fw_iinc dJ7_fill_53178_14 (by decide) rfl (v := nI (i + 1)) hv (loc' := [some (.ref k), some (.int x), some (.int (nI (i + 1))), some (.int (nI N))]) rfl (fw_goto (tgt := 5) dJ7_fill_53178_17 rfl ?_))))))))
    rw [nI_clamp (by omega)]
    exact ih
set_option maxRecDepth 20000 in
theorem fz_fill {l : Launch} {k N : Nat} {x : Int32} {μ : fm_T} (hN : N < 2 ^ 31) (hk4 : k < 4000) (hs : μ.2.1 k = (1, N, [])) : fwp l sC mJ7_fill_53178 0 0 0 0 0 0 (fl_ent [.ref k, .int x] mJ7_fill_53178.2.2.1) [] μ (fun v μ' => v = none ∧ μ' = fillm μ k 0 N x) :=
  fw_iconst (v := nI 0) dJ7_fill_53178_0 rfl (fw_istore_n dJ7_fill_53178_1 rfl (by decide) (loc' := [some (.ref k), some (.int x), some (.int (nI 0)), none]) rfl (fw_aload_n dJ7_fill_53178_2 rfl rfl (fw_alen (t0 := 0) dJ7_fill_53178_3 rfl hk4 hs rfl (fw_istore_n dJ7_fill_53178_4 rfl (by decide) (loc' := [some (.ref k), some (.int x), some (.int (nI 0)), some (.int (nI N))]) rfl (fz_fillL hN hk4 N 0 μ (by omega) hs)))))
theorem cm_fill {b i N : Nat} {x : Int32} {L : List fc_C} {μ : fm_T} {zi : Nat → Nat → Int32} {zl : Nat → Nat → Int64} : fillm (cm b L μ zi zl) (b + i) 0 N x = cm b L μ (va_up zi (b + i) (fun j => if j < N then x else zi (b + i) j)) zl := by
  apply fm_eq
  · rfl
  · intro k; rfl
  · intro k
    show va_up (fun j => if j < b then μ.2.2.1 j else zi j) (b + i) (fun j => if 0 ≤ j ∧ j < N then x else (if b + i < b then μ.2.2.1 (b + i) else zi (b + i)) j) k = (if k < b then μ.2.2.1 k else va_up zi (b + i) (fun j => if j < N then x else zi (b + i) j) k)
    rw [if_neg (show ¬ b + i < b by omega)]
    by_cases e : k = b + i
    · subst e; rw [if_neg (show ¬ b + i < b by omega)]; simp [va_up]
    · simp [va_up, e]
  · intro k; rfl
