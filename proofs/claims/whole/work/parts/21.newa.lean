theorem fx_cls {U : State} {ty : FieldType} {cA cB : ClassId} (hp : ∀ C, ty ≠ .object C) (h1 : va_RA U cA ty) (h2 : va_RA U cB ty) : cA = cB := by
  cases ty with
  | object C => exact absurd rfl (hp C)
  | _ => exact Option.some.inj (h1.symm.trans h2)
section FNEWA
variable {l : Launch} {S : fs_T} {M : fy_T} {d mc ms cells slots pc : Nat} {loc : List (Option Value)} {st : List Value} {μ : fm_T} {P : Option Value → fm_T → Prop}
theorem fw_newaI {n : Int32} {N t0 : Nat} {atype : ArrayType} (hd : decode M.2.1 pc = .ok (.newarray atype, 2)) (hA : Cond.arrayClass (newarray.typeOf atype) ∈ fg_l) (hty : newarray.typeOf atype = .int) (ht0 : S.1[t0]? = some (0, .int)) (hn0 : ¬ n < 0) (hN : n.toNatClampNeg = N) (hb : N ≤ 100000) (hn : μ.1 < 4000) (hcs : cells + 1 ≤ mc) (hss : slots + N ≤ ms) (kk : fwp l S M d mc ms (cells + 1) (slots + N) (pc + 2) loc (.ref μ.1 :: st) (fm_n μ (1, N, [])) P) : fwp l S M d mc ms cells slots pc loc (.int n :: st) μ P := by
  intro p e R s m args below meth c D cy A ad0 n0 K H locs ls ad h1 h2 h3 h4 h5 h6 h7 h8 h9
  have hts := fun w (h : w ∈ fg_l) => K.2.2.2.2.2.2.2.1 w (List.mem_cons_of_mem _ h)
  have hR := K.2.2.2.2.2.2.2.2.2.2.2.2
  have hK := K.2.2.2.2.2.2.2.2.2.1
  refine va_newa K.1 K.2.1 (hts _ hA) hty hK h6 h7 h8 K.2.2.2.2.2.2.2.2.2.2.1 (a0 := (N, .inl (fun _ => 0))) (fun _ => rfl) hn0 hN (by show N * 4 ≤ 536870912; omega) (by rw [hR]; exact hcs) (by rw [hR]; exact hss) hd (fun q cA H1 gK g1 g2 g3 => ?_)
  have hc : cA = cy 0 := by
    have k1 := (hK.2 t0 (cy 0, .int) (by rw [fx_t, List.getElem?_map, ht0]; rfl)).2
    have k2 := (gK.2 (fx_t S cy).length (cA, .int) (by simp)).2
    exact fx_cls (fun C h => by cases h) k2 k1
  subst hc
  have hy : fc_e (va_up ad μ.1 q) cy (fm_n μ (1, N, [])) μ.1 = .inl (cy 0, N, .inl (fun _ => 0)) := by
    rw [fc_ei (n := N) (fs := []) (by simp [fm_n, va_up])]
    simp [fm_n, va_up]
  have e2 := fm_n_w (ad := ad) (cy := cy) (q := q) h3 hy
  rw [e2] at g1 g2
  have hag : ∀ k, k < μ.1 ∨ 4000 ≤ k → va_up ad μ.1 q k = ad k := fun k hk => fm_n_ag hk hn
  have go := kk p e R s m args below meth c D cy A ad0 n0 K H1 locs ls (va_up ad μ.1 q) (Nat.le_succ_of_le h1) (fun k hk => (hag k (hk.elim (fun z => Or.inl (Nat.lt_of_lt_of_le z h1)) Or.inr)).trans (h2 k hk)) (fm_n_ok h3 (fun f hf => by cases hf)) (fs_c (Or.inl (Nat.lt_succ_self _)) (fs_mono (Nat.le_succ _) (fs_t h4))) (fl_mono (Nat.le_succ _) h5) g1 g2 g3 (fl_ag hag h5 h9)
  rw [List.map_cons, fs_ag hag (fs_t h4)] at go
  have e3 : fv_v (va_up ad μ.1 q) (.ref μ.1) = .ref q := by simp [fv_v, va_up]
  rw [e3] at go
  exact go
theorem fw_newaL {n : Int32} {N t0 : Nat} {atype : ArrayType} (hd : decode M.2.1 pc = .ok (.newarray atype, 2)) (hA : Cond.arrayClass (newarray.typeOf atype) ∈ fg_l) (hty : newarray.typeOf atype = .long) (ht0 : S.1[t0]? = some (1, .long)) (hn0 : ¬ n < 0) (hN : n.toNatClampNeg = N) (hb : N ≤ 100000) (hn : μ.1 < 4000) (hcs : cells + 1 ≤ mc) (hss : slots + N ≤ ms) (kk : fwp l S M d mc ms (cells + 1) (slots + N) (pc + 2) loc (.ref μ.1 :: st) (fm_n μ (2, N, [])) P) : fwp l S M d mc ms cells slots pc loc (.int n :: st) μ P := by
  intro p e R s m args below meth c D cy A ad0 n0 K H locs ls ad h1 h2 h3 h4 h5 h6 h7 h8 h9
  have hts := fun w (h : w ∈ fg_l) => K.2.2.2.2.2.2.2.1 w (List.mem_cons_of_mem _ h)
  have hR := K.2.2.2.2.2.2.2.2.2.2.2.2
  have hK := K.2.2.2.2.2.2.2.2.2.1
  refine va_newa K.1 K.2.1 (hts _ hA) hty hK h6 h7 h8 K.2.2.2.2.2.2.2.2.2.2.1 (a0 := (N, .inr (.inl (fun _ => 0)))) (fun _ => rfl) hn0 hN (by show N * 8 ≤ 536870912; omega) (by rw [hR]; exact hcs) (by rw [hR]; exact hss) hd (fun q cA H1 gK g1 g2 g3 => ?_)
  have hc : cA = cy 1 := by
    have k1 := (hK.2 t0 (cy 1, .long) (by rw [fx_t, List.getElem?_map, ht0]; rfl)).2
    have k2 := (gK.2 (fx_t S cy).length (cA, .long) (by simp)).2
    exact fx_cls (fun C h => by cases h) k2 k1
  subst hc
  have hy : fc_e (va_up ad μ.1 q) cy (fm_n μ (2, N, [])) μ.1 = .inl (cy 1, N, .inr (.inl (fun _ => 0))) := by
    rw [fc_el (n := N) (fs := []) (by simp [fm_n, va_up])]
    simp [fm_n, va_up]
  have e2 := fm_n_w (ad := ad) (cy := cy) (q := q) h3 hy
  rw [e2] at g1 g2
  have hag : ∀ k, k < μ.1 ∨ 4000 ≤ k → va_up ad μ.1 q k = ad k := fun k hk => fm_n_ag hk hn
  have go := kk p e R s m args below meth c D cy A ad0 n0 K H1 locs ls (va_up ad μ.1 q) (Nat.le_succ_of_le h1) (fun k hk => (hag k (hk.elim (fun z => Or.inl (Nat.lt_of_lt_of_le z h1)) Or.inr)).trans (h2 k hk)) (fm_n_ok h3 (fun f hf => by cases hf)) (fs_c (Or.inl (Nat.lt_succ_self _)) (fs_mono (Nat.le_succ _) (fs_t h4))) (fl_mono (Nat.le_succ _) h5) g1 g2 g3 (fl_ag hag h5 h9)
  rw [List.map_cons, fs_ag hag (fs_t h4)] at go
  have e3 : fv_v (va_up ad μ.1 q) (.ref μ.1) = .ref q := by simp [fv_v, va_up]
  rw [e3] at go
  exact go
theorem fw_newaZ {n : Int32} {N t0 : Nat} {atype : ArrayType} (hd : decode M.2.1 pc = .ok (.newarray atype, 2)) (hA : Cond.arrayClass (newarray.typeOf atype) ∈ fg_l) (hty : newarray.typeOf atype = .boolean) (ht0 : S.1[t0]? = some (2, .boolean)) (hn0 : ¬ n < 0) (hN : n.toNatClampNeg = N) (hb : N ≤ 100000) (hn : μ.1 < 4000) (hcs : cells + 1 ≤ mc) (hss : slots + N ≤ ms) (kk : fwp l S M d mc ms (cells + 1) (slots + N) (pc + 2) loc (.ref μ.1 :: st) (fm_n μ (3, N, [])) P) : fwp l S M d mc ms cells slots pc loc (.int n :: st) μ P := by
  intro p e R s m args below meth c D cy A ad0 n0 K H locs ls ad h1 h2 h3 h4 h5 h6 h7 h8 h9
  have hts := fun w (h : w ∈ fg_l) => K.2.2.2.2.2.2.2.1 w (List.mem_cons_of_mem _ h)
  have hR := K.2.2.2.2.2.2.2.2.2.2.2.2
  have hK := K.2.2.2.2.2.2.2.2.2.1
  refine va_newa K.1 K.2.1 (hts _ hA) hty hK h6 h7 h8 K.2.2.2.2.2.2.2.2.2.2.1 (a0 := (N, .inl (fun _ => 0))) (fun _ => rfl) hn0 hN (by show N * 1 ≤ 536870912; omega) (by rw [hR]; exact hcs) (by rw [hR]; exact hss) hd (fun q cA H1 gK g1 g2 g3 => ?_)
  have hc : cA = cy 2 := by
    have k1 := (hK.2 t0 (cy 2, .boolean) (by rw [fx_t, List.getElem?_map, ht0]; rfl)).2
    have k2 := (gK.2 (fx_t S cy).length (cA, .boolean) (by simp)).2
    exact fx_cls (fun C h => by cases h) k2 k1
  subst hc
  have hy : fc_e (va_up ad μ.1 q) cy (fm_n μ (3, N, [])) μ.1 = .inl (cy 2, N, .inl (fun _ => 0)) := by
    rw [fc_ez (n := N) (fs := []) (by simp [fm_n, va_up])]
    simp [fm_n, va_up]
  have e2 := fm_n_w (ad := ad) (cy := cy) (q := q) h3 hy
  rw [e2] at g1 g2
  have hag : ∀ k, k < μ.1 ∨ 4000 ≤ k → va_up ad μ.1 q k = ad k := fun k hk => fm_n_ag hk hn
  have go := kk p e R s m args below meth c D cy A ad0 n0 K H1 locs ls (va_up ad μ.1 q) (Nat.le_succ_of_le h1) (fun k hk => (hag k (hk.elim (fun z => Or.inl (Nat.lt_of_lt_of_le z h1)) Or.inr)).trans (h2 k hk)) (fm_n_ok h3 (fun f hf => by cases hf)) (fs_c (Or.inl (Nat.lt_succ_self _)) (fs_mono (Nat.le_succ _) (fs_t h4))) (fl_mono (Nat.le_succ _) h5) g1 g2 g3 (fl_ag hag h5 h9)
  rw [List.map_cons, fs_ag hag (fs_t h4)] at go
  have e3 : fv_v (va_up ad μ.1 q) (.ref μ.1) = .ref q := by simp [fv_v, va_up]
  rw [e3] at go
  exact go
end FNEWA
