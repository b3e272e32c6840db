def fm_n (μ : fm_T) (x : fc_C) : fm_T := (μ.1 + 1, va_up μ.2.1 μ.1 x, va_up μ.2.2.1 μ.1 (fun _ => 0), va_up μ.2.2.2 μ.1 (fun _ => 0))
theorem fm_n_ok {μ : fm_T} {x : fc_C} (h : fm_ok μ) (hx : ∀ f ∈ x.2.2, f < 3) : fm_ok (fm_n μ x) := by
  intro k hk f hf
  show f < μ.1 + 1 + 3
  have hk : k < μ.1 + 1 := hk
  by_cases e : k = μ.1
  · subst e
    simp only [fm_n, va_up, if_pos rfl] at hf
    have := hx f hf
    omega
  · simp only [fm_n, va_up, if_neg e] at hf
    have := h k (by omega) f hf
    omega
theorem fm_n_w {μ : fm_T} {x : fc_C} {ad : Nat → Nat} {cy : Nat → ClassId} {q : Nat} {y : va_E} (h : fm_ok μ) (hy : fc_e (va_up ad μ.1 q) cy (fm_n μ x) μ.1 = y) : fc_w ad cy μ ++ [(q, y)] = fc_w (va_up ad μ.1 q) cy (fm_n μ x) := by
  show (List.range μ.1).map _ ++ [(q, y)] = (List.range (μ.1 + 1)).map _
  rw [List.range_succ, List.map_append]
  congr 1
  · apply List.map_congr_left
    intro k hk
    have hk : k < μ.1 := List.mem_range.mp hk
    have e : k ≠ μ.1 := by omega
    have e1 : fc_e (va_up ad μ.1 q) cy (fm_n μ x) k = fc_e (va_up ad μ.1 q) cy μ k := fc_ecg (by simp [fm_n, va_up, e]) (by simp [fm_n, va_up, e]) (by simp [fm_n, va_up, e])
    rw [e1, fc_e_ag (ad := ad) (ad' := va_up ad μ.1 q) (fun j hj => by have hne : j ≠ μ.1 := (by omega); simp [va_up, hne]) h hk]
    simp [va_up, e]
  · rw [List.map_singleton, hy]
    simp [va_up]
theorem fm_n_ag {ad : Nat → Nat} {n q k : Nat} (hk : k < n ∨ 4000 ≤ k) (hn : n < 4000) : va_up ad n q k = ad k := by
  have : k ≠ n := by omega
  simp [va_up, this]
section FNEW
variable {l : Launch} {S : fs_T} {M : fy_T} {d mc ms cells slots pc : Nat} {loc : List (Option Value)} {st : List Value} {μ : fm_T} {P : Option Value → fm_T → Prop}
theorem fw_new {ci N idx : Nat} {C : String} {T : u_T} {fs : List Nat} (hd : decode M.2.1 pc = .ok (.new idx, 3)) (hC : fk_C ci C T N) (hcl : Cond.classLink M.1.cls idx C ∈ fg_l) (hin : Cond.instantiable C N ∈ fg_l) (hini : Cond.initialized C ∈ fg_l) (hl : fs.length = N) (hx : ∀ f ∈ fs, f < 3) (hdef : ∀ j, j < N → (parseFieldDescriptor (T j).2.2.1).map defaultValue = some (vp_V (fs.map (fc_p 0 0)) j)) (hn : μ.1 < 4000) (hcs : cells + 1 ≤ mc) (hss : slots + N ≤ ms) (kk : fwp l S M d mc ms (cells + 1) (slots + N) (pc + 3) loc (.ref μ.1 :: st) (fm_n μ (0, ci, fs)) P) : fwp l S M d mc ms cells slots pc loc st μ P := by
  intro p e R s m args below meth c D cy A ad0 n0 K H locs ls ad h1 h2 h3 h4 h5 h6 h7 h8 h9
  have hts := fun w (h : w ∈ fg_l) => K.2.2.2.2.2.2.2.1 w (List.mem_cons_of_mem _ h)
  have hR := K.2.2.2.2.2.2.2.2.2.2.2.2
  obtain ⟨ty, hty⟩ := hC.2.2.1
  refine va_new (fs := fs.map (fc_p 0 0)) K.1 K.2.1 hts hC.2.1 ty hty K.2.2.2.2.2.1 (hts _ hcl) (hts _ hin) (hts _ hini) K.2.2.2.2.2.2.2.2.2.1 h6 h7 h8 K.2.2.2.2.2.2.2.2.2.2.1 hC.1 (fun j hj => by
      have e1 := hdef j hj
      rw [hty j hj] at e1
      exact Option.some.inj e1) (by rw [hR]; exact hcs) (by rw [hR]; exact hss) hd (fun q H1 g1 g2 g3 => ?_)
  have hy : fc_e (va_up ad μ.1 q) cy (fm_n μ (0, ci, fs)) μ.1 = .inr (ci, fs.map (fc_p 0 0)) := by
    rw [fc_eo (ci := ci) (fs := fs) (by simp [fm_n, va_up])]
    congr 2
    apply List.ext_getElem?
    intro i
    rw [List.getElem?_mapIdx, List.getElem?_map]
    cases hi : fs[i]? with
    | none => rfl
    | some f =>
      have hf := hx f (List.mem_of_getElem? hi)
      simp only [Option.map_some, fm_n, va_up, if_pos rfl]
      match f, hf with
      | 0, _ => rfl
      | 1, _ => rfl
      | 2, _ => rfl
  have e2 := fm_n_w (ad := ad) (cy := cy) (q := q) h3 hy
  rw [e2] at g1 g2
  have hag : ∀ k, k < μ.1 ∨ 4000 ≤ k → va_up ad μ.1 q k = ad k := fun k hk => fm_n_ag hk hn
  have go := kk p e R s m args below meth c D cy A ad0 n0 K H1 locs ls (va_up ad μ.1 q) (Nat.le_succ_of_le h1) (fun k hk => (hag k (hk.elim (fun z => Or.inl (Nat.lt_of_lt_of_le z h1)) Or.inr)).trans (h2 k hk)) (fm_n_ok h3 hx) (fs_c (Or.inl (Nat.lt_succ_self _)) (fs_mono (Nat.le_succ _) h4)) (fl_mono (Nat.le_succ _) h5) g1 g2 g3 (fl_ag hag h5 h9)
  rw [List.map_cons, fs_ag hag h4] at go
  have e3 : fv_v (va_up ad μ.1 q) (.ref μ.1) = .ref q := by simp [fv_v, va_up]
  rw [e3] at go
  exact go
end FNEW
