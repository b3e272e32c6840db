theorem fw_newq {l : Launch} {M : fy_T} {d mc ms cells slots pc idx : Nat} {loc : List (Option Value)} {st : List Value} {μ : fm_T} {P : Option Value → fm_T → Prop} {n : Int32} {N : Nat} {fs : List Nat} (hd : decode M.2.1 pc = .ok (.anewarray idx, 3)) (hcl : Cond.classLink M.1.cls idx "CoatWorks$Works" ∈ fg_l) (hn0 : ¬ n < 0) (hN : n.toNatClampNeg = N) (hb : N ≤ 100000) (hf : ∀ f ∈ fs, f = 2) (hn : μ.1 < 4000) (hcs : cells + 1 ≤ mc) (hss : slots + N ≤ ms) (kk : fwp l sC M d mc ms (cells + 1) (slots + N) (pc + 3) loc (.ref μ.1 :: st) (fm_n μ (4, N, fs)) P) : fwp l sC M d mc ms cells slots pc loc (.int n :: st) μ P := by
  intro p e R s m args below meth c D cy A ad0 n0 K H locs ls ad h1 h2 h3 h4 h5 h6 h7 h8 h9
  have hts := fun w (h : w ∈ fg_l) => K.2.2.2.2.2.2.2.1 w (List.mem_cons_of_mem _ h)
  have hR := K.2.2.2.2.2.2.2.2.2.2.2.2
  have hK := K.2.2.2.2.2.2.2.2.2.1
  obtain ⟨-, s0, a0, ⟨hw0, -⟩, hW0, -⟩ := K.2.2.2.2.2.2.2.2.2.2.2.1
  have hao : va_AO "CoatWorks$Works" s := va_AO.moved hW0.alike (va_AO.of (hw0 _ (List.mem_of_getElem? (i := 456) (by decide +kernel))))
  refine va_newq K.1 K.2.1 K.2.2.2.2.2.1 (hts _ hcl) hao hK h6 h7 h8 K.2.2.2.2.2.2.2.2.2.2.1 hn0 hN (by omega) (by rw [hR]; exact hcs) (by rw [hR]; exact hss) hd (fun q cA H1 gK g1 g2 g3 => ?_)
  have hc : cA = cy 3 := by
    obtain ⟨_, _, _, _, _, k1⟩ := (hK.2 2 (cy 3, .object "CoatWorks$Works") rfl).2
    obtain ⟨_, _, _, _, _, k2⟩ := (gK.2 (fx_t sC cy).length (cA, .object "CoatWorks$Works") (by simp)).2
    exact Option.some.inj (k2.symm.trans k1)
  subst hc
  have hy : fc_e (va_up ad μ.1 q) cy (fm_n μ (4, N, fs)) μ.1 = .inl (cy 3, N, .inr (.inr (.inr (.inr (fun _ => none))))) := by
    have e0 : (fm_n μ (4, N, fs)).2.1 μ.1 = (4, N, fs) := by simp [fm_n, va_up]
    unfold fc_e
    rw [e0]
    show Sum.inl (cy 3, N, Sum.inr (Sum.inr (Sum.inr (Sum.inr (fun j => fc_o (va_up ad μ.1 q) (fs.getD j 2)))))) = _
    congr 6
    congr 1
    funext j
    rw [List.getD_eq_getElem?_getD]
    cases hi : fs[j]? with
    | none => rfl
    | some f => rw [hf f (List.mem_of_getElem? hi)]; rfl
  have e2 := fm_n_w (ad := ad) (cy := cy) (q := q) h3 hy
  rw [e2] at g1 g2
  have hag : ∀ k, k < μ.1 ∨ 4000 ≤ k → va_up ad μ.1 q k = ad k := fun k hk => fm_n_ag hk hn
  have go := kk p e R s m args below meth c D cy A ad0 n0 K H1 locs ls (va_up ad μ.1 q) (Nat.le_succ_of_le h1) (fun k hk => (hag k (hk.elim (fun z => Or.inl (Nat.lt_of_lt_of_le z h1)) Or.inr)).trans (h2 k hk)) (fm_n_ok h3 (fun f hf2 => by rw [hf f hf2]; omega)) (fs_c (Or.inl (Nat.lt_succ_self _)) (fs_mono (Nat.le_succ _) (fs_t h4))) (fl_mono (Nat.le_succ _) h5) g1 g2 g3 (fl_ag hag h5 h9)
  rw [List.map_cons, fs_ag hag (fs_t h4)] at go
  have e3 : fv_v (va_up ad μ.1 q) (.ref μ.1) = .ref q := by simp [fv_v, va_up]
  rw [e3] at go
  exact go
section FCM2
variable {l : Launch} {M : fy_T} {d mc ms cells slots pc idx : Nat} {loc : List (Option Value)} {st : List Value} {μ : fm_T} {P : Option Value → fm_T → Prop} {b : Nat} {L L' : List fc_C} {zi : Nat → Nat → Int32} {zl : Nat → Nat → Int64}
theorem cw_newq {v : Int32} {N : Nat} {fs : List Nat} (n : Nat) (hd : decode M.2.1 pc = .ok (.anewarray idx, 3)) (hcl : Cond.classLink M.1.cls idx "CoatWorks$Works" ∈ fg_l) (hn0 : ¬ v < 0) (hN : v.toNatClampNeg = N) (hNb : N ≤ 100000) (hf : ∀ f ∈ fs, f = 2) (hn : L.length = n) (hb : b + n < 4000) (hz : zi (b + n) = (fun _ => 0) ∧ zl (b + n) = fun _ => 0) (hL : L ++ [(4, N, fs)] = L') (hcs : cells + 1 ≤ mc) (hss : slots + N ≤ ms) (kk : fwp l sC M d mc ms (cells + 1) (slots + N) (pc + 3) loc (.ref (b + n) :: st) (cm b L' μ zi zl) P) : fwp l sC M d mc ms cells slots pc loc (.int v :: st) (cm b L μ zi zl) P := by
  subst hn; subst hL
  refine fw_newq hd hcl hn0 hN hNb hf hb hcs hss ?_
  rw [cm_n hz.1 hz.2]; exact kk
theorem cm_nf {x : fc_C} {f : Nat → Int32} (h2 : zl (b + L.length) = fun _ => 0) : fm_nf (cm b L μ zi zl) x f = cm b (L ++ [x]) μ (va_up zi (b + L.length) f) zl := by
  apply fm_eq
  · show b + L.length + 1 = b + (L ++ [x]).length
    rw [List.length_append]; rfl
  · intro j
    have e := congrArg (fun q : fm_T => q.2.1 j) (cm_n (b := b) (L := L) (μ := μ) (zi := va_up zi (b + L.length) (fun _ => 0)) (zl := zl) (x := x) (by simp [va_up]) h2)
    exact e
  · intro j
    show va_up (fun j => if j < b then μ.2.2.1 j else zi j) (b + L.length) f j = (if j < b then μ.2.2.1 j else va_up zi (b + L.length) f j)
    by_cases e : j = b + L.length
    · subst e
      rw [if_neg (by omega)]
      simp [va_up]
    · simp [va_up, e]
  · intro j
    have e := congrArg (fun q : fm_T => q.2.2.2 j) (cm_n (b := b) (L := L) (μ := μ) (zi := va_up zi (b + L.length) (fun _ => 0)) (zl := zl) (x := x) (by simp [va_up]) h2)
    exact e
theorem cw_clone (n : Nat) (hd : decode M.2.1 pc = .ok (.invokevirtual idx, 3)) (hlink : Cond.methodLink M.1.cls idx ⟨"[I", "clone", "()Ljava/lang/Object;"⟩ ∈ fg_l) (hd2 : 1 ≤ d) (hcat : (st.map fun v => v.category).sum ≤ 8) (hn : L.length = n) (hb : b + n < 4000) (hz : zl (b + n) = fun _ => 0) (hL : L ++ [(1, 4, [])] = L') (hcs : cells + 1 ≤ mc) (hss : slots + 4 ≤ ms) (kk : fwp l sC M d mc ms (cells + 1) (slots + 4) (pc + 3) loc (.ref (b + n) :: st) (cm b L' μ (va_up zi (b + n) zset) zl) P) : fwp l sC M d mc ms cells slots pc loc (.ref 4001 :: st) (cm b L μ zi zl) P := by
  subst hn; subst hL
  refine fw_cloneS hd hlink hd2 hcat hb hcs hss ?_
  rw [cm_nf hz]; exact kk
theorem cm_l {i j : Nat} {v : Int64} {F : Nat → Int64} : fm_l (cm b L μ zi (va_up zl (b + i) F)) (b + i) j v = cm b L μ zi (va_up zl (b + i) (va_up F j v)) := by
  apply fm_eq
  · rfl
  · intro k; rfl
  · intro k; rfl
  · intro k
    show va_up (fun j => if j < b then μ.2.2.2 j else va_up zl (b + i) F j) (b + i) (va_up (if b + i < b then μ.2.2.2 (b + i) else va_up zl (b + i) F (b + i)) j v) k = (if k < b then μ.2.2.2 k else va_up zl (b + i) (va_up F j v) k)
    rw [if_neg (show ¬ b + i < b by omega)]
    by_cases e : k = b + i
    · subst e
      rw [if_neg (show ¬ b + i < b by omega)]
      simp [va_up]
    · simp [va_up, e]
end FCM2
def ckW : List Int32 → Int32 → Bool
  | [], _ => true
  | c :: r, n => if c = 32 then ckW r (n + 1) else !(decide (n < 0) || decide (25 ≤ n.toNatClampNeg)) && !(decide (25 ≤ n)) && ckW r n
def stW : List Int32 → Int32 → (Nat → Int64) → Nat → Int64
  | [], _, F => F
  | c :: r, n, F => if c = 32 then stW r (n + 1) F else stW r n (va_up F n.toNatClampNeg (F n.toNatClampNeg * 32 + ((c - 97) + 1).toInt64))
noncomputable def wcode : Nat → Int64 := stW wb 0 (fun _ => 0)
theorem ckW_ok : ckW wb 0 = true := by decide +kernel
set_option maxRecDepth 20000 in
theorem wL_withLetter {l : Launch} {μ : fm_T} (y0 : Int64) (x2 : Int32) : fwp l sC mX7_withLetter 0 0 0 0 0 0 (fl_ent [.long y0, .int x2] mX7_withLetter.2.2.1) [] μ (fp_f (some (.long ((y0 * (32 : Int64)) + (((x2 - 97) + 1).toInt64)))) μ) :=
  fw_lload_n dX7_withLetter_0 rfl rfl (fw_ldc2 dX7_withLetter_1 klX7_80 (fw_lmul dX7_withLetter_4 (fw_iload_n dX7_withLetter_5 rfl rfl (fw_bipush (v := 97) dX7_withLetter_6 rfl (fw_isub dX7_withLetter_8 (fw_iconst (v := 1) dX7_withLetter_9 rfl (fw_iadd dX7_withLetter_10 (fw_i2l dX7_withLetter_11 (fw_ladd dX7_withLetter_12 (fw_lret dX7_withLetter_13 rfl (nN _) (nN _) ⟨rfl, rfl⟩))))))))))
set_option maxRecDepth 20000 in
theorem codes_loop {l : Launch} {b : Nat} {μ : fm_T} {zi : Nat → Nat → Int32} {zl : Nat → Nat → Int64} (hb : b + 1 < 4000) : ∀ (r : List Int32) (i : Nat) (n : Int32) (F : Nat → Int64), i ≤ 136 → wb.drop i = r → ckW r n = true → fwp l sC mX7_codesOf 4 1 25 1 25 9 [some (.ref 4010), some (.ref (b + 1)), some (.int n), some (.int (nI i)), none] [] (cm b [(0, 7, [2, 2, 0, 2, 2, 2, 2, 0, 0, 0, 0, 0, 1, 0, 0]), (2, 25, [])] μ zi (va_up zl (b + 1) F)) (fp_f (some (.ref (b + 1))) (cm b [(0, 7, [2, 2, 0, 2, 2, 2, 2, 0, 0, 0, 0, 0, 1, 0, 0]), (2, 25, [])] μ zi (va_up zl (b + 1) (stW r n F))))
  | [], i, n, F, hi, hr, hc => by
    have e : i = 136 := by
      have h := congrArg List.length hr
      rw [List.length_drop, wb_len] at h
      simp at h
      omega
    subst e
    exact fw_iload_n dX7_codesOf_9 rfl rfl (fw_aload_n dX7_codesOf_10 rfl rfl (fw_callVSf dX7_codesOf_11 kvX7_66 kmJ0_length_8abf5 (d2 := 1) (as := []) (rest := [.int (nI 136)]) (Nat.le_of_ble_eq_true rfl) rfl rfl rfl (Nat.le_of_ble_eq_true rfl) (Nat.le_of_ble_eq_true rfl) ⟨nN _, nN _⟩ wJ0_length (fw_icmp_ge (tgt := 60) dX7_codesOf_14 rfl (fun _ => fw_aload_n dX7_codesOf_60 rfl rfl (fw_aret dX7_codesOf_61 rfl (Or.inr ⟨_, rfl⟩) (nN _) (nN _) ⟨rfl, rfl⟩)) (fun q => absurd (Int32.le_refl _) q))))
  | c :: r, i, n, F, hi, hr, hc => by
    have hlt : i < 136 := by
      have h := congrArg List.length hr
      rw [List.length_drop, wb_len] at h
      simp at h
      omega
    have hg : wb.getD i 0 = c := by
      have h := congrArg (fun q : List Int32 => q.head?) hr
      simp only [List.head?_drop, List.head?_cons] at h
      rw [List.getD_eq_getElem?_getD, h]
      rfl
    have hr2 : wb.drop (i + 1) = r := by
      have h := congrArg List.tail hr
      rw [List.tail_drop] at h
      exact h
    have hch := wJ0_charAt (l := l) (μ := cm b [(0, 7, [2, 2, 0, 2, 2, 2, 2, 0, 0, 0, 0, 0, 1, 0, 0]), (2, 25, [])] μ zi (va_up zl (b + 1) F)) hlt
    rw [hg] at hch
    have hii : nI i + Int32.ofInt 1 = nI (i + 1) := by
      show Int32.ofNat i + 1 = Int32.ofNat (i + 1)
      rw [Int32.ofNat_add]; rfl
    have hn : ¬ (136 : Int32) ≤ nI i := fun q => absurd (nI_lt hlt (by decide)) (Int32.not_lt.mpr q)
    refine fw_iload_n dX7_codesOf_9 rfl rfl (fw_aload_n dX7_codesOf_10 rfl rfl (fw_callVSf dX7_codesOf_11 kvX7_66 kmJ0_length_8abf5 (d2 := 1) (as := []) (rest := [.int (nI i)]) (Nat.le_of_ble_eq_true rfl) rfl rfl rfl (Nat.le_of_ble_eq_true rfl) (Nat.le_of_ble_eq_true rfl) ⟨nN _, nN _⟩ wJ0_length (fw_icmp_ge (tgt := 60) dX7_codesOf_14 rfl (fun q => absurd q hn) (fun _ => fw_aload_n dX7_codesOf_17 rfl rfl (fw_iload_n dX7_codesOf_18 rfl rfl (fw_callVSf dX7_codesOf_19 kvX7_72 kmJ0_charAt_5068e (d2 := 3) (as := [.int (nI i)]) (rest := []) (Nat.le_of_ble_eq_true rfl) rfl rfl rfl (Nat.le_of_ble_eq_true rfl) (Nat.le_of_ble_eq_true rfl) ⟨nN _, nN _⟩ hch (fw_istore dX7_codesOf_22 (by decide) (loc' := [some (.ref 4010), some (.ref (b + 1)), some (.int n), some (.int (nI i)), some (.int c)]) rfl (fw_iload dX7_codesOf_24 rfl (fw_bipush (v := 32) dX7_codesOf_26 rfl (fw_icmp_ne (tgt := 37) dX7_codesOf_28 rfl (fun q => ?_) (fun q => ?_)))))))))))
    · rw [ckW, if_neg q] at hc
      simp only [Bool.and_eq_true, Bool.not_eq_true', Bool.or_eq_false_iff, decide_eq_false_iff_not] at hc
      obtain ⟨⟨⟨c1, c2⟩, c3⟩, c4⟩ := hc
      have hv : vp_in n 25 := fun z => z.elim c1 c2
      have ih := codes_loop (l := l) (b := b) (μ := μ) (zi := zi) (zl := zl) hb r (i + 1) n (va_up F n.toNatClampNeg (F n.toNatClampNeg * 32 + ((c - 97) + 1).toInt64)) (by omega) hr2 c4
      rw [stW, if_neg q]
      rw [← cm_l] at ih
      exact fw_iload_n dX7_codesOf_37 rfl rfl (fw_bipush (v := 25) dX7_codesOf_38 rfl (fw_icmp_ge (tgt := 54) dX7_codesOf_40 rfl (fun z => absurd z c3) (fun _ => fw_aload_n dX7_codesOf_43 rfl rfl (fw_iload_n dX7_codesOf_44 rfl rfl (fw_aload_n dX7_codesOf_45 rfl rfl (fw_iload_n dX7_codesOf_46 rfl rfl (fw_lald (t0 := 1) dX7_codesOf_47 rfl (by omega) (cm_at (i := 1) rfl) hv rfl (v := F n.toNatClampNeg) (by
        show (if b + 1 < b then μ.2.2.2 (b + 1) else va_up zl (b + 1) F (b + 1)) n.toNatClampNeg = _
        rw [if_neg (show ¬ b + 1 < b by omega)]
        simp [va_up]) (fw_iload dX7_codesOf_48 rfl (fw_callSfx dX7_codesOf_50 kvX7_76 kmX7_withLetter (d2 := 0) (as := [.long (F n.toNatClampNeg), .int c]) (rest := [.int n, .ref (b + 1)]) (Nat.le_of_ble_eq_true rfl) rfl rfl (Nat.le_of_ble_eq_true rfl) (Nat.le_of_ble_eq_true rfl) ⟨nN _, nN _⟩ (wL_withLetter _ _) (fw_last (t0 := 1) dX7_codesOf_53 rfl (by omega) (cm_at (i := 1) rfl) hv rfl (fw_iinc dX7_codesOf_54 (by decide) rfl (v := nI (i + 1)) hii (loc' := [some (.ref 4010), some (.ref (b + 1)), some (.int n), some (.int (nI (i + 1))), some (.int c)]) rfl (fw_goto (tgt := 9) dX7_codesOf_57 rfl (fw_fg [false, false, false, false, true] rfl ih)))))))))))))
    · subst q
      rw [ckW, if_pos rfl] at hc
      have ih := codes_loop (l := l) (b := b) (μ := μ) (zi := zi) (zl := zl) hb r (i + 1) (n + 1) F (by omega) hr2 hc
      rw [stW, if_pos rfl]
      exact fw_iinc dX7_codesOf_31 (by decide) rfl (v := n + 1) rfl (loc' := [some (.ref 4010), some (.ref (b + 1)), some (.int (n + 1)), some (.int (nI i)), some (.int 32)]) rfl (fw_goto (tgt := 54) dX7_codesOf_34 rfl (fw_iinc dX7_codesOf_54 (by decide) rfl (v := nI (i + 1)) hii (loc' := [some (.ref 4010), some (.ref (b + 1)), some (.int (n + 1)), some (.int (nI (i + 1))), some (.int 32)]) rfl (fw_goto (tgt := 9) dX7_codesOf_57 rfl (fw_fg [false, false, false, false, true] rfl ih))))
set_option maxRecDepth 20000 in
theorem iX7_codes {l : Launch} {b : Nat} {μ : fm_T} {zi : Nat → Nat → Int32} {zl : Nat → Nat → Int64} (hb : b + 1 < 4000) (hz : ∀ j, b ≤ j → zi j = (fun _ => 0) ∧ zl j = fun _ => 0) : fwp l sC mX7_codesOf 4 1 25 0 0 0 (fl_ent [.ref 4010] mX7_codesOf.2.2.1) [] (cm b [(0, 7, [2, 2, 0, 2, 2, 2, 2, 0, 0, 0, 0, 0, 1, 0, 0])] μ zi zl) (fp_f (some (.ref (b + 1))) (cm b [(0, 7, [2, 2, 0, 2, 2, 2, 2, 0, 0, 0, 0, 0, 1, 0, 0]), (2, 25, [])] μ zi (va_up zl (b + 1) wcode))) := by
  have h := codes_loop (l := l) (b := b) (μ := μ) (zi := zi) (zl := zl) hb wb 0 0 (fun _ => 0) (by omega) rfl ckW_ok
  rw [va_up_id (f := zl) (hz (b + 1) (by omega)).2] at h
  exact fw_bipush (v := 25) dX7_codesOf_0 rfl (cw_newaL (t0 := 1) (N := 25) 1 dX7_codesOf_2 ka_long rfl rfl (by decide) rfl (Nat.le_of_ble_eq_true rfl) rfl (by omega) (hz (b + 1) (by omega)) (L' := [(0, 7, [2, 2, 0, 2, 2, 2, 2, 0, 0, 0, 0, 0, 1, 0, 0]), (2, 25, [])]) rfl (nN _) (nN _) (fw_astore_n dX7_codesOf_4 rfl (by decide) (loc' := [some (.ref 4010), some (.ref (b + 1)), none, none, none]) rfl (fw_iconst (v := 0) dX7_codesOf_5 rfl (fw_istore_n dX7_codesOf_6 rfl (by decide) (loc' := [some (.ref 4010), some (.ref (b + 1)), some (.int 0), none, none]) rfl (fw_iconst (v := nI 0) dX7_codesOf_7 rfl (fw_istore_n dX7_codesOf_8 rfl (by decide) (loc' := [some (.ref 4010), some (.ref (b + 1)), some (.int 0), some (.int (nI 0)), none]) rfl h))))))
