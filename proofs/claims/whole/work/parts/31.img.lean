def ag (μ μ' : fm_T) : Prop := μ'.1 = μ.1 ∧ ∀ k, k < μ.1 → μ'.2.1 k = μ.2.1 k ∧ μ'.2.2.1 k = μ.2.2.1 k ∧ μ'.2.2.2 k = μ.2.2.2 k
theorem ag_w {μ μ' : fm_T} (h : ag μ μ') (ad : Nat → Nat) (cy : Nat → ClassId) : fc_w ad cy μ' = fc_w ad cy μ := by
  unfold fc_w
  rw [h.1]
  apply List.map_congr_left
  intro k hk
  have hk : k < μ.1 := List.mem_range.mp hk
  rw [fc_ecg (h.2 k hk).1 (h.2 k hk).2.1 (h.2 k hk).2.2]
theorem ag_ok {μ μ' : fm_T} (h : ag μ μ') (ho : fm_ok μ) : fm_ok μ' := by
  intro k hk f hf
  rw [h.1] at hk ⊢
  rw [(h.2 k hk).1] at hf
  exact ho k hk f hf
theorem fw_cut {l : Launch} {S : fs_T} {M : fy_T} {d mc ms cells slots pc : Nat} {loc : List (Option Value)} {st : List Value} {μ μ' : fm_T} {P : Option Value → fm_T → Prop} (h : ag μ μ') (k : fwp l S M d mc ms cells slots pc loc st μ' P) : fwp l S M d mc ms cells slots pc loc st μ P := by
  intro p e R s m args below meth c D cy A ad0 n0 K H locs ls ad h1 h2 h3 h4 h5 h6 h7 h8 h9
  refine k p e R s m args below meth c D cy A ad0 n0 K H locs ls ad (by rw [h.1]; exact h1) h2 (ag_ok h h3) (by rw [h.1]; exact h4) (by rw [h.1]; exact h5) (by rw [ag_w h]; exact h6) (by rw [ag_w h]; exact h7) h8 h9
theorem ag_n {μ : fm_T} {x : fc_C} {B : Nat} (hB : μ.1 = B) : ag (fm_n μ x) (cm B [x] μ (fun _ _ => 0) (fun _ _ => 0)) := by
  subst hB
  refine ⟨rfl, fun k hk => ?_⟩
  have hk : k < μ.1 + 1 := hk
  by_cases e : k = μ.1
  · subst e
    refine ⟨?_, ?_, ?_⟩
    · show (if μ.1 < μ.1 then μ.2.1 μ.1 else [x].getD (μ.1 - μ.1) (0, 0, [])) = va_up μ.2.1 μ.1 x μ.1
      simp [va_up]
    · show (if μ.1 < μ.1 then μ.2.2.1 μ.1 else fun _ => 0) = va_up μ.2.2.1 μ.1 (fun _ => 0) μ.1
      simp [va_up]
    · show (if μ.1 < μ.1 then μ.2.2.2 μ.1 else fun _ => 0) = va_up μ.2.2.2 μ.1 (fun _ => 0) μ.1
      simp [va_up]
  · have h : k < μ.1 := by omega
    refine ⟨?_, ?_, ?_⟩
    · show (if k < μ.1 then μ.2.1 k else [x].getD (k - μ.1) (0, 0, [])) = va_up μ.2.1 μ.1 x k
      simp [va_up, e, h]
    · show (if k < μ.1 then μ.2.2.1 k else fun _ => 0) = va_up μ.2.2.1 μ.1 (fun _ => 0) k
      simp [va_up, e, h]
    · show (if k < μ.1 then μ.2.2.2 k else fun _ => 0) = va_up μ.2.2.2 μ.1 (fun _ => 0) k
      simp [va_up, e, h]
theorem cm_lt {b k : Nat} {L : List fc_C} {μ : fm_T} {zi : Nat → Nat → Int32} {zl : Nat → Nat → Int64} (h : k < b) : (cm b L μ zi zl).2.1 k = μ.2.1 k := by
  show (if k < b then μ.2.1 k else L.getD (k - b) (0, 0, [])) = _
  rw [if_pos h]
theorem ag_img {B r0 r1 r0' r1' j c : Nat} {μ : fm_T} {L : List fc_C} {zi : Nat → Nat → Int32} {zl : Nat → Nat → Int64} (hB : 40 < B) (hμ : μ.2.1 = shC r0 r1) (hlen : L.length = 32) (hL : ∀ i, i < 32 → L.getD i (0, 0, []) = shC 2 2 (B + i)) (h40 : shC r0' r1' 40 = (4, 2, [r0, r1].set j c)) : ag (fm_r (cm B L μ zi zl) 40 j c) (B + 32, shC r0' r1', (cm B L μ zi zl).2.2.1, (cm B L μ zi zl).2.2.2) := by
  refine ⟨?_, fun k hk => ⟨?_, rfl, rfl⟩⟩
  · show B + 32 = B + L.length
    rw [hlen]
  · have hk : k < B + L.length := hk
    rw [hlen] at hk
    have ec : ∀ a, a < B → (cm B L μ zi zl).2.1 a = shC r0 r1 a := fun a ha => by
      show (if a < B then μ.2.1 a else L.getD (a - B) (0, 0, [])) = _
      rw [if_pos ha, hμ]
    show shC r0' r1' k = va_up (cm B L μ zi zl).2.1 40 (((cm B L μ zi zl).2.1 40).1, ((cm B L μ zi zl).2.1 40).2.1, ((cm B L μ zi zl).2.1 40).2.2.set j c) k
    by_cases e : k = 40
    · subst e
      rw [ec 40 hB, h40]
      have e40 : shC r0 r1 40 = (4, 2, [r0, r1]) := rfl
      rw [e40]
      simp [va_up]
    · rw [zu_ne e]
      by_cases z : k < B
      · rw [ec k z, shC_ne e, shC_ne (r0 := r0) (r1 := r1) e]
      · show _ = (if k < B then μ.2.1 k else L.getD (k - B) (0, 0, []))
        rw [shC_ne e, if_neg z, hL (k - B) (by omega), show B + (k - B) = k by omega]
theorem fw_aast {l : Launch} {M : fy_T} {d mc ms cells slots pc : Nat} {loc : List (Option Value)} {st : List Value} {μ : fm_T} {P : Option Value → fm_T → Prop} {k n j r : Nat} {fs fs' : List Nat} {i : Int32} (hd : decode M.2.1 pc = .ok (.aastore, 1)) (hk : k < 4000) (hr : r < 4000) (hs : μ.2.1 k = (4, n, fs)) (hsr : μ.2.1 r = (0, 10, fs')) (hi : vp_in i n) (hj : i.toNatClampNeg = j) (hl : fs.length = n) (kk : fwp l sC M d mc ms cells slots (pc + 1) loc st (fm_r μ k j (r + 3)) P) : fwp l sC M d mc ms cells slots pc loc (.ref r :: .int i :: .ref k :: st) μ P := by
  subst hj
  intro p e R s m args below meth c D cy A ad0 n0 K H locs ls ad h1 h2 h3 h4 h5 h6 h7 h8 h9
  have hk := fv_lt (fs_h (fs_t (fs_t h4))) hk
  have hr := fv_lt (fs_h h4) hr
  have hlt : i.toNatClampNeg < n := Nat.not_le.mp fun q => hi (Or.inr q)
  refine va_astq K.1 K.2.1 K.2.2.2.2.2.2.2.2.2.1 h6 h7 h8 k 2 r 10 (r := (RX10, TX10, 5)) (by rw [fc_at hk, fc_eq4 hs]) rfl (by rw [fc_at hr, fc_eo hsr]) rfl hi hd (fun H1 locs1 g1 g2 g3 => ?_)
  have e1 := fc_set (ad := ad) (cy := cy) (μ' := fm_r μ k i.toNatClampNeg (r + 3)) (x := .inl (cy 3, n, .inr (.inr (.inr (.inr (va_up (fun j => fc_o ad (fs.getD j 2)) i.toNatClampNeg (some (ad r)))))))) hk rfl (by
    have e0 : (fm_r μ k i.toNatClampNeg (r + 3)).2.1 k = (4, n, fs.set i.toNatClampNeg (r + 3)) := by simp [fm_r, va_up, hs]
    rw [fc_eq4 e0]
    congr 6
    congr 1
    funext a
    rw [List.getD_eq_getElem?_getD]
    by_cases q : a = i.toNatClampNeg
    · subst q
      rw [List.getElem?_set_self (by omega)]
      simp [va_up, fc_o]
    · rw [List.getElem?_set_ne (fun z => q z.symm)]
      simp [va_up, q, List.getD_eq_getElem?_getD]) (fm_r_o ad cy)
  rw [e1] at g1 g2
  exact kk p e R s m args below meth c D cy A ad0 n0 K H1 locs1 ls ad h1 h2 (fm_r_ok h3 hr) (fs_t (fs_t (fs_t h4))) h5 g1 g2 g3 h9
def imgZ (B : Nat) : Nat → Nat → Int32 := (va_up (va_up (va_up (fun _ _ => 0) ((B + 7) + 4) (zfill 100)) ((B + 7) + 5) (zfill 40)) ((B + 16) + 11) zset)
def imgN (B r0 r1 : Nat) (μ : fm_T) : fm_T := (B + 32, shC r0 r1, fun j => if j < B then μ.2.2.1 j else imgZ B j, fun j => if j < B then μ.2.2.2 j else fun _ => 0)
set_option maxHeartbeats 8000000 in
set_option maxRecDepth 100000 in
theorem sX11_image_0 {l : Launch} {r0 r1 : Nat} {μ : fm_T} {P : Option Value → fm_T → Prop} (hμ : μ.2.1 = shC r0 r1) (x1 : Int32)
    (h : ((gX11_within μ x1 (0 : Int32) (1 : Int32)) = 0 → P (some (.int 0)) μ) ∧ (¬ (gX11_within μ x1 (0 : Int32) (1 : Int32)) = 0 → fwp l sC mX11_image 4 32 2662 0 0 11 [some (.ref 0), some (.int x1)] [] μ P)) :
    fwp l sC mX11_image 4 32 2662 0 0 0 [some (.ref 0), some (.int x1)] [] μ P :=
  fw_iload_n dX11_image_0 rfl rfl (fw_iconst (v := 0) dX11_image_1 rfl (fw_iconst (v := 1) dX11_image_2 rfl (fw_callSfx (as := [.int x1, .int 0, .int 1]) (rest := []) dX11_image_3 kvX11_141 kmX11_within (d2 := 0) (Nat.le_of_ble_eq_true rfl) rfl rfl (Nat.le_of_ble_eq_true rfl) (Nat.le_of_ble_eq_true rfl) ⟨(Nat.le_of_ble_eq_true rfl), (Nat.le_of_ble_eq_true rfl)⟩ (mc2 := 0) (ms2 := 0) (wX11_within (μ := μ) hμ x1 (0 : Int32) (1 : Int32)) (fw_if_ne (tgt := 11) dX11_image_6 rfl (fun q1 => h.2 q1) (fun q1 => fw_iconst (v := 0) dX11_image_9 rfl (fw_zret dX11_image_10 rfl (Nat.le_of_ble_eq_true rfl) (Nat.le_of_ble_eq_true rfl) (by decide) (h.1 q1)))))))
set_option maxHeartbeats 8000000 in
set_option maxRecDepth 100000 in
theorem sX11_image_11_0_92 {l : Launch} {r1 : Nat} {μ : fm_T} {P : Option Value → fm_T → Prop} (hμ : μ.2.1 = shC 92 r1)
    (h : P (some (.int 1)) (uX10_copyFrom_89_8 μ)) :
    fwp l sC mX11_image 4 32 2662 0 0 11 [some (.ref 0), some (.int 0)] [] μ P :=
  fw_aload_n dX11_image_11 rfl rfl (fw_get (v := .ref 40) dX11_image_12 kcX11 kfX11_23 (by decide) (hC_0 hμ) rfl rfl (fw_iload_n dX11_image_15 rfl rfl (fw_aald (t0 := 2) (cd := 90) (v := .ref 89) dX11_image_16 rfl (by decide) (hC_40 hμ) (by unfold vp_in; decide) (j := 0) (by decide) rfl (by simp) rfl (fw_nonnull (tgt := 33) dX11_image_17 rfl (fw_aload_n dX11_image_33 rfl rfl (fw_get (v := .ref 40) dX11_image_34 kcX11 kfX11_23 (by decide) (hC_0 hμ) rfl rfl (fw_iload_n dX11_image_37 rfl rfl (fw_aald (t0 := 2) (cd := 90) (v := .ref 89) dX11_image_38 rfl (by decide) (hC_40 hμ) (by unfold vp_in; decide) (j := 0) (by decide) rfl (by simp) rfl (fw_aload_n dX11_image_39 rfl rfl (fw_get (v := .ref 8) dX11_image_40 kcX11 kfX11_19 (by decide) (hC_0 hμ) rfl rfl (fw_callVfn (as := [.ref 8]) (rest := []) dX11_image_43 kvX11_385 kmX10_copyFrom (d2 := 3) (Nat.le_of_ble_eq_true rfl) (ci := 10) rfl rfl (by decide) (hC_89 hμ) rfl rfl (Nat.le_of_ble_eq_true rfl) (Nat.le_of_ble_eq_true rfl) ⟨(Nat.le_of_ble_eq_true rfl), (Nat.le_of_ble_eq_true rfl)⟩ (mc2 := 0) (ms2 := 0) (wX10_copyFrom_89_8 (μ := μ) hμ) (fw_iconst (v := 1) dX11_image_46 rfl (fw_zret dX11_image_47 rfl (Nat.le_of_ble_eq_true rfl) (Nat.le_of_ble_eq_true rfl) (by decide) h)))))))))))))
set_option maxHeartbeats 8000000 in
set_option maxRecDepth 100000 in
theorem sX11_image_11_0_n89 {l : Launch} {r1 : Nat} {μ : fm_T} {P : Option Value → fm_T → Prop} (hμ : μ.2.1 = shC 2 r1) (hn : μ.1 = 89)
    (h : P (some (.int 1)) (uX10_copyFrom_89_8 (imgN 89 92 r1 μ))) :
    fwp l sC mX11_image 4 32 2662 0 0 11 [some (.ref 0), some (.int 0)] [] μ P := by
  have hm : (imgN 89 92 r1 μ).2.1 = shC 92 r1 := rfl
  have e : fwp l sC mX11_image 4 32 2662 32 2662 33 [some (.ref 0), some (.int 0)] [] (imgN 89 92 r1 μ) P := fw_aload_n dX11_image_33 rfl rfl (fw_get (v := .ref 40) dX11_image_34 kcX11 kfX11_23 (by decide) (hC_0 hm) rfl rfl (fw_iload_n dX11_image_37 rfl rfl (fw_aald (t0 := 2) (cd := 90) (v := .ref 89) dX11_image_38 rfl (by decide) (hC_40 hm) (by unfold vp_in; decide) (j := 0) (by decide) rfl (by simp) rfl (fw_aload_n dX11_image_39 rfl rfl (fw_get (v := .ref 8) dX11_image_40 kcX11 kfX11_19 (by decide) (hC_0 hm) rfl rfl (fw_callVfn (as := [.ref 8]) (rest := []) dX11_image_43 kvX11_385 kmX10_copyFrom (d2 := 3) (Nat.le_of_ble_eq_true rfl) (ci := 10) rfl rfl (by decide) (hC_89 hm) rfl rfl (Nat.le_of_ble_eq_true rfl) (Nat.le_of_ble_eq_true rfl) ⟨(Nat.le_of_ble_eq_true rfl), (Nat.le_of_ble_eq_true rfl)⟩ (mc2 := 0) (ms2 := 0) (wX10_copyFrom_89_8 (μ := imgN 89 92 r1 μ) hm) (fw_iconst (v := 1) dX11_image_46 rfl (fw_zret dX11_image_47 rfl (Nat.le_of_ble_eq_true rfl) (Nat.le_of_ble_eq_true rfl) (by decide) h))))))))
  refine fw_aload_n dX11_image_11 rfl rfl (fw_get (v := .ref 40) dX11_image_12 kcX11 kfX11_23 (by decide) (hC_0 hμ) rfl rfl (fw_iload_n dX11_image_15 rfl rfl (fw_aald (t0 := 2) (cd := 0) (v := .null) dX11_image_16 rfl (by decide) (hC_40 hμ) (by unfold vp_in; decide) (j := 0) (by decide) rfl (by simp) rfl (fw_nonnullN dX11_image_17 (fw_aload_n dX11_image_20 rfl rfl (fw_get (v := .ref 40) dX11_image_21 kcX11 kfX11_23 (by decide) (hC_0 hμ) rfl rfl (fw_iload_n dX11_image_24 rfl rfl (fw_new (fs := [2, 2, 2, 2, 0]) dX11_image_25 kcX10 kqX11_16 keX10 kuX10 rfl (by decide) (by decide +kernel) (by rw [hn]; decide) (Nat.le_of_ble_eq_true rfl) (Nat.le_of_ble_eq_true rfl) ?_))))))))
  rw [hn]
  refine fw_cut (ag_n hn) (fw_dup dX11_image_28 rfl (fw_callI (as := []) (rest := [.ref 89, .int 0, .ref 40]) dX11_image_29 kIX11_18 kmX10_init (d2 := 3) (Nat.le_of_ble_eq_true rfl) rfl rfl (Nat.le_of_ble_eq_true rfl) (Nat.le_of_ble_eq_true rfl) ⟨(Nat.le_of_ble_eq_true rfl), (Nat.le_of_ble_eq_true rfl)⟩ (iX10 (b := 89) (by decide) (fun j _ => ⟨rfl, rfl⟩)) ?_))
  rintro v μ' ⟨rfl, rfl⟩
  have h40 : (cm 89 [(0, 10, [89 + 1 + 3, 89 + 7 + 3, 89 + 16 + 3, 89 + 28 + 3, 0]), (0, 8, [(89 + 1) + 1 + 3, (89 + 1) + 2 + 3, (89 + 1) + 3 + 3, (89 + 1) + 4 + 3, (89 + 1) + 5 + 3, 0, 0, 0]), (1, 560, []), (1, 240, []), (1, 240, []), (1, 240, []), (1, 240, []), (0, 3, [(89 + 7) + 1 + 3, (89 + 7) + 2 + 3, (89 + 7) + 3 + 3, (89 + 7) + 4 + 3, (89 + 7) + 5 + 3, (89 + 7) + 6 + 3, (89 + 7) + 7 + 3, (89 + 7) + 8 + 3, 0]), (1, 200, []), (1, 200, []), (1, 200, []), (1, 100, []), (1, 40, []), (1, 40, []), (1, 40, []), (1, 40, []), (0, 2, [(89 + 16) + 1 + 3, (89 + 16) + 2 + 3, (89 + 16) + 3 + 3, (89 + 16) + 4 + 3, (89 + 16) + 5 + 3, (89 + 16) + 6 + 3, (89 + 16) + 7 + 3, (89 + 16) + 8 + 3, (89 + 16) + 9 + 3, (89 + 16) + 10 + 3, (89 + 16) + 11 + 3, 0, 0]), (2, 32, []), (1, 4, []), (1, 6, []), (1, 36, []), (1, 8, []), (1, 8, []), (1, 8, []), (1, 8, []), (1, 4, []), (1, 4, []), (1, 4, []), (0, 5, [(89 + 28) + 1 + 3, (89 + 28) + 2 + 3, (89 + 28) + 3 + 3, 0, 0]), (1, 40, []), (1, 40, []), (1, 40, [])] μ (imgZ 89) (fun _ _ => 0)).2.1 40 = (4, 2, [2, r1]) := by
    rw [cm_lt (by decide)]
    exact hC_40 hμ
  refine fw_aast (k := 40) (n := 2) (j := 0) (r := 89) dX11_image_32 (by decide) (by decide) h40 (cm_at (b := 89) (i := 0) rfl) (by unfold vp_in; decide) (by decide) rfl ?_
  exact fw_cut (ag_img (r0' := 92) (r1' := r1) (by decide) hμ rfl (by decide +kernel) rfl) e
set_option maxHeartbeats 8000000 in
set_option maxRecDepth 100000 in
theorem sX11_image_11_0_124 {l : Launch} {r1 : Nat} {μ : fm_T} {P : Option Value → fm_T → Prop} (hμ : μ.2.1 = shC 124 r1)
    (h : P (some (.int 1)) (uX10_copyFrom_121_8 μ)) :
    fwp l sC mX11_image 4 32 2662 0 0 11 [some (.ref 0), some (.int 0)] [] μ P :=
  fw_aload_n dX11_image_11 rfl rfl (fw_get (v := .ref 40) dX11_image_12 kcX11 kfX11_23 (by decide) (hC_0 hμ) rfl rfl (fw_iload_n dX11_image_15 rfl rfl (fw_aald (t0 := 2) (cd := 122) (v := .ref 121) dX11_image_16 rfl (by decide) (hC_40 hμ) (by unfold vp_in; decide) (j := 0) (by decide) rfl (by simp) rfl (fw_nonnull (tgt := 33) dX11_image_17 rfl (fw_aload_n dX11_image_33 rfl rfl (fw_get (v := .ref 40) dX11_image_34 kcX11 kfX11_23 (by decide) (hC_0 hμ) rfl rfl (fw_iload_n dX11_image_37 rfl rfl (fw_aald (t0 := 2) (cd := 122) (v := .ref 121) dX11_image_38 rfl (by decide) (hC_40 hμ) (by unfold vp_in; decide) (j := 0) (by decide) rfl (by simp) rfl (fw_aload_n dX11_image_39 rfl rfl (fw_get (v := .ref 8) dX11_image_40 kcX11 kfX11_19 (by decide) (hC_0 hμ) rfl rfl (fw_callVfn (as := [.ref 8]) (rest := []) dX11_image_43 kvX11_385 kmX10_copyFrom (d2 := 3) (Nat.le_of_ble_eq_true rfl) (ci := 10) rfl rfl (by decide) (hC_121 hμ) rfl rfl (Nat.le_of_ble_eq_true rfl) (Nat.le_of_ble_eq_true rfl) ⟨(Nat.le_of_ble_eq_true rfl), (Nat.le_of_ble_eq_true rfl)⟩ (mc2 := 0) (ms2 := 0) (wX10_copyFrom_121_8 (μ := μ) hμ) (fw_iconst (v := 1) dX11_image_46 rfl (fw_zret dX11_image_47 rfl (Nat.le_of_ble_eq_true rfl) (Nat.le_of_ble_eq_true rfl) (by decide) h)))))))))))))
set_option maxHeartbeats 8000000 in
set_option maxRecDepth 100000 in
theorem sX11_image_11_0_n121 {l : Launch} {r1 : Nat} {μ : fm_T} {P : Option Value → fm_T → Prop} (hμ : μ.2.1 = shC 2 r1) (hn : μ.1 = 121)
    (h : P (some (.int 1)) (uX10_copyFrom_121_8 (imgN 121 124 r1 μ))) :
    fwp l sC mX11_image 4 32 2662 0 0 11 [some (.ref 0), some (.int 0)] [] μ P := by
  have hm : (imgN 121 124 r1 μ).2.1 = shC 124 r1 := rfl
  have e : fwp l sC mX11_image 4 32 2662 32 2662 33 [some (.ref 0), some (.int 0)] [] (imgN 121 124 r1 μ) P := fw_aload_n dX11_image_33 rfl rfl (fw_get (v := .ref 40) dX11_image_34 kcX11 kfX11_23 (by decide) (hC_0 hm) rfl rfl (fw_iload_n dX11_image_37 rfl rfl (fw_aald (t0 := 2) (cd := 122) (v := .ref 121) dX11_image_38 rfl (by decide) (hC_40 hm) (by unfold vp_in; decide) (j := 0) (by decide) rfl (by simp) rfl (fw_aload_n dX11_image_39 rfl rfl (fw_get (v := .ref 8) dX11_image_40 kcX11 kfX11_19 (by decide) (hC_0 hm) rfl rfl (fw_callVfn (as := [.ref 8]) (rest := []) dX11_image_43 kvX11_385 kmX10_copyFrom (d2 := 3) (Nat.le_of_ble_eq_true rfl) (ci := 10) rfl rfl (by decide) (hC_121 hm) rfl rfl (Nat.le_of_ble_eq_true rfl) (Nat.le_of_ble_eq_true rfl) ⟨(Nat.le_of_ble_eq_true rfl), (Nat.le_of_ble_eq_true rfl)⟩ (mc2 := 0) (ms2 := 0) (wX10_copyFrom_121_8 (μ := imgN 121 124 r1 μ) hm) (fw_iconst (v := 1) dX11_image_46 rfl (fw_zret dX11_image_47 rfl (Nat.le_of_ble_eq_true rfl) (Nat.le_of_ble_eq_true rfl) (by decide) h))))))))
  refine fw_aload_n dX11_image_11 rfl rfl (fw_get (v := .ref 40) dX11_image_12 kcX11 kfX11_23 (by decide) (hC_0 hμ) rfl rfl (fw_iload_n dX11_image_15 rfl rfl (fw_aald (t0 := 2) (cd := 0) (v := .null) dX11_image_16 rfl (by decide) (hC_40 hμ) (by unfold vp_in; decide) (j := 0) (by decide) rfl (by simp) rfl (fw_nonnullN dX11_image_17 (fw_aload_n dX11_image_20 rfl rfl (fw_get (v := .ref 40) dX11_image_21 kcX11 kfX11_23 (by decide) (hC_0 hμ) rfl rfl (fw_iload_n dX11_image_24 rfl rfl (fw_new (fs := [2, 2, 2, 2, 0]) dX11_image_25 kcX10 kqX11_16 keX10 kuX10 rfl (by decide) (by decide +kernel) (by rw [hn]; decide) (Nat.le_of_ble_eq_true rfl) (Nat.le_of_ble_eq_true rfl) ?_))))))))
  rw [hn]
  refine fw_cut (ag_n hn) (fw_dup dX11_image_28 rfl (fw_callI (as := []) (rest := [.ref 121, .int 0, .ref 40]) dX11_image_29 kIX11_18 kmX10_init (d2 := 3) (Nat.le_of_ble_eq_true rfl) rfl rfl (Nat.le_of_ble_eq_true rfl) (Nat.le_of_ble_eq_true rfl) ⟨(Nat.le_of_ble_eq_true rfl), (Nat.le_of_ble_eq_true rfl)⟩ (iX10 (b := 121) (by decide) (fun j _ => ⟨rfl, rfl⟩)) ?_))
  rintro v μ' ⟨rfl, rfl⟩
  have h40 : (cm 121 [(0, 10, [121 + 1 + 3, 121 + 7 + 3, 121 + 16 + 3, 121 + 28 + 3, 0]), (0, 8, [(121 + 1) + 1 + 3, (121 + 1) + 2 + 3, (121 + 1) + 3 + 3, (121 + 1) + 4 + 3, (121 + 1) + 5 + 3, 0, 0, 0]), (1, 560, []), (1, 240, []), (1, 240, []), (1, 240, []), (1, 240, []), (0, 3, [(121 + 7) + 1 + 3, (121 + 7) + 2 + 3, (121 + 7) + 3 + 3, (121 + 7) + 4 + 3, (121 + 7) + 5 + 3, (121 + 7) + 6 + 3, (121 + 7) + 7 + 3, (121 + 7) + 8 + 3, 0]), (1, 200, []), (1, 200, []), (1, 200, []), (1, 100, []), (1, 40, []), (1, 40, []), (1, 40, []), (1, 40, []), (0, 2, [(121 + 16) + 1 + 3, (121 + 16) + 2 + 3, (121 + 16) + 3 + 3, (121 + 16) + 4 + 3, (121 + 16) + 5 + 3, (121 + 16) + 6 + 3, (121 + 16) + 7 + 3, (121 + 16) + 8 + 3, (121 + 16) + 9 + 3, (121 + 16) + 10 + 3, (121 + 16) + 11 + 3, 0, 0]), (2, 32, []), (1, 4, []), (1, 6, []), (1, 36, []), (1, 8, []), (1, 8, []), (1, 8, []), (1, 8, []), (1, 4, []), (1, 4, []), (1, 4, []), (0, 5, [(121 + 28) + 1 + 3, (121 + 28) + 2 + 3, (121 + 28) + 3 + 3, 0, 0]), (1, 40, []), (1, 40, []), (1, 40, [])] μ (imgZ 121) (fun _ _ => 0)).2.1 40 = (4, 2, [2, r1]) := by
    rw [cm_lt (by decide)]
    exact hC_40 hμ
  refine fw_aast (k := 40) (n := 2) (j := 0) (r := 121) dX11_image_32 (by decide) (by decide) h40 (cm_at (b := 121) (i := 0) rfl) (by unfold vp_in; decide) (by decide) rfl ?_
  exact fw_cut (ag_img (r0' := 124) (r1' := r1) (by decide) hμ rfl (by decide +kernel) rfl) e
set_option maxHeartbeats 8000000 in
set_option maxRecDepth 100000 in
theorem sX11_image_11_1_92 {l : Launch} {r0 : Nat} {μ : fm_T} {P : Option Value → fm_T → Prop} (hμ : μ.2.1 = shC r0 92)
    (h : P (some (.int 1)) (uX10_copyFrom_89_8 μ)) :
    fwp l sC mX11_image 4 32 2662 0 0 11 [some (.ref 0), some (.int 1)] [] μ P :=
  fw_aload_n dX11_image_11 rfl rfl (fw_get (v := .ref 40) dX11_image_12 kcX11 kfX11_23 (by decide) (hC_0 hμ) rfl rfl (fw_iload_n dX11_image_15 rfl rfl (fw_aald (t0 := 2) (cd := 90) (v := .ref 89) dX11_image_16 rfl (by decide) (hC_40 hμ) (by unfold vp_in; decide) (j := 1) (by decide) rfl (by simp) rfl (fw_nonnull (tgt := 33) dX11_image_17 rfl (fw_aload_n dX11_image_33 rfl rfl (fw_get (v := .ref 40) dX11_image_34 kcX11 kfX11_23 (by decide) (hC_0 hμ) rfl rfl (fw_iload_n dX11_image_37 rfl rfl (fw_aald (t0 := 2) (cd := 90) (v := .ref 89) dX11_image_38 rfl (by decide) (hC_40 hμ) (by unfold vp_in; decide) (j := 1) (by decide) rfl (by simp) rfl (fw_aload_n dX11_image_39 rfl rfl (fw_get (v := .ref 8) dX11_image_40 kcX11 kfX11_19 (by decide) (hC_0 hμ) rfl rfl (fw_callVfn (as := [.ref 8]) (rest := []) dX11_image_43 kvX11_385 kmX10_copyFrom (d2 := 3) (Nat.le_of_ble_eq_true rfl) (ci := 10) rfl rfl (by decide) (hC_89 hμ) rfl rfl (Nat.le_of_ble_eq_true rfl) (Nat.le_of_ble_eq_true rfl) ⟨(Nat.le_of_ble_eq_true rfl), (Nat.le_of_ble_eq_true rfl)⟩ (mc2 := 0) (ms2 := 0) (wX10_copyFrom_89_8 (μ := μ) hμ) (fw_iconst (v := 1) dX11_image_46 rfl (fw_zret dX11_image_47 rfl (Nat.le_of_ble_eq_true rfl) (Nat.le_of_ble_eq_true rfl) (by decide) h)))))))))))))
set_option maxHeartbeats 8000000 in
set_option maxRecDepth 100000 in
theorem sX11_image_11_1_n89 {l : Launch} {r0 : Nat} {μ : fm_T} {P : Option Value → fm_T → Prop} (hμ : μ.2.1 = shC r0 2) (hn : μ.1 = 89)
    (h : P (some (.int 1)) (uX10_copyFrom_89_8 (imgN 89 r0 92 μ))) :
    fwp l sC mX11_image 4 32 2662 0 0 11 [some (.ref 0), some (.int 1)] [] μ P := by
  have hm : (imgN 89 r0 92 μ).2.1 = shC r0 92 := rfl
  have e : fwp l sC mX11_image 4 32 2662 32 2662 33 [some (.ref 0), some (.int 1)] [] (imgN 89 r0 92 μ) P := fw_aload_n dX11_image_33 rfl rfl (fw_get (v := .ref 40) dX11_image_34 kcX11 kfX11_23 (by decide) (hC_0 hm) rfl rfl (fw_iload_n dX11_image_37 rfl rfl (fw_aald (t0 := 2) (cd := 90) (v := .ref 89) dX11_image_38 rfl (by decide) (hC_40 hm) (by unfold vp_in; decide) (j := 1) (by decide) rfl (by simp) rfl (fw_aload_n dX11_image_39 rfl rfl (fw_get (v := .ref 8) dX11_image_40 kcX11 kfX11_19 (by decide) (hC_0 hm) rfl rfl (fw_callVfn (as := [.ref 8]) (rest := []) dX11_image_43 kvX11_385 kmX10_copyFrom (d2 := 3) (Nat.le_of_ble_eq_true rfl) (ci := 10) rfl rfl (by decide) (hC_89 hm) rfl rfl (Nat.le_of_ble_eq_true rfl) (Nat.le_of_ble_eq_true rfl) ⟨(Nat.le_of_ble_eq_true rfl), (Nat.le_of_ble_eq_true rfl)⟩ (mc2 := 0) (ms2 := 0) (wX10_copyFrom_89_8 (μ := imgN 89 r0 92 μ) hm) (fw_iconst (v := 1) dX11_image_46 rfl (fw_zret dX11_image_47 rfl (Nat.le_of_ble_eq_true rfl) (Nat.le_of_ble_eq_true rfl) (by decide) h))))))))
  refine fw_aload_n dX11_image_11 rfl rfl (fw_get (v := .ref 40) dX11_image_12 kcX11 kfX11_23 (by decide) (hC_0 hμ) rfl rfl (fw_iload_n dX11_image_15 rfl rfl (fw_aald (t0 := 2) (cd := 0) (v := .null) dX11_image_16 rfl (by decide) (hC_40 hμ) (by unfold vp_in; decide) (j := 1) (by decide) rfl (by simp) rfl (fw_nonnullN dX11_image_17 (fw_aload_n dX11_image_20 rfl rfl (fw_get (v := .ref 40) dX11_image_21 kcX11 kfX11_23 (by decide) (hC_0 hμ) rfl rfl (fw_iload_n dX11_image_24 rfl rfl (fw_new (fs := [2, 2, 2, 2, 0]) dX11_image_25 kcX10 kqX11_16 keX10 kuX10 rfl (by decide) (by decide +kernel) (by rw [hn]; decide) (Nat.le_of_ble_eq_true rfl) (Nat.le_of_ble_eq_true rfl) ?_))))))))
  rw [hn]
  refine fw_cut (ag_n hn) (fw_dup dX11_image_28 rfl (fw_callI (as := []) (rest := [.ref 89, .int 1, .ref 40]) dX11_image_29 kIX11_18 kmX10_init (d2 := 3) (Nat.le_of_ble_eq_true rfl) rfl rfl (Nat.le_of_ble_eq_true rfl) (Nat.le_of_ble_eq_true rfl) ⟨(Nat.le_of_ble_eq_true rfl), (Nat.le_of_ble_eq_true rfl)⟩ (iX10 (b := 89) (by decide) (fun j _ => ⟨rfl, rfl⟩)) ?_))
  rintro v μ' ⟨rfl, rfl⟩
  have h40 : (cm 89 [(0, 10, [89 + 1 + 3, 89 + 7 + 3, 89 + 16 + 3, 89 + 28 + 3, 0]), (0, 8, [(89 + 1) + 1 + 3, (89 + 1) + 2 + 3, (89 + 1) + 3 + 3, (89 + 1) + 4 + 3, (89 + 1) + 5 + 3, 0, 0, 0]), (1, 560, []), (1, 240, []), (1, 240, []), (1, 240, []), (1, 240, []), (0, 3, [(89 + 7) + 1 + 3, (89 + 7) + 2 + 3, (89 + 7) + 3 + 3, (89 + 7) + 4 + 3, (89 + 7) + 5 + 3, (89 + 7) + 6 + 3, (89 + 7) + 7 + 3, (89 + 7) + 8 + 3, 0]), (1, 200, []), (1, 200, []), (1, 200, []), (1, 100, []), (1, 40, []), (1, 40, []), (1, 40, []), (1, 40, []), (0, 2, [(89 + 16) + 1 + 3, (89 + 16) + 2 + 3, (89 + 16) + 3 + 3, (89 + 16) + 4 + 3, (89 + 16) + 5 + 3, (89 + 16) + 6 + 3, (89 + 16) + 7 + 3, (89 + 16) + 8 + 3, (89 + 16) + 9 + 3, (89 + 16) + 10 + 3, (89 + 16) + 11 + 3, 0, 0]), (2, 32, []), (1, 4, []), (1, 6, []), (1, 36, []), (1, 8, []), (1, 8, []), (1, 8, []), (1, 8, []), (1, 4, []), (1, 4, []), (1, 4, []), (0, 5, [(89 + 28) + 1 + 3, (89 + 28) + 2 + 3, (89 + 28) + 3 + 3, 0, 0]), (1, 40, []), (1, 40, []), (1, 40, [])] μ (imgZ 89) (fun _ _ => 0)).2.1 40 = (4, 2, [r0, 2]) := by
    rw [cm_lt (by decide)]
    exact hC_40 hμ
  refine fw_aast (k := 40) (n := 2) (j := 1) (r := 89) dX11_image_32 (by decide) (by decide) h40 (cm_at (b := 89) (i := 0) rfl) (by unfold vp_in; decide) (by decide) rfl ?_
  exact fw_cut (ag_img (r0' := r0) (r1' := 92) (by decide) hμ rfl (by decide +kernel) rfl) e
set_option maxHeartbeats 8000000 in
set_option maxRecDepth 100000 in
theorem sX11_image_11_1_124 {l : Launch} {r0 : Nat} {μ : fm_T} {P : Option Value → fm_T → Prop} (hμ : μ.2.1 = shC r0 124)
    (h : P (some (.int 1)) (uX10_copyFrom_121_8 μ)) :
    fwp l sC mX11_image 4 32 2662 0 0 11 [some (.ref 0), some (.int 1)] [] μ P :=
  fw_aload_n dX11_image_11 rfl rfl (fw_get (v := .ref 40) dX11_image_12 kcX11 kfX11_23 (by decide) (hC_0 hμ) rfl rfl (fw_iload_n dX11_image_15 rfl rfl (fw_aald (t0 := 2) (cd := 122) (v := .ref 121) dX11_image_16 rfl (by decide) (hC_40 hμ) (by unfold vp_in; decide) (j := 1) (by decide) rfl (by simp) rfl (fw_nonnull (tgt := 33) dX11_image_17 rfl (fw_aload_n dX11_image_33 rfl rfl (fw_get (v := .ref 40) dX11_image_34 kcX11 kfX11_23 (by decide) (hC_0 hμ) rfl rfl (fw_iload_n dX11_image_37 rfl rfl (fw_aald (t0 := 2) (cd := 122) (v := .ref 121) dX11_image_38 rfl (by decide) (hC_40 hμ) (by unfold vp_in; decide) (j := 1) (by decide) rfl (by simp) rfl (fw_aload_n dX11_image_39 rfl rfl (fw_get (v := .ref 8) dX11_image_40 kcX11 kfX11_19 (by decide) (hC_0 hμ) rfl rfl (fw_callVfn (as := [.ref 8]) (rest := []) dX11_image_43 kvX11_385 kmX10_copyFrom (d2 := 3) (Nat.le_of_ble_eq_true rfl) (ci := 10) rfl rfl (by decide) (hC_121 hμ) rfl rfl (Nat.le_of_ble_eq_true rfl) (Nat.le_of_ble_eq_true rfl) ⟨(Nat.le_of_ble_eq_true rfl), (Nat.le_of_ble_eq_true rfl)⟩ (mc2 := 0) (ms2 := 0) (wX10_copyFrom_121_8 (μ := μ) hμ) (fw_iconst (v := 1) dX11_image_46 rfl (fw_zret dX11_image_47 rfl (Nat.le_of_ble_eq_true rfl) (Nat.le_of_ble_eq_true rfl) (by decide) h)))))))))))))
set_option maxHeartbeats 8000000 in
set_option maxRecDepth 100000 in
theorem sX11_image_11_1_n121 {l : Launch} {r0 : Nat} {μ : fm_T} {P : Option Value → fm_T → Prop} (hμ : μ.2.1 = shC r0 2) (hn : μ.1 = 121)
    (h : P (some (.int 1)) (uX10_copyFrom_121_8 (imgN 121 r0 124 μ))) :
    fwp l sC mX11_image 4 32 2662 0 0 11 [some (.ref 0), some (.int 1)] [] μ P := by
  have hm : (imgN 121 r0 124 μ).2.1 = shC r0 124 := rfl
  have e : fwp l sC mX11_image 4 32 2662 32 2662 33 [some (.ref 0), some (.int 1)] [] (imgN 121 r0 124 μ) P := fw_aload_n dX11_image_33 rfl rfl (fw_get (v := .ref 40) dX11_image_34 kcX11 kfX11_23 (by decide) (hC_0 hm) rfl rfl (fw_iload_n dX11_image_37 rfl rfl (fw_aald (t0 := 2) (cd := 122) (v := .ref 121) dX11_image_38 rfl (by decide) (hC_40 hm) (by unfold vp_in; decide) (j := 1) (by decide) rfl (by simp) rfl (fw_aload_n dX11_image_39 rfl rfl (fw_get (v := .ref 8) dX11_image_40 kcX11 kfX11_19 (by decide) (hC_0 hm) rfl rfl (fw_callVfn (as := [.ref 8]) (rest := []) dX11_image_43 kvX11_385 kmX10_copyFrom (d2 := 3) (Nat.le_of_ble_eq_true rfl) (ci := 10) rfl rfl (by decide) (hC_121 hm) rfl rfl (Nat.le_of_ble_eq_true rfl) (Nat.le_of_ble_eq_true rfl) ⟨(Nat.le_of_ble_eq_true rfl), (Nat.le_of_ble_eq_true rfl)⟩ (mc2 := 0) (ms2 := 0) (wX10_copyFrom_121_8 (μ := imgN 121 r0 124 μ) hm) (fw_iconst (v := 1) dX11_image_46 rfl (fw_zret dX11_image_47 rfl (Nat.le_of_ble_eq_true rfl) (Nat.le_of_ble_eq_true rfl) (by decide) h))))))))
  refine fw_aload_n dX11_image_11 rfl rfl (fw_get (v := .ref 40) dX11_image_12 kcX11 kfX11_23 (by decide) (hC_0 hμ) rfl rfl (fw_iload_n dX11_image_15 rfl rfl (fw_aald (t0 := 2) (cd := 0) (v := .null) dX11_image_16 rfl (by decide) (hC_40 hμ) (by unfold vp_in; decide) (j := 1) (by decide) rfl (by simp) rfl (fw_nonnullN dX11_image_17 (fw_aload_n dX11_image_20 rfl rfl (fw_get (v := .ref 40) dX11_image_21 kcX11 kfX11_23 (by decide) (hC_0 hμ) rfl rfl (fw_iload_n dX11_image_24 rfl rfl (fw_new (fs := [2, 2, 2, 2, 0]) dX11_image_25 kcX10 kqX11_16 keX10 kuX10 rfl (by decide) (by decide +kernel) (by rw [hn]; decide) (Nat.le_of_ble_eq_true rfl) (Nat.le_of_ble_eq_true rfl) ?_))))))))
  rw [hn]
  refine fw_cut (ag_n hn) (fw_dup dX11_image_28 rfl (fw_callI (as := []) (rest := [.ref 121, .int 1, .ref 40]) dX11_image_29 kIX11_18 kmX10_init (d2 := 3) (Nat.le_of_ble_eq_true rfl) rfl rfl (Nat.le_of_ble_eq_true rfl) (Nat.le_of_ble_eq_true rfl) ⟨(Nat.le_of_ble_eq_true rfl), (Nat.le_of_ble_eq_true rfl)⟩ (iX10 (b := 121) (by decide) (fun j _ => ⟨rfl, rfl⟩)) ?_))
  rintro v μ' ⟨rfl, rfl⟩
  have h40 : (cm 121 [(0, 10, [121 + 1 + 3, 121 + 7 + 3, 121 + 16 + 3, 121 + 28 + 3, 0]), (0, 8, [(121 + 1) + 1 + 3, (121 + 1) + 2 + 3, (121 + 1) + 3 + 3, (121 + 1) + 4 + 3, (121 + 1) + 5 + 3, 0, 0, 0]), (1, 560, []), (1, 240, []), (1, 240, []), (1, 240, []), (1, 240, []), (0, 3, [(121 + 7) + 1 + 3, (121 + 7) + 2 + 3, (121 + 7) + 3 + 3, (121 + 7) + 4 + 3, (121 + 7) + 5 + 3, (121 + 7) + 6 + 3, (121 + 7) + 7 + 3, (121 + 7) + 8 + 3, 0]), (1, 200, []), (1, 200, []), (1, 200, []), (1, 100, []), (1, 40, []), (1, 40, []), (1, 40, []), (1, 40, []), (0, 2, [(121 + 16) + 1 + 3, (121 + 16) + 2 + 3, (121 + 16) + 3 + 3, (121 + 16) + 4 + 3, (121 + 16) + 5 + 3, (121 + 16) + 6 + 3, (121 + 16) + 7 + 3, (121 + 16) + 8 + 3, (121 + 16) + 9 + 3, (121 + 16) + 10 + 3, (121 + 16) + 11 + 3, 0, 0]), (2, 32, []), (1, 4, []), (1, 6, []), (1, 36, []), (1, 8, []), (1, 8, []), (1, 8, []), (1, 8, []), (1, 4, []), (1, 4, []), (1, 4, []), (0, 5, [(121 + 28) + 1 + 3, (121 + 28) + 2 + 3, (121 + 28) + 3 + 3, 0, 0]), (1, 40, []), (1, 40, []), (1, 40, [])] μ (imgZ 121) (fun _ _ => 0)).2.1 40 = (4, 2, [r0, 2]) := by
    rw [cm_lt (by decide)]
    exact hC_40 hμ
  refine fw_aast (k := 40) (n := 2) (j := 1) (r := 121) dX11_image_32 (by decide) (by decide) h40 (cm_at (b := 121) (i := 0) rfl) (by unfold vp_in; decide) (by decide) rfl ?_
  exact fw_cut (ag_img (r0' := r0) (r1' := 124) (by decide) hμ rfl (by decide +kernel) rfl) e
