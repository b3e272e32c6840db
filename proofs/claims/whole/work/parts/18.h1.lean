noncomputable def mJ7_fill_53178_19H_h5 : Nat → fm_T → Int32 → Int32 → Int32 → fm_T
  | 0, μ, _, _, _ => μ
  | n + 1, μ, x1, x2, x3 => (if x3 ≤ x2 then μ else (mJ7_fill_53178_19H_h5 n (fm_i μ 19 x2.toNatClampNeg x1) x1 (x2 + 1) x3))
noncomputable def qJ7_fill_53178_19H_h5 : Nat → fm_T → Int32 → Int32 → Int32 → Prop
  | 0, _, _, _, _ => False
  | n + 1, μ, x1, x2, x3 => (¬ x3 ≤ x2 → (vp_in x2 100) ∧ (qJ7_fill_53178_19H_h5 n (fm_i μ 19 x2.toNatClampNeg x1) x1 (x2 + 1) x3))
theorem hmJ7_fill_53178_19H_h5 : ∀ (n : Nat) (μ : fm_T) (x1 : Int32) (x2 : Int32) (x3 : Int32), (mJ7_fill_53178_19H_h5 n μ x1 x2 x3).2.1 = μ.2.1
  | 0, μ, x1, x2, x3 => rfl
  | n + 1, μ, x1, x2, x3 => by
    first | (simp only [mJ7_fill_53178_19H_h5, fm_ite, ite_self, hmJ7_fill_53178_19H_h5, fm_i_sh, fm_l_sh, fm_c_sh, fm_d_sh, fm_s_sh]; done) | (simp only [mJ7_fill_53178_19H_h5]; (repeat' split) <;> first | (simp only [hmJ7_fill_53178_19H_h5, fm_i_sh, fm_l_sh, fm_c_sh, fm_d_sh, fm_s_sh]) | rfl)
set_option maxHeartbeats 8000000 in
set_option maxRecDepth 100000 in
theorem sJ7_fill_53178_19H_h5 {l : Launch} {r0 r1 : Nat} {μ : fm_T} {P : Option Value → fm_T → Prop} (hμ : μ.2.1 = shH r0 r1) (x1 : Int32) (x2 : Int32) (x3 : Int32)
    (h : (x3 ≤ x2 → P none μ) ∧ (¬ x3 ≤ x2 → (vp_in x2 100) ∧ (fwp l sC mJ7_fill_53178 0 0 0 0 0 5 [some (.ref 19), some (.int x1), some (.int (x2 + 1)), some (.int x3)] [] (fm_i μ 19 x2.toNatClampNeg x1) P))) :
    fwp l sC mJ7_fill_53178 0 0 0 0 0 5 [some (.ref 19), some (.int x1), some (.int x2), some (.int x3)] [] μ P :=
  fw_iload_n dJ7_fill_53178_5 rfl rfl (fw_iload_n dJ7_fill_53178_6 rfl rfl (fw_icmp_ge (tgt := 20) dJ7_fill_53178_7 rfl (fun q1 => fw_vret dJ7_fill_53178_20 rfl (by decide) (by decide) (h.1 q1)) (fun q1 => fw_aload_n dJ7_fill_53178_10 rfl rfl (fw_iload_n dJ7_fill_53178_11 rfl rfl (fw_iload_n dJ7_fill_53178_12 rfl rfl (fw_iast (t0 := 0) dJ7_fill_53178_13 rfl (by decide) (hH_19 hμ) (h.2 q1).1 rfl (fw_iinc dJ7_fill_53178_14 (by decide) rfl (v := x2 + 1) rfl (loc' := [some (.ref 19), some (.int x1), some (.int (x2 + 1)), some (.int x3)]) rfl (fw_goto (tgt := 5) dJ7_fill_53178_17 rfl ((h.2 q1).2)))))))))
set_option maxHeartbeats 8000000 in
set_option maxRecDepth 100000 in
theorem tJ7_fill_53178_19H_h5 {l : Launch} {r0 r1 : Nat} {P : Option Value → fm_T → Prop} : ∀ (n : Nat) {μ : fm_T} (hμ : μ.2.1 = shH r0 r1) (x1 : Int32) (x2 : Int32) (x3 : Int32), qJ7_fill_53178_19H_h5 n μ x1 x2 x3 → P none (mJ7_fill_53178_19H_h5 n μ x1 x2 x3) → fwp l sC mJ7_fill_53178 0 0 0 0 0 5 [some (.ref 19), some (.int x1), some (.int x2), some (.int x3)] [] μ P
  | 0, μ, hμ, x1, x2, x3, hq, hP => hq.elim
  | n + 1, μ, hμ, x1, x2, x3, hq, hP => by
    have hq : (¬ x3 ≤ x2 → (vp_in x2 100) ∧ (qJ7_fill_53178_19H_h5 n (fm_i μ 19 x2.toNatClampNeg x1) x1 (x2 + 1) x3)) := hq
    exact sJ7_fill_53178_19H_h5 hμ x1 x2 x3 (⟨fun q1 => (by have hP2 := hP; simp only [mJ7_fill_53178_19H_h5, if_pos q1] at hP2; exact hP2), fun q1 => ⟨(hq q1).1, (tJ7_fill_53178_19H_h5 n (μ := (fm_i μ 19 x2.toNatClampNeg x1)) (((fm_i_sh _ _ _ _).trans hμ)) x1 (x2 + 1) x3 ((hq q1).2) (by have hP2 := hP; simp only [mJ7_fill_53178_19H_h5, if_neg q1] at hP2; exact hP2))⟩⟩)
noncomputable def uJ7_fill_53178_19H (μ : fm_T) (x1 : Int32) : fm_T := (mJ7_fill_53178_19H_h5 fF μ x1 0 100)
noncomputable def pJ7_fill_53178_19H (μ : fm_T) (x1 : Int32) : Prop := qJ7_fill_53178_19H_h5 fF μ x1 0 100
theorem hJ7_fill_53178_19H (μ : fm_T) (x1 : Int32) : (uJ7_fill_53178_19H μ x1).2.1 = μ.2.1 := by
  first | (simp only [uJ7_fill_53178_19H, fm_ite, ite_self, fm_i_sh, fm_l_sh, fm_c_sh, fm_d_sh, fm_s_sh, hmJ7_fill_53178_19H_h5]; done) | (unfold uJ7_fill_53178_19H; (repeat' split) <;> first | simp only [fm_i_sh, fm_l_sh, fm_c_sh, fm_d_sh, fm_s_sh, hmJ7_fill_53178_19H_h5] | rfl)
set_option maxHeartbeats 8000000 in
set_option maxRecDepth 100000 in
theorem sJ7_fill_53178_19H_0 {l : Launch} {r0 r1 : Nat} {μ : fm_T} {P : Option Value → fm_T → Prop} (hμ : μ.2.1 = shH r0 r1) (x1 : Int32)
    (h : fwp l sC mJ7_fill_53178 0 0 0 0 0 5 [some (.ref 19), some (.int x1), some (.int 0), some (.int 100)] [] μ P) :
    fwp l sC mJ7_fill_53178 0 0 0 0 0 0 [some (.ref 19), some (.int x1), none, none] [] μ P :=
  fw_iconst (v := 0) dJ7_fill_53178_0 rfl (fw_istore_n dJ7_fill_53178_1 rfl (by decide) (loc' := [some (.ref 19), some (.int x1), some (.int 0), none]) rfl (fw_aload_n dJ7_fill_53178_2 rfl rfl (fw_alen (t0 := 0) dJ7_fill_53178_3 rfl (by decide) (hH_19 hμ) rfl (fw_istore_n dJ7_fill_53178_4 rfl (by decide) (loc' := [some (.ref 19), some (.int x1), some (.int 0), some (.int 100)]) rfl (h)))))
set_option maxHeartbeats 8000000 in
set_option maxRecDepth 100000 in
theorem wJ7_fill_53178_19H {l : Launch} {r0 r1 : Nat} {μ : fm_T} (hμ : μ.2.1 = shH r0 r1) (x1 : Int32) (hp : pJ7_fill_53178_19H μ x1) : fwp l sC mJ7_fill_53178 0 0 0 0 0 0 (fl_ent [.ref 19, .int x1] mJ7_fill_53178.2.2.1) [] μ (fp_f none (uJ7_fill_53178_19H μ x1)) := by
  have hp : qJ7_fill_53178_19H_h5 fF μ x1 0 100 := hp
  exact sJ7_fill_53178_19H_0 hμ x1 ((tJ7_fill_53178_19H_h5 fF (μ := μ) (hμ) x1 0 100 (hp) ⟨by simp only [uJ7_fill_53178_19H], by simp only [uJ7_fill_53178_19H]⟩))
noncomputable def mJ7_fill_53178_20H_h5 : Nat → fm_T → Int32 → Int32 → Int32 → fm_T
  | 0, μ, _, _, _ => μ
  | n + 1, μ, x1, x2, x3 => (if x3 ≤ x2 then μ else (mJ7_fill_53178_20H_h5 n (fm_i μ 20 x2.toNatClampNeg x1) x1 (x2 + 1) x3))
noncomputable def qJ7_fill_53178_20H_h5 : Nat → fm_T → Int32 → Int32 → Int32 → Prop
  | 0, _, _, _, _ => False
  | n + 1, μ, x1, x2, x3 => (¬ x3 ≤ x2 → (vp_in x2 40) ∧ (qJ7_fill_53178_20H_h5 n (fm_i μ 20 x2.toNatClampNeg x1) x1 (x2 + 1) x3))
theorem hmJ7_fill_53178_20H_h5 : ∀ (n : Nat) (μ : fm_T) (x1 : Int32) (x2 : Int32) (x3 : Int32), (mJ7_fill_53178_20H_h5 n μ x1 x2 x3).2.1 = μ.2.1
  | 0, μ, x1, x2, x3 => rfl
  | n + 1, μ, x1, x2, x3 => by
    first | (simp only [mJ7_fill_53178_20H_h5, fm_ite, ite_self, hmJ7_fill_53178_20H_h5, fm_i_sh, fm_l_sh, fm_c_sh, fm_d_sh, fm_s_sh]; done) | (simp only [mJ7_fill_53178_20H_h5]; (repeat' split) <;> first | (simp only [hmJ7_fill_53178_20H_h5, fm_i_sh, fm_l_sh, fm_c_sh, fm_d_sh, fm_s_sh]) | rfl)
set_option maxHeartbeats 8000000 in
set_option maxRecDepth 100000 in
theorem sJ7_fill_53178_20H_h5 {l : Launch} {r0 r1 : Nat} {μ : fm_T} {P : Option Value → fm_T → Prop} (hμ : μ.2.1 = shH r0 r1) (x1 : Int32) (x2 : Int32) (x3 : Int32)
    (h : (x3 ≤ x2 → P none μ) ∧ (¬ x3 ≤ x2 → (vp_in x2 40) ∧ (fwp l sC mJ7_fill_53178 0 0 0 0 0 5 [some (.ref 20), some (.int x1), some (.int (x2 + 1)), some (.int x3)] [] (fm_i μ 20 x2.toNatClampNeg x1) P))) :
    fwp l sC mJ7_fill_53178 0 0 0 0 0 5 [some (.ref 20), some (.int x1), some (.int x2), some (.int x3)] [] μ P :=
  fw_iload_n dJ7_fill_53178_5 rfl rfl (fw_iload_n dJ7_fill_53178_6 rfl rfl (fw_icmp_ge (tgt := 20) dJ7_fill_53178_7 rfl (fun q1 => fw_vret dJ7_fill_53178_20 rfl (by decide) (by decide) (h.1 q1)) (fun q1 => fw_aload_n dJ7_fill_53178_10 rfl rfl (fw_iload_n dJ7_fill_53178_11 rfl rfl (fw_iload_n dJ7_fill_53178_12 rfl rfl (fw_iast (t0 := 0) dJ7_fill_53178_13 rfl (by decide) (hH_20 hμ) (h.2 q1).1 rfl (fw_iinc dJ7_fill_53178_14 (by decide) rfl (v := x2 + 1) rfl (loc' := [some (.ref 20), some (.int x1), some (.int (x2 + 1)), some (.int x3)]) rfl (fw_goto (tgt := 5) dJ7_fill_53178_17 rfl ((h.2 q1).2)))))))))
set_option maxHeartbeats 8000000 in
set_option maxRecDepth 100000 in
theorem tJ7_fill_53178_20H_h5 {l : Launch} {r0 r1 : Nat} {P : Option Value → fm_T → Prop} : ∀ (n : Nat) {μ : fm_T} (hμ : μ.2.1 = shH r0 r1) (x1 : Int32) (x2 : Int32) (x3 : Int32), qJ7_fill_53178_20H_h5 n μ x1 x2 x3 → P none (mJ7_fill_53178_20H_h5 n μ x1 x2 x3) → fwp l sC mJ7_fill_53178 0 0 0 0 0 5 [some (.ref 20), some (.int x1), some (.int x2), some (.int x3)] [] μ P
  | 0, μ, hμ, x1, x2, x3, hq, hP => hq.elim
  | n + 1, μ, hμ, x1, x2, x3, hq, hP => by
    have hq : (¬ x3 ≤ x2 → (vp_in x2 40) ∧ (qJ7_fill_53178_20H_h5 n (fm_i μ 20 x2.toNatClampNeg x1) x1 (x2 + 1) x3)) := hq
    exact sJ7_fill_53178_20H_h5 hμ x1 x2 x3 (⟨fun q1 => (by have hP2 := hP; simp only [mJ7_fill_53178_20H_h5, if_pos q1] at hP2; exact hP2), fun q1 => ⟨(hq q1).1, (tJ7_fill_53178_20H_h5 n (μ := (fm_i μ 20 x2.toNatClampNeg x1)) (((fm_i_sh _ _ _ _).trans hμ)) x1 (x2 + 1) x3 ((hq q1).2) (by have hP2 := hP; simp only [mJ7_fill_53178_20H_h5, if_neg q1] at hP2; exact hP2))⟩⟩)
noncomputable def uJ7_fill_53178_20H (μ : fm_T) (x1 : Int32) : fm_T := (mJ7_fill_53178_20H_h5 fF μ x1 0 40)
noncomputable def pJ7_fill_53178_20H (μ : fm_T) (x1 : Int32) : Prop := qJ7_fill_53178_20H_h5 fF μ x1 0 40
theorem hJ7_fill_53178_20H (μ : fm_T) (x1 : Int32) : (uJ7_fill_53178_20H μ x1).2.1 = μ.2.1 := by
  first | (simp only [uJ7_fill_53178_20H, fm_ite, ite_self, fm_i_sh, fm_l_sh, fm_c_sh, fm_d_sh, fm_s_sh, hmJ7_fill_53178_20H_h5]; done) | (unfold uJ7_fill_53178_20H; (repeat' split) <;> first | simp only [fm_i_sh, fm_l_sh, fm_c_sh, fm_d_sh, fm_s_sh, hmJ7_fill_53178_20H_h5] | rfl)
set_option maxHeartbeats 8000000 in
set_option maxRecDepth 100000 in
theorem sJ7_fill_53178_20H_0 {l : Launch} {r0 r1 : Nat} {μ : fm_T} {P : Option Value → fm_T → Prop} (hμ : μ.2.1 = shH r0 r1) (x1 : Int32)
    (h : fwp l sC mJ7_fill_53178 0 0 0 0 0 5 [some (.ref 20), some (.int x1), some (.int 0), some (.int 40)] [] μ P) :
    fwp l sC mJ7_fill_53178 0 0 0 0 0 0 [some (.ref 20), some (.int x1), none, none] [] μ P :=
  fw_iconst (v := 0) dJ7_fill_53178_0 rfl (fw_istore_n dJ7_fill_53178_1 rfl (by decide) (loc' := [some (.ref 20), some (.int x1), some (.int 0), none]) rfl (fw_aload_n dJ7_fill_53178_2 rfl rfl (fw_alen (t0 := 0) dJ7_fill_53178_3 rfl (by decide) (hH_20 hμ) rfl (fw_istore_n dJ7_fill_53178_4 rfl (by decide) (loc' := [some (.ref 20), some (.int x1), some (.int 0), some (.int 40)]) rfl (h)))))
set_option maxHeartbeats 8000000 in
set_option maxRecDepth 100000 in
theorem wJ7_fill_53178_20H {l : Launch} {r0 r1 : Nat} {μ : fm_T} (hμ : μ.2.1 = shH r0 r1) (x1 : Int32) (hp : pJ7_fill_53178_20H μ x1) : fwp l sC mJ7_fill_53178 0 0 0 0 0 0 (fl_ent [.ref 20, .int x1] mJ7_fill_53178.2.2.1) [] μ (fp_f none (uJ7_fill_53178_20H μ x1)) := by
  have hp : qJ7_fill_53178_20H_h5 fF μ x1 0 40 := hp
  exact sJ7_fill_53178_20H_0 hμ x1 ((tJ7_fill_53178_20H_h5 fF (μ := μ) (hμ) x1 0 40 (hp) ⟨by simp only [uJ7_fill_53178_20H], by simp only [uJ7_fill_53178_20H]⟩))
set_option maxHeartbeats 8000000 in
set_option maxRecDepth 100000 in
theorem sX3_forgetAllButPlacesH {l : Launch} {r0 r1 : Nat} {μ : fm_T} {P : Option Value → fm_T → Prop} (hμ : μ.2.1 = shH r0 r1) 
    (h : (pJ7_fill_53178_19H μ ((-1) : Int32)) ∧ ((pJ7_fill_53178_20H (uJ7_fill_53178_19H μ ((-1) : Int32)) ((-1) : Int32)) ∧ (P none (fm_i (uJ7_fill_53178_20H (uJ7_fill_53178_19H μ ((-1) : Int32)) ((-1) : Int32)) 15 8 0)))) :
    fwp l sC mX3_forgetAllButPlaces 1 0 0 0 0 0 [some (.ref 15)] [] μ P :=
  fw_aload_n dX3_forgetAllButPlaces_0 rfl rfl (fw_get (v := .ref 19) dX3_forgetAllButPlaces_1 kcX3 kfX3_21 (by decide) (hH_15 hμ) rfl rfl (fw_iconst (v := (-1)) dX3_forgetAllButPlaces_4 rfl (fw_callSfn (as := [.ref 19, .int (-1)]) (rest := []) dX3_forgetAllButPlaces_5 kvX3_43 kmJ7_fill_53178 (d2 := 0) (by decide) rfl rfl (Nat.le_of_ble_eq_true rfl) (Nat.le_of_ble_eq_true rfl) ⟨Nat.le_refl _, Nat.le_refl _⟩ (mc2 := 0) (ms2 := 0) (wJ7_fill_53178_19H (μ := μ) hμ ((-1) : Int32) h.1) (fw_aload_n dX3_forgetAllButPlaces_8 rfl rfl (fw_get (v := .ref 20) dX3_forgetAllButPlaces_9 kcX3 kfX3_24 (by decide) (hH_15 ((hJ7_fill_53178_19H μ ((-1) : Int32)).trans hμ)) rfl rfl (fw_iconst (v := (-1)) dX3_forgetAllButPlaces_12 rfl (fw_callSfn (as := [.ref 20, .int (-1)]) (rest := []) dX3_forgetAllButPlaces_13 kvX3_43 kmJ7_fill_53178 (d2 := 0) (by decide) rfl rfl (Nat.le_of_ble_eq_true rfl) (Nat.le_of_ble_eq_true rfl) ⟨Nat.le_refl _, Nat.le_refl _⟩ (mc2 := 0) (ms2 := 0) (wJ7_fill_53178_20H (μ := (uJ7_fill_53178_19H μ ((-1) : Int32))) ((hJ7_fill_53178_19H μ ((-1) : Int32)).trans hμ) ((-1) : Int32) h.2.1) (fw_aload_n dX3_forgetAllButPlaces_16 rfl rfl (fw_iconst (v := 0) dX3_forgetAllButPlaces_17 rfl (fw_putI dX3_forgetAllButPlaces_18 kcX3 kfX3_36 (by decide) (hH_15 ((hJ7_fill_53178_20H (uJ7_fill_53178_19H μ ((-1) : Int32)) ((-1) : Int32)).trans ((hJ7_fill_53178_19H μ ((-1) : Int32)).trans hμ))) rfl (by decide +kernel) rfl (fw_vret dX3_forgetAllButPlaces_21 rfl (by decide) (by decide) h.2.2)))))))))))
noncomputable def uX3_forgetAllButPlacesH (μ : fm_T) : fm_T := (fm_i (uJ7_fill_53178_20H (uJ7_fill_53178_19H μ ((-1) : Int32)) ((-1) : Int32)) 15 8 0)
noncomputable def pX3_forgetAllButPlacesH (μ : fm_T) : Prop := (pJ7_fill_53178_19H μ ((-1) : Int32)) ∧ ((pJ7_fill_53178_20H (uJ7_fill_53178_19H μ ((-1) : Int32)) ((-1) : Int32)))
set_option maxHeartbeats 8000000 in
set_option maxRecDepth 100000 in
theorem wX3_forgetAllButPlacesH {l : Launch} {r0 r1 : Nat} {μ : fm_T} (hμ : μ.2.1 = shH r0 r1) (hp : pX3_forgetAllButPlacesH μ) : fwp l sC mX3_forgetAllButPlaces 1 0 0 0 0 0 (fl_ent [.ref 15] mX3_forgetAllButPlaces.2.2.1) [] μ (fp_f none (uX3_forgetAllButPlacesH μ)) :=
  sX3_forgetAllButPlacesH hμ ⟨hp.1, ⟨hp.2, ⟨by simp only [uX3_forgetAllButPlacesH], by simp only [uX3_forgetAllButPlacesH]⟩⟩⟩
theorem hX3_forgetAllButPlacesH (μ : fm_T) : (uX3_forgetAllButPlacesH μ).2.1 = μ.2.1 := by
  first | (simp only [uX3_forgetAllButPlacesH, fm_ite, ite_self, fm_i_sh, fm_l_sh, fm_c_sh, fm_d_sh, fm_s_sh, hJ7_fill_53178_19H, hJ7_fill_53178_20H]; done) | (unfold uX3_forgetAllButPlacesH; (repeat' split) <;> first | simp only [fm_i_sh, fm_l_sh, fm_c_sh, fm_d_sh, fm_s_sh, hJ7_fill_53178_19H, hJ7_fill_53178_20H] | rfl)
set_option maxHeartbeats 8000000 in
set_option maxRecDepth 100000 in
theorem sX8_forgetAllH {l : Launch} {r0 r1 : Nat} {μ : fm_T} {P : Option Value → fm_T → Prop} (hμ : μ.2.1 = shH r0 r1) 
    (h : P none (fm_i (fm_i (fm_i μ 9 5 0) 9 6 0) 9 7 0)) :
    fwp l sC mX8_forgetAll 0 0 0 0 0 0 [some (.ref 9)] [] μ P :=
  fw_aload_n dX8_forgetAll_0 rfl rfl (fw_iconst (v := 0) dX8_forgetAll_1 rfl (fw_putI dX8_forgetAll_2 kcX8 kfX8_27 (by decide) (hH_9 hμ) rfl (by decide +kernel) rfl (fw_aload_n dX8_forgetAll_5 rfl rfl (fw_iconst (v := 0) dX8_forgetAll_6 rfl (fw_putI dX8_forgetAll_7 kcX8 kfX8_31 (by decide) (hH_9 ((fm_i_sh _ _ _ _).trans hμ)) rfl (by decide +kernel) rfl (fw_aload_n dX8_forgetAll_10 rfl rfl (fw_iconst (v := 0) dX8_forgetAll_11 rfl (fw_putI dX8_forgetAll_12 kcX8 kfX8_34 (by decide) (hH_9 ((fm_i_sh _ _ _ _).trans ((fm_i_sh _ _ _ _).trans hμ))) rfl (by decide +kernel) rfl (fw_vret dX8_forgetAll_15 rfl (by decide) (by decide) h)))))))))
noncomputable def uX8_forgetAllH (μ : fm_T) : fm_T := (fm_i (fm_i (fm_i μ 9 5 0) 9 6 0) 9 7 0)
set_option maxHeartbeats 8000000 in
set_option maxRecDepth 100000 in
theorem wX8_forgetAllH {l : Launch} {r0 r1 : Nat} {μ : fm_T} (hμ : μ.2.1 = shH r0 r1) : fwp l sC mX8_forgetAll 0 0 0 0 0 0 (fl_ent [.ref 9] mX8_forgetAll.2.2.1) [] μ (fp_f none (uX8_forgetAllH μ)) :=
  sX8_forgetAllH hμ ⟨by simp only [uX8_forgetAllH], by simp only [uX8_forgetAllH]⟩
theorem hX8_forgetAllH (μ : fm_T) : (uX8_forgetAllH μ).2.1 = μ.2.1 := by
  first | (simp only [uX8_forgetAllH, fm_ite, ite_self, fm_i_sh, fm_l_sh, fm_c_sh, fm_d_sh, fm_s_sh]; done) | (unfold uX8_forgetAllH; (repeat' split) <;> first | simp only [fm_i_sh, fm_l_sh, fm_c_sh, fm_d_sh, fm_s_sh] | rfl)
set_option maxHeartbeats 8000000 in
set_option maxRecDepth 100000 in
theorem sX5_forget_36H {l : Launch} {r0 r1 : Nat} {μ : fm_T} {P : Option Value → fm_T → Prop} (hμ : μ.2.1 = shH r0 r1) 
    (h : P none (fm_i (fm_i μ 36 3 0) 36 4 0)) :
    fwp l sC mX5_forget 0 0 0 0 0 0 [some (.ref 36)] [] μ P :=
  fw_aload_n dX5_forget_0 rfl rfl (fw_iconst (v := 0) dX5_forget_1 rfl (fw_putI dX5_forget_2 kcX5 kfX5_21 (by decide) (hH_36 hμ) rfl (by decide +kernel) rfl (fw_aload_n dX5_forget_5 rfl rfl (fw_iconst (v := 0) dX5_forget_6 rfl (fw_putI dX5_forget_7 kcX5 kfX5_25 (by decide) (hH_36 ((fm_i_sh _ _ _ _).trans hμ)) rfl (by decide +kernel) rfl (fw_vret dX5_forget_10 rfl (by decide) (by decide) h))))))
noncomputable def uX5_forget_36H (μ : fm_T) : fm_T := (fm_i (fm_i μ 36 3 0) 36 4 0)
set_option maxHeartbeats 8000000 in
set_option maxRecDepth 100000 in
theorem wX5_forget_36H {l : Launch} {r0 r1 : Nat} {μ : fm_T} (hμ : μ.2.1 = shH r0 r1) : fwp l sC mX5_forget 0 0 0 0 0 0 (fl_ent [.ref 36] mX5_forget.2.2.1) [] μ (fp_f none (uX5_forget_36H μ)) :=
  sX5_forget_36H hμ ⟨by simp only [uX5_forget_36H], by simp only [uX5_forget_36H]⟩
theorem hX5_forget_36H (μ : fm_T) : (uX5_forget_36H μ).2.1 = μ.2.1 := by
  first | (simp only [uX5_forget_36H, fm_ite, ite_self, fm_i_sh, fm_l_sh, fm_c_sh, fm_d_sh, fm_s_sh]; done) | (unfold uX5_forget_36H; (repeat' split) <;> first | simp only [fm_i_sh, fm_l_sh, fm_c_sh, fm_d_sh, fm_s_sh] | rfl)
