noncomputable def lX12_house_h81 : Nat → fm_T → Int32 → Int32 → Int32
  | 0, _, _, _ => 0
  | n + 1, μ, x1, x2 => (if 24 ≤ x2 then x1 else (lX12_house_h81 n (fm_l μ 5 x2.toNatClampNeg (fL μ 6 x2.toNatClampNeg)) x1 (x2 + 1)))
noncomputable def mX12_house_h81 : Nat → fm_T → Int32 → Int32 → fm_T
  | 0, μ, _, _ => μ
  | n + 1, μ, x1, x2 => (if 24 ≤ x2 then (uX12_empty μ) else (mX12_house_h81 n (fm_l μ 5 x2.toNatClampNeg (fL μ 6 x2.toNatClampNeg)) x1 (x2 + 1)))
noncomputable def qX12_house_h81 : Nat → fm_T → Int32 → Int32 → Prop
  | 0, _, _, _ => False
  | n + 1, μ, x1, x2 => (24 ≤ x2 → (pX12_empty μ)) ∧ (¬ 24 ≤ x2 → (vp_in x2 24) ∧ ((vp_in x2 24) ∧ (qX12_house_h81 n (fm_l μ 5 x2.toNatClampNeg (fL μ 6 x2.toNatClampNeg)) x1 (x2 + 1))))
theorem hmX12_house_h81 : ∀ (n : Nat) (μ : fm_T) (x1 : Int32) (x2 : Int32), (mX12_house_h81 n μ x1 x2).2.1 = μ.2.1
  | 0, μ, x1, x2 => rfl
  | n + 1, μ, x1, x2 => by
    first | (simp only [mX12_house_h81, fm_ite, ite_self, hmX12_house_h81, fm_i_sh, fm_l_sh, fm_c_sh, fm_d_sh, fm_s_sh, hX12_empty]; done) | (simp only [mX12_house_h81]; (repeat' split) <;> first | (simp only [hmX12_house_h81, fm_i_sh, fm_l_sh, fm_c_sh, fm_d_sh, fm_s_sh, hX12_empty]) | rfl)
set_option maxHeartbeats 8000000 in
set_option maxRecDepth 100000 in
theorem sX12_house_h81 {l : Launch} {μ : fm_T} {P : Option Value → fm_T → Prop} (hμ : μ.2.1 = shM) (x1 : Int32) (x2 : Int32)
    (h : (24 ≤ x2 → (pX12_empty μ) ∧ (P (some (.int x1)) (uX12_empty μ))) ∧ (¬ 24 ≤ x2 → (vp_in x2 24) ∧ ((vp_in x2 24) ∧ (fwp l sM mX12_house 6 0 0 0 0 81 [some (.ref 0), some (.int x1), some (.int (x2 + 1))] [] (fm_l μ 5 x2.toNatClampNeg (fL μ 6 x2.toNatClampNeg)) P)))) :
    fwp l sM mX12_house 6 0 0 0 0 81 [some (.ref 0), some (.int x1), some (.int x2)] [] μ P :=
  fw_iload_n dX12_house_81 rfl rfl (fw_bipush (v := 24) dX12_house_82 rfl (fw_icmp_ge (tgt := 105) dX12_house_84 rfl (fun q1 => fw_aload_n dX12_house_105 rfl rfl (fw_callVfn (as := []) (rest := []) dX12_house_106 kvX12_212 kmX12_empty (d2 := 0) (by decide) (ci := 12) rfl rfl (by decide) (hM_0 hμ) rfl rfl (Nat.le_of_ble_eq_true rfl) (Nat.le_of_ble_eq_true rfl) ⟨Nat.le_refl _, Nat.le_refl _⟩ (mc2 := 0) (ms2 := 0) (wX12_empty (μ := μ) hμ ((h.1 q1).1)) (fw_iload_n dX12_house_109 rfl rfl (fw_iret dX12_house_110 rfl (by decide) (by decide) ((h.1 q1).2))))) (fun q1 => fw_aload_n dX12_house_87 rfl rfl (fw_get (v := .ref 5) dX12_house_88 kcX12 kfX12_22 (by decide) (hM_0 hμ) rfl rfl (fw_iload_n dX12_house_91 rfl rfl (fw_aload_n dX12_house_92 rfl rfl (fw_get (v := .ref 6) dX12_house_93 kcX12 kfX12_26 (by decide) (hM_0 hμ) rfl rfl (fw_iload_n dX12_house_96 rfl rfl (fw_lald (t0 := 1) (v := fL μ 6 x2.toNatClampNeg) dX12_house_97 rfl (by decide) (hM_6 hμ) (h.2 q1).1 rfl rfl (fw_last (t0 := 1) dX12_house_98 rfl (by decide) (hM_5 hμ) ((h.2 q1).2).1 rfl (fw_iinc dX12_house_99 (by decide) rfl (v := x2 + 1) rfl (loc' := [some (.ref 0), some (.int x1), some (.int (x2 + 1))]) rfl (fw_goto (tgt := 81) dX12_house_102 rfl (((h.2 q1).2).2)))))))))))))
set_option maxHeartbeats 8000000 in
set_option maxRecDepth 100000 in
theorem tX12_house_h81 {l : Launch} {P : Option Value → fm_T → Prop} : ∀ (n : Nat) {μ : fm_T} (hμ : μ.2.1 = shM) (x1 : Int32) (x2 : Int32), qX12_house_h81 n μ x1 x2 → P (some (.int (lX12_house_h81 n μ x1 x2))) (mX12_house_h81 n μ x1 x2) → fwp l sM mX12_house 6 0 0 0 0 81 [some (.ref 0), some (.int x1), some (.int x2)] [] μ P
  | 0, μ, hμ, x1, x2, hq, hP => hq.elim
  | n + 1, μ, hμ, x1, x2, hq, hP => by
    have hq : (24 ≤ x2 → (pX12_empty μ)) ∧ (¬ 24 ≤ x2 → (vp_in x2 24) ∧ ((vp_in x2 24) ∧ (qX12_house_h81 n (fm_l μ 5 x2.toNatClampNeg (fL μ 6 x2.toNatClampNeg)) x1 (x2 + 1)))) := hq
    exact sX12_house_h81 hμ x1 x2 (⟨fun q1 => ⟨hq.1 q1, (by have hP2 := hP; simp only [lX12_house_h81, mX12_house_h81, if_pos q1] at hP2; exact hP2)⟩, fun q1 => ⟨(hq.2 q1).1, ⟨((hq.2 q1).2).1, (tX12_house_h81 n (μ := (fm_l μ 5 x2.toNatClampNeg (fL μ 6 x2.toNatClampNeg))) (((fm_l_sh _ _ _ _).trans hμ)) x1 (x2 + 1) (((hq.2 q1).2).2) (by have hP2 := hP; simp only [lX12_house_h81, mX12_house_h81, if_neg q1] at hP2; exact hP2))⟩⟩⟩)
noncomputable def lX12_house_h54 : Nat → fm_T → Int32 → Int32 → Int32
  | 0, _, _, _ => 0
  | n + 1, μ, x1, x2 => (if 130 ≤ x2 then (lX12_house_h81 fF μ x1 0) else (lX12_house_h54 n (fm_i μ 2 x2.toNatClampNeg (fI μ 3 x2.toNatClampNeg)) x1 (x2 + 1)))
noncomputable def mX12_house_h54 : Nat → fm_T → Int32 → Int32 → fm_T
  | 0, μ, _, _ => μ
  | n + 1, μ, x1, x2 => (if 130 ≤ x2 then (mX12_house_h81 fF μ x1 0) else (mX12_house_h54 n (fm_i μ 2 x2.toNatClampNeg (fI μ 3 x2.toNatClampNeg)) x1 (x2 + 1)))
noncomputable def qX12_house_h54 : Nat → fm_T → Int32 → Int32 → Prop
  | 0, _, _, _ => False
  | n + 1, μ, x1, x2 => (130 ≤ x2 → qX12_house_h81 fF μ x1 0) ∧ (¬ 130 ≤ x2 → (vp_in x2 130) ∧ ((vp_in x2 2560) ∧ (qX12_house_h54 n (fm_i μ 2 x2.toNatClampNeg (fI μ 3 x2.toNatClampNeg)) x1 (x2 + 1))))
theorem hmX12_house_h54 : ∀ (n : Nat) (μ : fm_T) (x1 : Int32) (x2 : Int32), (mX12_house_h54 n μ x1 x2).2.1 = μ.2.1
  | 0, μ, x1, x2 => rfl
  | n + 1, μ, x1, x2 => by
    first | (simp only [mX12_house_h54, fm_ite, ite_self, hmX12_house_h54, fm_i_sh, fm_l_sh, fm_c_sh, fm_d_sh, fm_s_sh, hmX12_house_h81]; done) | (simp only [mX12_house_h54]; (repeat' split) <;> first | (simp only [hmX12_house_h54, fm_i_sh, fm_l_sh, fm_c_sh, fm_d_sh, fm_s_sh, hmX12_house_h81]) | rfl)
set_option maxHeartbeats 8000000 in
set_option maxRecDepth 100000 in
theorem sX12_house_h54 {l : Launch} {μ : fm_T} {P : Option Value → fm_T → Prop} (hμ : μ.2.1 = shM) (x1 : Int32) (x2 : Int32)
    (h : (130 ≤ x2 → fwp l sM mX12_house 6 0 0 0 0 81 [some (.ref 0), some (.int x1), some (.int 0)] [] μ P) ∧ (¬ 130 ≤ x2 → (vp_in x2 130) ∧ ((vp_in x2 2560) ∧ (fwp l sM mX12_house 6 0 0 0 0 54 [some (.ref 0), some (.int x1), some (.int (x2 + 1))] [] (fm_i μ 2 x2.toNatClampNeg (fI μ 3 x2.toNatClampNeg)) P)))) :
    fwp l sM mX12_house 6 0 0 0 0 54 [some (.ref 0), some (.int x1), some (.int x2)] [] μ P :=
  fw_iload_n dX12_house_54 rfl rfl (fw_sipush (v := 130) dX12_house_55 rfl (fw_icmp_ge (tgt := 79) dX12_house_58 rfl (fun q1 => fw_iconst (v := 0) dX12_house_79 rfl (fw_istore_n dX12_house_80 rfl (by decide) (loc' := [some (.ref 0), some (.int x1), some (.int 0)]) rfl (h.1 q1))) (fun q1 => fw_aload_n dX12_house_61 rfl rfl (fw_get (v := .ref 2) dX12_house_62 kcX12 kfX12_13 (by decide) (hM_0 hμ) rfl rfl (fw_iload_n dX12_house_65 rfl rfl (fw_aload_n dX12_house_66 rfl rfl (fw_get (v := .ref 3) dX12_house_67 kcX12 kfX12_16 (by decide) (hM_0 hμ) rfl rfl (fw_iload_n dX12_house_70 rfl rfl (fw_iald (t0 := 0) (v := fI μ 3 x2.toNatClampNeg) dX12_house_71 rfl (by decide) (hM_3 hμ) (h.2 q1).1 rfl rfl (fw_iast (t0 := 0) dX12_house_72 rfl (by decide) (hM_2 hμ) ((h.2 q1).2).1 rfl (fw_iinc dX12_house_73 (by decide) rfl (v := x2 + 1) rfl (loc' := [some (.ref 0), some (.int x1), some (.int (x2 + 1))]) rfl (fw_goto (tgt := 54) dX12_house_76 rfl (((h.2 q1).2).2)))))))))))))
set_option maxHeartbeats 8000000 in
set_option maxRecDepth 100000 in
theorem tX12_house_h54 {l : Launch} {P : Option Value → fm_T → Prop} : ∀ (n : Nat) {μ : fm_T} (hμ : μ.2.1 = shM) (x1 : Int32) (x2 : Int32), qX12_house_h54 n μ x1 x2 → P (some (.int (lX12_house_h54 n μ x1 x2))) (mX12_house_h54 n μ x1 x2) → fwp l sM mX12_house 6 0 0 0 0 54 [some (.ref 0), some (.int x1), some (.int x2)] [] μ P
  | 0, μ, hμ, x1, x2, hq, hP => hq.elim
  | n + 1, μ, hμ, x1, x2, hq, hP => by
    have hq : (130 ≤ x2 → qX12_house_h81 fF μ x1 0) ∧ (¬ 130 ≤ x2 → (vp_in x2 130) ∧ ((vp_in x2 2560) ∧ (qX12_house_h54 n (fm_i μ 2 x2.toNatClampNeg (fI μ 3 x2.toNatClampNeg)) x1 (x2 + 1)))) := hq
    exact sX12_house_h54 hμ x1 x2 (⟨fun q1 => (tX12_house_h81 fF (μ := μ) (hμ) x1 0 (hq.1 q1) (by have hP2 := hP; simp only [lX12_house_h54, mX12_house_h54, if_pos q1] at hP2; exact hP2)), fun q1 => ⟨(hq.2 q1).1, ⟨((hq.2 q1).2).1, (tX12_house_h54 n (μ := (fm_i μ 2 x2.toNatClampNeg (fI μ 3 x2.toNatClampNeg))) (((fm_i_sh _ _ _ _).trans hμ)) x1 (x2 + 1) (((hq.2 q1).2).2) (by have hP2 := hP; simp only [lX12_house_h54, mX12_house_h54, if_neg q1] at hP2; exact hP2))⟩⟩⟩)
noncomputable def lX12_house_h25 : Nat → fm_T → Int32 → Int32
  | 0, _, _ => 0
  | n + 1, μ, x1 => (if (fI μ 0 7) = 0 then (lX12_house_h54 fF μ x1 0) else (if (gX12_readLine μ) = 0 then (((-1) : Int32) - (fI (uX12_readLine μ) 0 11)) else (lX12_house_h25 n (uX12_readLine μ) (x1 + 1))))
noncomputable def mX12_house_h25 : Nat → fm_T → Int32 → fm_T
  | 0, μ, _ => μ
  | n + 1, μ, x1 => (if (fI μ 0 7) = 0 then (mX12_house_h54 fF μ x1 0) else (if (gX12_readLine μ) = 0 then (uX12_readLine μ) else (mX12_house_h25 n (uX12_readLine μ) (x1 + 1))))
noncomputable def qX12_house_h25 : Nat → fm_T → Int32 → Prop
  | 0, _, _ => False
  | n + 1, μ, x1 => ((fI μ 0 7) = 0 → qX12_house_h54 fF μ x1 0) ∧ (¬ (fI μ 0 7) = 0 → (pX12_readLine μ) ∧ ((¬ (gX12_readLine μ) = 0 → qX12_house_h25 n (uX12_readLine μ) (x1 + 1))))
theorem hmX12_house_h25 : ∀ (n : Nat) (μ : fm_T) (x1 : Int32), (mX12_house_h25 n μ x1).2.1 = μ.2.1
  | 0, μ, x1 => rfl
  | n + 1, μ, x1 => by
    first | (simp only [mX12_house_h25, fm_ite, ite_self, hmX12_house_h25, fm_i_sh, fm_l_sh, fm_c_sh, fm_d_sh, fm_s_sh, hX12_readLine, hmX12_house_h54]; done) | (simp only [mX12_house_h25]; (repeat' split) <;> first | (simp only [hmX12_house_h25, fm_i_sh, fm_l_sh, fm_c_sh, fm_d_sh, fm_s_sh, hX12_readLine, hmX12_house_h54]) | rfl)
set_option maxHeartbeats 8000000 in
set_option maxRecDepth 100000 in
theorem sX12_house_h25 {l : Launch} {μ : fm_T} {P : Option Value → fm_T → Prop} (hμ : μ.2.1 = shM) (x1 : Int32)
    (h : ((fI μ 0 7) = 0 → fwp l sM mX12_house 6 0 0 0 0 54 [some (.ref 0), some (.int x1), some (.int 0)] [] μ P) ∧ (¬ (fI μ 0 7) = 0 → (pX12_readLine μ) ∧ ((¬ (gX12_readLine μ) = 0 → fwp l sM mX12_house 6 0 0 0 0 25 [some (.ref 0), some (.int (x1 + 1)), none] [] (uX12_readLine μ) P) ∧ ((gX12_readLine μ) = 0 → P (some (.int (((-1) : Int32) - (fI (uX12_readLine μ) 0 11)))) (uX12_readLine μ))))) :
    fwp l sM mX12_house 6 0 0 0 0 25 [some (.ref 0), some (.int x1), none] [] μ P :=
  fw_aload_n dX12_house_25 rfl rfl (fw_get (v := .int (fI μ 0 7)) dX12_house_26 kcX12 kfX12_134 (by decide) (hM_0 hμ) rfl rfl (fw_if_eq (tgt := 52) dX12_house_29 rfl (fun q1 => fw_iconst (v := 0) dX12_house_52 rfl (fw_istore_n dX12_house_53 rfl (by decide) (loc' := [some (.ref 0), some (.int x1), some (.int 0)]) rfl (h.1 q1))) (fun q1 => fw_aload_n dX12_house_32 rfl rfl (fw_callVfx (as := []) (rest := []) dX12_house_33 kvX12_265 kmX12_readLine (d2 := 5) (by decide) (ci := 12) rfl rfl (by decide) (hM_0 hμ) rfl rfl (Nat.le_of_ble_eq_true rfl) (Nat.le_of_ble_eq_true rfl) ⟨Nat.le_refl _, Nat.le_refl _⟩ (mc2 := 0) (ms2 := 0) (wX12_readLine (μ := μ) hμ ((h.2 q1).1)) (fw_if_ne (tgt := 46) dX12_house_36 rfl (fun q2 => fw_iinc dX12_house_46 (by decide) rfl (v := x1 + 1) rfl (loc' := [some (.ref 0), some (.int (x1 + 1)), none]) rfl (fw_goto (tgt := 25) dX12_house_49 rfl (((h.2 q1).2).1 q2))) (fun q2 => fw_iconst (v := (-1)) dX12_house_39 rfl (fw_aload_n dX12_house_40 rfl rfl (fw_get (v := .int (fI (uX12_readLine μ) 0 11)) dX12_house_41 kcX12 kfX12_165 (by decide) (hM_0 ((hX12_readLine μ).trans hμ)) rfl rfl (fw_isub dX12_house_44 (fw_iret dX12_house_45 rfl (by decide) (by decide) (((h.2 q1).2).2 q2)))))))))))
set_option maxHeartbeats 8000000 in
set_option maxRecDepth 100000 in
theorem tX12_house_h25 {l : Launch} {P : Option Value → fm_T → Prop} : ∀ (n : Nat) {μ : fm_T} (hμ : μ.2.1 = shM) (x1 : Int32), qX12_house_h25 n μ x1 → P (some (.int (lX12_house_h25 n μ x1))) (mX12_house_h25 n μ x1) → fwp l sM mX12_house 6 0 0 0 0 25 [some (.ref 0), some (.int x1), none] [] μ P
  | 0, μ, hμ, x1, hq, hP => hq.elim
  | n + 1, μ, hμ, x1, hq, hP => by
    have hq : ((fI μ 0 7) = 0 → qX12_house_h54 fF μ x1 0) ∧ (¬ (fI μ 0 7) = 0 → (pX12_readLine μ) ∧ ((¬ (gX12_readLine μ) = 0 → qX12_house_h25 n (uX12_readLine μ) (x1 + 1)))) := hq
    exact sX12_house_h25 hμ x1 (⟨fun q1 => (tX12_house_h54 fF (μ := μ) (hμ) x1 0 (hq.1 q1) (by have hP2 := hP; simp only [lX12_house_h25, mX12_house_h25, if_pos q1] at hP2; exact hP2)), fun q1 => ⟨(hq.2 q1).1, ⟨fun q2 => (tX12_house_h25 n (μ := (uX12_readLine μ)) (((hX12_readLine μ).trans hμ)) (x1 + 1) (((hq.2 q1).2) q2) (by have hP2 := hP; simp only [lX12_house_h25, mX12_house_h25, if_neg q1, if_neg q2] at hP2; exact hP2)), fun q2 => (by have hP2 := hP; simp only [lX12_house_h25, mX12_house_h25, if_neg q1, if_pos q2] at hP2; exact hP2)⟩⟩⟩)
noncomputable def gX12_house (μ : fm_T) : Int32 := (lX12_house_h25 fF (fm_i (uX12_standard_3 (uX12_begin (uX12_lay μ) (900 : Int32))) 0 22 0) 0)
noncomputable def uX12_house (μ : fm_T) : fm_T := (mX12_house_h25 fF (fm_i (uX12_standard_3 (uX12_begin (uX12_lay μ) (900 : Int32))) 0 22 0) 0)
noncomputable def pX12_house (μ : fm_T) : Prop := (pX12_lay μ) ∧ ((pX12_begin (uX12_lay μ) (900 : Int32)) ∧ ((pX12_standard_3 (uX12_begin (uX12_lay μ) (900 : Int32))) ∧ (qX12_house_h25 fF (fm_i (uX12_standard_3 (uX12_begin (uX12_lay μ) (900 : Int32))) 0 22 0) 0)))
theorem hX12_house (μ : fm_T) : (uX12_house μ).2.1 = μ.2.1 := by
  first | (simp only [uX12_house, fm_ite, ite_self, fm_i_sh, fm_l_sh, fm_c_sh, fm_d_sh, fm_s_sh, hX12_begin, hX12_lay, hX12_standard_3, hmX12_house_h25, hmX12_house_h54, hmX12_house_h81]; done) | (unfold uX12_house; (repeat' split) <;> first | simp only [fm_i_sh, fm_l_sh, fm_c_sh, fm_d_sh, fm_s_sh, hX12_begin, hX12_lay, hX12_standard_3, hmX12_house_h25, hmX12_house_h54, hmX12_house_h81] | rfl)
set_option maxHeartbeats 8000000 in
set_option maxRecDepth 100000 in
theorem sX12_house_0 {l : Launch} {μ : fm_T} {P : Option Value → fm_T → Prop} (hμ : μ.2.1 = shM)
    (h : (pX12_lay μ) ∧ ((pX12_begin (uX12_lay μ) (900 : Int32)) ∧ ((pX12_standard_3 (uX12_begin (uX12_lay μ) (900 : Int32))) ∧ (fwp l sM mX12_house 6 0 0 0 0 25 [some (.ref 0), some (.int 0), none] [] (fm_i (uX12_standard_3 (uX12_begin (uX12_lay μ) (900 : Int32))) 0 22 0) P)))) :
    fwp l sM mX12_house 6 0 0 0 0 0 [some (.ref 0), none, none] [] μ P :=
  fw_aload_n dX12_house_0 rfl rfl (fw_callVfn (as := []) (rest := []) dX12_house_1 kvX12_259 kmX12_lay (d2 := 1) (by decide) (ci := 12) rfl rfl (by decide) (hM_0 hμ) rfl rfl (Nat.le_of_ble_eq_true rfl) (Nat.le_of_ble_eq_true rfl) ⟨Nat.le_refl _, Nat.le_refl _⟩ (mc2 := 0) (ms2 := 0) (wX12_lay (μ := μ) hμ h.1) (fw_aload_n dX12_house_4 rfl rfl (fw_sipush (v := 900) dX12_house_5 rfl (fw_callVfn (as := [.int 900]) (rest := []) dX12_house_8 kvX12_262 kmX12_begin (d2 := 2) (by decide) (ci := 12) rfl rfl (by decide) (hM_0 ((hX12_lay μ).trans hμ)) rfl rfl (Nat.le_of_ble_eq_true rfl) (Nat.le_of_ble_eq_true rfl) ⟨Nat.le_refl _, Nat.le_refl _⟩ (mc2 := 0) (ms2 := 0) (wX12_begin (μ := (uX12_lay μ)) ((hX12_lay μ).trans hμ) (900 : Int32) h.2.1) (fw_aload_n dX12_house_11 rfl rfl (fw_get (v := .ref 3) dX12_house_12 kcX12 kfX12_16 (by decide) (hM_0 ((hX12_begin (uX12_lay μ) (900 : Int32)).trans ((hX12_lay μ).trans hμ))) rfl rfl (fw_callSfn (as := [.ref 3]) (rest := []) dX12_house_15 kvX12_208 kmX12_standard (d2 := 0) (by decide) rfl rfl (Nat.le_of_ble_eq_true rfl) (Nat.le_of_ble_eq_true rfl) ⟨Nat.le_refl _, Nat.le_refl _⟩ (mc2 := 0) (ms2 := 0) (wX12_standard_3 (μ := (uX12_begin (uX12_lay μ) (900 : Int32))) ((hX12_begin (uX12_lay μ) (900 : Int32)).trans ((hX12_lay μ).trans hμ)) h.2.2.1) (fw_aload_n dX12_house_18 rfl rfl (fw_iconst (v := 0) dX12_house_19 rfl (fw_putI dX12_house_20 kcX12 kfX12_232 (by decide) (hM_0 ((hX12_standard_3 (uX12_begin (uX12_lay μ) (900 : Int32))).trans ((hX12_begin (uX12_lay μ) (900 : Int32)).trans ((hX12_lay μ).trans hμ)))) rfl (by decide +kernel) rfl (fw_iconst (v := 0) dX12_house_23 rfl (fw_istore_n dX12_house_24 rfl (by decide) (loc' := [some (.ref 0), some (.int 0), none]) rfl (h.2.2.2)))))))))))))
set_option maxHeartbeats 8000000 in
set_option maxRecDepth 100000 in
theorem wX12_house {l : Launch} {μ : fm_T} (hμ : μ.2.1 = shM) (hp : pX12_house μ) : fwp l sM mX12_house 6 0 0 0 0 0 (fl_ent [.ref 0] mX12_house.2.2.1) [] μ (fp_f (some (.int (gX12_house μ))) (uX12_house μ)) := by
  have hp : (pX12_lay μ) ∧ ((pX12_begin (uX12_lay μ) (900 : Int32)) ∧ ((pX12_standard_3 (uX12_begin (uX12_lay μ) (900 : Int32))) ∧ (qX12_house_h25 fF (fm_i (uX12_standard_3 (uX12_begin (uX12_lay μ) (900 : Int32))) 0 22 0) 0))) := hp
  exact sX12_house_0 hμ (⟨hp.1, ⟨hp.2.1, ⟨hp.2.2.1, (tX12_house_h25 fF (μ := (fm_i (uX12_standard_3 (uX12_begin (uX12_lay μ) (900 : Int32))) 0 22 0)) (((fm_i_sh _ _ _ _).trans ((hX12_standard_3 (uX12_begin (uX12_lay μ) (900 : Int32))).trans ((hX12_begin (uX12_lay μ) (900 : Int32)).trans ((hX12_lay μ).trans hμ))))) 0 (hp.2.2.2) ⟨by simp only [gX12_house, uX12_house], by simp only [gX12_house, uX12_house]⟩)⟩⟩⟩)
