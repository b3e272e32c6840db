def cn_m (sh : Nat → fc_C) (μ : fm_T) : fm_T := (μ.1, sh, μ.2.2.1, μ.2.2.2)
theorem cn_e {ad : Nat → Nat} {cy : Nat → ClassId} {μ : fm_T} {sh : Nat → fc_C} {k : Nat} (h : μ.2.1 k = sh k) : fc_e ad cy (cn_m sh μ) k = fc_e ad cy μ k := fc_ecg h.symm rfl rfl
theorem cn_w {ad : Nat → Nat} {cy : Nat → ClassId} {μ : fm_T} {sh : Nat → fc_C} (h : ∀ k, k < μ.1 → μ.2.1 k = sh k) : fc_w ad cy (cn_m sh μ) = fc_w ad cy μ := by
  apply List.map_congr_left
  intro k hk
  have hk : k < μ.1 := List.mem_range.mp hk
  rw [cn_e (h k hk)]
theorem shC_ne {r0 r1 k : Nat} (h : k ≠ 40) : shC r0 r1 k = shC 2 2 k := by
  have e : shCl r0 r1 = (shCl 2 2).set 40 (4, 2, [r0, r1]) := rfl
  unfold shC
  rw [e, List.getD_eq_getElem?_getD, List.getD_eq_getElem?_getD, List.getElem?_set_ne (Ne.symm h)]

def rnH (k : Nat) : Nat := if 24 ≤ k ∧ k < 36 then k + 49 else if 73 ≤ k ∧ k < 85 then k - 49 else k
theorem rnH_i (k : Nat) : rnH (rnH k) = k := by
  unfold rnH
  repeat' split
  all_goals omega
theorem rnH_n {n : Nat} (hn : 89 ≤ n) (k : Nat) (h : k < n) : rnH k < n := by
  unfold rnH
  repeat' split
  all_goals omega
theorem rnH_40 {k : Nat} (h : k ≠ 40) : rnH k ≠ 40 := by
  unfold rnH
  repeat' split
  all_goals omega
theorem shH_ne {r0 r1 k : Nat} (h : k ≠ 40) : shH r0 r1 k = shH 2 2 k := by
  unfold shH
  rw [shC_ne h]
theorem rnH_t : ∀ k, k < 153 → k ≠ 40 → ((shH 2 2 (rnH k)).1, (shH 2 2 (rnH k)).2.1, (shH 2 2 (rnH k)).2.2.map (rn_c rnH)) = shC 2 2 k := by decide +kernel
theorem rnH_s {r0 r1 : Nat} {μ : fm_T} (h : μ.2.1 = shH r0 r1) (h0 : rn_c rnH r0 = r0) (h1 : rn_c rnH r1 = r1) (k : Nat) (hk : k < 153) : (rn_m rnH μ).2.1 k = shC r0 r1 k := by
  show ((μ.2.1 (rnH k)).1, (μ.2.1 (rnH k)).2.1, (μ.2.1 (rnH k)).2.2.map (rn_c rnH)) = _
  rw [h]
  by_cases e : k = 40
  · subst e
    show (4, 2, [rn_c rnH r0, rn_c rnH r1]) = (4, 2, [r0, r1])
    rw [h0, h1]
  · rw [shH_ne (rnH_40 e), shC_ne e]
    exact rnH_t k hk e
def rnR (k : Nat) : Nat := if 36 ≤ k ∧ k < 40 then k + 49 else if 85 ≤ k ∧ k < 89 then k - 49 else k
theorem rnR_i (k : Nat) : rnR (rnR k) = k := by
  unfold rnR
  repeat' split
  all_goals omega
theorem rnR_n {n : Nat} (hn : 89 ≤ n) (k : Nat) (h : k < n) : rnR k < n := by
  unfold rnR
  repeat' split
  all_goals omega
theorem rnR_40 {k : Nat} (h : k ≠ 40) : rnR k ≠ 40 := by
  unfold rnR
  repeat' split
  all_goals omega
theorem shR_ne {r0 r1 k : Nat} (h : k ≠ 40) : shR r0 r1 k = shR 2 2 k := by
  unfold shR
  rw [shC_ne h]
theorem rnR_t : ∀ k, k < 153 → k ≠ 40 → ((shR 2 2 (rnR k)).1, (shR 2 2 (rnR k)).2.1, (shR 2 2 (rnR k)).2.2.map (rn_c rnR)) = shC 2 2 k := by decide +kernel
theorem rnR_s {r0 r1 : Nat} {μ : fm_T} (h : μ.2.1 = shR r0 r1) (h0 : rn_c rnR r0 = r0) (h1 : rn_c rnR r1 = r1) (k : Nat) (hk : k < 153) : (rn_m rnR μ).2.1 k = shC r0 r1 k := by
  show ((μ.2.1 (rnR k)).1, (μ.2.1 (rnR k)).2.1, (μ.2.1 (rnR k)).2.2.map (rn_c rnR)) = _
  rw [h]
  by_cases e : k = 40
  · subst e
    show (4, 2, [rn_c rnR r0, rn_c rnR r1]) = (4, 2, [r0, r1])
    rw [h0, h1]
  · rw [shR_ne (rnR_40 e), shC_ne e]
    exact rnR_t k hk e
