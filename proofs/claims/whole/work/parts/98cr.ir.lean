section
variable {σ τ : sg_T} {m : Nat} {U T X S : fm_T}
theorem rnH_o {k : Nat} (h : ¬ ((24 ≤ k ∧ k < 36) ∨ (73 ≤ k ∧ k < 85))) : rnH k = k := by
  unfold rnH
  rw [if_neg (by omega), if_neg (by omega)]
theorem rnH_u {k : Nat} (h : 24 ≤ k ∧ k < 36) : rnH k = k + 49 := by
  unfold rnH
  rw [if_pos h]
theorem nwS_z {a i : Nat} (h : a ≠ 0) (h1 : a < 12 ∨ 23 ≤ a) : nwS σ τ a i = 0 := by unfold nwS; rw [if_neg h, if_neg (by omega), if_neg (by omega)]
theorem nwS_y {i : Nat} (h : i ≠ 3) (h1 : i < 5) : nwS σ τ 0 i = 0 := by unfold nwS; rw [if_pos rfl, if_neg h, if_neg (by omega)]
theorem nwS_3 : nwS σ τ 0 3 = σ 0 3 := by unfold nwS; rw [if_pos rfl, if_pos rfl]
theorem nwS_p {a i : Nat} (h : a = 12 ∨ a = 13) : nwS σ τ a i = σ a i := by unfold nwS; rw [if_neg (by omega), if_pos h]
theorem WF_ho (h : HDR τ m U T) (w : WF σ) : WF (nwS σ τ) := by
  refine ⟨⟨?_, ?_, ?_, ?_, ?_⟩, fun t ht => ?_, fun n hn => ?_, fun d hd => ?_, fun l hl => ?_, fun q hq => ?_, fun k hk => ?_, fun j k h1 h2 => ?_, HDR_HW h⟩
  · rw [nwS_y (by omega) (by omega)]; omega
  · rw [nwS_y (by omega) (by omega)]; omega
  · rw [nwS_y (by omega) (by omega)]; omega
  · rw [nwS_3]; exact w.1.2.2.2.1
  · rw [nwS_y (by omega) (by omega)]; omega
  · rw [nwS_y (by omega) (by omega)] at ht; omega
  · rw [nwS_y (by omega) (by omega)] at hn; omega
  · rw [nwS_y (by omega) (by omega)] at hd; omega
  · rw [nwS_z (a := 9) (by omega) (by omega)]; omega
  · rw [nwS_z (a := 10) (by omega) (by omega), nwS_z (a := 11) (by omega) (by omega), nwS_p (a := 12) (by omega), nwS_p (a := 13) (by omega)]
    exact ⟨by omega, by omega, (w.2.2.2.2.2.1 q hq).2.2⟩
  · rw [nwS_y (by omega) (by omega)] at hk; omega
  · rw [nwS_y (by omega) (by omega)] at h2; omega
theorem CB_ho {c c' : Nat → Nat → Int32} {cn cn' : Nat → Int64} (h : HDR τ m U T) (w : CB σ c cn) (d1 : c' 1 5 = 0 ∧ c' 1 6 = 0 ∧ c' 1 7 = 0 ∧ c' 7 8 = 0) (d2 : c' 0 4 = c 0 4) (d3 : ∀ l, l < 100 → c' 11 l = -1) (d4 : ∀ q, q < 40 → c' 12 q = -1 ∧ c' 14 q = c 14 q ∧ c' 15 q = c 15 q) (e1 : ∀ k j, k < 12 → c' (16 + k) j = fI U (73 + k) j) (e2 : ∀ j, cn' j = fL U 74 j) : CB (nwS σ τ) c' cn' := by
  have z0 : (0 : Int32) = nI 0 := rfl
  have zm : (-1 : Int32) = nI 0 - 1 := by decide
  refine ⟨⟨?_, ?_, ?_, ?_, ?_⟩, fun t j ht => ?_, fun n hn => ?_, fun d hd => ?_, fun l hl => ?_, fun q hq => ⟨?_, fun y => ?_, ?_, ?_⟩, HDR_HC h e1 e2⟩
  · rw [nwS_y (by omega) (by omega), d1.1]; exact z0
  · rw [nwS_y (by omega) (by omega), d1.2.1]; exact z0
  · rw [nwS_y (by omega) (by omega), d1.2.2.1]; exact z0
  · rw [nwS_3, d2]; exact w.1.2.2.2.1
  · rw [nwS_y (by omega) (by omega), d1.2.2.2]; exact z0
  · rw [nwS_y (by omega) (by omega)] at ht; omega
  · rw [nwS_y (by omega) (by omega)] at hn; omega
  · rw [nwS_y (by omega) (by omega)] at hd; omega
  · rw [nwS_z (a := 9) (by omega) (by omega), d3 l hl]; exact zm
  · rw [nwS_z (a := 10) (by omega) (by omega), (d4 q hq).1]; exact zm
  · exact absurd (nwS_z (by omega) (by omega)) y
  · rw [nwS_p (by omega), (d4 q hq).2.1]; exact (w.2.2.2.2.2.1 q hq).2.2.1
  · rw [nwS_p (by omega), (d4 q hq).2.2]; exact (w.2.2.2.2.2.1 q hq).2.2.2
theorem MB_ho {a a' : Nat → Int32} {nm nm' : Nat → Int64} (h : HDR τ m U T) (w : MB σ a nm) (d1 : ∀ j, 131 ≤ j → j ≤ 135 → a' j = 0) (d2 : a' 130 = a 130) (d3 : ∀ j, 2240 ≤ j → j < 2440 → a' j = -1) (d4 : ∀ j, 2440 ≤ j → a' j = a j) (e1 : ∀ j, j < 130 → a' j = fI T 3 j) (e2 : ∀ j, j < 24 → nm' j = fL T 6 j) : MB (nwS σ τ) a' nm' := by
  have z0 : (0 : Int32) = nI 0 := rfl
  have zm : (-1 : Int32) = nI 0 - 1 := by decide
  refine ⟨⟨?_, ?_, ?_, ?_, ?_⟩, fun t j ht => ?_, fun n hn => ?_, fun d hd => ?_, fun l hl => ?_, fun q hq => ⟨?_, ?_, ?_⟩, fun k hk => ?_, HDR_HM h e1 e2⟩
  · rw [nwS_y (by omega) (by omega), d1 _ (by omega) (by omega)]; exact z0
  · rw [nwS_y (by omega) (by omega), d1 _ (by omega) (by omega)]; exact z0
  · rw [nwS_y (by omega) (by omega), d1 _ (by omega) (by omega)]; exact z0
  · rw [nwS_3, d2]; exact w.1.2.2.2.1
  · rw [nwS_y (by omega) (by omega), d1 _ (by omega) (by omega)]; exact z0
  · rw [nwS_y (by omega) (by omega)] at ht; omega
  · rw [nwS_y (by omega) (by omega)] at hn; omega
  · rw [nwS_y (by omega) (by omega)] at hd; omega
  · rw [nwS_z (a := 9) (by omega) (by omega), d3 _ (by omega) (by omega)]; exact zm
  · rw [nwS_z (a := 10) (by omega) (by omega), if_pos rfl]; exact d3 _ (by omega) (by omega)
  · rw [nwS_p (by omega), d4 _ (by omega)]; exact (w.2.2.2.2.2.1 q hq).2.1
  · rw [nwS_p (by omega), d4 _ (by omega)]; exact (w.2.2.2.2.2.1 q hq).2.2
  · rw [nwS_y (by omega) (by omega)] at hk; omega
end
