section
variable {σ : sg_T} {μ ν : fm_T}
theorem n2_c (w : WR σ (blk μ 8) (fL μ 25) (fI ν 2) (fL ν 5)) : fI μ 26 0 = nI (σ 0 5) ∧ fI μ 26 1 = nI (σ 0 6) ∧ fI μ 26 2 = nI (σ 0 7) ∧ fI μ 26 3 = nI (σ 0 8) := ⟨(wr_hc w).1 0 (by decide), (wr_hc w).1 1 (by decide), (wr_hc w).1 2 (by decide), (wr_hc w).1 3 (by decide)⟩
theorem cl_c (w : WR σ (blk μ 8) (fL μ 25) (fI ν 2) (fL ν 5)) {i : Nat} (hi : i < σ 0 7) : fI μ 29 i = nI (σ 16 i) ∧ fI μ 30 i = nI (σ 17 i) ∧ fI μ 31 i = nI (σ 18 i) ∧ fI μ 32 i = nI (σ 19 i) := (wr_hc w).2.2.2.1 i hi
theorem cl_m (w : WR σ (blk μ 8) (fL μ 25) (fI ν 2) (fL ν 5)) {i : Nat} (hi : i < σ 0 7) : fI ν 2 (60 + 4 * i) = nI (σ 16 i) ∧ fI ν 2 (61 + 4 * i) = nI (σ 17 i) ∧ fI ν 2 (62 + 4 * i) = nI (σ 18 i) ∧ fI ν 2 (63 + 4 * i) = nI (σ 19 i) := (wr_hm w).2.2.2.1 i hi
theorem cl_w (w : WR σ (blk μ 8) (fL μ 25) (fI ν 2) (fL ν 5)) {i : Nat} (hi : i < σ 0 7) : σ 16 i ≤ 9 ∧ σ 17 i ≤ 999 ∧ σ 18 i ≤ 1 ∧ σ 19 i < 64 := (wr_hw w).2.2.2.1 i hi
theorem isCl_y (w : WR σ (blk μ 8) (fL μ 25) (fI ν 2) (fL ν 5)) {i : Nat} (hi : i < σ 0 7) : ¬ gX2_isCloth μ (nI i) = 0 := by
  unfold gX2_isCloth
  rw [(n2_c w).2.2.1]
  exact wi_b (by have := (wr_hw w).1.2.2.1; omega) hi
theorem bl_c (w : WR σ (blk μ 8) (fL μ 25) (fI ν 2) (fL ν 5)) {i : Nat} (hi : i < σ 0 7) : gX2_bleeds μ (nI i) = nI (σ 18 i) ∧ pX2_bleeds μ (nI i) := by
  have h8 := (wr_hw w).1.2.2.1
  have hw := cl_w w hi
  unfold gX2_bleeds pX2_bleeds
  rw [if_neg (isCl_y w hi), nI_clamp (by omega), (cl_c w hi).2.2.1]
  refine ⟨?_, wi_01 _ _ _ _, fun _ => vp_in_nI (by omega) (by decide)⟩
  have h2 : σ 18 i = 0 ∨ σ 18 i = 1 := by omega
  rcases h2 with h2 | h2
  · rw [h2]; rfl
  · rw [h2]; rfl
theorem clo_m (w : WR σ (blk μ 8) (fL μ 25) (fI ν 2) (fL ν 5)) {i j : Nat} (hi : i < σ 0 7) (hj : j < 4) : gX12_clothOf ν (nI i) (nI j) = nI (if j = 0 then σ 16 i else if j = 1 then σ 17 i else if j = 2 then σ 18 i else σ 19 i) ∧ pX12_clothOf ν (nI i) (nI j) := by
  have h8 := (wr_hw w).1.2.2.1
  have e1 : (60 : Int32) + (4 : Int32) * nI i + nI j = nI (60 + 4 * i + j) := by simp only [li_n, nI_mul, nI_add]
  obtain ⟨m1, m2, m3, m4⟩ := cl_m w hi
  unfold gX12_clothOf pX12_clothOf
  rw [e1, nI_clamp (by omega)]
  refine ⟨?_, vp_in_nI (by omega) (by decide)⟩
  have h4 : j = 0 ∨ j = 1 ∨ j = 2 ∨ j = 3 := by omega
  rcases h4 with rfl | rfl | rfl | rfl
  · exact m1
  · rw [show 60 + 4 * i + 1 = 61 + 4 * i by omega]; exact m2
  · rw [show 60 + 4 * i + 2 = 62 + 4 * i by omega]; exact m3
  · rw [show 60 + 4 * i + 3 = 63 + 4 * i by omega]; exact m4
theorem ru_lp (w : WR σ (blk μ 8) (fL μ 25) (fI ν 2) (fL ν 5)) {t : Nat} (ht : t < σ 0 0) : ∀ (c i n n' : Nat), i + c = σ 0 0 → c < n → c < n' → lX11_hasRun_h38 n μ (nI t) (nI (σ 1 (14 * t + 9))) (nI i) = lX12_isRun_h24 n' ν (nI t) (nI i) ∧ qX11_hasRun_h38 n μ (nI t) (nI (σ 1 (14 * t + 9))) (nI i) ∧ qX12_isRun_h24 n' ν (nI t) (nI i) := by
  obtain ⟨cN, mN, hN⟩ := wr_S w
  intro c
  induction c with
  | zero =>
    intro i n n' h1 h2 h3
    obtain ⟨n, rfl⟩ : ∃ m, n = m + 1 := ⟨n - 1, by omega⟩
    obtain ⟨n', rfl⟩ : ∃ m, n' = m + 1 := ⟨n' - 1, by omega⟩
    have e : nI (σ 0 0) ≤ nI i := (nI_leI (by omega) (by omega)).mpr (by omega)
    simp only [lX11_hasRun_h38, lX12_isRun_h24, qX11_hasRun_h38, qX12_isRun_h24, gX12_tickets, cN, mN, if_pos e]
    exact ⟨trivial, fun z => absurd e z, fun z => absurd e z⟩
  | succ c ih =>
    intro i n n' h1 h2 h3
    obtain ⟨n, rfl⟩ : ∃ m, n = m + 1 := ⟨n - 1, by omega⟩
    obtain ⟨n', rfl⟩ : ∃ m, n' = m + 1 := ⟨n' - 1, by omega⟩
    have hi : i < σ 0 0 := by omega
    have e : ¬ nI (σ 0 0) ≤ nI i := fun z => by have := (nI_leI (by omega) (by omega)).mp z; omega
    have o9 : gX8_of μ (nI i) 9 = nI (σ 1 (14 * i + 9)) ∧ pX8_of μ (nI i) 9 := of_c w (j := 9) hi (by omega)
    have o1 : gX8_of μ (nI i) 1 = nI (σ 1 (14 * i + 1)) ∧ pX8_of μ (nI i) 1 := of_c w (j := 1) hi (by omega)
    have o0 : gX8_of μ (nI i) 0 = nI (σ 1 (14 * i + 0)) ∧ pX8_of μ (nI i) 0 := of_c w (j := 0) hi (by omega)
    have m9 : gX12_of ν (nI i) 9 = nI (σ 1 (14 * i + 9)) ∧ pX12_of ν (nI i) 9 := of_m w (j := 9) hi (by omega)
    have m1 : gX12_of ν (nI i) 1 = nI (σ 1 (14 * i + 1)) ∧ pX12_of ν (nI i) 1 := of_m w (j := 1) hi (by omega)
    have m0 : gX12_of ν (nI i) 0 = nI (σ 1 (14 * i + 0)) ∧ pX12_of ν (nI i) 0 := of_m w (j := 0) hi (by omega)
    have t9 : gX12_of ν (nI t) 9 = nI (σ 1 (14 * t + 9)) ∧ pX12_of ν (nI t) 9 := of_m w (j := 9) ht (by omega)
    have hc := ((w.2.2.1.2.1 i hi).1).1
    have bl := bl_c w hc
    have cm : gX12_clothOf ν (nI (σ 1 (14 * i + 0))) 2 = nI (σ 18 (σ 1 (14 * i + 0))) ∧ pX12_clothOf ν (nI (σ 1 (14 * i + 0))) 2 := clo_m w (j := 2) hc (by decide)
    have cw := cl_w w hc
    have ihx := ih (i + 1) n n' (by omega) (by omega) (by omega)
    simp only [lX11_hasRun_h38, lX12_isRun_h24, qX11_hasRun_h38, qX12_isRun_h24, gX12_tickets, cN, mN, if_neg e, nI_1, o9.1, o1.1, o0.1, m9.1, m1.1, m0.1, t9.1, bl.1, cm.1]
    have k0 : nI (σ 18 (σ 1 (14 * i + 0))) = 0 ↔ σ 18 (σ 1 (14 * i + 0)) = 0 := nI_eq (b := 0) (by omega) (by omega)
    have k1 : nI (σ 18 (σ 1 (14 * i + 0))) = 1 ↔ ¬ σ 18 (σ 1 (14 * i + 0)) = 0 := (nI_eq (b := 1) (by omega) (by omega)).trans (by omega)
    simp only [k0, k1]
    by_cases a1 : nI (σ 1 (14 * i + 9)) = nI (σ 1 (14 * t + 9))
    · by_cases a2 : nI (σ 1 (14 * i + 1)) = 2
      · by_cases a3 : σ 18 (σ 1 (14 * i + 0)) = 0
        · simp only [if_pos a1, if_pos a2, if_pos a3, if_neg (not_not_intro a3)]
          exact ⟨ihx.1, fun _ => ⟨o9.2, fun _ => ihx.2.1, fun _ => ⟨o1.2, fun _ => ihx.2.1, fun _ => ⟨o0.2, bl.2, fun _ => ihx.2.1⟩⟩⟩, fun _ => ⟨m9.2, t9.2, fun _ => ihx.2.2, fun _ => ⟨m1.2, fun _ => ihx.2.2, fun _ => ⟨m0.2, cm.2, fun _ => ihx.2.2⟩⟩⟩⟩
        · simp only [if_pos a1, if_pos a2, if_neg a3, if_pos (show ¬ _ from a3)]
          exact ⟨trivial, fun _ => ⟨o9.2, fun _ => ihx.2.1, fun _ => ⟨o1.2, fun _ => ihx.2.1, fun _ => ⟨o0.2, bl.2, fun _ => ihx.2.1⟩⟩⟩, fun _ => ⟨m9.2, t9.2, fun _ => ihx.2.2, fun _ => ⟨m1.2, fun _ => ihx.2.2, fun _ => ⟨m0.2, cm.2, fun _ => ihx.2.2⟩⟩⟩⟩
      · simp only [if_pos a1, if_neg a2]
        exact ⟨ihx.1, fun _ => ⟨o9.2, fun _ => ihx.2.1, fun _ => ⟨o1.2, fun _ => ihx.2.1, fun _ => ⟨o0.2, bl.2, fun _ => ihx.2.1⟩⟩⟩, fun _ => ⟨m9.2, t9.2, fun _ => ihx.2.2, fun _ => ⟨m1.2, fun _ => ihx.2.2, fun _ => ⟨m0.2, cm.2, fun _ => ihx.2.2⟩⟩⟩⟩
    · simp only [if_neg a1]
      exact ⟨ihx.1, fun _ => ⟨o9.2, fun _ => ihx.2.1, fun _ => ⟨o1.2, fun _ => ihx.2.1, fun _ => ⟨o0.2, bl.2, fun _ => ihx.2.1⟩⟩⟩, fun _ => ⟨m9.2, t9.2, fun _ => ihx.2.2, fun _ => ⟨m1.2, fun _ => ihx.2.2, fun _ => ⟨m0.2, cm.2, fun _ => ihx.2.2⟩⟩⟩⟩
theorem ru_ok (w : WR σ (blk μ 8) (fL μ 25) (fI ν 2) (fL ν 5)) {t : Nat} (hi : t < σ 0 0) : gX11_hasRun μ (nI t) = gX12_isRun ν (nI t) ∧ pX11_hasRun μ (nI t) ∧ pX12_isRun ν (nI t) := by
  have hS := (wr_S w).2.2
  have o9 : gX8_of μ (nI t) 9 = nI (σ 1 (14 * t + 9)) ∧ pX8_of μ (nI t) 9 := of_c w (j := 9) hi (by omega)
  have o1 : gX8_of μ (nI t) 1 = nI (σ 1 (14 * t + 1)) ∧ pX8_of μ (nI t) 1 := of_c w (j := 1) hi (by omega)
  have m9 : gX12_of ν (nI t) 9 = nI (σ 1 (14 * t + 9)) ∧ pX12_of ν (nI t) 9 := of_m w (j := 9) hi (by omega)
  have m1 : gX12_of ν (nI t) 1 = nI (σ 1 (14 * t + 1)) ∧ pX12_of ν (nI t) 1 := of_m w (j := 1) hi (by omega)
  obtain ⟨l1, l2, l3⟩ := ru_lp w hi (σ 0 0) 0 fF fF (by omega) (fF_gt (by omega)) (fF_gt (by omega))
  have l1 : lX11_hasRun_h38 fF μ (nI t) (nI (σ 1 (14 * t + 9))) 0 = lX12_isRun_h24 fF ν (nI t) 0 := l1
  unfold gX11_hasRun gX12_isRun pX11_hasRun pX12_isRun
  rw [o9.1, o1.1, m9.1, m1.1, l1]
  refine ⟨?_, ⟨o9.2, fun _ => ⟨o1.2, fun _ => l2⟩⟩, ⟨m1.2, fun _ => ⟨m9.2, fun _ => l3⟩⟩⟩
  by_cases a1 : nI (σ 1 (14 * t + 9)) = 0
  · simp only [if_pos a1, ite_self]
  · simp only [if_neg a1]
theorem ru_lq (w : WR σ (blk μ 8) (fL μ 25) (fI ν 2) (fL ν 5)) (y : Int32) : ∀ (c i n n' : Nat) (x : Int32), i + c = σ 0 0 → c < n → c < n' → lX11_run_h11 n μ y x (nI i) = lX12_run_h20 n' ν y x (nI i) ∧ qX11_run_h11 n μ y x (nI i) ∧ qX12_run_h20 n' ν y x (nI i) := by
  obtain ⟨cN, mN, hN⟩ := wr_S w
  intro c
  induction c with
  | zero =>
    intro i n n' x h1 h2 h3
    obtain ⟨n, rfl⟩ : ∃ m, n = m + 1 := ⟨n - 1, by omega⟩
    obtain ⟨n', rfl⟩ : ∃ m, n' = m + 1 := ⟨n' - 1, by omega⟩
    have e : nI (σ 0 0) ≤ nI i := (nI_leI (by omega) (by omega)).mpr (by omega)
    simp only [lX11_run_h11, lX12_run_h20, qX11_run_h11, qX12_run_h20, gX12_tickets, cN, mN, if_pos e]
    exact ⟨trivial, fun z => absurd e z, fun z => absurd e z⟩
  | succ c ih =>
    intro i n n' x h1 h2 h3
    obtain ⟨n, rfl⟩ : ∃ m, n = m + 1 := ⟨n - 1, by omega⟩
    obtain ⟨n', rfl⟩ : ∃ m, n' = m + 1 := ⟨n' - 1, by omega⟩
    have e : ¬ nI (σ 0 0) ≤ nI i := fun z => by have := (nI_leI (by omega) (by omega)).mp z; omega
    obtain ⟨f1, f2, f3⟩ := ru_ok w (t := i) (by omega)
    have ihx := ih (i + 1) n n' x (by omega) (by omega) (by omega)
    have ihy := ih (i + 1) n n' (x + 1) (by omega) (by omega) (by omega)
    simp only [lX11_run_h11, lX12_run_h20, qX11_run_h11, qX12_run_h20, gX12_tickets, cN, mN, if_neg e, nI_1, f1, ihx.1, ihy.1]
    exact ⟨trivial, fun _ => ⟨f2, fun _ => ihx.2.1, fun _ _ => ihy.2.1⟩, fun _ => ⟨f3, fun _ _ => ihy.2.2, fun _ => ihx.2.2⟩⟩
end
theorem ok_run : ob_run RR := by
  rintro μ ν x1 ⟨σ, σ0, σ1, ρ, r0, r1, h⟩
  obtain ⟨g1, g2, g3⟩ := lay0 h
  generalize hν : uX12_lay (fm_i ν 0 0 0) = ν1 at g2 g3
  have w := RS_WR g2 g3
  obtain ⟨cS, mS, hS⟩ := wr_S w
  obtain ⟨e1, e2, e3⟩ := ru_lq w x1 (σ 0 0) 0 fF fF 0 (by omega) (fF_gt (by omega)) (fF_gt (by omega))
  have e1 : lX11_run_h11 fF μ x1 0 0 = lX12_run_h20 fF ν1 x1 0 0 := e1
  unfold pX11_run pX12_run gX11_run gX12_run uX12_run
  rw [hν, ite_self, e1]
  exact ⟨fun _ => e2, ⟨g1, fun _ => e3⟩, rfl, σ, σ0, σ1, ρ, r0, r1, g2⟩
