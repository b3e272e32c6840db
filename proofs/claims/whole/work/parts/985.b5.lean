theorem pdp_0 : ∀ M, M < 64 → pdp M 0 = 0 ∧ 0 < 2 ^ rk M 6 := by decide +kernel
def bV (k j : Nat) : Prop := k = 22 ∨ k = 23 ∨ (k = 0 ∧ j = 45)
theorem XR_be {ρ : sg_T} {μ ν U V : fm_T} {q : Nat} (h : XR ρ μ ν) (f1 : frL bA bB μ U) (f2 : frL bV tB ν V) (hq : q ≤ 6) (l1 : fI U 57 4 = nI q) (l2 : fI V 0 45 = nI q) (l3 : ∀ j, j < q → fI U 60 j = fI V 23 j) : XR (up2 ρ 0 2 q) U V := by
  obtain ⟨⟨a1, a2, a3, a4⟩, ⟨b1, b2, b3, b4⟩, -, ⟨n1, n2, n3, n4⟩, ⟨d1, d2, d3, d4⟩, ⟨k1, k2, k3, k4⟩, m1, m2⟩ := h
  have F1 : ∀ k j, k ≠ 60 → k ≠ 57 → fI U k j = fI μ k j := fun k j z1 z2 => f1.2.2.2 k j (by unfold bA; omega)
  have F2 : ∀ k j, (k = 0 → j ≠ 45) → k ≠ 22 → k ≠ 23 → fI V k j = fI ν k j := fun k j z1 z2 z3 => f2.2.2.2 k j (by unfold bV; omega)
  refine ⟨⟨(F1 1 2 (by omega) (by omega)).trans a1, (F2 0 2 (by omega) (by omega) (by omega)).trans a2, a3, fun i hi => ?_⟩, ⟨(F1 51 8 (by omega) (by omega)).trans b1, (F2 0 39 (by omega) (by omega) (by omega)).trans b2, b3, fun i hi => ?_⟩, ⟨l1, l2, hq, l3⟩, ⟨(F1 0 11 (by omega) (by omega)).trans n1, (F2 0 48 (by omega) (by omega) (by omega)).trans n2, n3, fun i hi => ?_⟩, ⟨(F1 61 5 (by omega) (by omega)).trans d1, (F2 0 54 (by omega) (by omega) (by omega)).trans d2, d3, fun i hi => ?_⟩, ⟨(F1 66 5 (by omega) (by omega)).trans k1, (F2 0 59 (by omega) (by omega) (by omega)).trans k2, k3, fun i hi => ?_⟩, ?_, fun i hi => (f1.2.2.1 2 i (by unfold bB; omega)).trans (m2 i hi)⟩
  · rw [F1 3 i (by omega) (by omega), F2 1 i (by omega) (by omega) (by omega)]; exact a4 i hi
  · rw [F1 56 i (by omega) (by omega), F2 20 i (by omega) (by omega) (by omega)]; exact b4 i hi
  · rw [F1 72 i (by omega) (by omega), F2 25 i (by omega) (by omega) (by omega)]; exact n4 i hi
  · rw [F1 65 i (by omega) (by omega), F2 29 i (by omega) (by omega) (by omega)]; exact d4 i hi
  · rw [F1 70 i (by omega) (by omega), F2 32 i (by omega) (by omega) (by omega)]; exact k4 i hi
  · rw [F1 0 12 (by omega) (by omega), F2 0 10 (by omega) (by omega) (by omega)]; exact m1
theorem frL.cC {A B : Nat → Nat → Prop} {μ μ' : fm_T} (h : frL A B μ μ') (ha : ∀ k j, A k j → ¬ ((8 ≤ k ∧ k < 40) ∨ 89 ≤ k)) (hb : ∀ k j, B k j → ¬ (k = 25 ∨ 89 ≤ k)) : cgC μ μ' := ⟨h.1, h.2.1, fun k j q => h.2.2.2 k j (fun z => ha k j z q), fun k j q => h.2.2.1 k j (fun z => hb k j z q)⟩
theorem frL.cM {A B : Nat → Nat → Prop} {μ μ' : fm_T} (h : frL A B μ μ') (ha : ∀ k j, A k j → k ≠ 2 ∧ k ≠ 4 ∧ k ≠ 8 ∧ (k = 0 → j ≠ 21)) (hb : ∀ k j, B k j → k ≠ 5 ∧ k ≠ 7) : cgM μ μ' := ⟨h.1, h.2.1, h.2.2.2 0 21 (fun z => (ha 0 21 z).2.2.2 rfl rfl), fun j => h.2.2.2 2 j (fun z => (ha 2 j z).1 rfl), fun j => h.2.2.1 5 j (fun z => (hb 5 j z).1 rfl), fun j => h.2.2.2 4 j (fun z => (ha 4 j z).2.1 rfl), fun j => h.2.2.2 8 j (fun z => (ha 8 j z).2.2.1 rfl), fun j => h.2.2.1 7 j (fun z => (hb 7 j z).2 rfl)⟩
theorem ok_best : ob_best RR := by
  rintro μ ν x1 ⟨σ, σ0, σ1, ρ, r0, r1, h⟩
  obtain ⟨U, V, ⟨u1, v1⟩, ⟨p1, p2⟩, ge, ⟨g2, g3⟩, hcs⟩ := ts_ok h x1
  unfold pX11_best pX12_best gX11_best gX12_best uX11_best uX12_best
  rw [u1, v1, ge]
  rcases hcs with hcs | ⟨hcs, M, N, B, g, ⟨hM, c3, hF⟩, h2, h3, h4⟩
  · simp only [if_pos hcs]
    exact ⟨⟨p1, fun z => absurd hcs z⟩, ⟨p2, fun z => absurd hcs z⟩, trivial, σ, σ0, σ1, _, r0, r1, g2⟩
  have n1 : ¬ gX12_takesStain (fm_i ν 0 0 0) x1 = 0 := by rw [hcs]; decide
  simp only [if_neg n1]
  have w := RS_WR g2 g3
  have hN := h2.1
  have tp := g2.2.2.2.1.1.2.2.2
  have hw := wr_hw w
  have n6 := hw.1.2.1
  have ag := hw.2.2.1
  have gmx : ∀ x, x < N → ∀ a, a < 6 → M.testBit a = true → g x a = lN (20 - σ 15 (6 * a + x)) := fun x hx a ha t => by
    have a6 := (h3 a ha t).2
    rw [← (h4 x hx a ha t).1]
    have e1 : (10 : Int32) + (8 : Int32) * nI a + 1 + nI x = nI (11 + 8 * a + x) := by
      simp only [li_n, nI_mul, nI_add]
      congr 1
      omega
    have le := (ag a a6).2 x (by omega)
    unfold gX12_chanceOf
    rw [e1, nI_clamp (by omega), ((wr_hm w).2.2.1 a a6).2 x (by omega), show (20 : Int32) = nI 20 from rfl, nI_sub le, nl_i (by omega)]
  have Bmx : ∀ x, x < N → B x = lN ((fun x => min (up2 ρ 0 0 0 1 x) 255) x) := fun x hx => by
    obtain ⟨t1, t2, t3⟩ := tp x (by omega)
    rw [← h2.2.2.2 x hx, t2, nl_i (by omega)]
    show _ = lN (min (up2 ρ 0 0 0 1 x) 255)
    rw [Nat.min_eq_left t3]
  have hcle : ∀ a, (fun a => min (σ 14 a) 99) a ≤ 99 := fun a => Nat.min_le_right _ _
  have ceq : ∀ a, a < σ 0 6 → (fun a => min (σ 14 a) 99) a = σ 14 a := fun a ha => Nat.min_eq_left (ag a ha).1
  have Fle : ∀ s, (fun s => fnN (fun x => min (up2 ρ 0 0 0 1 x) 255) (fun x a => 20 - σ 15 (6 * a + x)) s N) s ≤ 97920000000 := fun s => by
    have := fnN_le (B := fun x => min (up2 ρ 0 0 0 1 x) 255) (g := fun x a => 20 - σ 15 (6 * a + x)) (s := s) (fun x => Nat.min_le_right _ _) (fun x a => Nat.sub_le _ _) N
    show fnN _ _ s N ≤ _
    omega
  have Feq : ∀ s, s ≤ M → s &&& (63 - M) = 0 → fsm B g s N = lN ((fun s => fnN (fun x => min (up2 ρ 0 0 0 1 x) 255) (fun x a => 20 - σ 15 (6 * a + x)) s N) s) := fun s hs hs2 => fnN_ok N Bmx (fun x hx a ha t => gmx x hx a ha ((bs_64 M hM s hs hs2 a ha).1 t))
  generalize (fun s => fnN (fun x => min (up2 ρ 0 0 0 1 x) 255) (fun x a => 20 - σ 15 (6 * a + x)) s N) = F at Fle Feq
  generalize (fun a => min (σ 14 a) 99) = c at hcle ceq
  have hB : ∀ a s, c a * F s ≤ 10000000000000 := fun a s => by
    have := Nat.mul_le_mul (hcle a) (Fle s)
    omega
  obtain ⟨a1, a2, a3, a4, a5⟩ := fo_c (μ := U) (F := F) (c := c) hM hcle hB c3 (fun s hs hs2 => (hF s hs).trans (Feq s hs hs2)) (fun a ha t => by
    rw [ceq a (h3 a ha t).2]
    exact ((wr_hc w).2.2.1 a (h3 a ha t).2).1)
  obtain ⟨pd0, pw⟩ := pdp_0 M hM
  have r6 := rk_le M 6
  have hv0 : VQ M N B g c (fm_l V 0 44 (-1)) := ⟨h2, fun a ha t => ⟨(h3 a ha t).1, by
    rw [ceq a (h3 a ha t).2]
    exact ((wr_hm w).2.2.1 a (h3 a ha t).2).1⟩, h4⟩
  obtain ⟨⟨b0, b1, b2⟩, b3⟩ := to_ok hM hcle hB Feq (rk M 6) fD 0 0 0 1000000000000000000 (fm_l V 0 44 (-1)) (by rw [pd0, Nat.sub_zero]; exact (ct_64 M hM).1) (by omega) (by rw [fD_eq]; omega) pw hv0 (Or.inl ⟨by rw [fL_l, if_pos ⟨rfl, rfl⟩], rfl⟩) (Nat.zero_le _) (fun j hj => by omega)
  rw [pd0, Nat.sub_zero, Nat.zero_add] at b1
  have ql := qW_le (M := M) hB M hM
  obtain ⟨b4, b5⟩ := b1 (by omega)
  change frL (tA 0) tB (fm_l V 0 44 (-1)) (guX12_tryOrder fD 0 (fm_l V 0 44 (-1)) 0 0 0) at b0
  change fL (guX12_tryOrder fD 0 (fm_l V 0 44 (-1)) 0 0 0) 0 44 = _ at b4
  change ∀ j, _ → fI (guX12_tryOrder fD 0 (fm_l V 0 44 (-1)) 0 0 0) 23 j = _ at b5
  change puX12_tryOrder fD 0 (fm_l V 0 44 (-1)) 0 0 0 at b3
  generalize guX12_tryOrder fD 0 (fm_l V 0 44 (-1)) 0 0 0 = G at b0 b4 b5
  have e46 : fI G 0 46 = nI (rk M 6) := (b0.2.2.2 0 46 (by unfold tA; omega)).trans h2.2.1
  have fG : frL bV tB V (fm_i G 0 45 (nI (rk M 6))) := (((frL.rf bV tB V).l (k := 0) (j := 44) (v := -1) ⟨rfl, rfl⟩).tr (b0.mo (fun k j z => by unfold tA at z; unfold bV; omega) (fun _ _ z => z))).i (Or.inr (Or.inr ⟨rfl, rfl⟩))
  rw [e46, b4, a1]
  refine ⟨⟨p1, fun _ => a2⟩, ⟨p2, fun _ => b3⟩, rfl, σ, σ0, σ1, _, r0, r1, RS_x g2 (a3.cC (fun k j z => by unfold bA at z; omega) (fun k j z => by unfold bB at z; omega)) (fG.cM (fun k j z => by unfold bV at z; omega) (fun k j z => by unfold tB at z; omega)) (XR_be g2.2.2.2.1 a3 fG r6 a4 (by rw [fI_i, if_pos ⟨rfl, rfl⟩]) (fun j hj => ?_))⟩
  rw [fI_i, if_neg (by omega), b5 j hj, if_neg (by omega), Nat.sub_zero]
  exact a5 j hj
