theorem XR_t {ρ : sg_T} {μ ν U V : fm_T} (h : XR ρ μ ν) (F1 : ∀ k j, (k = 1 → j ≠ 2) → (k = 57 → j ≠ 3) → fI U k j = fI μ k j) (F3 : ∀ j, fL U 2 j = fL μ 2 j) (F2 : ∀ k j, (k = 0 → j ≠ 2 ∧ j ≠ 46) → k ≠ 24 → fI V k j = fI ν k j) (z1 : fI U 1 2 = 0) (z2 : fI V 0 2 = 0) : XR (up2 ρ 0 0 0) U V := by
  obtain ⟨⟨a1, a2, a3, a4⟩, ⟨b1, b2, b3, b4⟩, ⟨c1, c2, c3, c4⟩, ⟨n1, n2, n3, n4⟩, ⟨d1, d2, d3, d4⟩, ⟨k1, k2, k3, k4⟩, m1, m2⟩ := h
  refine ⟨⟨z1, z2, Nat.zero_le _, fun i hi => ?_⟩, ⟨(F1 51 8 (by omega) (by omega)).trans b1, (F2 0 39 (by omega) (by omega)).trans b2, b3, fun i hi => ?_⟩, ⟨(F1 57 4 (by omega) (by omega)).trans c1, (F2 0 45 (by omega) (by omega)).trans c2, c3, fun i hi => ?_⟩, ⟨(F1 0 11 (by omega) (by omega)).trans n1, (F2 0 48 (by omega) (by omega)).trans n2, n3, fun i hi => ?_⟩, ⟨(F1 61 5 (by omega) (by omega)).trans d1, (F2 0 54 (by omega) (by omega)).trans d2, d3, fun i hi => ?_⟩, ⟨(F1 66 5 (by omega) (by omega)).trans k1, (F2 0 59 (by omega) (by omega)).trans k2, k3, fun i hi => ?_⟩, ?_, fun i hi => (F3 i).trans (m2 i hi)⟩
  · rw [F1 3 i (by omega) (by omega), F2 1 i (by omega) (by omega)]; exact a4 i hi
  · rw [F1 56 i (by omega) (by omega), F2 20 i (by omega) (by omega)]; exact b4 i hi
  · rw [F1 60 i (by omega) (by omega), F2 23 i (by omega) (by omega)]; exact c4 i hi
  · rw [F1 72 i (by omega) (by omega), F2 25 i (by omega) (by omega)]; exact n4 i hi
  · rw [F1 65 i (by omega) (by omega), F2 29 i (by omega) (by omega)]; exact d4 i hi
  · rw [F1 70 i (by omega) (by omega), F2 32 i (by omega) (by omega)]; exact k4 i hi
  · rw [F1 0 12 (by omega) (by omega), F2 0 10 (by omega) (by omega)]; exact m1
theorem sB_cg {b b' : Nat → Int32} : ∀ (c i : Nat) (x : Int32), (∀ j, i ≤ j → j < i + c → b j = b' j) → sB b c i x = sB b' c i x
  | 0, _, _, _ => rfl
  | c + 1, i, x, h => by
    rw [sB, sB, h i (by omega) (by omega)]
    exact sB_cg c (i + 1) _ (fun j h1 h2 => h j (by omega) (by omega))
def tsF (σ : sg_T) (U V : fm_T) : Prop := ∃ (M N : Nat) (B : Nat → Int64) (g : Nat → Nat → Int64), (M < 64 ∧ fI U 57 3 = nI M ∧ ∀ s, s ≤ M → fL U 58 s = fsm B g s N) ∧ (N ≤ 6 ∧ fI V 0 46 = nI (rk M 6) ∧ fI V 2 0 = nI N ∧ ∀ x, x < N → (fI V 1 x).toInt64 = B x) ∧ (∀ a, a < 6 → M.testBit a = true → fI V 24 (rk M a) = nI a ∧ a < σ 0 6) ∧ ∀ x, x < N → ∀ a, a < 6 → M.testBit a = true → ((20 : Int32) - gX12_chanceOf V (nI a) (nI x)).toInt64 = g x a ∧ pX12_chanceOf V (nI a) (nI x)
theorem ts_ok {σ σ0 σ1 ρ : sg_T} {r0 r1 : Nat} {μ ν : fm_T} (h : RS σ σ0 σ1 ρ r0 r1 μ ν) (x1 : Int32) : ∃ U V : fm_T, (uX11_takeStain μ x1 = U ∧ uX12_takesStain (fm_i ν 0 0 0) x1 = V) ∧ (pX11_takeStain μ x1 ∧ pX12_takesStain (fm_i ν 0 0 0) x1) ∧ gX11_takeStain μ x1 = gX12_takesStain (fm_i ν 0 0 0) x1 ∧ (RS σ σ0 σ1 (up2 ρ 0 0 0) r0 r1 U V ∧ fI V 0 21 = 1) ∧ (gX12_takesStain (fm_i ν 0 0 0) x1 = 0 ∨ (gX12_takesStain (fm_i ν 0 0 0) x1 = 1 ∧ tsF σ U V)) := by
  obtain ⟨g1, g2, g3⟩ := lay0 h
  unfold pX11_takeStain pX12_takesStain gX11_takeStain gX12_takesStain uX11_takeStain uX12_takesStain uX7_takeAll gX7_takeAll uX12_take gX12_take
  generalize hν : uX12_lay (fm_i ν 0 0 0) = ν1 at g2 g3 ⊢
  have w := RS_WR g2 g3
  have X := g2.2.2.2.1
  obtain ⟨a1, a2, a3, a4⟩ := X.1
  obtain ⟨⟨n5, n6, n8, n4⟩, -⟩ := wr_hw w
  have cn := n2_c w
  have mn0 : fI ν1 2 0 = nI (σ 0 5) := (wr_hm w).1 0 (by decide)
  have mn1 : fI ν1 2 1 = nI (σ 0 6) := (wr_hm w).1 1 (by decide)
  have mn2 : fI ν1 2 2 = nI (σ 0 7) := (wr_hm w).1 2 (by decide)
  have C1 : ∀ k j, (k = 1 → j ≠ 2) → fI (fm_i μ 1 2 0) k j = fI μ k j := fun k j q => by rw [fI_i, if_neg (by omega)]
  have C2 : ∀ k j, (k = 0 → j ≠ 2) → fI (fm_i ν1 0 2 0) k j = fI ν1 k j := fun k j q => by rw [fI_i, if_neg (by omega)]
  rw [a1, a2, C1 26 2 (by omega), C1 26 0 (by omega), cn.1, cn.2.2.1]
  have w1 : ∀ (y : fm_T), gX11_within y x1 0 (nI (σ 0 7) - 1) = gX11_within μ x1 0 (nI (σ 0 7) - 1) := fun _ => rfl
  rw [w1]
  obtain ⟨l1, l2, l3⟩ := tm_lp (ν := fm_i ν1 0 2 0) (P := ρ 0 0) x1 a3 (min (ρ 0 0) 6) 0 fF 0 (by omega) (fF_gt (by omega))
  have l1 : lX12_takesStain_h14 fF (fm_i ν1 0 2 0) x1 (nI (ρ 0 0)) 0 0 = _ := l1
  have l2 : mX12_takesStain_h14 fF (fm_i ν1 0 2 0) x1 (nI (ρ 0 0)) 0 0 = _ := l2
  have l3 : _ → qX12_takesStain_h14 fF (fm_i ν1 0 2 0) x1 (nI (ρ 0 0)) 0 0 := l3
  rw [C2 2 2 (by omega), C2 2 0 (by omega), mn0, mn2, isI (μ := μ)] at l1 l2 l3
  have z1 : fI (fm_i μ 1 2 0) 1 2 = 0 := by rw [fI_i, if_pos ⟨rfl, rfl⟩]
  have z2 : fI (fm_i ν1 0 2 0) 0 2 = 0 := by rw [fI_i, if_pos ⟨rfl, rfl⟩]
  have RN : RS σ σ0 σ1 (up2 ρ 0 0 0) r0 r1 (fm_i μ 1 2 0) (fm_i ν1 0 2 0) := RS_x g2 ⟨rfl, rfl, fun k j q => C1 k j (by omega), fun _ _ _ => rfl⟩ ⟨rfl, rfl, C2 0 21 (by omega), fun j => C2 2 j (by omega), fun _ => rfl, fun j => C2 4 j (by omega), fun j => C2 8 j (by omega), fun _ => rfl⟩ (XR_t X (fun k j q _ => C1 k j q) (fun _ => rfl) (fun k j q _ => C2 k j (fun z => (q z).1)) z1 z2)
  have g3' : fI (fm_i ν1 0 2 0) 0 21 = 1 := (C2 0 21 (by omega)).trans g3
  rw [l1, l2]
  by_cases h1 : gX11_within μ x1 0 (nI (σ 0 7) - 1) = 0
  · simp only [if_pos h1]
    exact ⟨_, _, ⟨rfl, rfl⟩, ⟨fun z => absurd h1 z, g1, l3 (fun z => absurd h1 z)⟩, trivial, ⟨RN, g3'⟩, Or.inl trivial⟩
  simp only [if_neg h1]
  by_cases h2 : nI (ρ 0 0) = nI (σ 0 5)
  · have hP : ρ 0 0 = σ 0 5 := nI_inj (by omega) (by omega) h2
    have hP6 : ρ 0 0 ≤ 6 := by omega
    simp only [if_pos h2]
    obtain ⟨t1, t2, t3⟩ := tc_lp (μ := fm_i μ 1 2 0) (P := ρ 0 0) x1 hP6 (ρ 0 0) 0 fF 0 (by omega) (fF_gt (by omega))
    have t1 : lX11_takeStain_h53 fF (fm_i μ 1 2 0) x1 (nI (ρ 0 0)) 0 0 = _ := t1
    have t2 : mX11_takeStain_h53 fF (fm_i μ 1 2 0) x1 (nI (ρ 0 0)) 0 0 = _ := t2
    have t3 : _ → qX11_takeStain_h53 fF (fm_i μ 1 2 0) x1 (nI (ρ 0 0)) 0 0 := t3
    have e6 : min (ρ 0 0) 6 = ρ 0 0 := by omega
    have es : sB (fI (fm_i μ 1 2 0) 3) (ρ 0 0) 0 0 = sB (fI (fm_i ν1 0 2 0) 1) (ρ 0 0) 0 0 := sB_cg _ _ _ (fun j _ hj => by
      rw [C1 3 j (by omega), C2 1 j (by omega)]
      exact (a4 j (by omega)).1.trans (a4 j (by omega)).2.1.symm)
    rw [e6] at l3 ⊢
    rw [t1, t2]
    rw [es] at t3 ⊢
    generalize sB (fI (fm_i ν1 0 2 0) 1) (ρ 0 0) 0 0 = S at t3 l3 ⊢
    by_cases h3 : S = 20
    · simp only [if_pos h3]
      obtain ⟨c, hc, rfl⟩ := wi_lt (by omega) h1
      have bw := cl_w w hc
      have hus : gX2_usableOn (fm_i μ 1 2 0) (nI c) = nI (msk (σ 0 6) (σ 19 c)) ∧ pX2_usableOn (fm_i μ 1 2 0) (nI c) := by
        have q : ¬ gX2_isCloth (fm_i μ 1 2 0) (nI c) = 0 := by
          unfold gX2_isCloth
          rw [C1 26 2 (by omega), cn.2.2.1]
          exact wi_b (by omega) hc
        unfold gX2_usableOn pX2_usableOn
        rw [if_neg q, nI_clamp (by omega), C1 26 1 (by omega), C1 32 c (by omega), cn.2.1, (cl_c w hc).2.2.2]
        exact ⟨(msk_i (σ 0 6) n6 (σ 19 c) bw.2.2.2).1, wi_01 _ _ _ _, fun _ => vp_in_nI (by omega) (by decide)⟩
      obtain ⟨-, m64, m63⟩ := msk_i (σ 0 6) n6 (σ 19 c) bw.2.2.2
      have mb := msk_b (σ 0 6) n6 (σ 19 c) bw.2.2.2
      have ms := msk_s (σ 0 6) n6 (σ 19 c) bw.2.2.2
      have mr := msk_r (σ 0 6) n6 (σ 19 c) bw.2.2.2
      have c63 : fI ν1 2 (63 + 4 * c) = nI (σ 19 c) := (cl_m w hc).2.2.2
      obtain ⟨j1, j2, j3, j4, j5⟩ := li_lp (ν := fm_i ν1 0 2 0) (c0 := c) (n1 := σ 0 6) (b := σ 19 c) (nI (ρ 0 0)) S (by omega) n6 bw.2.2.2 ((C2 2 1 (by omega)).trans mn1) ((C2 2 _ (by omega)).trans c63) (σ 0 6) 0 fF (fm_i (fm_i ν1 0 2 0) 0 46 0) (by omega) (fF_gt (by omega)) ((frI.rf _ _).i (Or.inr ⟨rfl, rfl⟩)) (by rw [fI_i, if_pos ⟨rfl, rfl⟩]; rfl) (fun i hi => by omega)
      have j1 : lX12_takesStain_h85 fF (fm_i (fm_i ν1 0 2 0) 0 46 0) (nI c) (nI (ρ 0 0)) S 0 = 1 := j1
      have j2 : qX12_takesStain_h85 fF (fm_i (fm_i ν1 0 2 0) 0 46 0) (nI c) (nI (ρ 0 0)) S 0 := j2
      change frI tsB (fm_i ν1 0 2 0) (mX12_takesStain_h85 fF (fm_i (fm_i ν1 0 2 0) 0 46 0) (nI c) (nI (ρ 0 0)) S 0) at j3
      change fI (mX12_takesStain_h85 fF (fm_i (fm_i ν1 0 2 0) 0 46 0) (nI c) (nI (ρ 0 0)) S 0) 0 46 = _ at j4
      change ∀ i, _ → _ → fI (mX12_takesStain_h85 fF (fm_i (fm_i ν1 0 2 0) 0 46 0) (nI c) (nI (ρ 0 0)) S 0) 24 _ = _ at j5
      generalize mX12_takesStain_h85 fF (fm_i (fm_i ν1 0 2 0) 0 46 0) (nI c) (nI (ρ 0 0)) S 0 = V at j3 j4 j5 ⊢
      have hag : ∀ a, a < σ 0 6 → ∀ x, x < 6 → fI μ 28 (6 * a + x) = nI (σ 15 (6 * a + x)) := fun a ha x hx => ((wr_hc w).2.2.1 a ha).2 x hx
      have ham : ∀ a, a < σ 0 6 → ∀ x, x < 6 → fI ν1 2 (11 + 8 * a + x) = nI (σ 15 (6 * a + x)) := fun a ha x hx => ((wr_hm w).2.2.1 a ha).2 x hx
      have K1 : ∀ k j, (k = 1 → j ≠ 2) → (k = 57 → j ≠ 3) → fI (fm_i (fm_i μ 1 2 0) 57 3 (nI (msk (σ 0 6) (σ 19 c)))) k j = fI μ k j := fun k j q1 q2 => by rw [fI_i, if_neg (by omega)]; exact C1 k j q1
      obtain ⟨U, u1, ⟨u0, u2, u3, u4⟩, u5⟩ := ff_11 (μ := fm_i (fm_i μ 1 2 0) 57 3 (nI (msk (σ 0 6) (σ 19 c)))) (M := msk (σ 0 6) (σ 19 c)) (N := σ 0 5) (B := fun x => (nI (ρ 1 x)).toInt64) (g := fun x a => ((20 : Int32) - nI (σ 15 (6 * a + x))).toInt64) (nI (msk (σ 0 6) (σ 19 c))) m64 n5 (by rw [fI_i, if_pos ⟨rfl, rfl⟩]) ((K1 26 0 (by omega) (by omega)).trans cn.1) (fun x hx => by rw [K1 3 x (by omega) (by omega), (a4 x (by omega)).1]) (fun s hs x hx a ha hb => by rw [K1 28 _ (by omega) (by omega), hag a (ms s hs a ha hb) x (by omega)]) (msk (σ 0 6) (σ 19 c) + 1) 0 fF _ (by omega) (fF_gt (by omega)) ⟨⟨rfl, rfl⟩, fun _ _ => rfl, fun _ _ _ => rfl, fun i hi => by omega⟩
      have u1 : uX6_findFailures (fm_i μ 1 2 0) (gX2_usableOn (fm_i μ 1 2 0) (nI c)) = U := by
        rw [hus.1]
        unfold uX6_findFailures
        rw [m63]
        exact u1
      have u5 : pX6_findFailures (fm_i μ 1 2 0) (gX2_usableOn (fm_i μ 1 2 0) (nI c)) := by
        rw [hus.1]
        unfold pX6_findFailures
        rw [m63]
        exact u5
      have F1 : ∀ k j, (k = 1 → j ≠ 2) → (k = 57 → j ≠ 3) → fI U k j = fI μ k j := fun k j q1 q2 => (u2 k j).trans (K1 k j q1 q2)
      have F2 : ∀ k j, (k = 0 → j ≠ 2 ∧ j ≠ 46) → k ≠ 24 → fI V k j = fI ν1 k j := fun k j q1 q2 => (j3.2.2.2 k j (by unfold tsB; omega)).trans (C2 k j (fun z => (q1 z).1))
      refine ⟨U, V, ⟨u1, rfl⟩, ⟨fun _ _ => t3 (fun _ => ⟨hus.2, u5⟩), g1, l3 (fun _ _ _ => j2)⟩, j1.symm, ⟨RS_x g2 ⟨u0.1, u0.2, fun k j q => F1 k j (by omega) (by omega), fun k j q => u3 k j (by omega)⟩ ⟨j3.1, j3.2.1, F2 0 21 (by omega) (by omega), fun j => F2 2 j (by omega) (by omega), fun j => j3.2.2.1 5 j, fun j => F2 4 j (by omega) (by omega), fun j => F2 8 j (by omega) (by omega), fun j => j3.2.2.1 7 j⟩ (XR_t X F1 (fun j => u3 2 j (by omega)) F2 ((u2 1 2).trans (by rw [fI_i, if_neg (by omega)]; exact z1)) ((j3.2.2.2 0 2 (by unfold tsB; omega)).trans z2)), (F2 0 21 (by omega) (by omega)).trans g3⟩, Or.inr ⟨j1, msk (σ 0 6) (σ 19 c), σ 0 5, fun x => (nI (ρ 1 x)).toInt64, fun x a => ((20 : Int32) - nI (σ 15 (6 * a + x))).toInt64, ⟨m64, (u2 57 3).trans (by rw [fI_i, if_pos ⟨rfl, rfl⟩]), u4⟩, ⟨n5, j4.trans (by rw [mr]), (F2 2 0 (by omega) (by omega)).trans mn0, fun x hx => by rw [F2 1 x (by omega) (by omega), (a4 x (by omega)).2.1]⟩, fun a ha hb => ?_, fun x hx a ha hb => ?_⟩⟩
      · have := ms _ (Nat.le_refl _) a ha hb
        exact ⟨j5 a this hb, this⟩
      · have ha6 := ms _ (Nat.le_refl _) a ha hb
        have e1 : (10 : Int32) + (8 : Int32) * nI a + 1 + nI x = nI (11 + 8 * a + x) := by
          simp only [li_n, nI_mul, nI_add]
          congr 1
          omega
        unfold gX12_chanceOf pX12_chanceOf
        rw [e1, nI_clamp (by omega), F2 2 _ (by omega) (by omega), ham a ha6 x (by omega)]
        exact ⟨rfl, vp_in_nI (by omega) (by decide)⟩
    · simp only [if_neg h3]
      exact ⟨_, _, ⟨rfl, rfl⟩, ⟨fun _ _ => t3 (fun z => absurd z h3), g1, l3 (fun _ _ z => absurd z h3)⟩, trivial, ⟨RN, g3'⟩, Or.inl trivial⟩
  · simp only [if_neg h2]
    exact ⟨_, _, ⟨rfl, rfl⟩, ⟨fun _ z => absurd z h2, g1, l3 (fun _ z => absurd z h2)⟩, trivial, ⟨RN, g3'⟩, Or.inl trivial⟩
