theorem sh_512 : ∀ P, P ≤ 9 → ((1 : Int32) <<< (nI P &&& 31)) - 1 = nI (2 ^ P - 1) := by decide +kernel
def rA (k j : Nat) : Prop := k = 67 ∨ k = 68 ∨ k = 69 ∨ k = 70 ∨ k = 71 ∨ (k = 66 ∧ j = 5)
def rB (k j : Nat) : Prop := k = 30 ∨ k = 31 ∨ k = 32 ∨ (k = 0 ∧ (j = 58 ∨ j = 59))
theorem XR_rd {ρ : sg_T} {μ ν U V : fm_T} {q : Nat} (h : XR ρ μ ν) (f1 : frI rA μ U) (f2 : frI rB ν V) (hq : q ≤ 9) (l1 : fI U 66 5 = nI q) (l2 : fI V 0 59 = nI q) (l3 : ∀ j, j < q → fI U 70 j = fI V 32 j) : XR (up2 ρ 0 5 q) U V := by
  obtain ⟨⟨a1, a2, a3, a4⟩, ⟨b1, b2, b3, b4⟩, ⟨c1, c2, c3, c4⟩, ⟨n1, n2, n3, n4⟩, ⟨d1, d2, d3, d4⟩, ⟨k1, k2, k3, k4⟩, m1, m2⟩ := h
  have F1 : ∀ k j, k < 66 ∨ 71 < k → fI U k j = fI μ k j := fun k j z => f1.2.2.2 k j (by unfold rA; omega)
  have F2 : ∀ k j, (k = 0 → j ≠ 58 ∧ j ≠ 59) → k < 30 → fI V k j = fI ν k j := fun k j z1 z2 => f2.2.2.2 k j (by unfold rB; omega)
  refine ⟨⟨(F1 1 2 (by omega)).trans a1, (F2 0 2 (by omega) (by omega)).trans a2, a3, fun i hi => ?_⟩, ⟨(F1 51 8 (by omega)).trans b1, (F2 0 39 (by omega) (by omega)).trans b2, b3, fun i hi => ?_⟩, ⟨(F1 57 4 (by omega)).trans c1, (F2 0 45 (by omega) (by omega)).trans c2, c3, fun i hi => ?_⟩, ⟨(F1 0 11 (by omega)).trans n1, (F2 0 48 (by omega) (by omega)).trans n2, n3, fun i hi => ?_⟩, ⟨(F1 61 5 (by omega)).trans d1, (F2 0 54 (by omega) (by omega)).trans d2, d3, fun i hi => ?_⟩, ⟨l1, l2, hq, l3⟩, ?_, fun i hi => (f1.2.2.1 2 i).trans (m2 i hi)⟩
  · rw [F1 3 i (by omega), F2 1 i (by omega) (by omega)]; exact a4 i hi
  · rw [F1 56 i (by omega), F2 20 i (by omega) (by omega)]; exact b4 i hi
  · rw [F1 60 i (by omega), F2 23 i (by omega) (by omega)]; exact c4 i hi
  · rw [F1 72 i (by omega), F2 25 i (by omega) (by omega)]; exact n4 i hi
  · rw [F1 65 i (by omega), F2 29 i (by omega) (by omega)]; exact d4 i hi
  · rw [F1 0 12 (by omega), F2 0 10 (by omega) (by omega)]; exact m1
theorem RS_tk {σ σ0 σ1 ρ : sg_T} {r0 r1 : Nat} {μ ν1 : fm_T} (g2 : RS σ σ0 σ1 ρ r0 r1 μ ν1) (g3 : fI ν1 0 21 = 1) : RS σ σ0 σ1 (up2 ρ 0 0 0) r0 r1 (fm_i μ 1 2 0) (fm_i ν1 0 2 0) ∧ fI (fm_i ν1 0 2 0) 0 21 = 1 := by
  have C1 : ∀ k j, (k = 1 → j ≠ 2) → fI (fm_i μ 1 2 0) k j = fI μ k j := fun k j q => by rw [fI_i, if_neg (by omega)]
  have C2 : ∀ k j, (k = 0 → j ≠ 2) → fI (fm_i ν1 0 2 0) k j = fI ν1 k j := fun k j q => by rw [fI_i, if_neg (by omega)]
  exact ⟨RS_x g2 ⟨rfl, rfl, fun k j q => C1 k j (by omega), fun _ _ _ => rfl⟩ ⟨rfl, rfl, C2 0 21 (by omega), fun j => C2 2 j (by omega), fun _ => rfl, fun j => C2 4 j (by omega), fun j => C2 8 j (by omega), fun _ => rfl⟩ (XR_t g2.2.2.2.1 (fun k j q _ => C1 k j q) (fun _ => rfl) (fun k j q _ => C2 k j (fun z => (q z).1)) (by rw [fI_i, if_pos ⟨rfl, rfl⟩]) (by rw [fI_i, if_pos ⟨rfl, rfl⟩])), (C2 0 21 (by omega)).trans g3⟩
theorem rd_run {σ : sg_T} {μ ν : fm_T} {P : Nat} {b : Nat → Nat} (w : WR σ (blk μ 8) (fL μ 25) (fI ν 2) (fL ν 5)) (hP : P ≤ 9) (hP1 : 1 ≤ P) (hb : ∀ i, i < P → fI μ 3 i = nI (b i) ∧ fI ν 1 i = nI (b i) ∧ b i < 40) (y : Int64) : ∃ U V, (lX11_round_h86 fF (uX9_start μ) (nI P) y 0 = lX12_round_h93 fF (fm_i ν 0 58 (nI P)) (nI P) y 0 ∧ mX11_round_h86 fF (uX9_start μ) (nI P) y 0 = U ∧ mX12_round_h93 fF (fm_i ν 0 58 (nI P)) (nI P) y 0 = V) ∧ (qX11_round_h86 fF (uX9_start μ) (nI P) y 0 ∧ qX12_round_h93 fF (fm_i ν 0 58 (nI P)) (nI P) y 0) ∧ frI rA μ U ∧ frI rB ν V ∧ fI U 66 5 = nI P ∧ fI V 0 59 = nI P ∧ ∀ j, j < P → fI U 70 j = fI V 32 j := by
  have h9 := p2_512 hP
  have hpp := Nat.two_pow_pos P
  have cq : ∀ q, q < 40 → fI μ 22 q = nI (σ 12 q) ∧ fI μ 23 q = nI (σ 13 q) := fun q hq => (w.1.2.2.2.2.2.1 q hq).2.2
  have mq : ∀ q, q < 40 → fI ν 2 (2440 + 2 * q) = nI (σ 12 q) ∧ fI ν 2 (2441 + 2 * q) = nI (σ 13 q) := fun q hq => (w.2.1.2.2.2.2.2.1 q hq).2
  have bq : ∀ q, q < 40 → σ 12 q ≤ 99 ∧ σ 13 q ≤ 99 := fun q hq => (w.2.2.1.2.2.2.2.2.1 q hq).2.2
  have hX : ∀ j, (fun i => min (σ 12 (b i)) 99) j ≤ 99 ∧ (fun i => min (σ 13 (b i)) 99) j ≤ 99 := fun j => ⟨Nat.min_le_right _ _, Nat.min_le_right _ _⟩
  have eX : ∀ j, j < P → (fun i => min (σ 12 (b i)) 99) j = σ 12 (b j) ∧ (fun i => min (σ 13 (b i)) 99) j = σ 13 (b j) := fun j hj => by
    have := bq (b j) (hb j hj).2.2
    exact ⟨Nat.min_eq_left this.1, Nat.min_eq_left this.2⟩
  generalize (fun i => min (σ 12 (b i)) 99) = X at hX eX
  generalize (fun i => min (σ 13 (b i)) 99) = Y at hX eX
  obtain ⟨μ2, ⟨s1, s2, s3⟩, s4, s5, s6⟩ := ro_cs (μ := uX9_start μ) (P := P) (b := b) (X := X) (Y := Y) hP (fun i hi => by
    unfold uX9_start
    rw [fI_i, if_neg (by omega), fI_i, if_neg (by omega), fI_i, if_neg (by omega), (eX i hi).1, (eX i hi).2]
    exact ⟨(hb i hi).1, (hb i hi).2.2, cq _ (hb i hi).2.2⟩) y P 0 fF (uX9_start μ) (by omega) (fF_gt (by omega)) (frI.rf _ _) (by unfold uX9_start; rw [fI_i, if_pos ⟨rfl, rfl⟩]; rfl) (fun j hj => by omega)
  obtain ⟨ν2, ⟨t1, t2⟩, t3, t4, t5⟩ := ro_ms (ν := fm_i ν 0 58 (nI P)) (P := P) (b := b) hP (fun i hi => by
    rw [fI_i, if_neg (by omega)]
    exact (hb i hi).2.1) y P 0 fF (fm_i ν 0 58 (nI P)) (by omega) (fF_gt (by omega)) (frI.rf _ _) (fun j hj => by omega)
  obtain ⟨μ3, c1, c2, c3, c4, c5⟩ := cf_fl (b := b) hX hP hP1 (2 ^ P - 1) fF μ2 (by omega) (fF_gt (by omega)) ⟨s2, s3, fun V p h1 h2 => by omega⟩
  obtain ⟨ν3, d1, d2, d3, d4, d5⟩ := mo_fl (b := b) hX hP y (2 ^ P) 0 fF ν2 (by omega) (fF_gt (by omega)) ⟨by rw [t1.2.2.2 0 58 (by unfold rsB; omega), fI_i, if_pos ⟨rfl, rfl⟩], fun j hj => by
    have bj := (hb j hj).2.2
    refine ⟨t2 j hj, bj, ?_⟩
    rw [t1.2.2.2 2 _ (by unfold rsB; omega), t1.2.2.2 2 _ (by unfold rsB; omega), fI_i, if_neg (by omega), fI_i, if_neg (by omega), (eX j hj).1, (eX j hj).2]
    exact mq _ bj, fun R p h1 => by omega⟩
  obtain ⟨o1, o2⟩ := on_m (p := 9) (M := 2 ^ P - 1) hX hP d1 (by omega) (by omega) (Or.inr rfl)
  rw [show stI 9 = -1 from rfl] at o1 o2
  obtain ⟨⟨e1, e2⟩, ⟨e3, e4⟩, e5, ν4, e6, e7, e8⟩ := od_lp hX hP y (nI (tW X Y P (2 ^ P - 1) 9)) (nI (2 ^ P - 1)) (nI (2 ^ P - 1)) P 0 fF fF 0 9 μ3 ν3 (by omega) (fF_gt (by omega)) (fF_gt (by omega)) c1 d1 (by omega) (by rw [Nat.sub_zero]; exact ct_f P hP) (Or.inr rfl) (fun j hj => by omega)
  rw [Nat.sub_zero] at e2 e4 e6
  rw [show stI 9 = -1 from rfl, show nI 0 = 0 from rfl] at e1 e2 e3 e4 e5 e6 e8
  rw [o1] at d3 d4 d5
  rw [show nI 0 = 0 from rfl, sh_512 P hP] at t3 t4 t5
  rw [show nI 0 = 0 from rfl] at s4 s5 s6 d3 d4 d5
  have u1 : gX9_findRound μ2 = nI (tW X Y P (2 ^ P - 1) 9) := by
    unfold gX9_findRound
    rw [s2, sh_512 P hP, c3, e1]
  have u2 : uX9_findRound μ2 = mX9_findRound_h102 fF μ3 (nI (2 ^ P - 1)) (nI (tW X Y P (2 ^ P - 1) 9)) (-1) 0 0 := by
    unfold uX9_findRound
    rw [s2, sh_512 P hP, c4]
  have u3 : pX9_findRound μ2 := by
    unfold pX9_findRound
    rw [s2, sh_512 P hP]
    exact c5 e3
  refine ⟨_, _, ⟨?_, rfl, rfl⟩, ⟨s6 u3, t5 (d5 o2 e4)⟩, ?_⟩
  · rw [s4, u1, t3, d3, e2]
  rw [s5, u2, t4, d4, e6]
  have f0 : frI rA μ (uX9_start μ) := (frI.rf _ μ).i (by unfold rA; omega)
  have f1 : frI rA μ μ3 := (f0.tr (s1.mo (fun k j z => by unfold rsA at z; unfold rA; omega))).tr (c2.mo (fun k j z => by unfold a71 at z; unfold rA; omega))
  have f2 : frI rA μ (mX9_findRound_h102 fF μ3 (nI (2 ^ P - 1)) (nI (tW X Y P (2 ^ P - 1) 9)) (-1) 0 0) := f1.tr (e5.mo (fun k j z => by unfold a70 at z; unfold rA; omega))
  have k0 : frI rB ν (fm_i ν 0 58 (nI P)) := (frI.rf _ ν).i (by unfold rB; omega)
  have k1 : frI rB ν ν3 := (k0.tr (t1.mo (fun k j z => by unfold rsB at z; unfold rB; omega))).tr (d2.mo (fun k j z => by unfold a30 at z; unfold rB; omega))
  have k2 : frI rB ν ν4 := k1.tr (e7.mo (fun k j z => by unfold a32 at z; unfold rB; omega))
  refine ⟨f2, k2.i (by unfold rB; omega), ?_, by rw [fI_i, if_pos ⟨rfl, rfl⟩], fun j hj => ?_⟩
  · rw [e5.2.2.2 66 5 (by unfold a70; omega)]; exact c1.1
  · rw [fI_i, if_neg (by omega)]; exact e8 j hj
theorem ok_round : ob_round RR := by
  rintro μ ν ⟨σ, σ0, σ1, ρ, r0, r1, h⟩
  obtain ⟨g1, g2, g3⟩ := lay0 h
  unfold pX11_round pX12_round gX11_round gX12_round uX11_round uX12_round uX7_takeAll gX7_takeAll uX12_take gX12_take
  generalize hν : uX12_lay (fm_i ν 0 0 0) = ν1 at g1 g2 g3 ⊢
  obtain ⟨a1, a2, a3, a4⟩ := g2.2.2.2.1.1
  obtain ⟨RN, g3'⟩ := RS_tk g2 g3
  have b4 : ∀ i, i < 940 → fI (fm_i μ 1 2 0) 3 i = nI (ρ 1 i) ∧ fI (fm_i ν1 0 2 0) 1 i = nI (ρ 1 i) ∧ ρ 1 i ≤ 255 := fun i hi => by
    rw [fI_i, if_neg (by omega), fI_i, if_neg (by omega)]; exact a4 i hi
  rw [a1, a2]
  generalize fm_i μ 1 2 0 = μa at RN b4 ⊢
  generalize fm_i ν1 0 2 0 = νa at RN g3' b4 ⊢
  simp only [isI (μ := μa)]
  by_cases h1 : gX11_within μa (nI (ρ 0 0)) 1 9 = 0
  · simp only [if_pos h1]
    exact ⟨fun z => absurd h1 z, ⟨g1, fun z => absurd h1 z⟩, trivial, σ, σ0, σ1, _, r0, r1, RN⟩
  simp only [if_neg h1]
  have hP : 1 ≤ ρ 0 0 ∧ ρ 0 0 ≤ 9 := by
    rw [wi_nI, show (1 : Int32) = nI 1 from rfl, show (9 : Int32) = nI 9 from rfl, nI_ltI (by omega) (by omega), nI_ltI (by omega) (by omega)] at h1
    omega
  have w := RS_WR RN g3'
  rcases ro_rd (μ := μa) (ν := νa) (P := ρ 0 0) (b := ρ 1) hP.2 (fun i hi => b4 i (by omega)) (ρ 0 0) 0 fF fF 0 (by omega) (fF_gt (by omega)) (fF_gt (by omega)) with ⟨i1, i2, i3, i4, i5, i6⟩ | ⟨y', i0, ⟨i1, i2, i3⟩, i4, i5, i6⟩
  · rw [show nI 0 = 0 from rfl] at i1 i2 i3 i4 i5 i6
    rw [i1, i2, i3, i4]
    exact ⟨fun _ => i5, ⟨g1, fun _ => i6⟩, rfl, σ, σ0, σ1, _, r0, r1, RN⟩
  · rw [show nI 0 = 0 from rfl] at i1 i2 i3 i4 i5 i6
    obtain ⟨U, V, ⟨e1, e2, e3⟩, ⟨e4, e5⟩, e6, e7, e8, e9, e10⟩ := rd_run (b := ρ 1) w hP.2 hP.1 (fun i hi => ⟨(b4 i (by omega)).1, (b4 i (by omega)).2.1, i0 i (Nat.zero_le i) hi⟩) y'
    rw [i1, i2, i4, i5, e1, e2, e3]
    exact ⟨fun _ => i3 e4, ⟨g1, fun _ => i6 e5⟩, rfl, σ, σ0, σ1, _, r0, r1, RS_x RN (e6.cC (fun k j z => by unfold rA at z; omega)) (e7.cM (fun k j z => by unfold rB at z; omega)) (XR_rd RN.2.2.2.1 e6 e7 hP.2 e8 e9 e10)⟩
