theorem fl_62 (v : Int32) : ∀ (c i n : Nat) (μ : fm_T), i + c = 240 → c < n → qJ7_fill_53178_62_h5 n μ v (nI i) 240 ∧ frL (fun k _ => k = 62) fN μ (mJ7_fill_53178_62_h5 n μ v (nI i) 240) ∧ ∀ S, S < 240 → fI (mJ7_fill_53178_62_h5 n μ v (nI i) 240) 62 S = if i ≤ S then v else fI μ 62 S := by
  intro c
  induction c with
  | zero =>
    intro i n μ h1 h2
    obtain ⟨n, rfl⟩ : ∃ m, n = m + 1 := ⟨n - 1, by omega⟩
    have e : (240 : Int32) ≤ nI i := (nI_leI (a := 240) (by omega) (by omega)).mpr (by omega)
    simp only [mJ7_fill_53178_62_h5, qJ7_fill_53178_62_h5, if_pos e]
    exact ⟨fun z => absurd e z, frL.rf _ _ _, fun S hS => by rw [if_neg (by omega)]⟩
  | succ c ih =>
    intro i n μ h1 h2
    obtain ⟨n, rfl⟩ : ∃ m, n = m + 1 := ⟨n - 1, by omega⟩
    have e : ¬ (240 : Int32) ≤ nI i := fun z => by have := (nI_leI (a := 240) (by omega) (by omega)).mp z; omega
    have hi : i < 2 ^ 31 := by omega
    obtain ⟨k1, k2, k3⟩ := ih (i + 1) n (fm_i μ 62 i v) (by omega) (by omega)
    simp only [mJ7_fill_53178_62_h5, qJ7_fill_53178_62_h5, if_neg e, nI_clamp hi, nI_1]
    refine ⟨fun _ => ⟨vp_in_nI (by omega) (by decide), k1⟩, ((frL.rf (fun k _ => k = 62) fN μ).i (k := 62) (j := i) (v := v) rfl).tr k2, fun S hS => ?_⟩
    rw [k3 S hS, fI_i]
    by_cases q : i + 1 ≤ S
    · rw [if_pos q, if_pos (by omega)]
    · by_cases w : S = i
      · rw [if_neg q, if_pos ⟨rfl, w⟩, if_pos (by omega)]
      · rw [if_neg q, if_neg (by omega), if_neg (by omega)]
def fCA (k j : Nat) : Prop := (k = 61 ∧ (j = 4 ∨ j = 5)) ∨ (62 ≤ k ∧ k ≤ 65)
def fMA (k j : Nat) : Prop := (k = 0 ∧ (j = 53 ∨ j = 54)) ∨ (26 ≤ k ∧ k ≤ 29)
theorem XR_ca {ρ : sg_T} {μ ν U V : fm_T} {q : Nat} (h : XR ρ μ ν) (f1 : frL fCA fN μ U) (f2 : frL fMA fN ν V) (hq : q ≤ 12) (l1 : fI U 61 5 = nI q) (l2 : fI V 0 54 = nI q) (l3 : ∀ j, j < q → fI U 65 j = fI V 29 j) : XR (up2 ρ 0 4 q) U V := by
  obtain ⟨⟨a1, a2, a3, a4⟩, ⟨b1, b2, b3, b4⟩, ⟨c1, c2, c3, c4⟩, ⟨n1, n2, n3, n4⟩, -, ⟨k1, k2, k3, k4⟩, m1, m2⟩ := h
  have F1 : ∀ k j, k < 61 ∨ 65 < k → fI U k j = fI μ k j := fun k j z => f1.2.2.2 k j (by unfold fCA; omega)
  have F2 : ∀ k j, (k = 0 → j ≠ 53 ∧ j ≠ 54) → (k < 26 ∨ 29 < k) → fI V k j = fI ν k j := fun k j z1 z2 => f2.2.2.2 k j (by unfold fMA; omega)
  refine ⟨⟨(F1 1 2 (by omega)).trans a1, (F2 0 2 (by omega) (by omega)).trans a2, a3, fun i hi => ?_⟩, ⟨(F1 51 8 (by omega)).trans b1, (F2 0 39 (by omega) (by omega)).trans b2, b3, fun i hi => ?_⟩, ⟨(F1 57 4 (by omega)).trans c1, (F2 0 45 (by omega) (by omega)).trans c2, c3, fun i hi => ?_⟩, ⟨(F1 0 11 (by omega)).trans n1, (F2 0 48 (by omega) (by omega)).trans n2, n3, fun i hi => ?_⟩, ⟨l1, l2, hq, l3⟩, ⟨(F1 66 5 (by omega)).trans k1, (F2 0 59 (by omega) (by omega)).trans k2, k3, fun i hi => ?_⟩, ?_, fun i hi => (f1.2.2.1 2 i (by unfold fN; exact id)).trans (m2 i hi)⟩
  · rw [F1 3 i (by omega), F2 1 i (by omega) (by omega)]; exact a4 i hi
  · rw [F1 56 i (by omega), F2 20 i (by omega) (by omega)]; exact b4 i hi
  · rw [F1 60 i (by omega), F2 23 i (by omega) (by omega)]; exact c4 i hi
  · rw [F1 72 i (by omega), F2 25 i (by omega) (by omega)]; exact n4 i hi
  · rw [F1 70 i (by omega), F2 32 i (by omega) (by omega)]; exact k4 i hi
  · rw [F1 0 12 (by omega), F2 0 10 (by omega) (by omega)]; exact m1
theorem LS_eq {σ : sg_T} {e : Nat → Nat} {n : Nat} (wf : WF σ) (en : EnN σ (σ 0 0) e n) : LsN e n (2 ^ n - 1) = LsN (σ 23) (σ 0 2) (2 ^ σ 0 2 - 1) := by
  funext t
  apply Bool.eq_iff_iff.mpr
  rw [LS_iff, LS_iff]
  constructor
  · rintro ⟨k, h1, h2, -⟩
    obtain ⟨a1, a2⟩ := en.1 k h1
    rw [h2] at a1 a2
    rcases (wf.2.1 t a1).2.1 with ⟨-, j, j1, j2⟩ | ⟨z, -⟩
    · exact ⟨j, j1, j2, by rw [Nat.testBit_two_pow_sub_one]; simpa using j1⟩
    · omega
  · rintro ⟨j, h1, h2, -⟩
    have ht : t < σ 0 0 := by rw [← h2]; exact wf.2.2.2.2.2.2.1 j h1
    rcases (wf.2.1 t ht).2.1 with ⟨a, -⟩ | ⟨-, z⟩
    · obtain ⟨k, k1, k2⟩ := en.2.1 t ht a
      exact ⟨k, k1, k2, by rw [Nat.testBit_two_pow_sub_one]; simpa using k1⟩
    · exact absurd h2 (z j h1)
theorem ok_causes : ob_causes RR := by
  rintro μ ν ⟨σ, σ0, σ1, ρ, r0, r1, h⟩
  obtain ⟨g1, g2, g3⟩ := lay0 h
  unfold pX11_causes pX12_causes gX11_causes gX12_causes uX11_causes uX12_causes
  generalize hν : uX12_lay (fm_i ν 0 0 0) = ν1 at g1 g2 g3 ⊢
  have w := RS_WR g2 g3
  have hK := (wr_K w).2.2
  have hS := (wr_S w).2.2
  obtain ⟨l1, l2, l3, l4⟩ := g2.2.2.2.1.2.2.2.2.1
  obtain ⟨b1, b2, b3⟩ := fl_62 0 240 0 fF μ (by omega) (fF_gt (by omega))
  rw [show nI 0 = 0 from rfl] at b1 b2 b3
  have es : uX0_start μ = fm_i (mJ7_fill_53178_62_h5 fF μ 0 0 240) 61 4 0 := rfl
  have hp0 : pcB ν1 0 = false := (pc_m w 0).2.2.2.2
  obtain ⟨μ2, e, n, bt, zt, k1, k2, k3, k4, k5, k6, k7⟩ := bc_lp w (σ 0 0) 0 fF 0 (fun _ => 0) (fun _ => 0) (fun _ => 0) (uX0_start μ) (by omega) (fF_gt (by omega)) (by
      rw [es]
      exact (b2.mo (fun k j z => Or.inr (Or.inl z)) (fun _ _ z => z)).i (Or.inl ⟨rfl, rfl⟩))
    ⟨fun k hk => absurd hk (by omega), fun u hu => absurd hu (by omega), fun j k hj => absurd hj (by omega)⟩
    (by
      rw [es]
      refine ⟨by rw [fI_i, if_pos ⟨rfl, rfl⟩]; rfl, fun c hc => ?_, fun i hi => absurd hi (by omega)⟩
      rw [fI_i, if_neg (by omega), b3 c hc, if_pos (Nat.zero_le _)]; rfl)
    ⟨by omega, fun c hc => ⟨(by decide : 0 < 2 ^ 0), fun _ => rfl, fun _ k hk => absurd hk (by omega)⟩, fun k w hk => absurd hk (by omega), fun k c hk => absurd hk (by omega), hp0⟩
  rw [show nI 0 = 0 from rfl] at k5 k6 k7
  have lse := LS_eq w.2.2.1 k2
  have fr0 : frL fM6 fN ν1 (fm_i ν1 0 53 0) := (frL.rf _ _ _).i (Or.inl ⟨rfl, rfl⟩)
  obtain ⟨ν2, q, a, mb, m1, m2, m3, m4, m5, m6⟩ := mc_lp w (σ 0 2) 0 fF 0 (fun _ => 0) (fun _ => 0) (fm_i ν1 0 53 0) (by omega) (fF_gt (by omega)) fr0 (by omega) ⟨by omega, by rw [fI_i, if_pos ⟨rfl, rfl⟩]; rfl, fun i hi => absurd hi (by omega), fun i j h1 h2 => absurd h2 (by omega)⟩ (fun j c hj => absurd hj (by omega))
  rw [show nI 0 = 0 from rfl] at m4 m5 m6
  rw [k5, k6, m4, m5]
  have cC : ∀ U, frL fCA fN μ U → cgC μ U := fun U f => f.cC (fun k j z => by unfold fCA at z; omega) (fun k j z => by unfold fN at z; exact z.elim)
  have cM : ∀ V, frL fMA fN ν1 V → cgM ν1 V := fun V f => f.cM (fun k j z => by unfold fMA at z; omega) (fun k j z => by unfold fN at z; exact z.elim)
  have fa : frL fCA fN μ μ2 := k1.mo (fun k j z => by unfold fC6 at z; unfold fCA; omega) (fun _ _ z => z)
  have fb : frL fMA fN ν1 ν2 := m1.mo (fun k j z => by unfold fM6 at z; unfold fMA; omega) (fun _ _ z => z)
  obtain ⟨c1, c2⟩ := ch_ok k4 k3
  rw [lse] at c2
  rcases c2 with ⟨x1, x2, x3⟩ | ⟨r, qc, x1, x2, x3, x4, x5, x6, x7⟩
  · obtain ⟨y1, y2, y3⟩ := c98n hK m3 x3 (ν0 := ν2) 13 0 fF ν2 (by omega) (fF_gt (by omega)) m2 (frL.rf _ _ _)
    rw [show nI 0 = 0 from rfl] at y1 y2 y3
    rw [x1, x2, y1]
    have fv : frL fMA fN ν1 (mX12_causes_h98 fF ν2 (nI (2 ^ σ 0 2 - 1)) 0) := fb.tr (y3.mo (fun k j z => by unfold f28 at z; unfold fMA; omega) (fun _ _ z => z))
    refine ⟨⟨b1, k7 c1⟩, ⟨g1, m6 y2⟩, rfl, σ, σ0, σ1, _, r0, r1, RS_x g2 (cC _ fa) (cM _ fv) (XR_ca g2.2.2.2.1 fa fv l3 ?_ ?_ (fun j hj => ?_))⟩
    · rw [k1.2.2.2 61 5 (by unfold fC6; omega)]; exact l1
    · rw [y3.2.2.2 0 54 (by unfold f28; omega), m1.2.2.2 0 54 (by unfold fM6; omega)]; exact l2
    · rw [k1.2.2.2 65 j (by unfold fC6; omega), y3.2.2.2 29 j (by unfold f28; omega), m1.2.2.2 29 j (by unfold fM6; omega)]; exact l4 j hj
  · obtain ⟨y1, y2, qf, y3, y4, y5, y6⟩ := c98y hK m3 x1 x2 (ν0 := ν2) r 0 fF ν2 (by omega) (fF_gt (by omega)) m2 (frL.rf _ _ _)
    rw [show nI 0 = 0 from rfl] at y1 y2 y4 y5 y6
    rw [x3, y1]
    have fu : frL fCA fN μ (uX0_chooseFewest μ2) := fa.tr (x4.mo (fun k j z => by unfold f645 at z; unfold fCA; omega) (fun _ _ z => z))
    have fv : frL fMA fN ν1 (mX12_causes_h98 fF ν2 (nI (2 ^ σ 0 2 - 1)) 0) := fb.tr (y4.mo (fun k j z => by unfold f289 at z; unfold fMA; omega) (fun _ _ z => z))
    have gr : GR (pcB ν1) (hcB σ) r (LsN (σ 23) (σ 0 2) (2 ^ σ 0 2 - 1)) 0 qc := by
      cases r with
      | zero => exact x6
      | succ r => exact GR_s (fun z => by rw [hp0] at z; exact absurd z (by decide)) x6
    refine ⟨⟨b1, k7 c1⟩, ⟨g1, m6 y2⟩, rfl, σ, σ0, σ1, _, r0, r1, RS_x g2 (cC _ fu) (cM _ fv) (XR_ca g2.2.2.2.1 fu fv x1 x5 y5 (fun j hj => ?_))⟩
    rw [x7 j hj, y6 j hj, GR_u r _ _ _ _ gr y3 j hj]
