def fMp (k j : Nat) : Prop := (9 ≤ k ∧ k ≤ 16) ∨ (k = 0 ∧ 31 ≤ j ∧ j ≤ 34)
theorem RS_p {σ σ0 σ1 ρ : sg_T} {r0 r1 : Nat} {μ μ' ν ν' : fm_T} (h : RS σ σ0 σ1 ρ r0 r1 μ ν) (f1 : frL f4z fN μ μ') (f2 : frL fMp fN ν ν') : RS σ σ0 σ1 ρ r0 r1 μ' ν' := by
  have g1 : ∀ k j, k < 41 ∨ 50 < k → fI μ' k j = fI μ k j := fun k j z => f1.2.2.2 k j (by unfold f4z; omega)
  have g2 : ∀ k j, (k = 0 → j < 31 ∨ 34 < j) → (k < 9 ∨ 16 < k) → fI ν' k j = fI ν k j := fun k j z1 z2 => f2.2.2.2 k j (by unfold fMp; omega)
  refine RS_x h (f1.cC (fun k j z => by unfold f4z at z; omega) (fun k j z => by unfold fN at z; exact z.elim)) (f2.cM (fun k j z => by unfold fMp at z; omega) (fun k j z => by unfold fN at z; exact z.elim)) (XR_cg ⟨⟨g1 1 2 (by omega), g1 51 8 (by omega), g1 57 4 (by omega), g1 0 11 (by omega), g1 61 5 (by omega), g1 66 5 (by omega), g1 0 12 (by omega)⟩, fun k j z => g1 k j (by omega), fun j => f1.2.2.1 2 j (by unfold fN; exact id)⟩ ⟨⟨g2 0 2 (by omega) (by omega), g2 0 39 (by omega) (by omega), g2 0 45 (by omega) (by omega), g2 0 48 (by omega) (by omega), g2 0 54 (by omega) (by omega), g2 0 59 (by omega) (by omega), g2 0 10 (by omega) (by omega)⟩, fun k j z => g2 k j (by omega) (by omega)⟩ h.2.2.2.1)
section
variable {σ : sg_T} {μ ν : fm_T}
theorem dr_P (w : WR σ (blk μ 8) (fL μ 25) (fI ν 2) (fL ν 5)) : DRc (σ 0 8) (σ 20) (σ 21) μ ∧ MqN (σ 0 8) (σ 0 9) (σ 20) (σ 21) ν := by
  have s := se_c w
  exact ⟨⟨(n2_c w).2.2.2, fun d hd => (dr_w w hd).1⟩, (wr_hm w).1 3 (by decide), s.2.1, fun d hd => (dr_w w hd).2.1⟩
theorem bd_P (w : WR σ (blk μ 8) (fL μ 25) (fI ν 2) (fL ν 5)) {b du : Nat → Nat} {n : Nat} (hn : n ≤ 10) (hb : ∀ j, j < n → b j < σ 0 0) (hd : ∀ j, j < n → du j = σ 0 3 ∨ du j = σ 1 (14 * b j + 7)) : BDp (σ 0 8) n (σ 20) (σ 21) du (fun j => σ 1 (14 * b j + 1)) (fun j => σ 1 (14 * b j + 2)) (fun j => σ 16 (σ 1 (14 * b j + 0))) := by
  have h8 := (wr_hw w).1.2.2.2
  have hT := (wr_T w).2.2
  refine ⟨hn, h8, fun p hp => ?_, fun d hd => ?_⟩
  · obtain ⟨⟨q0, q1, q2, q3, -, -, -, -, -, q7, -⟩, -⟩ := w.2.2.1.2.1 (b p) (hb p hp)
    have c := cl_w w q0
    have := hd p hp
    exact ⟨by omega, q1, q2, q3, c.1⟩
  · have := (dr_w w hd).2.2
    exact ⟨this.2.1, this.2.2⟩
theorem mh_P (w : WR σ (blk μ 8) (fL μ 25) (fI ν 2) (fL ν 5)) {b du : Nat → Nat} {n : Nat} (h31 : fI ν 0 31 = nI n) (hb : ∀ j, j < n → b j < σ 0 0 ∧ fI ν 9 j = nI (b j) ∧ fI ν 10 j = nI (du j)) : MhN n b (fun j => σ 1 (14 * b j + 0)) du (fun j => σ 1 (14 * b j + 1)) (fun j => σ 1 (14 * b j + 2)) (fun j => σ 16 (σ 1 (14 * b j + 0))) ν := by
  have hS := (wr_S w).2.2
  have h7 := (wr_hw w).1.2.2.1
  refine ⟨h31, fun i hi => ?_⟩
  obtain ⟨b1, b2, b3⟩ := hb i hi
  obtain ⟨⟨q0, -⟩, -⟩ := w.2.2.1.2.1 (b i) b1
  have t := (wr_t w b1).2
  exact ⟨by omega, (by omega : σ 1 (14 * b i + 0) < 8), b2, b3, t 0 (by omega), t 1 (by omega), t 2 (by omega), (cl_m w q0).1⟩
end
theorem pt_31 {n d : Nat} {du : Nat → Nat} {ν : fm_T} (hn : n ≤ 10) (hd : d ≤ 199) (h31 : fI ν 0 31 = nI n) (h10 : ∀ j, j < n → fI ν 10 j = nI (du j) ∧ du j ≤ 199) : ∀ (c k f : Nat) (x2 : Int32), k + c = n → c < f → qX12_patience_h31 f ν (nI d) x2 (nI k) ∧ (l2X12_patience_h31 f ν (nI d) x2 (nI k) = 0 ↔ x2 = 0 ∧ ∀ j, k ≤ j → j < n → d ≤ du j) := by
  intro c
  induction c with
  | zero =>
    intro k f x2 h1 h2
    obtain ⟨f, rfl⟩ : ∃ m, f = m + 1 := ⟨f - 1, by omega⟩
    have e1 : nI n ≤ nI k := (nI_leI (by omega) (by omega)).mpr (by omega)
    simp only [qX12_patience_h31, l2X12_patience_h31, h31, if_pos e1]
    exact ⟨fun z => absurd e1 z, fun z => ⟨z, fun j h1 h2 => absurd h2 (by omega)⟩, fun z => z.1⟩
  | succ c ih =>
    intro k f x2 h1 h2
    obtain ⟨f, rfl⟩ : ∃ m, f = m + 1 := ⟨f - 1, by omega⟩
    have e1 : ¬ nI n ≤ nI k := fun z => by have := (nI_leI (by omega) (by omega)).mp z; omega
    obtain ⟨r1, r2⟩ := h10 k (by omega)
    have ck : k < 2 ^ 31 := by omega
    have le : nI d ≤ nI (du k) ↔ d ≤ du k := nI_leI (by omega) (by omega)
    have v : vp_in (nI k) 10 := vp_in_nI (by omega) (by decide)
    simp only [qX12_patience_h31, l2X12_patience_h31, h31, if_neg e1, nI_clamp ck, r1, le, nI_1]
    by_cases q : d ≤ du k
    · simp only [if_pos q]
      obtain ⟨k1, k2⟩ := ih (k + 1) f x2 (by omega) (by omega)
      refine ⟨fun _ => ⟨v, fun _ => k1, fun z => absurd q z⟩, k2.trans ⟨fun z => ⟨z.1, fun j h1 h2 => ?_⟩, fun z => ⟨z.1, fun j h1 h2 => z.2 j (by omega) h2⟩⟩⟩
      by_cases y : j = k
      · rw [y]; exact q
      · exact z.2 j (by omega) h2
    · simp only [if_neg q]
      obtain ⟨k1, k2⟩ := ih (k + 1) f 1 (by omega) (by omega)
      exact ⟨fun _ => ⟨v, fun z => absurd z q, fun _ => k1⟩, fun z => absurd (k2.mp z).1 (by decide), fun z => absurd (z.2 k (Nat.le_refl _) (by omega)) q⟩
section
variable {D n L T : Nat} {dk dh du sh we he tk cl : Nat → Nat}
theorem pt_19 (b : BDp D n dk dh du sh we he) (hL : 0 < L) (hL2 : L ≤ 4) (hT : T ≤ 199) : ∀ (d f : Nat) (ν : fm_T), d ≤ 199 → d + 1 < f → fI ν 2 130 = nI T → MqN D L dk dh ν → MhN n tk cl du sh we he ν → (∀ d', d < d' → (∀ p, p < n → d' ≤ du p) → ∀ M h, ¬ SpN D n L d' dk dh du sh we he (fun _ => true) M h) →
    qX12_patience_h19 f ν (nI d) ∧ frL fPa fN ν (mX12_patience_h19 f ν (nI d)) ∧ PatP D n L T dk dh du sh we he (lX12_patience_h19 f ν (nI d)) := by
  have st : ∀ (d f : Nat) (ν : fm_T), d ≤ 199 → fI ν 2 130 = nI T → MqN D L dk dh ν → MhN n tk cl du sh we he ν → (∀ d', d < d' → (∀ p, p < n → d' ≤ du p) → ∀ M h, ¬ SpN D n L d' dk dh du sh we he (fun _ => true) M h) →
      (∀ ν', frL fPa fN ν ν' → fI ν' 2 130 = nI T → MqN D L dk dh ν' → MhN n tk cl du sh we he ν' → ((∀ p, p < n → d ≤ du p) → ∀ M h, ¬ SpN D n L d dk dh du sh we he (fun _ => true) M h) → qX12_patience_h19 f ν' (nI d + -1) ∧ frL fPa fN ν' (mX12_patience_h19 f ν' (nI d + -1)) ∧ PatP D n L T dk dh du sh we he (lX12_patience_h19 f ν' (nI d + -1))) →
      qX12_patience_h19 (f + 1) ν (nI d) ∧ frL fPa fN ν (mX12_patience_h19 (f + 1) ν (nI d)) ∧ PatP D n L T dk dh du sh we he (lX12_patience_h19 (f + 1) ν (nI d)) := by
    intro d f ν hd h130 mq mh hno nx
    have lt : nI d < nI T ↔ d < T := nI_ltI (by omega) (by omega)
    obtain ⟨w1, w2, w3⟩ := fwm_ok (day := d) b hL hL2 hd mq mh
    obtain ⟨l1, l2⟩ := pt_31 (du := du) b.1 hd mh.1 (fun j hj => ⟨(mh.2 j hj).2.2.2.1, (b.2.2.1 j hj).1⟩) n 0 fF 0 (by omega) (fF_gt (by have := b.1; omega))
    rw [show nI 0 = 0 from rfl] at l1 l2
    simp only [qX12_patience_h19, mX12_patience_h19, lX12_patience_h19, gX12_today, h130, lt]
    by_cases q : d < T
    · simp only [if_pos q]
      exact ⟨fun z => absurd q z, frL.rf _ _ _, Or.inr ⟨rfl, fun d' h1 h2 => hno d' (by omega) h2⟩⟩
    · simp only [if_neg q]
      by_cases la : l2X12_patience_h31 fF ν (nI d) 0 0 = 0
      · have al : ∀ p, p < n → d ≤ du p := fun p hp => (l2.mp la).2 p (Nat.zero_le _) hp
        simp only [if_pos la]
        rcases w3 with ⟨r, h, r1, r2, r3, r4⟩ | ⟨r1, r2⟩
        · have ne : ¬ gX12_fewestFrom ν (nI d) = -1 := by rw [r2]; have := b.1; exact nI_m1 (by omega)
          simp only [if_neg ne]
          exact ⟨fun _ => ⟨l1, fun z => absurd la z, fun _ => ⟨w1, fun z => absurd z ne⟩⟩, w2, Or.inl ⟨d, r, h, by omega, al, r3, rfl, hno⟩⟩
        · simp only [if_pos r1]
          obtain ⟨k1, k2, k3⟩ := nx _ w2 (by rw [w2.2.2.2 2 130 (by unfold fPa; omega)]; exact h130) (MQ_f mq w2 (fun _ _ z => z)) (MH_f mh w2 (fun _ _ z => z)) (fun _ => r2)
          exact ⟨fun _ => ⟨l1, fun z => absurd la z, fun _ => ⟨w1, fun _ => k1⟩⟩, w2.tr k2, k3⟩
      · simp only [if_neg la]
        obtain ⟨k1, k2, k3⟩ := nx ν (frL.rf _ _ _) h130 mq mh (fun z => absurd (l2.mpr ⟨rfl, fun j _ hj => z j hj⟩) la)
        exact ⟨fun _ => ⟨l1, fun _ => k1, fun z => absurd z la⟩, k2, k3⟩
  intro d
  induction d with
  | zero =>
    intro f ν hd hf h130 mq mh hno
    obtain ⟨f, rfl⟩ : ∃ m, f = m + 2 := ⟨f - 2, by omega⟩
    refine st 0 (f + 1) ν hd h130 mq mh hno (fun ν' fr h130' mq' mh' no => ?_)
    rw [show nI 0 + -1 = (-1 : Int32) by decide]
    have l : (-1 : Int32) < nI T := by rw [lt_ti, ti_m1, ti_nI (by omega)]; omega
    simp only [qX12_patience_h19, mX12_patience_h19, lX12_patience_h19, gX12_today, h130', if_pos l]
    exact ⟨fun z => absurd l z, frL.rf _ _ _, Or.inr ⟨rfl, fun d' h1 h2 => by
      by_cases w : d' = 0
      · rw [w] at h2 ⊢; exact no h2
      · exact hno d' (by omega) h2⟩⟩
  | succ d ih =>
    intro f ν hd hf h130 mq mh hno
    obtain ⟨f, rfl⟩ : ∃ m, f = m + 1 := ⟨f - 1, by omega⟩
    refine st (d + 1) f ν hd h130 mq mh hno (fun ν' fr h130' mq' mh' no => ?_)
    rw [show nI (d + 1) + -1 = nI d by rw [← Int32.sub_eq_add_neg]; exact nI_sub (a := d + 1) (b := 1) (by omega)]
    exact ih f ν' (by omega) (by omega) h130' mq' mh' (fun d' h1 h2 => by
      by_cases w : d' = d + 1
      · rw [w] at h2 ⊢; exact no h2
      · exact hno d' (by omega) h2)
end
theorem tp_ok {σ σ0 σ1 ρ : sg_T} {r0 r1 : Nat} {μ ν ν1 : fm_T} (x1 : Int32) (hν : uX12_lay ν = ν1) (g1 : pX12_lay ν) (g2 : RS σ σ0 σ1 ρ r0 r1 μ ν1) (g3 : fI ν1 0 21 = 1) :
    (gX11_takePlanned μ x1 = 0 ∧ gX12_takesTickets ν = 0 ∧ pX11_takePlanned μ x1 ∧ pX12_takesTickets ν ∧ RS σ σ0 σ1 (up2 ρ 0 0 0) r0 r1 (uX11_takePlanned μ x1) (uX12_takesTickets ν)) ∨
    (¬ gX11_takePlanned μ x1 = 0 ∧ ¬ gX12_takesTickets ν = 0 ∧ pX11_takePlanned μ x1 ∧ pX12_takesTickets ν ∧ RS σ σ0 σ1 (up2 ρ 0 0 0) r0 r1 (uX11_takePlanned μ x1) (uX12_takesTickets ν) ∧ fI (uX12_takesTickets ν) 0 21 = 1 ∧ ∃ (n : Nat) (b du e : Nat → Nat), 1 ≤ n ∧ n ≤ 10 ∧ (∀ j, j < n → du j = if ¬ x1 = 0 ∧ j = 0 then σ 0 3 else σ 1 (14 * b j + 7)) ∧ PC n e du (fun j => σ 1 (14 * b j + 1)) (fun j => σ 1 (14 * b j + 2)) (fun j => σ 16 (σ 1 (14 * b j + 0))) (uX11_takePlanned μ x1) ∧ BJ n e ∧ (∀ q r, q ≤ r → r < n → du (e q) ≤ du (e r)) ∧ PT4 (σ 0 8) n (σ 20) (σ 21) (fun j => σ 1 (14 * b j + 1)) (fun j => σ 1 (14 * b j + 2)) (fun j => σ 16 (σ 1 (14 * b j + 0))) e (2 ^ n) (uX11_takePlanned μ x1) ∧ fI (uX12_takesTickets ν) 0 31 = nI n ∧ ∀ j, j < n → b j < σ 0 0 ∧ fI (uX12_takesTickets ν) 9 j = nI (b j) ∧ fI (uX12_takesTickets ν) 10 j = nI (σ 1 (14 * b j + 7))) := by
  obtain ⟨a1, a2, a3, a4⟩ := g2.2.2.2.1.1
  obtain ⟨RN, g3'⟩ := RS_tk g2 g3
  unfold pX11_takePlanned gX11_takePlanned uX11_takePlanned pX12_takesTickets gX12_takesTickets uX12_takesTickets uX7_takeAll gX7_takeAll uX12_take gX12_take
  rw [hν, a1, a2]
  have b4 : ∀ i, i < 940 → fI (fm_i μ 1 2 0) 3 i = nI (ρ 1 i) ∧ fI (fm_i ν1 0 2 0) 1 i = nI (ρ 1 i) ∧ ρ 1 i ≤ 255 := fun i hi => by
    rw [fI_i, if_neg (by omega), fI_i, if_neg (by omega)]; exact a4 i hi
  generalize fm_i μ 1 2 0 = μa at RN b4 ⊢
  generalize fm_i ν1 0 2 0 = νa at RN g3' b4 ⊢
  have f31 : frL fMp fN νa (fm_i νa 0 31 (nI (ρ 0 0))) := (frL.rf _ _ _).i (Or.inr ⟨rfl, by omega, by omega⟩)
  have RN2 := RS_p RN (frL.rf _ _ _) f31
  have g4 : fI (fm_i νa 0 31 (nI (ρ 0 0))) 0 21 = 1 := by rw [fI_i, if_neg (by omega)]; exact g3'
  have b5 : ∀ i, i < 940 → fI μa 3 i = nI (ρ 1 i) ∧ fI (fm_i νa 0 31 (nI (ρ 0 0))) 1 i = nI (ρ 1 i) ∧ ρ 1 i ≤ 255 := fun i hi => by
    have := b4 i hi
    exact ⟨this.1, by rw [fI_i, if_neg (by omega)]; exact this.2.1, this.2.2⟩
  have h31 : fI (fm_i νa 0 31 (nI (ρ 0 0))) 0 31 = nI (ρ 0 0) := by rw [fI_i, if_pos ⟨rfl, rfl⟩]
  generalize fm_i νa 0 31 (nI (ρ 0 0)) = νb at RN2 g4 b5 h31 ⊢
  simp only [isI (μ := μa)]
  by_cases h1 : gX11_within μa (nI (ρ 0 0)) 1 10 = 0
  · simp only [if_pos h1]
    exact Or.inl ⟨trivial, trivial, fun z => absurd h1 z, ⟨g1, fun z => absurd h1 z⟩, RN2⟩
  · have hk : 1 ≤ ρ 0 0 ∧ ρ 0 0 ≤ 10 := by
      rw [wi_nI, show (10 : Int32) = nI 10 from rfl, show (1 : Int32) = nI 1 from rfl, nI_ltI (by omega) (by omega), nI_ltI (a := 10) (by omega) (by omega)] at h1
      omega
    simp only [if_neg h1]
    have w := RS_WR RN2 g4
    have ff : frL f4z fN μa (uX4_forgetAll μa) := (frL.rf _ _ _).i ⟨by omega, by omega⟩
    have fw : ∀ V, frL f910 fN νb V → frL fMp fN νb V := fun V h => h.mo (fun k j z => by unfold f910 at z; unfold fMp; omega) (fun _ _ z => z)
    rcases rd_pl (x1 := x1) (b := ρ 1) (du := fun j => if ¬ x1 = 0 ∧ j = 0 then σ 0 3 else σ 1 (14 * ρ 1 j + 7)) w hk.2 b5 (fun j _ => rfl) (ρ 0 0) 0 fF fF 0 (uX4_forgetAll μa) νb (fun _ => 0) (by omega) (fF_gt (by omega)) (fF_gt (by omega)) ff (frL.rf _ _ _) h31 ⟨by unfold uX4_forgetAll; rw [fI_i, if_pos ⟨rfl, rfl⟩]; rfl, fun i hi => absurd hi (by omega)⟩ ⟨fun i hi => absurd hi (by omega), fun i j hi => absurd hi (by omega), fun p hp => absurd hp (by omega)⟩ (fun q r _ hr => absurd hr (by omega)) (fun j hj => absurd hj (by omega)) with ⟨i1, i2, i3, i4, i5, i6⟩ | ⟨μ2, e, i1, i2, i3, i4, i5, i6, i7, i8, i9, i10, i11⟩
    · rw [show nI 0 = 0 from rfl] at i1 i2 i3 i4 i5 i6
      exact Or.inl ⟨i1, i2, fun _ => i5, ⟨g1, fun _ => i6⟩, RS_p RN2 i3 (fw _ i4)⟩
    · rw [show nI 0 = 0 from rfl] at i1 i2 i4 i5 i6 i7 i11
      have w2 : WR σ (blk μ2 8) (fL μ2 25) (fI νb 2) (fL νb 5) := WR_fc w i3 (fun k j z => by unfold f4z at z; omega) (fun k j z => by unfold fN at z; exact z.elim)
      have bd := bd_P (b := ρ 1) (du := fun j => if ¬ x1 = 0 ∧ j = 0 then σ 0 3 else σ 1 (14 * ρ 1 j + 7)) w2 hk.2 (fun j hj => (i11 j hj).1) (fun j hj => by
        by_cases z : ¬ x1 = 0 ∧ j = 0
        · exact Or.inl (if_pos z)
        · exact Or.inr (if_neg z))
      obtain ⟨M, m1, m2, m3, m4⟩ := ff_ok bd i9 i8 (dr_P w2).1
      rw [i5, m1, i1, i2]
      have fM : frL f4z fN μ2 M := m2.mo (fun k j z => by unfold f4x at z; unfold f4z; omega) (fun _ _ z => z)
      exact Or.inr ⟨by decide, by decide, fun _ => i6 m4, ⟨g1, fun _ => i7⟩, RS_p RN2 (i3.tr fM) (fw _ i4), by rw [i4.2.2.2 0 21 (by unfold f910; omega)]; exact g4, ρ 0 0, ρ 1, _, e, hk.1, hk.2, fun j _ => rfl, PC_f i8 m2 (fun _ _ z => z), i9, i10, m3, by rw [i4.2.2.2 0 31 (by unfold f910; omega)]; exact h31, i11⟩
theorem ok_loads : ob_loads RR := by
  rintro μ ν ⟨σ, σ0, σ1, ρ, r0, r1, h⟩
  obtain ⟨g1, g2, g3⟩ := lay0 h
  unfold pX11_loads gX11_loads uX11_loads pX12_loads gX12_loads uX12_loads
  rcases tp_ok 0 rfl g1 g2 g3 with ⟨a1, a2, a3, a4, a5⟩ | ⟨a1, a2, a3, a4, a5, a6, n, b, du, e, hn1, hn, hdu, pc, bj, so, pt, h31, hb⟩
  · simp only [if_pos a1, if_pos a2]
    exact ⟨⟨a3, fun z => absurd a1 z⟩, ⟨a4, fun z => absurd a2 z⟩, trivial, σ, σ0, σ1, _, r0, r1, a5⟩
  · simp only [if_neg a1, if_neg a2]
    have w := RS_WR a5 a6
    generalize uX11_takePlanned μ 0 = M at a5 pc pt w ⊢
    generalize uX12_takesTickets (fm_i ν 0 0 0) = V at a5 a6 h31 hb w ⊢
    have hdu' : ∀ j, j < n → du j = σ 1 (14 * b j + 7) := fun j hj => by rw [hdu j hj, if_neg (fun z => z.1 rfl)]
    have bd := bd_P w hn (fun j hj => (hb j hj).1) (fun j hj => Or.inr (hdu' j hj))
    have s := se_c w
    have hw := (wr_hw w).2.1
    obtain ⟨t1, t2, t3⟩ := wr_T w
    have et : gX12_today V = nI (σ 0 3) := t2
    rw [t1, s.1.1, et]
    obtain ⟨k1, k2, k3⟩ := fw_ok (L := σ 0 9) (day := σ 0 3) bd bj so (by omega) t3 pc pt
    obtain ⟨j1, j2, j3⟩ := fwm_ok (L := σ 0 9) (day := σ 0 3) bd (by omega) (by omega) t3 (dr_P w).2 (mh_P (du := du) w h31 (fun j hj => ⟨(hb j hj).1, (hb j hj).2.1, by rw [hdu' j hj]; exact (hb j hj).2.2⟩))
    exact ⟨⟨a3, fun _ => k1⟩, ⟨a4, fun _ => j1⟩, Res_u k3 j3, σ, σ0, σ1, _, r0, r1, RS_p a5 (k2.mo (fun k j z => by unfold f50 at z; unfold f4z; omega) (fun _ _ z => z)) (j2.mo (fun k j z => by unfold fPa at z; unfold fMp; omega) (fun _ _ z => z))⟩
theorem ok_hurry : ob_hurry RR := by
  rintro μ ν ⟨σ, σ0, σ1, ρ, r0, r1, h⟩
  obtain ⟨g1, g2, g3⟩ := lay0 h
  unfold pX11_hurry gX11_hurry uX11_hurry pX12_hurry gX12_hurry uX12_hurry
  rcases tp_ok 1 rfl g1 g2 g3 with ⟨a1, a2, a3, a4, a5⟩ | ⟨a1, a2, a3, a4, a5, a6, n, b, du, e, hn1, hn, hdu, pc, bj, so, pt, h31, hb⟩
  · simp only [if_pos a1, if_pos a2]
    exact ⟨⟨a3, fun z => absurd a1 z⟩, ⟨a4, fun z => absurd a2 z⟩, trivial, σ, σ0, σ1, _, r0, r1, a5⟩
  · simp only [if_neg a1, if_neg a2]
    generalize uX11_takePlanned μ 1 = M at a5 pc pt ⊢
    generalize uX12_takesTickets (fm_i ν 0 0 0) = V at a5 a6 h31 hb ⊢
    have et0 : gX12_today V = nI (σ 0 3) := (wr_T (RS_WR a5 a6)).2.1
    rw [et0]
    have fV : frL fMp fN V (fm_i V 10 0 (nI (σ 0 3))) := (frL.rf _ _ _).i (Or.inl ⟨by omega, by omega⟩)
    have a5 := RS_p a5 (frL.rf _ _ _) fV
    have a6 : fI (fm_i V 10 0 (nI (σ 0 3))) 0 21 = 1 := by rw [fI_i, if_neg (by omega)]; exact a6
    have h31 : fI (fm_i V 10 0 (nI (σ 0 3))) 0 31 = nI n := by rw [fI_i, if_neg (by omega)]; exact h31
    have n1 : ¬ (1 : Int32) = 0 := by decide
    have hb' : ∀ j, j < n → b j < σ 0 0 ∧ fI (fm_i V 10 0 (nI (σ 0 3))) 9 j = nI (b j) ∧ fI (fm_i V 10 0 (nI (σ 0 3))) 10 j = nI (du j) := fun j hj => by
      refine ⟨(hb j hj).1, by rw [fI_i, if_neg (by omega)]; exact (hb j hj).2.1, ?_⟩
      rw [fI_i, hdu j hj]
      by_cases z : j = 0
      · rw [if_pos ⟨rfl, z⟩, if_pos ⟨n1, z⟩]
      · rw [if_neg (fun y => z y.2), if_neg (fun y => z y.2)]; exact (hb j hj).2.2
    generalize fm_i V 10 0 (nI (σ 0 3)) = V' at a5 a6 h31 hb' ⊢
    have w := RS_WR a5 a6
    have bd := bd_P (b := b) (du := du) w hn (fun j hj => (hb j hj).1) (fun j hj => by
      rw [hdu j hj]
      by_cases z : ¬ (1 : Int32) = 0 ∧ j = 0
      · exact Or.inl (if_pos z)
      · exact Or.inr (if_neg z))
    have s := se_c w
    have hw := (wr_hw w).2.1
    obtain ⟨t1, t2, t3⟩ := wr_T w
    have et : gX12_today V' = nI (σ 0 3) := t2
    rw [t1, s.1.1, et]
    obtain ⟨k1, k2, k3⟩ := fw_ok (L := σ 0 9) (day := σ 0 3) bd bj so (by omega) t3 pc pt
    obtain ⟨j1, j2, j3⟩ := fwm_ok (L := σ 0 9) (day := σ 0 3) bd (by omega) (by omega) t3 (dr_P w).2 (mh_P (du := du) w h31 hb')
    exact ⟨⟨a3, fun _ => k1⟩, ⟨a4, fun _ => j1⟩, Res_u k3 j3, σ, σ0, σ1, _, r0, r1, RS_p a5 (k2.mo (fun k j z => by unfold f50 at z; unfold f4z; omega) (fun _ _ z => z)) (j2.mo (fun k j z => by unfold fPa at z; unfold fMp; omega) (fun _ _ z => z))⟩
theorem ok_patience : ob_patience RR := by
  rintro μ ν ⟨σ, σ0, σ1, ρ, r0, r1, h⟩
  obtain ⟨g1, g2, g3⟩ := lay0 h
  unfold pX11_patience gX11_patience uX11_patience pX12_patience gX12_patience uX12_patience
  rcases tp_ok 0 rfl g1 g2 g3 with ⟨a1, a2, a3, a4, a5⟩ | ⟨a1, a2, a3, a4, a5, a6, n, b, du, e, hn1, hn, hdu, pc, bj, so, pt, h31, hb⟩
  · simp only [if_pos a1, if_pos a2]
    exact ⟨⟨a3, fun z => absurd a1 z⟩, ⟨a4, fun z => absurd a2 z⟩, trivial, σ, σ0, σ1, _, r0, r1, a5⟩
  · simp only [if_neg a1, if_neg a2]
    have w := RS_WR a5 a6
    generalize uX11_takePlanned μ 0 = M at a5 pc pt w ⊢
    generalize uX12_takesTickets (fm_i ν 0 0 0) = V at a5 a6 h31 hb w ⊢
    have hdu' : ∀ j, j < n → du j = σ 1 (14 * b j + 7) := fun j hj => by rw [hdu j hj, if_neg (fun z => z.1 rfl)]
    have bd := bd_P w hn (fun j hj => (hb j hj).1) (fun j hj => Or.inr (hdu' j hj))
    have s := se_c w
    have hw := (wr_hw w).2.1
    obtain ⟨t1, t2, t3⟩ := wr_T w
    rw [t1, s.1.1]
    obtain ⟨k1, k2, k3⟩ := ls_ok (L := σ 0 9) (T := σ 0 3) bd bj so hn1 (by omega) t3 pc pt
    obtain ⟨j1, j2, j3⟩ := pt_19 (L := σ 0 9) (T := σ 0 3) bd (by omega) (by omega) t3 199 fF V (by omega) (fF_gt (by omega)) t2 (dr_P w).2 (mh_P (du := du) w h31 (fun j hj => ⟨(hb j hj).1, (hb j hj).2.1, by rw [hdu' j hj]; exact (hb j hj).2.2⟩)) (fun d' h1 h2 => by
      have := h2 0 hn1
      have := (bd.2.2.1 0 hn1).1
      omega)
    exact ⟨⟨a3, fun _ => k1⟩, ⟨a4, fun _ => j1⟩, Pat_u k3 j3, σ, σ0, σ1, _, r0, r1, RS_p a5 (k2.mo (fun k j z => by unfold f50 at z; unfold f4z; omega) (fun _ _ z => z)) (j2.mo (fun k j z => by unfold fPa at z; unfold fMp; omega) (fun _ _ z => z))⟩
