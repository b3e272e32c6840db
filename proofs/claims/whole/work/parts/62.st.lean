def stD (σ : sg_T) (t d k : Nat) : Nat → Nat × Nat
  | 0 => (0, 0)
  | n + 1 => if σ 2 n = t ∧ σ 4 n ≤ d ∧ σ 5 n ≤ k ∧ (stD σ t d k n).2 ≤ σ 4 n then (σ 3 n, σ 4 n) else stD σ t d k n
theorem stD_bd {σ : sg_T} {t d k B : Nat} : ∀ (n : Nat), (∀ i, i < n → σ 3 i ≤ 5 ∧ σ 4 i ≤ B) → (stD σ t d k n).1 ≤ 5 ∧ (stD σ t d k n).2 ≤ B
  | 0, _ => ⟨Nat.zero_le _, Nat.zero_le _⟩
  | n + 1, h => by
    unfold stD
    split
    · exact h n (by omega)
    · exact stD_bd n (fun i hi => h i (by omega))
theorem stD_N {σ : sg_T} {t T : Nat} : ∀ (n : Nat), (∀ i, i < n → σ 4 i ≤ T ∧ σ 5 i ≤ T) → stD σ t T T n = stN σ t n
  | 0, _ => rfl
  | n + 1, h => by
    unfold stD stN
    rw [stD_N n (fun i hi => h i (by omega))]
    have := h n (by omega)
    by_cases a : σ 2 n = t ∧ (stN σ t n).2 ≤ σ 4 n
    · rw [if_pos a, if_pos ⟨a.1, this.1, this.2, a.2⟩]
    · rw [if_neg a, if_neg (fun z => a ⟨z.1, z.2.2.2⟩)]
section
variable {σ : sg_T} {μ ν : fm_T}
theorem stc_lp (w : WR σ (blk μ 8) (fL μ 25) (fI ν 2) (fL ν 5)) {t d k : Nat} (ht : t < 1000) (hd : d < 1000) (hk : k < 1000) : ∀ (c i n : Nat), i + c = σ 0 1 → c < n → lX8_standing_h9 n μ (nI t) (nI d) (nI k) (nI (stD σ t d k i).1) (nI (stD σ t d k i).2) (nI i) = nI (stD σ t d k (σ 0 1)).1 ∧ qX8_standing_h9 n μ (nI t) (nI d) (nI k) (nI (stD σ t d k i).1) (nI (stD σ t d k i).2) (nI i) := by
  obtain ⟨cN, mN, hN⟩ := wr_N w
  intro c
  induction c with
  | zero =>
    intro i n h1 h2
    obtain ⟨n, rfl⟩ : ∃ m, n = m + 1 := ⟨n - 1, by omega⟩
    obtain rfl : i = σ 0 1 := by omega
    have e : nI (σ 0 1) ≤ nI (σ 0 1) := (nI_leI (by omega) (by omega)).mpr (by omega)
    simp only [lX8_standing_h9, qX8_standing_h9, cN, if_pos e]
    exact ⟨trivial, fun z => absurd e z⟩
  | succ c ih =>
    intro i n h1 h2
    obtain ⟨n, rfl⟩ : ∃ m, n = m + 1 := ⟨n - 1, by omega⟩
    have e : ¬ nI (σ 0 1) ≤ nI i := fun z => by have := (nI_leI (by omega) (by omega)).mp z; omega
    obtain ⟨⟨c1, c2, c3, c4⟩, -, b1, b2, b3, b4, b5, b6⟩ := wr_n w (n := i) (by omega)
    have hS := (wr_S w).2.2
    have hT := (wr_T w).2.2
    have ihx := ih (i + 1) n (by omega) (by omega)
    have hb := stD_bd (σ := σ) (t := t) (d := d) (k := k) (B := 199) i (fun j hj => by obtain ⟨-, -, b1, b2, b3, b4, b5, b6⟩ := wr_n w (n := j) (by omega); omega)
    simp only [lX8_standing_h9, qX8_standing_h9, cN, if_neg e]
    rw [nI_clamp (by omega), c1, c2, c3, c4, nI_1]
    have k1 : (nI (σ 2 i) = nI t) ↔ σ 2 i = t := nI_eq (by omega) (by omega)
    have k2 : (nI k < nI (σ 5 i)) ↔ k < σ 5 i := nI_ltI (by omega) (by omega)
    have k3 : gX11_within μ (nI (σ 4 i)) (nI (stD σ t d k i).2) (nI d) = 0 ↔ ¬ (σ 4 i ≤ d ∧ (stD σ t d k i).2 ≤ σ 4 i) := by
      rw [wi_nI, nI_ltI (by omega) (by omega), nI_ltI (by omega) (by omega)]
      omega
    have v1 : vp_in (nI i) 240 := vp_in_nI (by omega) (by decide)
    simp only [k1, k2, k3]
    rw [stD] at ihx
    by_cases a : σ 2 i = t ∧ σ 4 i ≤ d ∧ σ 5 i ≤ k ∧ (stD σ t d k i).2 ≤ σ 4 i
    · rw [if_pos a] at ihx
      have a2 : ¬ k < σ 5 i := by omega
      have a3 : (σ 4 i ≤ d ∧ (stD σ t d k i).2 ≤ σ 4 i) := ⟨a.2.1, a.2.2.2⟩
      rw [if_pos a.1, if_neg a2, if_neg (fun z => z a3)]
      exact ⟨ihx.1, fun _ => ⟨v1, fun z => absurd a.1 z, fun _ => ⟨v1, fun z => absurd z a2, fun _ => ⟨v1, fun z => absurd a3 z, fun _ => ⟨v1, v1, ihx.2⟩⟩⟩⟩⟩
    · rw [if_neg a] at ihx
      refine ⟨?_, fun _ => ⟨v1, fun _ => ihx.2, fun a1 => ⟨v1, fun _ => ihx.2, fun a2 => ⟨v1, fun _ => ihx.2, fun a3 => absurd ⟨a1, ?_⟩ a⟩⟩⟩⟩
      · by_cases a1 : σ 2 i = t
        · rw [if_pos a1]
          by_cases a2 : k < σ 5 i
          · rw [if_pos a2]; exact ihx.1
          · rw [if_neg a2, if_pos (fun z => a ⟨a1, z.1, by omega, z.2⟩)]; exact ihx.1
        · rw [if_neg a1]; exact ihx.1
      · have := Classical.not_not.mp a3
        omega
theorem stm_lp (w : WR σ (blk μ 8) (fL μ 25) (fI ν 2) (fL ν 5)) {t d k : Nat} (ht : t < 1000) (hd : d < 1000) (hk : k < 1000) : ∀ (c i n : Nat) (x : Int32), i + c = σ 0 1 → c < n → (x = nI (stD σ t d k i).2 ∨ (x = -1 ∧ (stD σ t d k i).2 = 0)) → lX12_standsOn_h9 n ν (nI t) (nI d) (nI k) (nI (stD σ t d k i).1) x (nI i) = nI (stD σ t d k (σ 0 1)).1 ∧ qX12_standsOn_h9 n ν (nI t) (nI d) (nI k) (nI (stD σ t d k i).1) x (nI i) := by
  obtain ⟨cN, mN, hN⟩ := wr_N w
  intro c
  induction c with
  | zero =>
    intro i n x h1 h2 hx
    obtain ⟨n, rfl⟩ : ∃ m, n = m + 1 := ⟨n - 1, by omega⟩
    obtain rfl : i = σ 0 1 := by omega
    have e : nI (σ 0 1) ≤ nI (σ 0 1) := (nI_leI (by omega) (by omega)).mpr (by omega)
    simp only [lX12_standsOn_h9, qX12_standsOn_h9, mN, if_pos e]
    exact ⟨trivial, fun z => absurd e z⟩
  | succ c ih =>
    intro i n x h1 h2 hx
    obtain ⟨n, rfl⟩ : ∃ m, n = m + 1 := ⟨n - 1, by omega⟩
    have e : ¬ nI (σ 0 1) ≤ nI i := fun z => by have := (nI_leI (by omega) (by omega)).mp z; omega
    obtain ⟨-, ⟨m1, m2, m3⟩, b1, b2, b3, b4, b5, b6⟩ := wr_n w (n := i) (by omega)
    have hS := (wr_S w).2.2
    have hT := (wr_T w).2.2
    have hb := stD_bd (σ := σ) (t := t) (d := d) (k := k) (B := 199) i (fun j hj => by obtain ⟨-, -, b1, b2, b3, b4, b5, b6⟩ := wr_n w (n := j) (by omega); omega)
    have e1 : (640 : Int32) + (3 : Int32) * nI i = nI (640 + 3 * i) := by simp only [li_n, nI_mul, nI_add]
    have e2 : nI (640 + 3 * i) + 1 = nI (641 + 3 * i) := by rw [nI_1]; congr 1; omega
    have e3 : nI (640 + 3 * i) + 2 = nI (642 + 3 * i) := by rw [show (2 : Int32) = nI 2 from rfl, nI_add]; congr 1; omega
    have e4 : nI (8 * σ 2 i + σ 3 i) / 8 = nI (σ 2 i) := by rw [show (8 : Int32) = nI 8 from rfl, nI_div (by omega) (by omega) (by omega)]; congr 1; omega
    have e5 : nI (8 * σ 2 i + σ 3 i) - nI (σ 2 i) * 8 = nI (σ 3 i) := by rw [show (8 : Int32) = nI 8 from rfl, nI_mul, nI_sub (by omega)]; congr 1; omega
    simp only [lX12_standsOn_h9, qX12_standsOn_h9, mN, if_neg e, e1, e2, e3]
    rw [nI_clamp (by omega), nI_clamp (by omega), nI_clamp (by omega), m1, m2, m3, nI_1, e4, e5]
    have k1 : (nI (σ 2 i) = nI t) ↔ σ 2 i = t := nI_eq (by omega) (by omega)
    have k2 : (nI k < nI (σ 5 i)) ↔ k < σ 5 i := nI_ltI (by omega) (by omega)
    have k3 : (nI d < nI (σ 4 i)) ↔ d < σ 4 i := nI_ltI (by omega) (by omega)
    have k4 : x ≤ nI (σ 4 i) ↔ (stD σ t d k i).2 ≤ σ 4 i := by
      rcases hx with rfl | ⟨rfl, hx⟩
      · exact nI_leI (by omega) (by omega)
      · rw [le_ti, ti_m1, ti_nI (by omega)]
        omega
    have v1 : vp_in (nI (640 + 3 * i)) 2560 := vp_in_nI (by omega) (by decide)
    have v2 : vp_in (nI (641 + 3 * i)) 2560 := vp_in_nI (by omega) (by decide)
    have v3 : vp_in (nI (642 + 3 * i)) 2560 := vp_in_nI (by omega) (by decide)
    simp only [k1, k2, k3, k4]
    by_cases a : σ 2 i = t ∧ σ 4 i ≤ d ∧ σ 5 i ≤ k ∧ (stD σ t d k i).2 ≤ σ 4 i
    · have ihx := ih (i + 1) n (nI (σ 4 i)) (by omega) (by omega) (Or.inl (by rw [stD, if_pos a]))
      rw [stD, if_pos a] at ihx
      have a2 : ¬ k < σ 5 i := by omega
      have a3 : ¬ d < σ 4 i := by omega
      rw [if_pos a.1, if_neg a3, if_neg a2, if_pos a.2.2.2]
      exact ⟨ihx.1, fun _ => ⟨v1, fun z => absurd a.1 z, fun _ => ⟨v2, fun z => absurd z a3, fun _ => ⟨v3, fun z => absurd z a2, fun _ => ⟨v2, fun _ => ⟨v2, v1, ihx.2⟩, fun z => absurd a.2.2.2 z⟩⟩⟩⟩⟩
    · have ihx := ih (i + 1) n x (by omega) (by omega) (by rw [stD, if_neg a]; exact hx)
      rw [stD, if_neg a] at ihx
      refine ⟨?_, fun _ => ⟨v1, fun _ => ihx.2, fun a1 => ⟨v2, fun _ => ihx.2, fun a2 => ⟨v3, fun _ => ihx.2, fun a3 => ⟨v2, fun a4 => absurd ⟨a1, by omega, by omega, a4⟩ a, fun _ => ihx.2⟩⟩⟩⟩⟩
      by_cases a1 : σ 2 i = t
      · rw [if_pos a1]
        by_cases a2 : d < σ 4 i
        · rw [if_pos a2]; exact ihx.1
        · rw [if_neg a2]
          by_cases a3 : k < σ 5 i
          · rw [if_pos a3]; exact ihx.1
          · rw [if_neg a3, if_neg (fun z => a ⟨a1, by omega, by omega, z⟩)]; exact ihx.1
      · rw [if_neg a1]; exact ihx.1
theorem st_c (w : WR σ (blk μ 8) (fL μ 25) (fI ν 2) (fL ν 5)) {t d k : Nat} (ht : t < 1000) (hd : d < 1000) (hk : k < 1000) : gX8_standing μ (nI t) (nI d) (nI k) = nI (stD σ t d k (σ 0 1)).1 ∧ pX8_standing μ (nI t) (nI d) (nI k) := stc_lp w ht hd hk (σ 0 1) 0 fF (by omega) (fF_gt (by have := (wr_N w).2.2; omega))
theorem st_m (w : WR σ (blk μ 8) (fL μ 25) (fI ν 2) (fL ν 5)) {t d k : Nat} (ht : t < 1000) (hd : d < 1000) (hk : k < 1000) : gX12_standsOn ν (nI t) (nI d) (nI k) = nI (stD σ t d k (σ 0 1)).1 ∧ pX12_standsOn ν (nI t) (nI d) (nI k) := stm_lp w ht hd hk (σ 0 1) 0 fF (-1) (by omega) (fF_gt (by have := (wr_N w).2.2; omega)) (Or.inr ⟨rfl, rfl⟩)
theorem st_now (w : WR σ (blk μ 8) (fL μ 25) (fI ν 2) (fL ν 5)) {t : Nat} (ht : t < σ 0 0) : gX12_standsNow ν (nI t) = nI (σ 1 (14 * t + 12)) ∧ pX12_standsNow ν (nI t) ∧ σ 1 (14 * t + 12) ≤ 5 := by
  obtain ⟨-, mT, hT⟩ := wr_T w
  have hS := (wr_S w).2.2
  obtain ⟨a1, a2⟩ := st_m w (t := t) (d := σ 0 3) (k := σ 0 3) (by omega) (by omega) (by omega)
  have e := stD_N (σ := σ) (t := t) (T := σ 0 3) (σ 0 1) (fun i hi => by obtain ⟨-, -, b1, b2, b3, b4, b5, b6⟩ := wr_n w hi; omega)
  have hb := stD_bd (σ := σ) (t := t) (d := σ 0 3) (k := σ 0 3) (B := 199) (σ 0 1) (fun j hj => by obtain ⟨-, -, b1, b2, b3, b4, b5, b6⟩ := wr_n w hj; omega)
  have f : σ 1 (14 * t + 12) = (stN σ t (σ 0 1)).1 := (w.2.2.1.2.1 t ht).2.2.1
  unfold gX12_standsNow pX12_standsNow gX12_today
  rw [mT, f, ← e]
  exact ⟨a1, a2, hb.1⟩
end
theorem ok_stands : ob_stands RR := by
  rintro μ ν x1 x2 x3 ⟨σ, σ0, σ1, ρ, r0, r1, h⟩
  obtain ⟨g1, g2, g3⟩ := lay0 h
  generalize hν : uX12_lay (fm_i ν 0 0 0) = ν1 at g2 g3
  have w := RS_WR g2 g3
  obtain ⟨cS, mS, hS⟩ := wr_S w
  have hT := isT (x := x1) (by omega) cS mS
  unfold pX11_stands pX12_stands gX11_stands gX12_stands uX12_stands gX11_isDay
  rw [hν]
  simp only [isI (μ := μ), hT, ite_self]
  by_cases h1 : gX11_isTicket μ x1 = 0
  · simp only [if_pos h1]
    exact ⟨⟨wi_01 _ _ _ _, fun z => absurd h1 z⟩, ⟨g1, fun z => absurd h1 z⟩, trivial, σ, σ0, σ1, ρ, r0, r1, g2⟩
  by_cases h2 : gX11_within μ x2 0 199 = 0
  · simp only [if_neg h1, if_pos h2]
    exact ⟨⟨wi_01 _ _ _ _, fun _ => ⟨wi_01 _ _ _ _, fun z => absurd h2 z⟩⟩, ⟨g1, fun _ z => absurd h2 z⟩, trivial, σ, σ0, σ1, ρ, r0, r1, g2⟩
  by_cases h3 : gX11_within μ x3 0 199 = 0
  · simp only [if_neg h1, if_neg h2, if_pos h3]
    exact ⟨⟨wi_01 _ _ _ _, fun _ => ⟨wi_01 _ _ _ _, fun _ => ⟨wi_01 _ _ _ _, fun z => absurd h3 z⟩⟩⟩, ⟨g1, fun _ _ z => absurd h3 z⟩, trivial, σ, σ0, σ1, ρ, r0, r1, g2⟩
  simp only [if_neg h1, if_neg h2, if_neg h3]
  obtain ⟨t, ht, rfl⟩ := isT_of (by omega) cS h1
  obtain ⟨d, hd, rfl⟩ := wi_of (n := 199) (by decide) h2
  obtain ⟨k, hk, rfl⟩ := wi_of (n := 199) (by decide) h3
  have o1 : gX8_of μ (nI t) 6 = nI (σ 1 (14 * t + 6)) ∧ pX8_of μ (nI t) 6 := of_c w (j := 6) ht (by omega)
  have o2 : gX12_of ν1 (nI t) 6 = nI (σ 1 (14 * t + 6)) ∧ pX12_of ν1 (nI t) 6 := of_m w (j := 6) ht (by omega)
  have s1 := st_c w (t := t) (d := d) (k := k) (by omega) (by omega) (by omega)
  have s2 := st_m w (t := t) (d := d) (k := k) (by omega) (by omega) (by omega)
  rw [o1.1, o2.1, s1.1, s2.1]
  exact ⟨⟨wi_01 _ _ _ _, fun _ => ⟨wi_01 _ _ _ _, fun _ => ⟨wi_01 _ _ _ _, fun _ => ⟨o1.2, fun _ _ => s1.2⟩⟩⟩⟩, ⟨g1, fun _ _ _ => ⟨o2.2, fun _ => ⟨o2.2, fun _ => s2.2⟩⟩⟩, rfl, σ, σ0, σ1, ρ, r0, r1, g2⟩
