section
variable {σ : sg_T} {μ ν : fm_T}
theorem hf_lf {st i n : Nat} {x t T : Int32} {y : Nat} {b : Nat} (cst : fI μ 36 3 = nI st) (hst : st ≤ 40) (hi : i < st) (hk : (fI μ 37 i).toInt < 10 ∨ 12 < (fI μ 37 i).toInt) (hb : b ≤ 1) (ht : gX5_isTrue μ (nI i) t T = nI b) (hp : pX5_isTrue μ (nI i) t T) : lX5_holdsFor_h6 (n + 1) μ t T (nI y) (nI i) = lX5_holdsFor_h6 n μ t T (nI (2 * y + b)) (nI (i + 1)) ∧ (qX5_holdsFor_h6 n μ t T (nI (2 * y + b)) (nI (i + 1)) → qX5_holdsFor_h6 (n + 1) μ t T (nI y) (nI i)) := by
  have e : ¬ nI st ≤ nI i := fun z => by have := (nI_leI (by omega) (by omega)).mp z; omega
  have a10 : ¬ (fI μ 37 i).toInt = 10 := by omega
  have a11 : ¬ (fI μ 37 i).toInt = 11 := by omega
  have a12 : ¬ (fI μ 37 i).toInt = 12 := by omega
  have vi : vp_in (nI i) 40 := vp_in_nI (by omega) (by decide)
  simp only [lX5_holdsFor_h6, qX5_holdsFor_h6, cst, if_neg e, ht]
  rw [nI_clamp (by omega), if_neg a10, if_neg a11, if_neg a12, nI_1]
  have : b = 0 ∨ b = 1 := by omega
  rcases this with rfl | rfl
  · have p : (nI y <<< ((1 : Int32) &&& 31)) ||| 0 = nI (2 * y + 0) := bs_psh (b := 0) (by omega)
    have n0 : nI 0 = 0 := rfl
    rw [if_pos n0, p]
    exact ⟨rfl, fun q _ => ⟨vi, fun z => absurd z a10, fun z => absurd z a11, fun z => absurd z a12, fun _ => ⟨hp, fun _ => q, fun z => absurd n0 z⟩⟩⟩
  · have p : (nI y <<< ((1 : Int32) &&& 31)) ||| 1 = nI (2 * y + 1) := bs_psh (b := 1) (by omega)
    have n1 : ¬ nI 1 = 0 := by decide
    rw [if_neg n1, p]
    exact ⟨rfl, fun q _ => ⟨vi, fun z => absurd z a10, fun z => absurd z a11, fun z => absurd z a12, fun _ => ⟨hp, fun z => absurd z n1, fun _ => q⟩⟩⟩
theorem hf_op {st i n : Nat} {t T : Int32} {y y' : Nat} {o : Nat} (cst : fI μ 36 3 = nI st) (hst : st ≤ 40) (hi : i < st) (ho : (o = 10 ∧ (nI y >>> ((1 : Int32) &&& 31)) ||| (nI y &&& (1 : Int32)) = nI y') ∨ (o = 11 ∧ (nI y >>> ((1 : Int32) &&& 31)) &&& (((-2) : Int32) ||| (nI y &&& (1 : Int32))) = nI y') ∨ (o = 12 ∧ nI y ^^^ (1 : Int32) = nI y')) (hk : (fI μ 37 i).toInt = (o : Int)) : lX5_holdsFor_h6 (n + 1) μ t T (nI y) (nI i) = lX5_holdsFor_h6 n μ t T (nI y') (nI (i + 1)) ∧ (qX5_holdsFor_h6 n μ t T (nI y') (nI (i + 1)) → qX5_holdsFor_h6 (n + 1) μ t T (nI y) (nI i)) := by
  have e : ¬ nI st ≤ nI i := fun z => by have := (nI_leI (by omega) (by omega)).mp z; omega
  have vi : vp_in (nI i) 40 := vp_in_nI (by omega) (by decide)
  simp only [lX5_holdsFor_h6, qX5_holdsFor_h6, cst, if_neg e]
  rw [nI_clamp (by omega), hk, nI_1]
  rcases ho with ⟨rfl, ho⟩ | ⟨rfl, ho⟩ | ⟨rfl, ho⟩
  · rw [if_pos (by decide), ho]
    exact ⟨rfl, fun q _ => ⟨vi, fun _ => q, fun z => absurd z (by decide), fun z => absurd z (by decide), fun z => absurd z (by decide)⟩⟩
  · rw [if_neg (by decide), if_pos (by decide), ho]
    exact ⟨rfl, fun q _ => ⟨vi, fun z => absurd z (by decide), fun _ => q, fun z => absurd z (by decide), fun z => absurd z (by decide)⟩⟩
  · rw [if_neg (by decide), if_neg (by decide), if_pos (by decide), ho]
    exact ⟨rfl, fun q _ => ⟨vi, fun z => absurd z (by decide), fun z => absurd z (by decide), fun _ => q, fun z => absurd z (by decide)⟩⟩
theorem ev_ok (w : WR σ (blk μ 8) (fL μ 25) (fI ν 2) (fL ν 5)) {t st n2 : Nat} (ht : t < σ 0 0) (cst : fI μ 36 3 = nI st) (hst : st ≤ 40) : ∀ (f i j k : Nat), TG f (fun k => blk μ 8 (28 + k)) (fI ν 2) i j k n2 → j ≤ st → ∀ (F d : Nat), f ≤ F → ∃ b : Nat, b ≤ 1 ∧ guX12_isSo F d ν (nI k) (nI t) = nI b ∧ puX12_isSo F d ν (nI k) (nI t) ∧ ∀ (m x n : Nat), x < 2 ^ m → m + (j - i + 1) / 2 ≤ 28 → lX5_holdsFor_h6 (n + (j - i)) μ (nI t) (nI (σ 0 3)) (nI x) (nI i) = lX5_holdsFor_h6 n μ (nI t) (nI (σ 0 3)) (nI (2 * x + b)) (nI j) ∧ (qX5_holdsFor_h6 n μ (nI t) (nI (σ 0 3)) (nI (2 * x + b)) (nI j) → qX5_holdsFor_h6 (n + (j - i)) μ (nI t) (nI (σ 0 3)) (nI x) (nI i)) := by
  intro f
  induction f with
  | zero => intro i j k h; exact absurd h (fun z => z)
  | succ f ih =>
    intro i j k h hj F d hF
    obtain ⟨F, rfl⟩ : ∃ m, F = m + 1 := ⟨F - 1, by omega⟩
    obtain ⟨hk, hij, h⟩ := h
    have lf : ∀ (e : j = i + 1) (hl : lfR μ ν i k), ∃ b : Nat, b ≤ 1 ∧ guX12_isSo (F + 1) d ν (nI k) (nI t) = nI b ∧ puX12_isSo (F + 1) d ν (nI k) (nI t) ∧ ∀ (m x n : Nat), x < 2 ^ m → m + (j - i + 1) / 2 ≤ 28 → lX5_holdsFor_h6 (n + (j - i)) μ (nI t) (nI (σ 0 3)) (nI x) (nI i) = lX5_holdsFor_h6 n μ (nI t) (nI (σ 0 3)) (nI (2 * x + b)) (nI j) ∧ (qX5_holdsFor_h6 n μ (nI t) (nI (σ 0 3)) (nI (2 * x + b)) (nI j) → qX5_holdsFor_h6 (n + (j - i)) μ (nI t) (nI (σ 0 3)) (nI x) (nI i)) := by
      intro e hl
      subst e
      obtain ⟨q1, b, hb, q2, q3, q4, q5⟩ := lf_ok w (f := F) (d := d) ht (by omega) hk hl
      refine ⟨b, hb, q3, q5, fun m x n _ _ => ?_⟩
      rw [show n + (i + 1 - i) = n + 1 by omega]
      exact hf_lf (x := 0) cst hst (by omega) q1 hb q2 q4
    obtain ⟨e1, e2, e3, e4⟩ := nd_e (k := k)
    have v0 : vp_in (nI (2000 + 4 * k)) 2560 := vp_in_nI (by omega) (by decide)
    have v1 : vp_in (nI (2001 + 4 * k)) 2560 := vp_in_nI (by omega) (by decide)
    have v2 : vp_in (nI (2002 + 4 * k)) 2560 := vp_in_nI (by omega) (by decide)
    rcases h with ⟨e, u, v, q, h1⟩ | ⟨e, v, h1⟩ | ⟨e, v, h1⟩ | ⟨e, h1⟩ | ⟨e, h1⟩ | ⟨k1, hk1, h1, h2, h3, h4⟩ | ⟨k1, k2, m1, hk1, hk2, h1, h2, h3, h4, h5, h6⟩ | ⟨k1, k2, m1, hk1, hk2, h1, h2, h3, h4, h5, h6⟩
    · exact lf e (Or.inl ⟨u, v, q, h1⟩)
    · exact lf e (Or.inr (Or.inl ⟨v, h1⟩))
    · exact lf e (Or.inr (Or.inr (Or.inl ⟨v, h1⟩)))
    · exact lf e (Or.inr (Or.inr (Or.inr (Or.inl h1))))
    · exact lf e (Or.inr (Or.inr (Or.inr (Or.inr h1))))
    · obtain ⟨b, hb, g1, g2, g3⟩ := ih i (j - 1) k1 h4 (by omega) F 0 (by omega)
      have hij1 : i < j - 1 := by
        cases f with
        | zero => exact absurd h4 (fun z => z)
        | succ f => exact h4.2.1
      refine ⟨1 - b, by omega, ?_, ?_, fun m x n hx hm => ?_⟩
      · simp only [guX12_isSo]
        unfold gX12_isSo
        rw [e1, e2, nI_clamp (by omega), nI_clamp (by omega), h2, h3, g1, if_pos (by decide)]
        have : b = 0 ∨ b = 1 := by omega
        rcases this with rfl | rfl <;> rfl
      · simp only [puX12_isSo]
        unfold pX12_isSo
        rw [e1, e2, nI_clamp (by omega), nI_clamp (by omega), h2, h3]
        exact ⟨v0, fun _ => ⟨v1, g2⟩, fun z => absurd z (by decide), fun z => absurd z (by decide), fun z => absurd z (by decide), fun z => absurd z (by decide), fun z => absurd z (by decide), fun z => absurd z (by decide), fun z => absurd z (by decide), fun z => absurd z (by decide)⟩
      · obtain ⟨y1, y2⟩ := g3 m x (n + 1) hx (by omega)
        obtain ⟨z1, z2⟩ := hf_op (μ := μ) (i := j - 1) (n := n) (t := nI t) (T := nI (σ 0 3)) (y := 2 * x + b) (y' := 2 * x + (1 - b)) (o := 12) cst hst (by omega) (Or.inr (Or.inr ⟨rfl, bs_not hb⟩)) (by show (fI μ 37 (j - 1)).toInt = 12; rw [show fI μ 37 (j - 1) = 12 from h1]; rfl)
        rw [show n + (j - i) = n + 1 + (j - 1 - i) by omega, show (nI j) = nI (j - 1 + 1) by congr 1; omega]
        exact ⟨y1.trans z1, fun q => y2 (z2 q)⟩
    · obtain ⟨b, hb, g1, g2, g3⟩ := ih i m1 k1 h5 (by
        cases f with
        | zero => exact absurd h6 (fun z => z)
        | succ f => have := h6.2.1; omega) F 0 (by omega)
      obtain ⟨b', hb', g1', g2', g3'⟩ := ih m1 (j - 1) k2 h6 (by omega) F 0 (by omega)
      have hi1 : i < m1 ∧ m1 < j - 1 := by
        cases f with
        | zero => exact absurd h6 (fun z => z)
        | succ f => exact ⟨h5.2.1, h6.2.1⟩
      refine ⟨min b b', by omega, ?_, ?_, fun m x n hx hm => ?_⟩
      · simp only [guX12_isSo]
        unfold gX12_isSo
        rw [e1, e2, e3, nI_clamp (by omega), nI_clamp (by omega), nI_clamp (by omega), h2, h3, h4, g1, g1', if_neg (by decide), if_pos (by decide)]
        have : b = 0 ∨ b = 1 := by omega
        have : b' = 0 ∨ b' = 1 := by omega
        rcases ‹b = 0 ∨ b = 1› with rfl | rfl <;> rcases ‹b' = 0 ∨ b' = 1› with rfl | rfl <;> rfl
      · simp only [puX12_isSo]
        unfold pX12_isSo
        rw [e1, e2, e3, nI_clamp (by omega), nI_clamp (by omega), nI_clamp (by omega), h2, h3, h4]
        exact ⟨v0, fun z => absurd z (by decide), fun _ => ⟨v1, g2, fun _ => ⟨v2, g2'⟩⟩, fun z => absurd z (by decide), fun z => absurd z (by decide), fun z => absurd z (by decide), fun z => absurd z (by decide), fun z => absurd z (by decide), fun z => absurd z (by decide), fun z => absurd z (by decide)⟩
      · have hx2 : x < 2 ^ 28 := Nat.lt_of_lt_of_le hx (Nat.pow_le_pow_right (by omega) (by omega))
        obtain ⟨y1, y2⟩ := g3 m x (n + 1 + (j - 1 - m1)) hx (by omega)
        obtain ⟨y1', y2'⟩ := g3' (m + 1) (2 * x + b) (n + 1) (by rw [Nat.pow_succ]; omega) (by omega)
        obtain ⟨z1, z2⟩ := hf_op (μ := μ) (i := j - 1) (n := n) (t := nI t) (T := nI (σ 0 3)) (y := 2 * (2 * x + b) + b') (y' := 2 * x + min b b') (o := 11) cst hst (by omega) (Or.inr (Or.inl ⟨rfl, bs_and (by omega) hb hb'⟩)) (by show (fI μ 37 (j - 1)).toInt = 11; rw [show fI μ 37 (j - 1) = 11 from h1]; rfl)
        rw [show n + (j - i) = n + 1 + (j - 1 - m1) + (m1 - i) by omega, show (nI j) = nI (j - 1 + 1) by congr 1; omega]
        exact ⟨(y1.trans y1').trans z1, fun q => y2 (y2' (z2 q))⟩
    · obtain ⟨b, hb, g1, g2, g3⟩ := ih i m1 k1 h5 (by
        cases f with
        | zero => exact absurd h6 (fun z => z)
        | succ f => have := h6.2.1; omega) F 0 (by omega)
      obtain ⟨b', hb', g1', g2', g3'⟩ := ih m1 (j - 1) k2 h6 (by omega) F 0 (by omega)
      have hi1 : i < m1 ∧ m1 < j - 1 := by
        cases f with
        | zero => exact absurd h6 (fun z => z)
        | succ f => exact ⟨h5.2.1, h6.2.1⟩
      refine ⟨max b b', by omega, ?_, ?_, fun m x n hx hm => ?_⟩
      · simp only [guX12_isSo]
        unfold gX12_isSo
        rw [e1, e2, e3, nI_clamp (by omega), nI_clamp (by omega), nI_clamp (by omega), h2, h3, h4, g1, g1', if_neg (by decide), if_neg (by decide), if_pos (by decide)]
        have : b = 0 ∨ b = 1 := by omega
        have : b' = 0 ∨ b' = 1 := by omega
        rcases ‹b = 0 ∨ b = 1› with rfl | rfl <;> rcases ‹b' = 0 ∨ b' = 1› with rfl | rfl <;> rfl
      · simp only [puX12_isSo]
        unfold pX12_isSo
        rw [e1, e2, e3, nI_clamp (by omega), nI_clamp (by omega), nI_clamp (by omega), h2, h3, h4]
        exact ⟨v0, fun z => absurd z (by decide), fun z => absurd z (by decide), fun _ => ⟨v1, g2, fun _ => ⟨v2, g2'⟩⟩, fun z => absurd z (by decide), fun z => absurd z (by decide), fun z => absurd z (by decide), fun z => absurd z (by decide), fun z => absurd z (by decide), fun z => absurd z (by decide)⟩
      · have hx2 : x < 2 ^ 28 := Nat.lt_of_lt_of_le hx (Nat.pow_le_pow_right (by omega) (by omega))
        obtain ⟨y1, y2⟩ := g3 m x (n + 1 + (j - 1 - m1)) hx (by omega)
        obtain ⟨y1', y2'⟩ := g3' (m + 1) (2 * x + b) (n + 1) (by rw [Nat.pow_succ]; omega) (by omega)
        obtain ⟨z1, z2⟩ := hf_op (μ := μ) (i := j - 1) (n := n) (t := nI t) (T := nI (σ 0 3)) (y := 2 * (2 * x + b) + b') (y' := 2 * x + max b b') (o := 10) cst hst (by omega) (Or.inl ⟨rfl, bs_or (by omega) hb hb'⟩) (by show (fI μ 37 (j - 1)).toInt = 10; rw [show fI μ 37 (j - 1) = 10 from h1]; rfl)
        rw [show n + (j - i) = n + 1 + (j - 1 - m1) + (m1 - i) by omega, show (nI j) = nI (j - 1 + 1) by congr 1; omega]
        exact ⟨(y1.trans y1').trans z1, fun q => y2 (y2' (z2 q))⟩
theorem hs_ok (w : WR σ (blk μ 8) (fL μ 25) (fI ν 2) (fL ν 5)) {t st tp n2 : Nat} (ht : t < σ 0 0) (cst : fI μ 36 3 = nI st) (hst : st ≤ 40) (htg : TG 61 (fun k => blk μ 8 (28 + k)) (fI ν 2) 0 st tp n2) : gX5_holdsFor μ (nI t) (nI (σ 0 3)) = guX12_isSo fD 0 ν (nI tp) (nI t) ∧ pX5_holdsFor μ (nI t) (nI (σ 0 3)) ∧ puX12_isSo fD 0 ν (nI tp) (nI t) := by
  obtain ⟨b, hb, g1, g2, g3⟩ := ev_ok w ht cst hst 61 0 st tp htg (by omega) fD 0 (by rw [fD_eq]; omega)
  have hF : st + 1 < fF := fF_gt (by omega)
  obtain ⟨n, hn⟩ : ∃ n, fF = n + 1 + (st - 0) := ⟨fF - (st + 1), by omega⟩
  obtain ⟨y1, y2⟩ := g3 0 0 (n + 1) (by decide) (by omega)
  have e : nI st ≤ nI st := (nI_leI (by omega) (by omega)).mpr (by omega)
  unfold gX5_holdsFor pX5_holdsFor
  rw [hn, g1]
  refine ⟨y1.trans ?_, y2 ?_, g2⟩
  · simp only [lX5_holdsFor_h6, cst, if_pos e]
    rw [bs_1 hb]
    have : b = 0 ∨ b = 1 := by omega
    rcases this with rfl | rfl <;> rfl
  · simp only [qX5_holdsFor_h6, cst]
    exact fun z => absurd e z
theorem mt_lp (w : WR σ (blk μ 8) (fL μ 25) (fI ν 2) (fL ν 5)) {st tp n2 : Nat} (cst : fI μ 36 3 = nI st) (hst : st ≤ 40) (mtp : fI ν 2 136 = nI tp) (htg : TG 61 (fun k => blk μ 8 (28 + k)) (fI ν 2) 0 st tp n2) (y : Int32) : ∀ (c i n n' : Nat) (x : Int32), i + c = σ 0 0 → c < n → c < n' → lX11_meets_h24 n μ y x (nI i) = lX12_meets_h31 n' ν y x (nI i) ∧ qX11_meets_h24 n μ y x (nI i) ∧ qX12_meets_h31 n' ν y x (nI i) := by
  obtain ⟨cN, mN, hN⟩ := wr_S w
  have cT := (wr_T w).1
  intro c
  induction c with
  | zero =>
    intro i n n' x h1 h2 h3
    obtain ⟨n, rfl⟩ : ∃ m, n = m + 1 := ⟨n - 1, by omega⟩
    obtain ⟨n', rfl⟩ : ∃ m, n' = m + 1 := ⟨n' - 1, by omega⟩
    have e : nI (σ 0 0) ≤ nI i := (nI_leI (by omega) (by omega)).mpr (by omega)
    simp only [lX11_meets_h24, lX12_meets_h31, qX11_meets_h24, qX12_meets_h31, gX12_tickets, cN, mN, if_pos e]
    exact ⟨trivial, fun z => absurd e z, fun z => absurd e z⟩
  | succ c ih =>
    intro i n n' x h1 h2 h3
    obtain ⟨n, rfl⟩ : ∃ m, n = m + 1 := ⟨n - 1, by omega⟩
    obtain ⟨n', rfl⟩ : ∃ m, n' = m + 1 := ⟨n' - 1, by omega⟩
    have e : ¬ nI (σ 0 0) ≤ nI i := fun z => by have := (nI_leI (by omega) (by omega)).mp z; omega
    obtain ⟨f1, f2, f3⟩ := hs_ok w (t := i) (by omega) cst hst htg
    have ihx := ih (i + 1) n n' x (by omega) (by omega) (by omega)
    have ihy := ih (i + 1) n n' (x + 1) (by omega) (by omega) (by omega)
    simp only [lX11_meets_h24, lX12_meets_h31, qX11_meets_h24, qX12_meets_h31, gX12_tickets, cN, mN, cT, mtp, if_neg e, nI_1, f1, ihx.1, ihy.1]
    exact ⟨trivial, fun _ => ⟨f2, fun _ => ihx.2.1, fun _ _ => ihy.2.1⟩, fun _ => ⟨f3, fun _ _ => ihy.2.2, fun _ => ihx.2.2⟩⟩
end
theorem ok_meets : ob_meets RR := by
  rintro μ ν x1 ⟨σ, σ0, σ1, ρ, r0, r1, h⟩
  obtain ⟨g1, g2, g3⟩ := lay0 h
  generalize hν : uX12_lay (fm_i ν 0 0 0) = ν1 at g2 g3
  have w := RS_WR g2 g3
  obtain ⟨cS, mS, hS⟩ := wr_S w
  obtain ⟨so, st, tp, c1, c2, b1, b2, hr⟩ := w.2.2.2
  have c1 : fI μ 36 4 = nI so := c1
  have c2 : fI μ 36 3 = nI st := c2
  unfold pX11_meets pX12_meets gX11_meets gX12_meets uX12_meets
  rw [hν]
  simp only [ite_self]
  rcases hr with ⟨rfl, m1⟩ | ⟨h0, m1, m2, htg⟩
  · have q1 : fI μ 36 4 = 0 := c1
    simp only [if_pos q1, if_pos m1]
    exact ⟨fun z => absurd q1 z, ⟨g1, fun z => absurd m1 z⟩, trivial, σ, σ0, σ1, ρ, r0, r1, g2⟩
  · have q1 : ¬ fI μ 36 4 = 0 := by rw [c1]; exact fun z => h0 (nI_inj (b := 0) (by omega) (by decide) z)
    have q2 : ¬ fI ν1 2 135 = 0 := by rw [m1]; decide
    obtain ⟨e1, e2, e3⟩ := mt_lp w c2 b2 m2 htg x1 (σ 0 0) 0 fF fF 0 (by omega) (fF_gt (by omega)) (fF_gt (by omega))
    have e1 : lX11_meets_h24 fF μ x1 0 0 = lX12_meets_h31 fF ν1 x1 0 0 := e1
    simp only [if_neg q1, if_neg q2, e1]
    exact ⟨fun _ _ => e2, ⟨g1, fun _ _ => e3⟩, trivial, σ, σ0, σ1, ρ, r0, r1, g2⟩
