def pdB (M t a : Nat) : Bool := (!M.testBit a || (((M - pdp M t).testBit a == !t.testBit (rk M a)) && decide (rk M a < rk M 6) && (t.testBit (rk M a) || (decide (pdp M (t + 2 ^ rk M a) = pdp M t + 2 ^ a) && decide (t + 2 ^ rk M a < 2 ^ rk M 6) && decide (M - (pdp M t + 2 ^ a) = M - pdp M t - 2 ^ a))))) && (!(M - pdp M t).testBit a || M.testBit a) && (pdp M t &&& (63 - M) == 0)
theorem pdB_ok : ∀ M, M < 64 → ∀ t, t < 2 ^ rk M 6 → ∀ a, a < 6 → pdB M t a = true := by decide +kernel
theorem pd_R {M t a : Nat} (hM : M < 64) (ht : t < 2 ^ rk M 6) (ha : a < 6) : (M.testBit a = true → (M - pdp M t).testBit a = (!t.testBit (rk M a)) ∧ rk M a < rk M 6 ∧ (t.testBit (rk M a) = false → pdp M (t + 2 ^ rk M a) = pdp M t + 2 ^ a ∧ t + 2 ^ rk M a < 2 ^ rk M 6 ∧ M - (pdp M t + 2 ^ a) = M - pdp M t - 2 ^ a)) ∧ ((M - pdp M t).testBit a = true → M.testBit a = true) ∧ pdp M t &&& (63 - M) = 0 := by
  have q := pdB_ok M hM t ht a ha
  unfold pdB at q
  simp only [Bool.and_eq_true, Bool.or_eq_true, beq_iff_eq, decide_eq_true_eq, Bool.not_eq_true'] at q
  obtain ⟨⟨q1, q2⟩, q3⟩ := q
  refine ⟨fun m => ?_, fun r => ?_, q3⟩
  · rcases q1 with q1 | q1
    · rw [m] at q1; exact absurd q1 (by decide)
    · refine ⟨q1.1.1, q1.1.2, fun z => ?_⟩
      rcases q1.2 with w | w
      · rw [z] at w; exact absurd w (by decide)
      · exact ⟨w.1.1, w.1.2, w.2⟩
  · rcases q2 with q2 | q2
    · rw [r] at q2; exact absurd q2 (by decide)
    · exact q2
def bst (z : Int64) (b : Nat) : Prop := (z = -1 ∧ b = 1000000000000000000) ∨ (z = lN b ∧ b < 1000000000000000000)
def VQ (M N : Nat) (B : Nat → Int64) (g : Nat → Nat → Int64) (c : Nat → Nat) (V : fm_T) : Prop := (N ≤ 6 ∧ fI V 0 46 = nI (rk M 6) ∧ fI V 2 0 = nI N ∧ ∀ x, x < N → (fI V 1 x).toInt64 = B x) ∧ (∀ a, a < 6 → M.testBit a = true → fI V 24 (rk M a) = nI a ∧ fI V 2 (10 + 8 * a) = nI (c a)) ∧ ∀ x, x < N → ∀ a, a < 6 → M.testBit a = true → ((20 : Int32) - gX12_chanceOf V (nI a) (nI x)).toInt64 = g x a ∧ pX12_chanceOf V (nI a) (nI x)
def tA (d k j : Nat) : Prop := k = 23 ∨ (k = 22 ∧ d ≤ j)
def tB (k j : Nat) : Prop := k = 0 ∧ j = 44
theorem VQ_fr {M N d : Nat} {B : Nat → Int64} {g : Nat → Nat → Int64} {c : Nat → Nat} {V V' : fm_T} (h : VQ M N B g c V) (f : frL (tA d) tB V V') : VQ M N B g c V' := by
  obtain ⟨⟨h1, h2, h3, h4⟩, h5, h6⟩ := h
  have G : ∀ k j, k ≠ 22 → k ≠ 23 → fI V' k j = fI V k j := fun k j q1 q2 => f.2.2.2 k j (by unfold tA; omega)
  refine ⟨⟨h1, (G 0 46 (by omega) (by omega)).trans h2, (G 2 0 (by omega) (by omega)).trans h3, fun x hx => by rw [G 1 x (by omega) (by omega)]; exact h4 x hx⟩, fun a ha t => ⟨(G 24 _ (by omega) (by omega)).trans (h5 a ha t).1, (G 2 _ (by omega) (by omega)).trans (h5 a ha t).2⟩, fun x hx a ha t => ?_⟩
  unfold gX12_chanceOf
  rw [G 2 _ (by omega) (by omega)]
  exact h6 x hx a ha t
theorem lf_lp {M N m d : Nat} {B : Nat → Int64} {g : Nat → Nat → Int64} {c : Nat → Nat} {V : fm_T} (r : Nat → fm_T → Int32 → Int32 → Int64 → fm_T) (rp : Nat → fm_T → Int32 → Int32 → Int64 → Prop) (hd : d ≤ 6) (hp : ∀ j, j < d → ∃ i, i < 6 ∧ fI V 22 j = nI i) (x2 : Int32) (y3 : Int64) : ∀ (k j n : Nat) (V' : fm_T), j + k = d → k < n → frL (fun k _ => k = 23) tB V V' → (∀ i, i < j → fI V' 23 i = fI V 24 (fI V 22 i).toNatClampNeg) → qX12_tryOrder_h54 r rp n V' (nI d) x2 y3 (nI j) ∧ frL (fun k _ => k = 23) (fun _ _ => False) V' (mX12_tryOrder_h54 r n V' (nI d) x2 y3 (nI j)) ∧ ∀ i, i < d → fI (mX12_tryOrder_h54 r n V' (nI d) x2 y3 (nI j)) 23 i = fI V 24 (fI V 22 i).toNatClampNeg := by
  intro k
  induction k with
  | zero =>
    intro j n V' h1 h2 f h3
    obtain ⟨n, rfl⟩ : ∃ m, n = m + 1 := ⟨n - 1, by omega⟩
    obtain rfl : j = d := by omega
    have e : nI j ≤ nI j := (nI_leI (by omega) (by omega)).mpr (by omega)
    simp only [mX12_tryOrder_h54, qX12_tryOrder_h54, if_pos e]
    exact ⟨fun z => absurd e z, frL.rf _ _ _, h3⟩
  | succ k ih =>
    intro j n V' h1 h2 f h3
    obtain ⟨n, rfl⟩ : ∃ m, n = m + 1 := ⟨n - 1, by omega⟩
    have e : ¬ nI d ≤ nI j := fun z => by have := (nI_leI (by omega) (by omega)).mp z; omega
    have hj : j < 2 ^ 31 := by omega
    obtain ⟨i, hi, pi⟩ := hp j (by omega)
    have f22 : fI V' 22 j = nI i := (f.2.2.2 22 j (by omega)).trans pi
    have f24 : fI V' 24 i = fI V 24 i := f.2.2.2 24 i (by omega)
    have hii : i < 2 ^ 31 := by omega
    obtain ⟨k1, k2, k3⟩ := ih (j + 1) n (fm_i V' 23 j (fI V 24 i)) (by omega) (by omega) (f.i rfl) (fun i' hi' => by
      rw [fI_i]
      by_cases q : i' = j
      · rw [if_pos ⟨rfl, q⟩, q, pi, nI_clamp hii]
      · rw [if_neg (by omega)]; exact h3 i' (by omega))
    have vi : vp_in (nI j) 6 := vp_in_nI (by omega) (by decide)
    simp only [mX12_tryOrder_h54, qX12_tryOrder_h54, if_neg e, nI_clamp hj, f22, nI_clamp hii, f24, nI_1]
    exact ⟨fun _ => ⟨vi, vp_in_nI (by omega) (by decide), vi, k1⟩, ((frL.rf _ _ V').i (k := 23) (j := j) (v := fI V 24 i) rfl).tr k2, k3⟩
def TR (M : Nat) (F c : Nat → Nat) (d R y b : Nat) (V V' : fm_T) : Prop := frL (tA d) tB V V' ∧ (y + qW M F c R < b → fL V' 0 44 = lN (y + qW M F c R) ∧ ∀ j, j < rk M 6 → fI V' 23 j = (if j < d then fI V 24 (fI V 22 j).toNatClampNeg else nI (qO M F c (j - d) R))) ∧ (¬ y + qW M F c R < b → fL V' 0 44 = fL V 0 44 ∧ ∀ j, fI V' 23 j = fI V 23 j)
theorem to_u {V : fm_T} {d m y b : Nat} (r : Nat → fm_T → Int32 → Int32 → Int64 → fm_T) (rp : Nat → fm_T → Int32 → Int32 → Int64 → Prop) (t : Int32) (hb : bst (fL V 0 44) b) (hy : y < 1000000000000000000) (hd : d ≤ 6) (hm : m ≤ 6) (c46 : fI V 0 46 = nI m) : uX12_tryOrder r V (nI d) t (lN y) = (if b < y then V else if d = m then (if y < b then mX12_tryOrder_h54 r fF (fm_l V 0 44 (lN y)) (nI d) t (lN y) 0 else V) else mX12_tryOrder_h96 r fF V (nI d) t (lN y) (gX12_fails V t) 0) ∧ ((d = m → y < b → qX12_tryOrder_h54 r rp fF (fm_l V 0 44 (lN y)) (nI d) t (lN y) 0) → (d ≠ m → y ≤ b → pX12_fails V t ∧ qX12_tryOrder_h96 r rp fF V (nI d) t (lN y) (gX12_fails V t) 0) → pX12_tryOrder r rp V (nI d) t (lN y)) := by
  have ed : nI d = nI m ↔ d = m := nI_eq (by omega) (by omega)
  unfold uX12_tryOrder pX12_tryOrder
  rw [c46]
  simp only [ed]
  rcases hb with ⟨z, hb⟩ | ⟨z, hb⟩
  · have l0 : lg_cmp (-1 : Int64) 0 < 0 := by decide
    rw [z]
    have nb : ¬ b < y := by omega
    have yb : y < b := by omega
    simp only [if_pos l0, if_neg nb, if_pos yb]
    exact ⟨trivial, fun q1 q2 => ⟨fun _ => ⟨fun n => q2 n (by omega), fun e => q1 e (by omega)⟩, fun n => absurd l0 n⟩⟩
  · have l0 : ¬ lg_cmp (lN b) 0 < 0 := by
      rw [lg_cmp_lt, show (0 : Int64) = lN 0 from rfl, l6_lt (by omega) (by omega)]
      omega
    have l1 : lg_cmp (lN y) (lN b) ≤ 0 ↔ ¬ b < y := by
      rw [lg_cmp_le, l6_le (by omega) (by omega)]
      omega
    have l2 : lg_cmp (lN y) (lN b) < 0 ↔ y < b := by
      rw [lg_cmp_lt, l6_lt (by omega) (by omega)]
    rw [z]
    simp only [if_neg l0, l1, l2]
    refine ⟨?_, fun q1 q2 => ⟨fun n => absurd n l0, fun _ n1 => ⟨fun n => q2 n (by omega), fun e n2 => q1 e n2⟩⟩⟩
    by_cases q : b < y
    · rw [if_pos q, if_neg (not_not_intro q)]
    · rw [if_neg q, if_pos q]
