def dst (a b : Nat) : Nat := if a ≤ b then b - a else a - b
theorem dst_le {a b n : Nat} (ha : a ≤ n) (hb : b ≤ n) : dst a b ≤ n := by
  unfold dst
  split <;> omega
theorem dst_c (a b : Nat) : dst a b = dst b a := by
  unfold dst
  split <;> split <;> omega
theorem ab_i {a b : Nat} (ha : a < 1000) (hb : b < 1000) : (if 0 ≤ (nI a - nI b) then (nI a - nI b) else 0 - (nI a - nI b)) = nI (dst a b) := by
  have t : (nI a - nI b).toInt = (a : Int) - b := ti_sub (by rw [ti_nI (by omega), ti_nI (by omega)]) (by omega) (by omega)
  unfold dst
  by_cases h : b ≤ a
  · have e : 0 ≤ nI a - nI b := by rw [le_ti, t]; show (0 : Int) ≤ _; omega
    rw [if_pos e, nI_sub h]
    by_cases h2 : a ≤ b
    · rw [if_pos h2]; congr 1; omega
    · rw [if_neg h2]
  · have e : ¬ 0 ≤ nI a - nI b := by rw [le_ti, t]; show ¬ (0 : Int) ≤ _; omega
    rw [if_neg e, if_pos (by omega), ← nI_sub (by omega)]
    grind
theorem di_c {μ : fm_T} {x0 y0 x2 y2 : Nat} (h0 : x0 < 1000) (h1 : y0 < 1000) (h2 : x2 < 1000) (h3 : y2 < 1000) : gX9_distance μ (nI x0) (nI y0) (nI x2) (nI y2) = nI (dst x0 x2 + dst y0 y2) := by
  unfold gX9_distance
  rw [ab_i h0 h2, ab_i h1 h3, nI_add]
theorem gp_m {ν : fm_T} {a b : Nat} (ha : a < 1000) (hb : b < 1000) : gX12_gap ν (nI a) (nI b) = nI (dst a b) := by
  unfold gX12_gap dst
  by_cases h : a ≤ b
  · rw [if_pos ((nI_leI (by omega) (by omega)).mpr h), if_pos h, nI_sub h]
  · rw [if_neg (fun z => h ((nI_leI (by omega) (by omega)).mp z)), if_neg h, nI_sub (by omega)]
def cor (X : Nat → Nat) (p : Nat) : Nat := if p = 9 then 50 else X p
def wyN (X Y : Nat → Nat) (p q : Nat) : Nat := dst (cor X p) (cor X q) + dst (cor Y p) (cor Y q)
def stI (p : Nat) : Int32 := if p = 9 then -1 else nI p
theorem xy_m {ν : fm_T} {P p : Nat} {b X Y : Nat → Nat} (hp : p < P ∨ p = 9) (hP : P ≤ 9) (hb : ∀ j, j < P → fI ν 31 j = nI (b j) ∧ b j < 40 ∧ fI ν 2 (2440 + 2 * b j) = nI (X j) ∧ fI ν 2 (2441 + 2 * b j) = nI (Y j)) : (gX12_xOf ν (stI p) = nI (cor X p) ∧ pX12_xOf ν (stI p)) ∧ gX12_yOf ν (stI p) = nI (cor Y p) ∧ pX12_yOf ν (stI p) := by
  unfold gX12_xOf gX12_yOf pX12_xOf pX12_yOf stI cor
  by_cases e : p = 9
  · have n0 : ¬ (0 : Int32) ≤ -1 := by decide
    simp only [if_pos e, if_neg n0]
    exact ⟨⟨rfl, fun z => absurd z n0⟩, rfl, fun z => absurd z n0⟩
  · have hp : p < P := by omega
    obtain ⟨b1, b2, b3, b4⟩ := hb p hp
    have p0 : (0 : Int32) ≤ nI p := (nI_leI (a := 0) (by omega) (by omega)).mpr (by omega)
    have hpp : p < 2 ^ 31 := by omega
    have e1 : (2440 : Int32) + (2 : Int32) * nI (b p) = nI (2440 + 2 * b p) := by simp only [li_n, nI_mul, nI_add]
    have e2 : nI (2440 + 2 * b p) + 1 = nI (2441 + 2 * b p) := by rw [nI_1]; congr 1; omega
    simp only [if_neg e, if_pos p0, nI_clamp hpp, b1, e1, e2]
    rw [nI_clamp (by omega), nI_clamp (by omega)]
    exact ⟨⟨b3, fun _ => ⟨vp_in_nI (by omega) (by decide), vp_in_nI (by omega) (by decide)⟩⟩, b4, fun _ => ⟨vp_in_nI (by omega) (by decide), vp_in_nI (by omega) (by decide)⟩⟩
theorem wy_m {ν : fm_T} {P p q : Nat} {b X Y : Nat → Nat} (hp : p < P ∨ p = 9) (hq : q < P ∨ q = 9) (hP : P ≤ 9) (hX : ∀ j, X j ≤ 99 ∧ Y j ≤ 99) (hb : ∀ j, j < P → fI ν 31 j = nI (b j) ∧ b j < 40 ∧ fI ν 2 (2440 + 2 * b j) = nI (X j) ∧ fI ν 2 (2441 + 2 * b j) = nI (Y j)) : gX12_way ν (stI p) (stI q) = nI (wyN X Y p q) ∧ pX12_way ν (stI p) (stI q) := by
  obtain ⟨⟨x1, x2⟩, y1, y2⟩ := xy_m hp hP hb
  obtain ⟨⟨u1, u2⟩, v1, v2⟩ := xy_m hq hP hb
  have cb : ∀ p, cor X p < 1000 ∧ cor Y p < 1000 := fun p => by
    have := hX p
    unfold cor
    split <;> omega
  unfold gX12_way pX12_way wyN
  rw [x1, y1, u1, v1, gp_m (cb p).1 (cb q).1, gp_m (cb p).2 (cb q).2, nI_add]
  exact ⟨rfl, x2, u2, y2, v2⟩
theorem wyN_le {X Y : Nat → Nat} (hX : ∀ j, X j ≤ 99 ∧ Y j ≤ 99) (p q : Nat) : wyN X Y p q ≤ 198 := by
  have cb : ∀ p, cor X p ≤ 99 ∧ cor Y p ≤ 99 := fun p => by
    have := hX p
    unfold cor
    split <;> omega
  have := dst_le (cb p).1 (cb q).1
  have := dst_le (cb p).2 (cb q).2
  unfold wyN
  omega
