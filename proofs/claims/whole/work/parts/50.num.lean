theorem li_n (n : Nat) : (@OfNat.ofNat Int32 n _) = nI n := rfl
theorem nI_mul (a b : Nat) : nI a * nI b = nI (a * b) := by
  show Int32.ofNat a * Int32.ofNat b = Int32.ofNat (a * b)
  rw [Int32.ofNat_mul]
theorem nI_sub {a b : Nat} (h : b ≤ a) : nI a - nI b = nI (a - b) := by
  have : nI a = nI (a - b) + nI b := by rw [nI_add]; congr 1; omega
  rw [this]
  exact Int32.add_sub_cancel _ _
theorem nI_inj {a b : Nat} (ha : a < 2 ^ 31) (hb : b < 2 ^ 31) (h : nI a = nI b) : a = b := (nI_eq ha hb).mp h
theorem ti_nI {a : Nat} (h : a < 2147483648) : (nI a).toInt = a := nI_toInt h
theorem ti_sub {a b : Int32} {x : Int} (h : a.toInt - b.toInt = x) (h1 : -2147483648 ≤ x) (h2 : x < 2147483648) : (a - b).toInt = x := by
  rw [Int32.toInt_sub, h]
  exact Int.bmod_eq_of_le (by omega) (by omega)
theorem ti_add {a b : Int32} {x : Int} (h : a.toInt + b.toInt = x) (h1 : -2147483648 ≤ x) (h2 : x < 2147483648) : (a + b).toInt = x := by
  rw [Int32.toInt_add, h]
  exact Int.bmod_eq_of_le (by omega) (by omega)
theorem ti_mul {a b : Int32} {x : Int} (h : a.toInt * b.toInt = x) (h1 : -2147483648 ≤ x) (h2 : x < 2147483648) : (a * b).toInt = x := by
  rw [Int32.toInt_mul, h]
  exact Int.bmod_eq_of_le (by omega) (by omega)
theorem ti_m1 : (-1 : Int32).toInt = -1 := rfl
theorem ti_bd (a : Int32) : -2147483648 ≤ a.toInt ∧ a.toInt < 2147483648 := ⟨Int32.le_toInt a, Int32.toInt_lt a⟩
theorem nI_div {a b : Nat} (ha : a < 2 ^ 31) (hb : b < 2 ^ 31) (hb0 : 0 < b) : nI a / nI b = nI (a / b) := by
  apply Int32.toInt_inj.mp
  have h1 := nI_toInt ha
  have h2 := nI_toInt hb
  have h3 : a / b < 2 ^ 31 := Nat.lt_of_le_of_lt (Nat.div_le_self a b) ha
  rw [Int32.toInt_div_of_ne_right, h1, h2, nI_toInt h3]
  · exact (Int.ofNat_tdiv a b).symm ▸ rfl
  · intro h
    have := congrArg Int32.toInt h
    rw [h2] at this
    have e : (-1 : Int32).toInt = -1 := rfl
    rw [e] at this
    omega
theorem lt_ti {a b : Int32} : a < b ↔ a.toInt < b.toInt := Int32.lt_iff_toInt_lt
theorem le_ti {a b : Int32} : a ≤ b ↔ a.toInt ≤ b.toInt := Int32.le_iff_toInt_le
theorem eq_ti {a b : Int32} : a = b ↔ a.toInt = b.toInt := Int32.toInt_inj.symm
theorem wi_nI {μ : fm_T} {a b c : Int32} : gX11_within μ a b c = 0 ↔ (a < b ∨ c < a) := by
  unfold gX11_within
  by_cases h1 : a < b
  · simp [h1]
  · by_cases h2 : c < a
    · simp [h1, h2]
    · simp [h1, h2]
theorem fI_i (μ : fm_T) (k j : Nat) (v : Int32) (k' j' : Nat) : fI (fm_i μ k j v) k' j' = if k' = k ∧ j' = j then v else fI μ k' j' := by
  show (va_up μ.2.2.1 k (upd (μ.2.2.1 k) j v)) k' j' = _
  unfold va_up upd
  by_cases h1 : k' = k
  · subst h1
    by_cases h2 : j' = j
    · simp [h2]
    · simp [h2]
  · simp [h1]
theorem tst1 (i : Nat) (h : i < 240) : ((640 : Int32) + (3 : Int32) * nI i).toNatClampNeg = 640 + 3 * i := by
  simp (disch := omega) only [li_n, nI_mul, nI_add, nI_clamp]
theorem tst2 (t w : Nat) (h : t < 40) (hw : 1 ≤ w ∧ w ≤ 5) : (nI (8 * t + w)) / 8 = nI t := by
  simp (disch := omega) only [li_n, nI_div]
  congr 1
  omega
theorem tst3 (x : Int32) (h : 0 ≤ x) (h2 : x < 100) : x < x + 1 := by
  grind
theorem tst4 (i : Nat) (h : i < 240) : vp_in ((640 : Int32) + (3 : Int32) * nI i + 2) 2560 := by
  simp (disch := omega) only [li_n, nI_mul, nI_add]
  exact vp_in_nI (by omega) (by decide)
