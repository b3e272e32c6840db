def msk (n b : Nat) : Nat := (2 ^ n - 1) &&& (63 - b)
theorem msk_i : ∀ n, n ≤ 6 → ∀ b, b < 64 → (((1 : Int32) <<< (nI n &&& 31)) - 1) &&& (nI b ^^^ (-1 : Int32)) = nI (msk n b) ∧ msk n b < 64 ∧ nI (msk n b) &&& (63 : Int32) = nI (msk n b) := by decide +kernel
theorem msk_b : ∀ n, n ≤ 6 → ∀ b, b < 64 → ∀ a, a < 6 → (msk n b).testBit a = (decide (a < n) && !b.testBit a) := by decide +kernel
theorem msk_s : ∀ n, n ≤ 6 → ∀ b, b < 64 → ∀ s, s ≤ msk n b → ∀ a, a < 6 → s.testBit a = true → a < n := by decide +kernel
theorem msk_r : ∀ n, n ≤ 6 → ∀ b, b < 64 → rk (msk n b) n = rk (msk n b) 6 := by decide +kernel
def sB (b : Nat → Int32) : Nat → Nat → Int32 → Int32
  | 0, _, x => x
  | c + 1, i, x => sB b c (i + 1) (x + b i)
theorem tc_lp {μ : fm_T} {P : Nat} (x1 : Int32) (hP : P ≤ 6) : ∀ (c i n : Nat) (x : Int32), i + c = P → c < n → lX11_takeStain_h53 n μ x1 (nI P) x (nI i) = (if sB (fI μ 3) c i x = 20 then 1 else 0) ∧ mX11_takeStain_h53 n μ x1 (nI P) x (nI i) = (if sB (fI μ 3) c i x = 20 then uX6_findFailures μ (gX2_usableOn μ x1) else μ) ∧ ((sB (fI μ 3) c i x = 20 → pX2_usableOn μ x1 ∧ pX6_findFailures μ (gX2_usableOn μ x1)) → qX11_takeStain_h53 n μ x1 (nI P) x (nI i)) := by
  intro c
  induction c with
  | zero =>
    intro i n x h1 h2
    obtain ⟨n, rfl⟩ : ∃ m, n = m + 1 := ⟨n - 1, by omega⟩
    have e : nI P ≤ nI i := (nI_leI (by omega) (by omega)).mpr (by omega)
    simp only [lX11_takeStain_h53, mX11_takeStain_h53, qX11_takeStain_h53, if_pos e, sB]
    exact ⟨rfl, rfl, fun q => ⟨fun _ => q, fun z => absurd e z⟩⟩
  | succ c ih =>
    intro i n x h1 h2
    obtain ⟨n, rfl⟩ : ∃ m, n = m + 1 := ⟨n - 1, by omega⟩
    have e : ¬ nI P ≤ nI i := fun z => by have := (nI_leI (by omega) (by omega)).mp z; omega
    have hb : gX7_byteAt μ (nI i) = fI μ 3 i ∧ pX7_byteAt μ (nI i) := by
      have q1 : ¬ nI i < 0 := nI_pos (by omega)
      have q2 : ¬ (940 : Int32) ≤ nI i := fun z => by have := (nI_leI (a := 940) (by omega) (by omega)).mp z; omega
      unfold gX7_byteAt pX7_byteAt
      rw [if_neg q1, if_neg q2, nI_clamp (by omega)]
      exact ⟨rfl, fun _ _ => vp_in_nI (by omega) (by decide)⟩
    obtain ⟨i1, i2, i3⟩ := ih (i + 1) n (x + fI μ 3 i) (by omega) (by omega)
    simp only [lX11_takeStain_h53, mX11_takeStain_h53, qX11_takeStain_h53, if_neg e, sB, hb.1, nI_1]
    exact ⟨i1, i2, fun q => ⟨fun z => absurd z e, fun _ => ⟨hb.2, i3 q⟩⟩⟩
theorem tm_lp {ν : fm_T} {P : Nat} (x1 : Int32) (hP : P ≤ 940) : ∀ (c i n : Nat) (x : Int32), i + c = min P 6 → c < n → lX12_takesStain_h14 n ν x1 (nI P) x (nI i) = (if gX12_isIn ν x1 0 (fI ν 2 2 - 1) = 0 then 0 else if nI P = fI ν 2 0 then (if sB (fI ν 1) c i x = 20 then lX12_takesStain_h85 fF (fm_i ν 0 46 0) x1 (nI P) (sB (fI ν 1) c i x) 0 else 0) else 0) ∧ mX12_takesStain_h14 n ν x1 (nI P) x (nI i) = (if gX12_isIn ν x1 0 (fI ν 2 2 - 1) = 0 then ν else if nI P = fI ν 2 0 then (if sB (fI ν 1) c i x = 20 then mX12_takesStain_h85 fF (fm_i ν 0 46 0) x1 (nI P) (sB (fI ν 1) c i x) 0 else ν) else ν) ∧ ((¬ gX12_isIn ν x1 0 (fI ν 2 2 - 1) = 0 → nI P = fI ν 2 0 → sB (fI ν 1) c i x = 20 → qX12_takesStain_h85 fF (fm_i ν 0 46 0) x1 (nI P) (sB (fI ν 1) c i x) 0) → qX12_takesStain_h14 n ν x1 (nI P) x (nI i)) := by
  intro c
  induction c with
  | zero =>
    intro i n x h1 h2
    obtain ⟨n, rfl⟩ : ∃ m, n = m + 1 := ⟨n - 1, by omega⟩
    by_cases e : nI P ≤ nI i
    · simp only [lX12_takesStain_h14, mX12_takesStain_h14, qX12_takesStain_h14, if_pos e, sB]
      exact ⟨rfl, rfl, fun q => ⟨fun _ => q, fun z => absurd e z⟩⟩
    · have e6 : (6 : Int32) ≤ nI i := (nI_leI (a := 6) (by omega) (by omega)).mpr (by
        have : ¬ P ≤ i := fun z => e ((nI_leI (by omega) (by omega)).mpr z)
        omega)
      simp only [lX12_takesStain_h14, mX12_takesStain_h14, qX12_takesStain_h14, if_neg e, if_pos e6, sB]
      exact ⟨rfl, rfl, fun q => ⟨fun z => absurd z e, fun _ => ⟨fun _ => q, fun z => absurd e6 z⟩⟩⟩
  | succ c ih =>
    intro i n x h1 h2
    obtain ⟨n, rfl⟩ : ∃ m, n = m + 1 := ⟨n - 1, by omega⟩
    have e : ¬ nI P ≤ nI i := fun z => by have := (nI_leI (by omega) (by omega)).mp z; omega
    have e6 : ¬ (6 : Int32) ≤ nI i := fun z => by have := (nI_leI (a := 6) (by omega) (by omega)).mp z; omega
    obtain ⟨i1, i2, i3⟩ := ih (i + 1) n (x + fI ν 1 i) (by omega) (by omega)
    simp only [lX12_takesStain_h14, mX12_takesStain_h14, qX12_takesStain_h14, if_neg e, if_neg e6, sB, nI_1]
    rw [nI_clamp (by omega)]
    exact ⟨i1, i2, fun q => ⟨fun z => absurd z e, fun _ => ⟨fun z => absurd z e6, fun _ => ⟨vp_in_nI (by omega) (by decide), i3 q⟩⟩⟩⟩
def tsB (k j : Nat) : Prop := k = 24 ∨ (k = 0 ∧ j = 46)
theorem li_lp {ν : fm_T} {c0 n1 b : Nat} (x2 x3 : Int32) (hc : c0 < 8) (hn : n1 ≤ 6) (hb : b < 64) (cn : fI ν 2 1 = nI n1) (cb : fI ν 2 (63 + 4 * c0) = nI b) : ∀ (c a n : Nat) (ν' : fm_T), a + c = n1 → c < n → frI tsB ν ν' → fI ν' 0 46 = nI (rk (msk n1 b) a) → (∀ i, i < a → (msk n1 b).testBit i = true → fI ν' 24 (rk (msk n1 b) i) = nI i) → lX12_takesStain_h85 n ν' (nI c0) x2 x3 (nI a) = 1 ∧ qX12_takesStain_h85 n ν' (nI c0) x2 x3 (nI a) ∧ frI tsB ν (mX12_takesStain_h85 n ν' (nI c0) x2 x3 (nI a)) ∧ fI (mX12_takesStain_h85 n ν' (nI c0) x2 x3 (nI a)) 0 46 = nI (rk (msk n1 b) n1) ∧ ∀ i, i < n1 → (msk n1 b).testBit i = true → fI (mX12_takesStain_h85 n ν' (nI c0) x2 x3 (nI a)) 24 (rk (msk n1 b) i) = nI i := by
  intro c
  induction c with
  | zero =>
    intro a n ν' h1 h2 f1 f2 f3
    obtain ⟨n, rfl⟩ : ∃ m, n = m + 1 := ⟨n - 1, by omega⟩
    obtain rfl : a = n1 := by omega
    have cn' : fI ν' 2 1 = nI a := (f1.2.2.2 2 1 (by unfold tsB; omega)).trans cn
    have e : nI a ≤ nI a := (nI_leI (by omega) (by omega)).mpr (by omega)
    simp only [lX12_takesStain_h85, mX12_takesStain_h85, qX12_takesStain_h85, cn', if_pos e]
    exact ⟨trivial, fun z => absurd e z, f1, f2, f3⟩
  | succ c ih =>
    intro a n ν' h1 h2 f1 f2 f3
    obtain ⟨n, rfl⟩ : ∃ m, n = m + 1 := ⟨n - 1, by omega⟩
    have cn' : fI ν' 2 1 = nI n1 := (f1.2.2.2 2 1 (by unfold tsB; omega)).trans cn
    have cb' : fI ν' 2 (63 + 4 * c0) = nI b := (f1.2.2.2 2 (63 + 4 * c0) (by unfold tsB; omega)).trans cb
    have e : ¬ nI n1 ≤ nI a := fun z => by have := (nI_leI (by omega) (by omega)).mp z; omega
    have cl : gX12_clothOf ν' (nI c0) 3 = nI b ∧ pX12_clothOf ν' (nI c0) 3 := by
      have e1 : (60 : Int32) + (4 : Int32) * nI c0 + 3 = nI (63 + 4 * c0) := by
        simp only [li_n, nI_mul, nI_add]
        congr 1
        omega
      unfold gX12_clothOf pX12_clothOf
      rw [e1, nI_clamp (by omega)]
      exact ⟨cb', vp_in_nI (by omega) (by decide)⟩
    have hs := hs_64 b hb a (by omega)
    have mb := msk_b n1 hn b hb a (by omega)
    have rs := rk_s (msk n1 b) a
    have rl := rk_le (msk n1 b) a
    simp only [lX12_takesStain_h85, mX12_takesStain_h85, qX12_takesStain_h85, cn', if_neg e, cl.1, gX12_has, hs, f2, nI_1]
    rw [nI_clamp (by omega)]
    by_cases bb : b.testBit a = true
    · have mf : (msk n1 b).testBit a = false := by rw [mb, bb]; simp
      have n1' : ¬ (1 : Int32) = 0 := by decide
      rw [if_neg (by rw [mf]; simp)] at rs
      obtain ⟨i1, i2, i3, i4, i5⟩ := ih (a + 1) n ν' (by omega) (by omega) f1 (by rw [rs]; exact f2) (fun i hi hm => by
        rcases Nat.lt_succ_iff_lt_or_eq.mp hi with h | rfl
        · exact f3 i h hm
        · rw [mf] at hm; exact absurd hm (by simp))
      simp only [bb, if_true, if_neg n1']
      exact ⟨i1, fun _ => ⟨cl.2, fun z => absurd z n1', fun _ => i2⟩, i3, i4, i5⟩
    · have bf : b.testBit a = false := by simpa using bb
      have mt : (msk n1 b).testBit a = true := by rw [mb, bf]; simp; omega
      have n01 : ¬ (0 : Int32) = 1 := by decide
      rw [if_pos mt] at rs
      obtain ⟨i1, i2, i3, i4, i5⟩ := ih (a + 1) n (fm_i (fm_i ν' 24 (rk (msk n1 b) a) (nI a)) 0 46 (nI (rk (msk n1 b) a + 1))) (by omega) (by omega) ((f1.i (Or.inl rfl)).i (Or.inr ⟨rfl, rfl⟩)) (by rw [fI_i, if_pos ⟨rfl, rfl⟩, rs]) (fun i hi hm => by
        rw [fI_i, if_neg (by omega), fI_i]
        rcases Nat.lt_succ_iff_lt_or_eq.mp hi with h | rfl
        · have : rk (msk n1 b) i < rk (msk n1 b) a := by
            have e1 := rk_s (msk n1 b) i
            rw [if_pos hm] at e1
            have mono : ∀ d, rk (msk n1 b) (i + 1) ≤ rk (msk n1 b) (i + 1 + d) := fun d => by
              induction d with
              | zero => exact Nat.le_refl _
              | succ d ihd =>
                have := rk_s (msk n1 b) (i + 1 + d)
                rw [show i + 1 + (d + 1) = i + 1 + d + 1 by omega]
                split at this <;> omega
            have := mono (a - (i + 1))
            rw [show i + 1 + (a - (i + 1)) = a by omega] at this
            omega
          rw [if_neg (by omega)]
          exact f3 i h hm
        · rw [if_pos ⟨rfl, rfl⟩])
      simp only [bf, Bool.false_eq_true, if_false, if_neg n01, if_true]
      exact ⟨i1, fun _ => ⟨cl.2, fun _ => ⟨vp_in_nI (by omega) (by decide), i2⟩, fun z => absurd trivial z⟩, i3, i4, i5⟩
