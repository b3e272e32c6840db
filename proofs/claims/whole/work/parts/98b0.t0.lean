def isLt (c : Nat) : Bool := decide (97 ≤ c) && decide (c ≤ 122)
def isDg (c : Nat) : Bool := decide (48 ≤ c) && decide (c ≤ 57)
def isAn (c : Nat) : Bool := isLt c || isDg c
def isBl (c : Nat) : Bool := c == 32 || c == 10
def isSg (c : Nat) : Bool := c == 59 || c == 40 || c == 41 || c == 60 || c == 61 || c == 62
def cdN (b : Nat → Nat) (q : Nat) : Nat → Nat
  | 0 => 0
  | n + 1 => cdN b q n * 32 + (b (q + n) - 96)
def c27N (b : Nat → Nat) (q : Nat) : Nat → Nat
  | 0 => 0
  | n + 1 => c27N b q n * 27 + (b (q + n) - 96)
def nmN (b : Nat → Nat) (q : Nat) : Nat → Nat
  | 0 => 0
  | n + 1 => nmN b q n * 10 + (b (q + n) - 48)
theorem lt_iff {c : Nat} : isLt c = true ↔ 97 ≤ c ∧ c ≤ 122 := by unfold isLt; simp
theorem dg_iff {c : Nat} : isDg c = true ↔ 48 ≤ c ∧ c ≤ 57 := by unfold isDg; simp
theorem bl_iff {c : Nat} : isBl c = true ↔ c = 32 ∨ c = 10 := by unfold isBl; simp
theorem lS_sub {a b : Nat} (h : b ≤ a) : lN a - lN b = lN (a - b) := by
  have : lN a = lN (a - b) + lN b := by rw [lN_add]; congr 1; omega
  rw [this]
  exact Int64.add_sub_cancel _ _
theorem lG_eq {a b : Nat} (ha : a < 2 ^ 63) (hb : b < 2 ^ 63) : lg_cmp (lN a) (lN b) = 0 ↔ a = b := by
  rw [lg_cmp_eq, ← Int64.toInt_inj, l6_ti ha, l6_ti hb]
  omega
theorem cv_inj : ∀ n a b, vcode n a → vcode n b → conv n a = conv n b → a = b
  | 0, a, b, ha, hb, _ => by rw [show a = 0 from ha, show b = 0 from hb]
  | n + 1, a, b, ha, hb, h => by
    unfold conv at h
    rcases ha with ha | ⟨a1, a2, a3⟩
    · rcases hb with hb | ⟨b1, b2, b3⟩
      · rw [ha, hb]
      · have : ¬ b = 0 := fun z => by rw [z] at b1; omega
        rw [if_pos ha, if_neg this] at h
        omega
    · have na : ¬ a = 0 := fun z => by rw [z] at a1; omega
      rcases hb with hb | ⟨b1, b2, b3⟩
      · rw [if_neg na, if_pos hb] at h
        omega
      · have nb : ¬ b = 0 := fun z => by rw [z] at b1; omega
        rw [if_neg na, if_neg nb] at h
        have e1 : conv n (a / 32) = conv n (b / 32) := by omega
        have e2 : a % 32 = b % 32 := by omega
        have := cv_inj n _ _ a3 b3 e1
        omega
theorem cv_lt : ∀ n a, vcode n a → conv n a < 27 ^ n
  | 0, a, _ => by unfold conv; omega
  | n + 1, a, ha => by
    unfold conv
    rcases ha with ha | ⟨a1, a2, a3⟩
    · rw [if_pos ha]; exact Nat.pow_pos (by omega)
    · have na : ¬ a = 0 := fun z => by rw [z] at a1; omega
      rw [if_neg na]
      have := cv_lt n _ a3
      rw [Nat.pow_succ]
      omega
theorem vc_s : ∀ n v, vcode n v → vcode (n + 1) v ∧ conv (n + 1) v = conv n v
  | 0, v, h => by
    have h : v = 0 := h
    refine ⟨Or.inl h, ?_⟩
    unfold conv conv
    rw [if_pos h]
  | n + 1, v, h => by
    rcases h with h | ⟨h1, h2, h3⟩
    · refine ⟨Or.inl h, ?_⟩
      unfold conv
      rw [if_pos h, if_pos h]
    · obtain ⟨i1, i2⟩ := vc_s n _ h3
      refine ⟨Or.inr ⟨h1, h2, i1⟩, ?_⟩
      have nv : ¬ v = 0 := fun z => by rw [z] at h1; omega
      have e1 : conv (n + 1 + 1) v = conv (n + 1) (v / 32) * 27 + v % 32 := if_neg nv
      have e2 : conv (n + 1) v = conv n (v / 32) * 27 + v % 32 := if_neg nv
      rw [e1, e2, i2]
theorem vc_m {n v : Nat} (h : vcode n v) : ∀ d, vcode (n + d) v ∧ conv (n + d) v = conv n v
  | 0 => ⟨h, rfl⟩
  | d + 1 => by
    obtain ⟨i1, i2⟩ := vc_m h d
    obtain ⟨j1, j2⟩ := vc_s _ _ i1
    exact ⟨j1, j2.trans i2⟩
theorem cd_v {b : Nat → Nat} {q : Nat} : ∀ n, (∀ i, i < n → isLt (b (q + i)) = true) → vcode n (cdN b q n) ∧ conv n (cdN b q n) = c27N b q n
  | 0, _ => ⟨rfl, rfl⟩
  | n + 1, h => by
    obtain ⟨i1, i2⟩ := cd_v n (fun i hi => h i (by omega))
    have hb := lt_iff.mp (h n (by omega))
    have e0 : cdN b q (n + 1) = cdN b q n * 32 + (b (q + n) - 96) := rfl
    have e1 : cdN b q (n + 1) % 32 = b (q + n) - 96 := by omega
    have e2 : cdN b q (n + 1) / 32 = cdN b q n := by omega
    have nz : ¬ cdN b q (n + 1) = 0 := by omega
    refine ⟨Or.inr ⟨by omega, by omega, by rw [e2]; exact i1⟩, ?_⟩
    have e3 : conv (n + 1) (cdN b q (n + 1)) = conv n (cdN b q (n + 1) / 32) * 27 + cdN b q (n + 1) % 32 := if_neg nz
    rw [e3, e1, e2, i2]
    rfl
theorem cd_7 {b : Nat → Nat} {q n : Nat} (hn : n ≤ 7) (h : ∀ i, i < n → isLt (b (q + i)) = true) : vcode 7 (cdN b q n) ∧ conv 7 (cdN b q n) = c27N b q n := by
  obtain ⟨i1, i2⟩ := cd_v n h
  obtain ⟨j1, j2⟩ := vc_m i1 (7 - n)
  rw [show n + (7 - n) = 7 by omega] at j1 j2
  exact ⟨j1, j2.trans i2⟩
theorem c27_lt {b : Nat → Nat} {q n : Nat} (hn : n ≤ 7) (h : ∀ i, i < n → isLt (b (q + i)) = true) : c27N b q n < 2 ^ 62 := by
  obtain ⟨i1, i2⟩ := cd_7 hn h
  have := cv_lt 7 _ i1
  rw [i2] at this
  have e : (27 : Nat) ^ 7 ≤ 2 ^ 62 := by decide
  omega
theorem nm_lt {b : Nat → Nat} {q n : Nat} (h : ∀ i, i < n → isDg (b (q + i)) = true) : nmN b q n < 10 ^ n := by
  induction n with
  | zero => exact Nat.one_pos
  | succ n ih =>
    have := ih (fun i hi => h i (by omega))
    have hb := dg_iff.mp (h n (by omega))
    unfold nmN
    rw [Nat.pow_succ]
    omega
noncomputable def wcN (i : Nat) : Nat := (wcode i).toBitVec.toNat
theorem wc_ok : ∀ i, i < 25 → wcode i = lN (wcN i) ∧ wcN i < 2 ^ 40 ∧ gX12_wordOf mu0 (nI i) = lN (conv 7 (wcN i)) := by decide +kernel
def vcB : Nat → Nat → Bool
  | 0, v => v == 0
  | n + 1, v => v == 0 || (decide (1 ≤ v % 32) && decide (v % 32 ≤ 26) && vcB n (v / 32))
theorem vcB_ok : ∀ n v, vcB n v = true → vcode n v
  | 0, v, h => by unfold vcB at h; exact beq_iff_eq.mp h
  | n + 1, v, h => by
    unfold vcB at h
    rw [Bool.or_eq_true, beq_iff_eq, Bool.and_eq_true, Bool.and_eq_true, decide_eq_true_eq, decide_eq_true_eq] at h
    rcases h with h | ⟨⟨h1, h2⟩, h3⟩
    · exact Or.inl h
    · exact Or.inr ⟨h1, h2, vcB_ok n _ h3⟩
theorem wc_v : ∀ i, i < 25 → vcB 7 (wcN i) = true := by decide +kernel
theorem wc_d : ∀ i, i < 25 → ∀ j, j < 25 → wcN i = wcN j → i = j := by decide +kernel
theorem wo_m {μ : fm_T} {i : Nat} (hi : i < 25) : gX12_wordOf μ (nI i) = lN (conv 7 (wcN i)) := (wc_ok i hi).2.2
def RUN (b : Nat → Nat) (z q E k v w : Nat) : Prop := q < E ∧ E ≤ z ∧ (∀ i, q ≤ i → i < E → isAn (b i) = true) ∧ (E = z ∨ isAn (b E) = false) ∧
  (((∀ i, q ≤ i → i < E → isLt (b i) = true) ∧ E ≤ q + 7 ∧ w = cdN b q (E - q) ∧ ((k = 2 ∧ v < 25 ∧ wcN v = w) ∨ (k = 3 ∧ ∀ i, i < 25 → wcN i ≠ w))) ∨
   ((∀ i, q ≤ i → i < E → isDg (b i) = true) ∧ E ≤ q + 3 ∧ k = 4 ∧ v = nmN b q (E - q)) ∨
   (k = 1 ∧ ¬ ((∀ i, q ≤ i → i < E → isLt (b i) = true) ∧ E ≤ q + 7) ∧ ¬ ((∀ i, q ≤ i → i < E → isDg (b i) = true) ∧ E ≤ q + 3)))
def TK (b : Nat → Nat) (z l P k a v w E : Nat) : Prop := ∃ q, P ≤ q ∧ q ≤ z ∧ (∀ i, P ≤ i → i < q → isBl (b i) = true) ∧ (q = z ∨ isBl (b q) = false) ∧
  ((l < z ∧ l ≤ q ∧ k = 1 ∧ a = l) ∨ ((z ≤ l ∨ q < l) ∧ q = z ∧ k = 0 ∧ a = q) ∨
   ((z ≤ l ∨ q < l) ∧ q < z ∧ isAn (b q) = false ∧ a = q ∧ E = q + 1 ∧ v = b q ∧ k = (if isSg (b q) then 5 else 1)) ∨
   ((z ≤ l ∨ q < l) ∧ q < z ∧ isAn (b q) = true ∧ a = q ∧ RUN b z q E k v w))
def kM (k : Nat) : Nat := if k = 0 then 0 else if k = 1 then 1 else if k = 2 then 2 else if k = 3 then 2 else if k = 4 then 3 else 4
def fG (k j : Nat) : Prop := k = 0 ∧ 5 ≤ j ∧ j ≤ 9
def fGl (k j : Nat) : Prop := k = 0 ∧ j = 12
def MBy (b : Nat → Nat) (z l : Nat) (ν : fm_T) : Prop := z ≤ 940 ∧ l ≤ 940 ∧ fI ν 0 3 = nI z ∧ fI ν 0 4 = nI l ∧ ∀ i, i < 940 → fI ν 1 i = nI (b i) ∧ b i ≤ 255
def TM (k a v w E : Nat) (ν : fm_T) : Prop := fI ν 0 7 = nI (kM k) ∧ fI ν 0 6 = nI a ∧ (k ≠ 0 → k ≠ 1 → fI ν 0 5 = nI E) ∧ (k = 5 → fI ν 0 9 = nI v) ∧ (k = 4 → fI ν 0 8 = nI v) ∧ (k = 2 ∨ k = 3 → fL ν 0 12 = lN (conv 7 w))
theorem MBy_f {b : Nat → Nat} {z l : Nat} {ν ν' : fm_T} (h : MBy b z l ν) (f : frL fG fGl ν ν') : MBy b z l ν' := by
  obtain ⟨h1, h2, h3, h4, h5⟩ := h
  refine ⟨h1, h2, by rw [f.2.2.2 0 3 (by unfold fG; omega)]; exact h3, by rw [f.2.2.2 0 4 (by unfold fG; omega)]; exact h4, fun i hi => ?_⟩
  rw [f.2.2.2 1 i (by unfold fG; omega)]
  exact h5 i hi
theorem il_m {μ : fm_T} {c : Nat} (h : c ≤ 255) : gX12_isLetter μ (nI c) = (if isLt c then 1 else 0) ∧ gX12_isDigit μ (nI c) = (if isDg c then 1 else 0) := by
  have l1 : nI c < 97 ↔ c < 97 := nI_ltI (b := 97) (by omega) (by omega)
  have l2 : (122 : Int32) < nI c ↔ 122 < c := nI_ltI (a := 122) (by omega) (by omega)
  have l3 : nI c < 48 ↔ c < 48 := nI_ltI (b := 48) (by omega) (by omega)
  have l4 : (57 : Int32) < nI c ↔ 57 < c := nI_ltI (a := 57) (by omega) (by omega)
  unfold gX12_isLetter gX12_isDigit
  simp only [l1, l2, l3, l4]
  constructor
  · by_cases q : isLt c = true
    · have := lt_iff.mp q
      rw [if_pos q, if_neg (by omega), if_neg (by omega)]
    · rw [if_neg q]
      by_cases a : c < 97
      · rw [if_pos a]
      · rw [if_neg a, if_pos (by apply Decidable.byContradiction; intro y; exact q (lt_iff.mpr ⟨by omega, by omega⟩))]
  · by_cases q : isDg c = true
    · have := dg_iff.mp q
      rw [if_pos q, if_neg (by omega), if_neg (by omega)]
    · rw [if_neg q]
      by_cases a : c < 48
      · rw [if_pos a]
      · rw [if_neg a, if_pos (by apply Decidable.byContradiction; intro y; exact q (dg_iff.mpr ⟨by omega, by omega⟩))]
noncomputable def goS (μ : fm_T) : fm_T := fm_i (if 3 ≤ (fI μ 0 5) - (fI μ 0 6) then (if 7 ≤ (fI μ 0 5) - (fI μ 0 6) then μ else fm_l μ 0 12 ((((27 : Int64) * (fL μ 0 12)) + ((fI μ 1 ((fI μ 0 5).toNatClampNeg)).toInt64)) - (96 : Int64))) else fm_i (if 7 ≤ (fI μ 0 5) - (fI μ 0 6) then μ else fm_l μ 0 12 ((((27 : Int64) * (fL μ 0 12)) + ((fI μ 1 ((fI μ 0 5).toNatClampNeg)).toInt64)) - (96 : Int64))) 0 8 ((((10 : Int32) * (fI μ 0 8)) + (fI μ 1 ((fI μ 0 5).toNatClampNeg))) - 48)) 0 5 ((fI μ 0 5) + 1)
theorem go_st (n : Nat) (μ : fm_T) (x1 x2 x3 : Int32) (h : ¬ (gX12_isLetter μ (gX12_byteAt μ (fI μ 0 5)) = 0 ∧ gX12_isDigit μ (gX12_byteAt μ (fI μ 0 5)) = 0)) : mX12_go_h215 (n + 1) μ x1 x2 x3 = mX12_go_h215 n (goS μ) x1 x2 (if x3 = 0 then 0 else if gX12_isLetter μ (fI μ 1 ((fI μ 0 5).toNatClampNeg)) = x2 then 1 else 0) ∧ (pX12_byteAt μ (fI μ 0 5) → vp_in (fI μ 0 5) 940 → qX12_go_h215 n (goS μ) x1 x2 (if x3 = 0 then 0 else if gX12_isLetter μ (fI μ 1 ((fI μ 0 5).toNatClampNeg)) = x2 then 1 else 0) → qX12_go_h215 (n + 1) μ x1 x2 x3) := by
  unfold goS
  simp only [mX12_go_h215, qX12_go_h215]
  by_cases h1 : gX12_isLetter μ (gX12_byteAt μ (fI μ 0 5)) = 0
  · have h2 : ¬ gX12_isDigit μ (gX12_byteAt μ (fI μ 0 5)) = 0 := fun z => h ⟨h1, z⟩
    by_cases h3 : x3 = 0
    · skip
      by_cases h5 : 7 ≤ (fI μ 0 5) - (fI μ 0 6)
      · by_cases h6 : 3 ≤ (fI μ 0 5) - (fI μ 0 6)
        · simp only [if_pos h1, if_neg h2, if_pos h3, if_pos h5, if_pos h6]
          exact ⟨trivial, fun p v q => ⟨p, fun z => absurd h1 z, fun _ => ⟨p, fun _ => ⟨v, ⟨fun _ => ⟨fun _ => ⟨fun _ => q, fun z => absurd h6 z⟩, fun z => absurd h5 z⟩, fun z => absurd h3 z⟩⟩⟩⟩⟩
        · simp only [if_pos h1, if_neg h2, if_pos h3, if_pos h5, if_neg h6]
          exact ⟨trivial, fun p v q => ⟨p, fun z => absurd h1 z, fun _ => ⟨p, fun _ => ⟨v, ⟨fun _ => ⟨fun _ => ⟨fun z => absurd z h6, fun _ => q⟩, fun z => absurd h5 z⟩, fun z => absurd h3 z⟩⟩⟩⟩⟩
      · by_cases h6 : 3 ≤ (fI μ 0 5) - (fI μ 0 6)
        · simp only [if_pos h1, if_neg h2, if_pos h3, if_neg h5, if_pos h6]
          exact ⟨trivial, fun p v q => ⟨p, fun z => absurd h1 z, fun _ => ⟨p, fun _ => ⟨v, ⟨fun _ => ⟨fun z => absurd z h5, fun _ => ⟨fun _ => q, fun z => absurd h6 z⟩⟩, fun z => absurd h3 z⟩⟩⟩⟩⟩
        · simp only [if_pos h1, if_neg h2, if_pos h3, if_neg h5, if_neg h6]
          exact ⟨trivial, fun p v q => ⟨p, fun z => absurd h1 z, fun _ => ⟨p, fun _ => ⟨v, ⟨fun _ => ⟨fun z => absurd z h5, fun _ => ⟨fun z => absurd z h6, fun _ => q⟩⟩, fun z => absurd h3 z⟩⟩⟩⟩⟩
    · by_cases h4 : gX12_isLetter μ (fI μ 1 ((fI μ 0 5).toNatClampNeg)) = x2
      · skip
        by_cases h5 : 7 ≤ (fI μ 0 5) - (fI μ 0 6)
        · by_cases h6 : 3 ≤ (fI μ 0 5) - (fI μ 0 6)
          · simp only [if_pos h1, if_neg h2, if_neg h3, if_pos h4, if_pos h5, if_pos h6]
            exact ⟨trivial, fun p v q => ⟨p, fun z => absurd h1 z, fun _ => ⟨p, fun _ => ⟨v, ⟨fun z => absurd z h3, fun _ => ⟨fun z => absurd h4 z, fun _ => ⟨fun _ => ⟨fun _ => q, fun z => absurd h6 z⟩, fun z => absurd h5 z⟩⟩⟩⟩⟩⟩⟩
          · simp only [if_pos h1, if_neg h2, if_neg h3, if_pos h4, if_pos h5, if_neg h6]
            exact ⟨trivial, fun p v q => ⟨p, fun z => absurd h1 z, fun _ => ⟨p, fun _ => ⟨v, ⟨fun z => absurd z h3, fun _ => ⟨fun z => absurd h4 z, fun _ => ⟨fun _ => ⟨fun z => absurd z h6, fun _ => q⟩, fun z => absurd h5 z⟩⟩⟩⟩⟩⟩⟩
        · by_cases h6 : 3 ≤ (fI μ 0 5) - (fI μ 0 6)
          · simp only [if_pos h1, if_neg h2, if_neg h3, if_pos h4, if_neg h5, if_pos h6]
            exact ⟨trivial, fun p v q => ⟨p, fun z => absurd h1 z, fun _ => ⟨p, fun _ => ⟨v, ⟨fun z => absurd z h3, fun _ => ⟨fun z => absurd h4 z, fun _ => ⟨fun z => absurd z h5, fun _ => ⟨fun _ => q, fun z => absurd h6 z⟩⟩⟩⟩⟩⟩⟩⟩
          · simp only [if_pos h1, if_neg h2, if_neg h3, if_pos h4, if_neg h5, if_neg h6]
            exact ⟨trivial, fun p v q => ⟨p, fun z => absurd h1 z, fun _ => ⟨p, fun _ => ⟨v, ⟨fun z => absurd z h3, fun _ => ⟨fun z => absurd h4 z, fun _ => ⟨fun z => absurd z h5, fun _ => ⟨fun z => absurd z h6, fun _ => q⟩⟩⟩⟩⟩⟩⟩⟩
      · skip
        by_cases h5 : 7 ≤ (fI μ 0 5) - (fI μ 0 6)
        · by_cases h6 : 3 ≤ (fI μ 0 5) - (fI μ 0 6)
          · simp only [if_pos h1, if_neg h2, if_neg h3, if_neg h4, if_pos h5, if_pos h6]
            exact ⟨trivial, fun p v q => ⟨p, fun z => absurd h1 z, fun _ => ⟨p, fun _ => ⟨v, ⟨fun z => absurd z h3, fun _ => ⟨fun _ => ⟨fun _ => ⟨fun _ => q, fun z => absurd h6 z⟩, fun z => absurd h5 z⟩, fun z => absurd z h4⟩⟩⟩⟩⟩⟩
          · simp only [if_pos h1, if_neg h2, if_neg h3, if_neg h4, if_pos h5, if_neg h6]
            exact ⟨trivial, fun p v q => ⟨p, fun z => absurd h1 z, fun _ => ⟨p, fun _ => ⟨v, ⟨fun z => absurd z h3, fun _ => ⟨fun _ => ⟨fun _ => ⟨fun z => absurd z h6, fun _ => q⟩, fun z => absurd h5 z⟩, fun z => absurd z h4⟩⟩⟩⟩⟩⟩
        · by_cases h6 : 3 ≤ (fI μ 0 5) - (fI μ 0 6)
          · simp only [if_pos h1, if_neg h2, if_neg h3, if_neg h4, if_neg h5, if_pos h6]
            exact ⟨trivial, fun p v q => ⟨p, fun z => absurd h1 z, fun _ => ⟨p, fun _ => ⟨v, ⟨fun z => absurd z h3, fun _ => ⟨fun _ => ⟨fun z => absurd z h5, fun _ => ⟨fun _ => q, fun z => absurd h6 z⟩⟩, fun z => absurd z h4⟩⟩⟩⟩⟩⟩
          · simp only [if_pos h1, if_neg h2, if_neg h3, if_neg h4, if_neg h5, if_neg h6]
            exact ⟨trivial, fun p v q => ⟨p, fun z => absurd h1 z, fun _ => ⟨p, fun _ => ⟨v, ⟨fun z => absurd z h3, fun _ => ⟨fun _ => ⟨fun z => absurd z h5, fun _ => ⟨fun z => absurd z h6, fun _ => q⟩⟩, fun z => absurd z h4⟩⟩⟩⟩⟩⟩
  · skip
    by_cases h3 : x3 = 0
    · skip
      by_cases h5 : 7 ≤ (fI μ 0 5) - (fI μ 0 6)
      · by_cases h6 : 3 ≤ (fI μ 0 5) - (fI μ 0 6)
        · simp only [if_neg h1, if_pos h3, if_pos h5, if_pos h6]
          exact ⟨trivial, fun p v q => ⟨p, fun _ => ⟨v, ⟨fun _ => ⟨fun _ => ⟨fun _ => q, fun z => absurd h6 z⟩, fun z => absurd h5 z⟩, fun z => absurd h3 z⟩⟩, fun z => absurd z h1⟩⟩
        · simp only [if_neg h1, if_pos h3, if_pos h5, if_neg h6]
          exact ⟨trivial, fun p v q => ⟨p, fun _ => ⟨v, ⟨fun _ => ⟨fun _ => ⟨fun z => absurd z h6, fun _ => q⟩, fun z => absurd h5 z⟩, fun z => absurd h3 z⟩⟩, fun z => absurd z h1⟩⟩
      · by_cases h6 : 3 ≤ (fI μ 0 5) - (fI μ 0 6)
        · simp only [if_neg h1, if_pos h3, if_neg h5, if_pos h6]
          exact ⟨trivial, fun p v q => ⟨p, fun _ => ⟨v, ⟨fun _ => ⟨fun z => absurd z h5, fun _ => ⟨fun _ => q, fun z => absurd h6 z⟩⟩, fun z => absurd h3 z⟩⟩, fun z => absurd z h1⟩⟩
        · simp only [if_neg h1, if_pos h3, if_neg h5, if_neg h6]
          exact ⟨trivial, fun p v q => ⟨p, fun _ => ⟨v, ⟨fun _ => ⟨fun z => absurd z h5, fun _ => ⟨fun z => absurd z h6, fun _ => q⟩⟩, fun z => absurd h3 z⟩⟩, fun z => absurd z h1⟩⟩
    · by_cases h4 : gX12_isLetter μ (fI μ 1 ((fI μ 0 5).toNatClampNeg)) = x2
      · skip
        by_cases h5 : 7 ≤ (fI μ 0 5) - (fI μ 0 6)
        · by_cases h6 : 3 ≤ (fI μ 0 5) - (fI μ 0 6)
          · simp only [if_neg h1, if_neg h3, if_pos h4, if_pos h5, if_pos h6]
            exact ⟨trivial, fun p v q => ⟨p, fun _ => ⟨v, ⟨fun z => absurd z h3, fun _ => ⟨fun z => absurd h4 z, fun _ => ⟨fun _ => ⟨fun _ => q, fun z => absurd h6 z⟩, fun z => absurd h5 z⟩⟩⟩⟩, fun z => absurd z h1⟩⟩
          · simp only [if_neg h1, if_neg h3, if_pos h4, if_pos h5, if_neg h6]
            exact ⟨trivial, fun p v q => ⟨p, fun _ => ⟨v, ⟨fun z => absurd z h3, fun _ => ⟨fun z => absurd h4 z, fun _ => ⟨fun _ => ⟨fun z => absurd z h6, fun _ => q⟩, fun z => absurd h5 z⟩⟩⟩⟩, fun z => absurd z h1⟩⟩
        · by_cases h6 : 3 ≤ (fI μ 0 5) - (fI μ 0 6)
          · simp only [if_neg h1, if_neg h3, if_pos h4, if_neg h5, if_pos h6]
            exact ⟨trivial, fun p v q => ⟨p, fun _ => ⟨v, ⟨fun z => absurd z h3, fun _ => ⟨fun z => absurd h4 z, fun _ => ⟨fun z => absurd z h5, fun _ => ⟨fun _ => q, fun z => absurd h6 z⟩⟩⟩⟩⟩, fun z => absurd z h1⟩⟩
          · simp only [if_neg h1, if_neg h3, if_pos h4, if_neg h5, if_neg h6]
            exact ⟨trivial, fun p v q => ⟨p, fun _ => ⟨v, ⟨fun z => absurd z h3, fun _ => ⟨fun z => absurd h4 z, fun _ => ⟨fun z => absurd z h5, fun _ => ⟨fun z => absurd z h6, fun _ => q⟩⟩⟩⟩⟩, fun z => absurd z h1⟩⟩
      · skip
        by_cases h5 : 7 ≤ (fI μ 0 5) - (fI μ 0 6)
        · by_cases h6 : 3 ≤ (fI μ 0 5) - (fI μ 0 6)
          · simp only [if_neg h1, if_neg h3, if_neg h4, if_pos h5, if_pos h6]
            exact ⟨trivial, fun p v q => ⟨p, fun _ => ⟨v, ⟨fun z => absurd z h3, fun _ => ⟨fun _ => ⟨fun _ => ⟨fun _ => q, fun z => absurd h6 z⟩, fun z => absurd h5 z⟩, fun z => absurd z h4⟩⟩⟩, fun z => absurd z h1⟩⟩
          · simp only [if_neg h1, if_neg h3, if_neg h4, if_pos h5, if_neg h6]
            exact ⟨trivial, fun p v q => ⟨p, fun _ => ⟨v, ⟨fun z => absurd z h3, fun _ => ⟨fun _ => ⟨fun _ => ⟨fun z => absurd z h6, fun _ => q⟩, fun z => absurd h5 z⟩, fun z => absurd z h4⟩⟩⟩, fun z => absurd z h1⟩⟩
        · by_cases h6 : 3 ≤ (fI μ 0 5) - (fI μ 0 6)
          · simp only [if_neg h1, if_neg h3, if_neg h4, if_neg h5, if_pos h6]
            exact ⟨trivial, fun p v q => ⟨p, fun _ => ⟨v, ⟨fun z => absurd z h3, fun _ => ⟨fun _ => ⟨fun z => absurd z h5, fun _ => ⟨fun _ => q, fun z => absurd h6 z⟩⟩, fun z => absurd z h4⟩⟩⟩, fun z => absurd z h1⟩⟩
          · simp only [if_neg h1, if_neg h3, if_neg h4, if_neg h5, if_neg h6]
            exact ⟨trivial, fun p v q => ⟨p, fun _ => ⟨v, ⟨fun z => absurd z h3, fun _ => ⟨fun _ => ⟨fun z => absurd z h5, fun _ => ⟨fun z => absurd z h6, fun _ => q⟩⟩, fun z => absurd z h4⟩⟩⟩, fun z => absurd z h1⟩⟩
