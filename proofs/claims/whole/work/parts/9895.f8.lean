theorem fl_52 (v : Int32) : ∀ (c i n : Nat) (μ : fm_T), i + c = 40 → c < n → qJ7_fill_53178_52_h5 n μ v (nI i) 40 ∧ frL (fun k _ => k = 52) fN μ (mJ7_fill_53178_52_h5 n μ v (nI i) 40) ∧ ∀ S, S < 40 → fI (mJ7_fill_53178_52_h5 n μ v (nI i) 40) 52 S = if i ≤ S then v else fI μ 52 S := by
  intro c
  induction c with
  | zero =>
    intro i n μ h1 h2
    obtain ⟨n, rfl⟩ : ∃ m, n = m + 1 := ⟨n - 1, by omega⟩
    have e : (40 : Int32) ≤ nI i := (nI_leI (a := 40) (by omega) (by omega)).mpr (by omega)
    simp only [mJ7_fill_53178_52_h5, qJ7_fill_53178_52_h5, if_pos e]
    exact ⟨fun z => absurd e z, frL.rf _ _ _, fun S hS => by rw [if_neg (by omega)]⟩
  | succ c ih =>
    intro i n μ h1 h2
    obtain ⟨n, rfl⟩ : ∃ m, n = m + 1 := ⟨n - 1, by omega⟩
    have e : ¬ (40 : Int32) ≤ nI i := fun z => by have := (nI_leI (a := 40) (by omega) (by omega)).mp z; omega
    have hi : i < 2 ^ 31 := by omega
    obtain ⟨k1, k2, k3⟩ := ih (i + 1) n (fm_i μ 52 i v) (by omega) (by omega)
    simp only [mJ7_fill_53178_52_h5, qJ7_fill_53178_52_h5, if_neg e, nI_clamp hi, nI_1]
    refine ⟨fun _ => ⟨vp_in_nI (by omega) (by decide), k1⟩, ((frL.rf (fun k _ => k = 52) fN μ).i (k := 52) (j := i) (v := v) rfl).tr k2, fun S hS => ?_⟩
    rw [k3 S hS, fI_i]
    by_cases q : i + 1 ≤ S
    · rw [if_pos q, if_pos (by omega)]
    · by_cases w : S = i
      · rw [if_neg q, if_pos ⟨rfl, w⟩, if_pos (by omega)]
      · rw [if_neg q, if_neg (by omega), if_neg (by omega)]
theorem fl_55 (v : Int32) : ∀ (c i n : Nat) (μ : fm_T), i + c = 40 → c < n → qJ7_fill_53178_55_h5 n μ v (nI i) 40 ∧ frL (fun k _ => k = 55) fN μ (mJ7_fill_53178_55_h5 n μ v (nI i) 40) ∧ ∀ S, S < 40 → fI (mJ7_fill_53178_55_h5 n μ v (nI i) 40) 55 S = if i ≤ S then v else fI μ 55 S := by
  intro c
  induction c with
  | zero =>
    intro i n μ h1 h2
    obtain ⟨n, rfl⟩ : ∃ m, n = m + 1 := ⟨n - 1, by omega⟩
    have e : (40 : Int32) ≤ nI i := (nI_leI (a := 40) (by omega) (by omega)).mpr (by omega)
    simp only [mJ7_fill_53178_55_h5, qJ7_fill_53178_55_h5, if_pos e]
    exact ⟨fun z => absurd e z, frL.rf _ _ _, fun S hS => by rw [if_neg (by omega)]⟩
  | succ c ih =>
    intro i n μ h1 h2
    obtain ⟨n, rfl⟩ : ∃ m, n = m + 1 := ⟨n - 1, by omega⟩
    have e : ¬ (40 : Int32) ≤ nI i := fun z => by have := (nI_leI (a := 40) (by omega) (by omega)).mp z; omega
    have hi : i < 2 ^ 31 := by omega
    obtain ⟨k1, k2, k3⟩ := ih (i + 1) n (fm_i μ 55 i v) (by omega) (by omega)
    simp only [mJ7_fill_53178_55_h5, qJ7_fill_53178_55_h5, if_neg e, nI_clamp hi, nI_1]
    refine ⟨fun _ => ⟨vp_in_nI (by omega) (by decide), k1⟩, ((frL.rf (fun k _ => k = 55) fN μ).i (k := 55) (j := i) (v := v) rfl).tr k2, fun S hS => ?_⟩
    rw [k3 S hS, fI_i]
    by_cases q : i + 1 ≤ S
    · rw [if_pos q, if_pos (by omega)]
    · by_cases w : S = i
      · rw [if_neg q, if_pos ⟨rfl, w⟩, if_pos (by omega)]
      · rw [if_neg q, if_neg (by omega), if_neg (by omega)]
theorem WR_fc {σ : sg_T} {μ μ' : fm_T} {a : Nat → Int32} {nm : Nat → Int64} {A B : Nat → Nat → Prop} (w : WR σ (blk μ 8) (fL μ 25) a nm) (f : frL A B μ μ') (ha : ∀ k j, A k j → k < 8 ∨ 40 ≤ k) (hb : ∀ k j, B k j → k ≠ 25) : WR σ (blk μ' 8) (fL μ' 25) a nm :=
  WR_cg (fun k j hk => f.2.2.2 (8 + k) j (fun z => by have := ha _ _ z; omega)) (fun j => f.2.2.1 25 j (fun z => hb _ _ z rfl)) w
theorem WR_fm {σ : sg_T} {ν ν' : fm_T} {c : Nat → Nat → Int32} {cn : Nat → Int64} {A B : Nat → Nat → Prop} (w : WR σ c cn (fI ν 2) (fL ν 5)) (f : frL A B ν ν') (ha : ∀ k j, A k j → k ≠ 2) (hb : ∀ k j, B k j → k ≠ 5) : WR σ c cn (fI ν' 2) (fL ν' 5) := by
  have e1 : fI ν' 2 = fI ν 2 := funext fun j => f.2.2.2 2 j (fun z => ha _ _ z rfl)
  have e2 : fL ν' 5 = fL ν 5 := funext fun j => f.2.2.1 5 j (fun z => hb _ _ z rfl)
  rw [e1, e2]
  exact w
def bnd (k t a u : Nat) : Nat := if u < t then k else if u = t then a else 0
def FT (k T : Nat) (E : Nat → Nat → Bool) (t a : Nat) (μ : fm_T) : Prop := fI μ 51 6 = nI k ∧ fI μ 51 7 = nI T ∧ ∀ u, u < T → ∃ m, m < 2 ^ bnd k t a u ∧ fI μ 52 u = nI m ∧ ∀ j, j < bnd k t a u → m.testBit j = E j u
def f52 (k j : Nat) : Prop := k = 52
section
variable {σ : sg_T} {μ ν : fm_T} {b : Nat → Nat} {k : Nat}
theorem fa_99 (w : WR σ (blk μ 8) (fL μ 25) (fI ν 2) (fL ν 5)) (hb : ∀ i, i < 940 → fI μ 3 i = nI (b i) ∧ b i ≤ 255) (hk : k ≤ 8) {t : Nat} (ht : t < σ 0 0) (x1 : Int32) : ∀ (c a n : Nat) (μ' : fm_T), a + c = k → c < n → frL f52 fN μ μ' → FT k (σ 0 0) (fitB σ b) t a μ' → l3X11_found_h99 n μ' x1 (nI k) (nI t) (nI a) = nI (t + 1) ∧ qX11_found_h99 n μ' x1 (nI k) (nI t) (nI a) ∧ frL f52 fN μ (mX11_found_h99 n μ' x1 (nI k) (nI t) (nI a)) ∧ FT k (σ 0 0) (fitB σ b) t k (mX11_found_h99 n μ' x1 (nI k) (nI t) (nI a)) := by
  have hS := (wr_S w).2.2
  intro c
  induction c with
  | zero =>
    intro a n μ' h1 h2 f hF
    obtain ⟨n, rfl⟩ : ∃ m, n = m + 1 := ⟨n - 1, by omega⟩
    obtain rfl : a = k := by omega
    have e : nI a ≤ nI a := (nI_leI (by omega) (by omega)).mpr (by omega)
    simp only [l3X11_found_h99, mX11_found_h99, qX11_found_h99, if_pos e, nI_1]
    exact ⟨trivial, fun z => absurd e z, f, hF⟩
  | succ c ih =>
    intro a n μ' h1 h2 f hF
    obtain ⟨n, rfl⟩ : ∃ m, n = m + 1 := ⟨n - 1, by omega⟩
    have e : ¬ nI k ≤ nI a := fun z => by have := (nI_leI (by omega) (by omega)).mp z; omega
    have w' := WR_fc w f (fun k j z => by unfold f52 at z; omega) (fun _ _ z => z.elim)
    obtain ⟨g1, g2⟩ := ft_c w' (fun i hi => ⟨(f.2.2.2 3 i (by unfold f52; omega)).trans (hb i hi).1, (hb i hi).2⟩) (i := a) (t := t) (by omega) ht
    have e6 : nI a * (6 : Int32) = nI (6 * a) := by
      rw [show (6 : Int32) = nI 6 from rfl, nI_mul]
      congr 1
      omega
    simp only [l3X11_found_h99, mX11_found_h99, qX11_found_h99, if_neg e, e6, g1, nI_1]
    have bt : bnd k t a t = a := by unfold bnd; rw [if_neg (by omega), if_pos rfl]
    have bt1 : bnd k t (a + 1) t = a + 1 := by unfold bnd; rw [if_neg (by omega), if_pos rfl]
    have bo : ∀ u, u ≠ t → bnd k t (a + 1) u = bnd k t a u := fun u hu => by unfold bnd; rw [if_neg hu, if_neg hu]
    obtain ⟨m, m1, m2, m3⟩ := hF.2.2 t ht
    rw [bt] at m1 m3
    have mf : m.testBit a = false := Nat.testBit_lt_two_pow m1
    have p8 : 2 ^ (a + 1) ≤ 256 := Nat.pow_le_pow_right (n := 2) (j := 8) (by decide) (by omega)
    have ps : 2 ^ (a + 1) = 2 ^ a * 2 := Nat.pow_succ _ _
    by_cases q : fitB σ b a t = false
    · obtain ⟨k1, k2, k3, k4⟩ := ih (a + 1) n μ' (by omega) (by omega) f ⟨hF.1, hF.2.1, fun u hu => by
        by_cases z : u = t
        · rw [z, bt1]
          exact ⟨m, by omega, m2, fun j hj => by
            by_cases w : j = a
            · rw [w, mf, q]
            · exact m3 j (by omega)⟩
        · rw [bo u z]; exact hF.2.2 u hu⟩
      simp only [if_pos q]
      exact ⟨k1, fun _ => ⟨g2, fun _ => k2, fun z => absurd q z⟩, k3, k4⟩
    · have qt : fitB σ b a t = true := by cases hq : fitB σ b a t; exact absurd hq q; rfl
      have wi1 : ¬ gX11_within μ' (nI a) 0 (nI k - 1) = 0 := wi_b (by omega) (by omega)
      have wi2 : ¬ gX11_within μ' (nI t) 0 (nI (σ 0 0) - 1) = 0 := wi_b (by omega) ht
      obtain ⟨s1, s2, s3⟩ := st_512 m (by omega) a (by omega) mf
      have ht2 : t < 2 ^ 31 := by omega
      have tb : ∀ j, j < a + 1 → (m + 2 ^ a).testBit j = fitB σ b j t := fun j hj => by
        have := (tb_sub (S := m + 2 ^ a) (i := j) (j := a) (by omega) (by omega) (by omega) s3).1
        rw [Nat.add_sub_cancel] at this
        by_cases w : j = a
        · rw [w, s3, qt]
        · have ew : (j == a) = false := by simpa using w
          rw [ew, Bool.not_false, Bool.and_true] at this
          rw [← this]
          exact m3 j (by omega)
      obtain ⟨k1, k2, k3, k4⟩ := ih (a + 1) n (fm_i μ' 52 t (nI (m + 2 ^ a))) (by omega) (by omega) (f.i rfl) ⟨by rw [fI_i, if_neg (by omega)]; exact hF.1, by rw [fI_i, if_neg (by omega)]; exact hF.2.1, fun u hu => by
        rw [fI_i]
        by_cases z : u = t
        · rw [z, bt1, if_pos ⟨rfl, rfl⟩]
          exact ⟨m + 2 ^ a, by omega, rfl, tb⟩
        · rw [bo u z, if_neg (by omega)]; exact hF.2.2 u hu⟩
      have vt : vp_in (nI t) 40 := vp_in_nI (by omega) (by decide)
      simp only [if_neg q, uX1_allow, pX1_allow, hF.1, hF.2.1, if_neg wi1, if_neg wi2, nI_clamp ht2, m2, s1]
      exact ⟨k1, fun _ => ⟨g2, fun z => absurd z q, fun _ => ⟨fun _ _ => ⟨vt, vt⟩, k2⟩⟩, k3, k4⟩
theorem fa_82 (w : WR σ (blk μ 8) (fL μ 25) (fI ν 2) (fL ν 5)) (hb : ∀ i, i < 940 → fI μ 3 i = nI (b i) ∧ b i ≤ 255) (hk : k ≤ 8) (x1 : Int32) : ∀ (c t n : Nat) (μ' : fm_T), t + c = σ 0 0 → c < n → frL f52 fN μ μ' → FT k (σ 0 0) (fitB σ b) t 0 μ' → ∃ μ2, frL f52 fN μ μ2 ∧ FG2 k (σ 0 0) (fitB σ b) μ2 ∧ lX11_found_h82 n μ' x1 (nI k) (nI t) = gX1_countWays μ2 ∧ mX11_found_h82 n μ' x1 (nI k) (nI t) = (if lg_cmp (gX1_countWays μ2) 0 ≤ 0 then uX1_countWays μ2 else uX1_settleSure (uX1_countWays μ2)) ∧ (pX1_countWays μ2 → (¬ lg_cmp (gX1_countWays μ2) 0 ≤ 0 → pX1_settleSure (uX1_countWays μ2)) → qX11_found_h82 n μ' x1 (nI k) (nI t)) := by
  obtain ⟨cS, -, hS⟩ := wr_S w
  intro c
  induction c with
  | zero =>
    intro t n μ' h1 h2 f hF
    obtain ⟨n, rfl⟩ : ∃ m, n = m + 1 := ⟨n - 1, by omega⟩
    have e : nI (σ 0 0) ≤ nI t := (nI_leI (by omega) (by omega)).mpr (by omega)
    have c5 : fI μ' 9 5 = nI (σ 0 0) := (f.2.2.2 9 5 (by unfold f52; omega)).trans cS
    refine ⟨μ', f, ⟨hF.1, hF.2.1, fun u hu => ?_⟩, ?_⟩
    · obtain ⟨m, m1, m2, m3⟩ := hF.2.2 u hu
      have bu : bnd k t 0 u = k := by unfold bnd; rw [if_pos (by omega)]
      rw [bu] at m1 m3
      have : 2 ^ k ≤ 256 := Nat.pow_le_pow_right (n := 2) (j := 8) (by decide) hk
      exact ⟨m, by omega, m2, m3⟩
    · simp only [lX11_found_h82, mX11_found_h82, qX11_found_h82, c5, if_pos e, ite_self]
      exact ⟨trivial, trivial, fun q1 q2 => ⟨fun _ => ⟨q1, q2⟩, fun z => absurd e z⟩⟩
  | succ c ih =>
    intro t n μ' h1 h2 f hF
    obtain ⟨n, rfl⟩ : ∃ m, n = m + 1 := ⟨n - 1, by omega⟩
    have e : ¬ nI (σ 0 0) ≤ nI t := fun z => by have := (nI_leI (by omega) (by omega)).mp z; omega
    have c5 : fI μ' 9 5 = nI (σ 0 0) := (f.2.2.2 9 5 (by unfold f52; omega)).trans cS
    obtain ⟨a1, a2, a3, a4⟩ := fa_99 w hb hk (t := t) (by omega) x1 k 0 fF μ' (by omega) (fF_gt (by omega)) f hF
    rw [show nI 0 = 0 from rfl] at a1 a2 a3 a4
    have F2 : FT k (σ 0 0) (fitB σ b) (t + 1) 0 (mX11_found_h99 fF μ' x1 (nI k) (nI t) 0) := ⟨a4.1, a4.2.1, fun u hu => by
      have be : bnd k (t + 1) 0 u = bnd k t k u := by
        unfold bnd
        by_cases q : u < t
        · rw [if_pos (by omega), if_pos q]
        · by_cases w : u = t
          · rw [if_pos (by omega), if_neg q, if_pos w]
          · rw [if_neg (by omega), if_neg q, if_neg w]
            split <;> rfl
      rw [be]
      exact a4.2.2 u hu⟩
    obtain ⟨μ2, k1, k2, k3, k4, k5⟩ := ih (t + 1) n _ (by omega) (by omega) a3 F2
    refine ⟨μ2, k1, k2, ?_⟩
    simp only [lX11_found_h82, mX11_found_h82, qX11_found_h82, c5, if_neg e, a1]
    exact ⟨k3, k4, fun q1 q2 => ⟨fun z => absurd z e, fun _ => ⟨a2, k5 q1 q2⟩⟩⟩
def f17 (k j : Nat) : Prop := k = 17
theorem fm_148 (w : WR σ (blk μ 8) (fL μ 25) (fI ν 2) (fL ν 5)) (hb : ∀ i, i < 940 → fI ν 1 i = nI (b i) ∧ b i ≤ 255) {i : Nat} (hi : i < 8) (x1 x2 : Int32) : ∀ (c t n : Nat) (ν' : fm_T), t + c = 40 → c < n → frL f17 fN ν ν' → (∀ j, j < i → ∀ u, u < σ 0 0 → fI ν' 17 (40 * j + u) = if fitB σ b j u then 1 else 0) → (∀ u, u < t → u < σ 0 0 → fI ν' 17 (40 * i + u) = if fitB σ b i u then 1 else 0) → l3X12_found_h148 n ν' x1 x2 (nI i) (nI t) = nI (i + 1) ∧ qX12_found_h148 n ν' x1 x2 (nI i) (nI t) ∧ frL f17 fN ν (mX12_found_h148 n ν' x1 x2 (nI i) (nI t)) ∧ ∀ j, j < i + 1 → ∀ u, u < σ 0 0 → fI (mX12_found_h148 n ν' x1 x2 (nI i) (nI t)) 17 (40 * j + u) = if fitB σ b j u then 1 else 0 := by
  obtain ⟨-, mS, hS⟩ := wr_S w
  intro c
  induction c with
  | zero =>
    intro t n ν' h1 h2 f g1 g2
    obtain ⟨n, rfl⟩ : ∃ m, n = m + 1 := ⟨n - 1, by omega⟩
    have e : (40 : Int32) ≤ nI t := (nI_leI (a := 40) (by omega) (by omega)).mpr (by omega)
    simp only [l3X12_found_h148, mX12_found_h148, qX12_found_h148, if_pos e, nI_1]
    refine ⟨trivial, fun z => absurd e z, f, fun j hj u hu => ?_⟩
    by_cases q : j = i
    · rw [q]; exact g2 u (by omega) hu
    · exact g1 j (by omega) u hu
  | succ c ih =>
    intro t n ν' h1 h2 f g1 g2
    obtain ⟨n, rfl⟩ : ∃ m, n = m + 1 := ⟨n - 1, by omega⟩
    have e : ¬ (40 : Int32) ≤ nI t := fun z => by have := (nI_leI (a := 40) (by omega) (by omega)).mp z; omega
    have c131 : fI ν' 2 131 = nI (σ 0 0) := (f.2.2.2 2 131 (by unfold f17; omega)).trans mS
    have e40 : (40 : Int32) * nI i + nI t = nI (40 * i + t) := by simp only [li_n, nI_mul, nI_add]
    have h40 : 40 * i + t < 2 ^ 31 := by omega
    have v40 : vp_in (nI (40 * i + t)) 320 := vp_in_nI (by omega) (by decide)
    have kt : nI (σ 0 0) ≤ nI t ↔ σ 0 0 ≤ t := nI_leI (by omega) (by omega)
    simp only [l3X12_found_h148, mX12_found_h148, qX12_found_h148, if_neg e, gX12_tickets, c131, kt, e40, nI_clamp h40, nI_1]
    have go : ∀ v : Int32, (t < σ 0 0 → v = if fitB σ b i t then 1 else 0) → _ := fun v hv => ih (t + 1) n (fm_i ν' 17 (40 * i + t) v) (by omega) (by omega) (f.i rfl) (fun j hj u hu => by rw [fI_i, if_neg (by omega)]; exact g1 j hj u hu) (fun u hu hu2 => by
      rw [fI_i]
      by_cases q : u = t
      · rw [if_pos ⟨rfl, by omega⟩, q]; exact hv (by omega)
      · rw [if_neg (by omega)]; exact g2 u (by omega) hu2)
    by_cases q : σ 0 0 ≤ t
    · obtain ⟨k1, k2, k3, k4⟩ := go 0 (fun z => by omega)
      simp only [if_pos q]
      exact ⟨k1, fun _ => ⟨fun _ => ⟨v40, k2⟩, fun z => absurd q z⟩, k3, k4⟩
    · have w' := WR_fm w f (fun k j z => by unfold f17 at z; omega) (fun _ _ z => z.elim)
      obtain ⟨t1, t2⟩ := ft_m w' (fun i hi => ⟨(f.2.2.2 1 i (by unfold f17; omega)).trans (hb i hi).1, (hb i hi).2⟩) (i := i) (t := t) hi (by omega)
      simp only [if_neg q, t1]
      by_cases z : fitB σ b i t = false
      · obtain ⟨k1, k2, k3, k4⟩ := go 0 (fun _ => by rw [z]; rfl)
        simp only [if_pos z]
        exact ⟨k1, fun _ => ⟨fun y => absurd y q, fun _ => ⟨t2, fun _ => ⟨v40, k2⟩, fun y => absurd z y⟩⟩, k3, k4⟩
      · have zt : fitB σ b i t = true := by cases hq : fitB σ b i t; exact absurd hq z; rfl
        obtain ⟨k1, k2, k3, k4⟩ := go 1 (fun _ => by rw [zt]; rfl)
        simp only [if_neg z]
        exact ⟨k1, fun _ => ⟨fun y => absurd y q, fun _ => ⟨t2, fun y => absurd y z, fun _ => ⟨v40, k2⟩⟩⟩, k3, k4⟩
theorem fm_140 (w : WR σ (blk μ 8) (fL μ 25) (fI ν 2) (fL ν 5)) (hb : ∀ i, i < 940 → fI ν 1 i = nI (b i) ∧ b i ≤ 255) (hk : k ≤ 8) (x1 : Int32) : ∀ (c i n : Nat) (ν' : fm_T), i + c = k → c < n → frL f17 fN ν ν' → (∀ j, j < i → ∀ u, u < σ 0 0 → fI ν' 17 (40 * j + u) = if fitB σ b j u then 1 else 0) → ∃ ν2, frL f17 fN ν ν2 ∧ MG k (σ 0 0) (fitB σ b) ν2 ∧ lX12_found_h140 n ν' x1 (nI k) (nI i) = (if lg_cmp (gX12_waysOf ν2 (nI k) 0 (-1)) 0 = 0 then 0 else lX12_found_h227 fF (fm_i (uX12_waysOf ν2 (nI k) 0 (-1)) 0 39 (nI k)) x1 (nI k) (gX12_waysOf ν2 (nI k) 0 (-1)) 0) ∧ mX12_found_h140 n ν' x1 (nI k) (nI i) = (if lg_cmp (gX12_waysOf ν2 (nI k) 0 (-1)) 0 = 0 then uX12_waysOf ν2 (nI k) 0 (-1) else mX12_found_h227 fF (fm_i (uX12_waysOf ν2 (nI k) 0 (-1)) 0 39 (nI k)) x1 (nI k) (gX12_waysOf ν2 (nI k) 0 (-1)) 0) ∧ (pX12_waysOf ν2 (nI k) 0 (-1) → (¬ lg_cmp (gX12_waysOf ν2 (nI k) 0 (-1)) 0 = 0 → qX12_found_h227 fF (fm_i (uX12_waysOf ν2 (nI k) 0 (-1)) 0 39 (nI k)) x1 (nI k) (gX12_waysOf ν2 (nI k) 0 (-1)) 0) → qX12_found_h140 n ν' x1 (nI k) (nI i)) := by
  obtain ⟨-, mS, hS⟩ := wr_S w
  intro c
  induction c with
  | zero =>
    intro i n ν' h1 h2 f g1
    obtain ⟨n, rfl⟩ : ∃ m, n = m + 1 := ⟨n - 1, by omega⟩
    obtain rfl : i = k := by omega
    have e : nI i ≤ nI i := (nI_leI (by omega) (by omega)).mpr (by omega)
    refine ⟨ν', f, ⟨(f.2.2.2 2 131 (by unfold f17; omega)).trans mS, g1⟩, ?_⟩
    simp only [lX12_found_h140, mX12_found_h140, qX12_found_h140, if_pos e]
    exact ⟨trivial, trivial, fun q1 q2 => ⟨fun _ => ⟨q1, q2⟩, fun z => absurd e z⟩⟩
  | succ c ih =>
    intro i n ν' h1 h2 f g1
    obtain ⟨n, rfl⟩ : ∃ m, n = m + 1 := ⟨n - 1, by omega⟩
    have e : ¬ nI k ≤ nI i := fun z => by have := (nI_leI (by omega) (by omega)).mp z; omega
    obtain ⟨a1, a2, a3, a4⟩ := fm_148 w hb (i := i) (by omega) x1 (nI k) 40 0 fF ν' (by omega) (fF_gt (by omega)) f g1 (fun u hu => by omega)
    rw [show nI 0 = 0 from rfl] at a1 a2 a3 a4
    obtain ⟨ν2, k1, k2, k3, k4, k5⟩ := ih (i + 1) n _ (by omega) (by omega) a3 a4
    refine ⟨ν2, k1, k2, ?_⟩
    simp only [lX12_found_h140, mX12_found_h140, qX12_found_h140, if_neg e, a1]
    exact ⟨k3, k4, fun q1 q2 => ⟨fun z => absurd z e, fun _ => ⟨a2, k5 q1 q2⟩⟩⟩
end
