def MqN (D L : Nat) (dk dh : Nat → Nat) (ν : fm_T) : Prop := fI ν 2 3 = nI D ∧ fI ν 2 4 = nI L ∧ ∀ d, d < D → fI ν 2 (110 + 2 * d) = nI (dk d) ∧ fI ν 2 (111 + 2 * d) = nI (dh d)
def MhN (n : Nat) (tk cl du sh we he : Nat → Nat) (ν : fm_T) : Prop := fI ν 0 31 = nI n ∧ ∀ i, i < n → tk i < 40 ∧ cl i < 8 ∧ fI ν 9 i = nI (tk i) ∧ fI ν 10 i = nI (du i) ∧ fI ν 2 (160 + 12 * tk i + 0) = nI (cl i) ∧ fI ν 2 (160 + 12 * tk i + 1) = nI (sh i) ∧ fI ν 2 (160 + 12 * tk i + 2) = nI (we i) ∧ fI ν 2 (60 + 4 * cl i + 0) = nI (he i)
def fPa (k j : Nat) : Prop := (12 ≤ k ∧ k ≤ 16) ∨ (k = 0 ∧ (j = 32 ∨ j = 33 ∨ j = 34))
section
variable {D n L day : Nat} {dk dh du sh we he tk cl : Nat → Nat}
theorem MQ_f {A : Nat → Nat → Prop} {ν ν' : fm_T} (h : MqN D L dk dh ν) (f : frL A fN ν ν') (hA : ∀ k j, A k j → fPa k j) : MqN D L dk dh ν' := by
  have g : ∀ j, fI ν' 2 j = fI ν 2 j := fun j => f.2.2.2 2 j (fun z => by have := hA _ _ z; unfold fPa at this; omega)
  refine ⟨by rw [g]; exact h.1, by rw [g]; exact h.2.1, fun d hd => ?_⟩
  rw [g, g]
  exact h.2.2 d hd
theorem MH_f {A : Nat → Nat → Prop} {ν ν' : fm_T} (h : MhN n tk cl du sh we he ν) (f : frL A fN ν ν') (hA : ∀ k j, A k j → fPa k j) : MhN n tk cl du sh we he ν' := by
  have g : ∀ k j, k = 2 ∨ k = 9 ∨ k = 10 ∨ (k = 0 ∧ j = 31) → fI ν' k j = fI ν k j := fun k j hk => f.2.2.2 k j (fun z => by have := hA _ _ z; unfold fPa at this; omega)
  refine ⟨by rw [g 0 31 (by omega)]; exact h.1, fun i hi => ?_⟩
  rw [g 9 i (by omega), g 10 i (by omega), g 2 _ (by omega), g 2 _ (by omega), g 2 _ (by omega), g 2 _ (by omega)]
  exact h.2 i hi
theorem mh_of {ν : fm_T} (h : MhN n tk cl du sh we he ν) {i : Nat} (hi : i < n) : gX12_of ν (nI (tk i)) 0 = nI (cl i) ∧ gX12_of ν (nI (tk i)) 1 = nI (sh i) ∧ gX12_of ν (nI (tk i)) 2 = nI (we i) ∧ gX12_clothOf ν (nI (cl i)) 0 = nI (he i) ∧ pX12_of ν (nI (tk i)) 0 ∧ pX12_of ν (nI (tk i)) 1 ∧ pX12_of ν (nI (tk i)) 2 ∧ pX12_clothOf ν (nI (cl i)) 0 := by
  obtain ⟨a1, a2, -, -, a5, a6, a7, a8⟩ := h.2 i hi
  have ix : ∀ j, (160 : Int32) + (12 : Int32) * nI (tk i) + nI j = nI (160 + 12 * tk i + j) := fun j => by rw [show (160 : Int32) = nI 160 from rfl, show (12 : Int32) = nI 12 from rfl, nI_mul, nI_add, nI_add]
  have iy : (60 : Int32) + (4 : Int32) * nI (cl i) + nI 0 = nI (60 + 4 * cl i + 0) := by rw [show (60 : Int32) = nI 60 from rfl, show (4 : Int32) = nI 4 from rfl, nI_mul, nI_add, nI_add]
  have i0 : (160 : Int32) + (12 : Int32) * nI (tk i) + 0 = nI (160 + 12 * tk i + 0) := ix 0
  have i1 : (160 : Int32) + (12 : Int32) * nI (tk i) + 1 = nI (160 + 12 * tk i + 1) := ix 1
  have i2 : (160 : Int32) + (12 : Int32) * nI (tk i) + 2 = nI (160 + 12 * tk i + 2) := ix 2
  have i3 : (60 : Int32) + (4 : Int32) * nI (cl i) + 0 = nI (60 + 4 * cl i + 0) := iy
  unfold gX12_of gX12_clothOf pX12_of pX12_clothOf
  rw [i0, i1, i2, i3, nI_clamp (by omega), nI_clamp (by omega), nI_clamp (by omega), nI_clamp (by omega)]
  exact ⟨a5, a6, a7, a8, vp_in_nI (by omega) (by decide), vp_in_nI (by omega) (by decide), vp_in_nI (by omega) (by decide), vp_in_nI (by omega) (by decide)⟩
theorem dr_m {ν : fm_T} (hD : D ≤ 4) (q : MqN D L dk dh ν) (hd : ∀ d, d < D → dk d ≤ 99 ∧ dh d ≤ 9) {c hh w : Nat} (hc : c < 8) (hcl : fI ν 2 (60 + 4 * c + 0) = nI hh) (h9 : hh ≤ 9) (hw : w ≤ 100000) : ∀ (k d f v : Nat), d + k = D → k < f → v < 2 ^ d → (∀ j, j < d → (v.testBit j = true ↔ dh j ≤ hh ∧ w ≤ 10 * dk j)) → qX12_drumsFor_h5 f ν (nI c) (nI w) (nI v) (nI d) ∧ ∃ g, lX12_drumsFor_h5 f ν (nI c) (nI w) (nI v) (nI d) = nI g ∧ g < 2 ^ D ∧ ∀ j, j < D → (g.testBit j = true ↔ dh j ≤ hh ∧ w ≤ 10 * dk j) := by
  have i3 : (60 : Int32) + (4 : Int32) * nI c + 0 = nI (60 + 4 * c + 0) := by rw [show (60 : Int32) = nI 60 from rfl, show (4 : Int32) = nI 4 from rfl, show (0 : Int32) = nI 0 from rfl, nI_mul, nI_add, nI_add]
  have gc : gX12_clothOf ν (nI c) 0 = nI hh := by
    unfold gX12_clothOf
    rw [i3, nI_clamp (by omega)]
    exact hcl
  have pc : pX12_clothOf ν (nI c) 0 := by
    unfold pX12_clothOf
    rw [i3]
    exact vp_in_nI (by omega) (by decide)
  intro k
  induction k with
  | zero =>
    intro d f v h1 h2 hv hb
    obtain ⟨f, rfl⟩ : ∃ m, f = m + 1 := ⟨f - 1, by omega⟩
    obtain rfl : d = D := by omega
    have e1 : nI d ≤ nI d := (nI_leI (by omega) (by omega)).mpr (by omega)
    simp only [lX12_drumsFor_h5, qX12_drumsFor_h5, q.1, if_pos e1]
    exact ⟨fun z => absurd e1 z, v, rfl, hv, hb⟩
  | succ k ih =>
    intro d f v h1 h2 hv hb
    obtain ⟨f, rfl⟩ : ∃ m, f = m + 1 := ⟨f - 1, by omega⟩
    have e1 : ¬ nI D ≤ nI d := fun z => by have := (nI_leI (by omega) (by omega)).mp z; omega
    have j1 : (110 : Int32) + (2 : Int32) * nI d = nI (110 + 2 * d) := by rw [show (110 : Int32) = nI 110 from rfl, show (2 : Int32) = nI 2 from rfl, nI_mul, nI_add]
    have j2 : nI (110 + 2 * d) + 1 = nI (111 + 2 * d) := by rw [show (1 : Int32) = nI 1 from rfl, nI_add]; congr 1; omega
    have c1 : 110 + 2 * d < 2 ^ 31 := by omega
    have c2 : 111 + 2 * d < 2 ^ 31 := by omega
    obtain ⟨r1, r2⟩ := q.2.2 d (by omega)
    have bd := hd d (by omega)
    have e2 : (10 : Int32) * nI (dk d) = nI (10 * dk d) := by rw [show (10 : Int32) = nI 10 from rfl, nI_mul]
    have l1 : nI hh < nI (dh d) ↔ hh < dh d := nI_ltI (by omega) (by omega)
    have l2 : nI (10 * dk d) < nI w ↔ 10 * dk d < w := nI_ltI (by omega) (by omega)
    have v1 : vp_in (nI (111 + 2 * d)) 2560 := vp_in_nI (by omega) (by decide)
    have v2 : vp_in (nI (110 + 2 * d)) 2560 := vp_in_nI (by omega) (by decide)
    simp only [lX12_drumsFor_h5, qX12_drumsFor_h5, q.1, if_neg e1, gc, j1, j2, nI_clamp c1, nI_clamp c2, r1, r2, e2, l1, l2, sh_12 d (by omega), or_i, or_p hv, nI_1]
    have no : ¬ (dh d ≤ hh ∧ w ≤ 10 * dk d) → ∀ j, j < d + 1 → (v.testBit j = true ↔ dh j ≤ hh ∧ w ≤ 10 * dk j) := fun z j hj => by
      by_cases y : j = d
      · rw [y, tb_o hv (Nat.le_refl _)]
        exact ⟨fun x => absurd x (by decide), fun x => absurd x z⟩
      · exact hb j (by omega)
    have hv2 : v < 2 ^ (d + 1) := by rw [Nat.pow_succ]; omega
    by_cases q1 : hh < dh d
    · simp only [if_pos q1]
      obtain ⟨k1, k2⟩ := ih (d + 1) f v (by omega) (by omega) hv2 (no (by omega))
      exact ⟨fun _ => ⟨pc, v1, fun _ => k1, fun z => absurd q1 z⟩, k2⟩
    · by_cases q2 : 10 * dk d < w
      · simp only [if_neg q1, if_pos q2]
        obtain ⟨k1, k2⟩ := ih (d + 1) f v (by omega) (by omega) hv2 (no (by omega))
        exact ⟨fun _ => ⟨pc, v1, fun z => absurd z q1, fun _ => ⟨v2, fun _ => k1, fun z => absurd q2 z⟩⟩, k2⟩
      · simp only [if_neg q1, if_neg q2]
        obtain ⟨k1, k2⟩ := ih (d + 1) f (2 ^ d + v) (by omega) (by omega) (by rw [Nat.pow_succ]; omega) (fun j hj => by
          by_cases y : j = d
          · rw [y, tb_c hv]
            exact ⟨fun _ => ⟨by omega, by omega⟩, fun _ => rfl⟩
          · rw [Nat.testBit_two_pow_add_gt (by omega)]; exact hb j (by omega))
        exact ⟨fun _ => ⟨pc, v1, fun z => absurd z q1, fun _ => ⟨v2, fun z => absurd z q2, fun _ => k1⟩⟩, k2⟩
theorem be_m {ν : fm_T} (hD : D ≤ 4) (q : MqN D L dk dh ν) (hd : ∀ d, d < D → dk d ≤ 99 ∧ dh d ≤ 9) {g0 w : Nat} (hg : g0 < 2 ^ D) (hw : w ≤ 100000) : ∀ (k d f v : Nat), d + k = D → k < f → v < 2 ^ d → (∀ j, j < d → (v.testBit j = true ↔ g0.testBit j = true ∧ w ≤ 10 * dk j)) → qX12_bigEnough_h5 f ν (nI g0) (nI w) (nI v) (nI d) ∧ ∃ g, lX12_bigEnough_h5 f ν (nI g0) (nI w) (nI v) (nI d) = nI g ∧ g < 2 ^ D ∧ ∀ j, j < D → (g.testBit j = true ↔ g0.testBit j = true ∧ w ≤ 10 * dk j) := by
  have hp : 2 ^ D ≤ 16 := Nat.pow_le_pow_right (n := 2) (j := 4) (by decide) hD
  intro k
  induction k with
  | zero =>
    intro d f v h1 h2 hv hb
    obtain ⟨f, rfl⟩ : ∃ m, f = m + 1 := ⟨f - 1, by omega⟩
    obtain rfl : d = D := by omega
    have e1 : nI d ≤ nI d := (nI_leI (by omega) (by omega)).mpr (by omega)
    simp only [lX12_bigEnough_h5, qX12_bigEnough_h5, q.1, if_pos e1]
    exact ⟨fun z => absurd e1 z, v, rfl, hv, hb⟩
  | succ k ih =>
    intro d f v h1 h2 hv hb
    obtain ⟨f, rfl⟩ : ∃ m, f = m + 1 := ⟨f - 1, by omega⟩
    have e1 : ¬ nI D ≤ nI d := fun z => by have := (nI_leI (by omega) (by omega)).mp z; omega
    have j1 : (110 : Int32) + (2 : Int32) * nI d = nI (110 + 2 * d) := by rw [show (110 : Int32) = nI 110 from rfl, show (2 : Int32) = nI 2 from rfl, nI_mul, nI_add]
    have c1 : 110 + 2 * d < 2 ^ 31 := by omega
    obtain ⟨r1, -⟩ := q.2.2 d (by omega)
    have bd := hd d (by omega)
    have e2 : (10 : Int32) * nI (dk d) = nI (10 * dk d) := by rw [show (10 : Int32) = nI 10 from rfl, nI_mul]
    have l2 : nI (10 * dk d) < nI w ↔ 10 * dk d < w := nI_ltI (by omega) (by omega)
    have v2 : vp_in (nI (110 + 2 * d)) 2560 := vp_in_nI (by omega) (by decide)
    have gh : gX12_has ν (nI g0) (nI d) = 0 ↔ g0.testBit d = false := by
      unfold gX12_has
      rw [hs_1k g0 (by omega) d (by omega)]
      cases g0.testBit d <;> decide
    simp only [lX12_bigEnough_h5, qX12_bigEnough_h5, q.1, if_neg e1, gh, j1, nI_clamp c1, r1, e2, l2, sh_12 d (by omega), or_i, or_p hv, nI_1]
    have no : ¬ (g0.testBit d = true ∧ w ≤ 10 * dk d) → ∀ j, j < d + 1 → (v.testBit j = true ↔ g0.testBit j = true ∧ w ≤ 10 * dk j) := fun z j hj => by
      by_cases y : j = d
      · rw [y, tb_o hv (Nat.le_refl _)]
        exact ⟨fun x => absurd x (by decide), fun x => absurd x z⟩
      · exact hb j (by omega)
    have hv2 : v < 2 ^ (d + 1) := by rw [Nat.pow_succ]; omega
    by_cases q1 : g0.testBit d = false
    · simp only [if_pos q1]
      obtain ⟨k1, k2⟩ := ih (d + 1) f v (by omega) (by omega) hv2 (no (fun z => by rw [q1] at z; exact absurd z.1 (by decide)))
      exact ⟨fun _ => ⟨fun _ => k1, fun z => absurd q1 z⟩, k2⟩
    · have q1' : g0.testBit d = true := by simpa using q1
      by_cases q2 : 10 * dk d < w
      · simp only [if_neg q1, if_pos q2]
        obtain ⟨k1, k2⟩ := ih (d + 1) f v (by omega) (by omega) hv2 (no (by omega))
        exact ⟨fun _ => ⟨fun z => absurd z q1, fun _ => ⟨v2, fun _ => k1, fun z => absurd q2 z⟩⟩, k2⟩
      · simp only [if_neg q1, if_neg q2]
        obtain ⟨k1, k2⟩ := ih (d + 1) f (2 ^ d + v) (by omega) (by omega) (by rw [Nat.pow_succ]; omega) (fun j hj => by
          by_cases y : j = d
          · rw [y, tb_c hv]
            exact ⟨fun _ => ⟨q1', by omega⟩, fun _ => rfl⟩
          · rw [Nat.testBit_two_pow_add_gt (by omega)]; exact hb j (by omega))
        exact ⟨fun _ => ⟨fun z => absurd z q1, fun _ => ⟨v2, fun z => absurd z q2, fun _ => k1⟩⟩, k2⟩
end
def f16 (k _j : Nat) : Prop := k = 16
theorem cb_19 {k v : Nat} {a : Nat → Nat} {ν0 : fm_T} (hk : k < 10) (hv : v ≤ 1000) (ha : ∀ i, i < k → a i ≤ 1000) (as : ∀ i j, i ≤ j → j < k → a i ≤ a j) (x1 : Int32) : ∀ (p f : Nat) (ν' : fm_T), p ≤ k → p < f → frL f16 fN ν0 ν' → (∀ i, i < p → fI ν' 16 i = nI (a i)) → (∀ i, p < i → i ≤ k → fI ν' 16 i = nI (a (i - 1))) → (∀ i, p ≤ i → i < k → v < a i) →
    ∃ p' ν2, p' ≤ k ∧ mX12_canBeDone_h19 f ν' x1 (nI v) (nI p) = ν2 ∧ l1X12_canBeDone_h19 f ν' x1 (nI v) (nI p) = x1 + 1 ∧ qX12_canBeDone_h19 f ν' x1 (nI v) (nI p) ∧ frL f16 fN ν0 ν2 ∧ (∀ i, i ≤ k → fI ν2 16 i = nI (if i < p' then a i else if i = p' then v else a (i - 1))) ∧ (∀ i, p' ≤ i → i < k → v < a i) ∧ (∀ i, i < p' → a i ≤ v) := by
  have fin : ∀ (p : Nat) (ν' : fm_T), p ≤ k → (∀ i, i < p → fI ν' 16 i = nI (a i)) → (∀ i, p < i → i ≤ k → fI ν' 16 i = nI (a (i - 1))) → ∀ i, i ≤ k → fI (fm_i ν' 16 p (nI v)) 16 i = nI (if i < p then a i else if i = p then v else a (i - 1)) := by
    intro p ν' hp l1 l2 i hi
    rw [fI_i]
    by_cases z : i = p
    · rw [if_pos ⟨rfl, z⟩, if_neg (by omega), if_pos z]
    · rw [if_neg (fun y => z y.2)]
      by_cases y : i < p
      · rw [if_pos y]; exact l1 i y
      · rw [if_neg y, if_neg z]; exact l2 i (by omega) hi
  intro p
  induction p with
  | zero =>
    intro f ν' h1 h2 fr l1 l2 l3
    obtain ⟨f, rfl⟩ : ∃ m, f = m + 1 := ⟨f - 1, by omega⟩
    have e1 : nI 0 ≤ 0 := by decide
    have c0 : 0 < 2 ^ 31 := by omega
    have v0 : vp_in (nI 0) 10 := vp_in_nI (by omega) (by decide)
    simp only [mX12_canBeDone_h19, l1X12_canBeDone_h19, qX12_canBeDone_h19, if_pos e1, nI_clamp c0]
    exact ⟨0, _, h1, rfl, trivial, ⟨fun _ => v0, fun z => absurd e1 z⟩, fr.i rfl, fin 0 ν' h1 l1 l2, l3, fun i hi => absurd hi (by omega)⟩
  | succ p ih =>
    intro f ν' h1 h2 fr l1 l2 l3
    obtain ⟨f, rfl⟩ : ∃ m, f = m + 1 := ⟨f - 1, by omega⟩
    have e1 : ¬ nI (p + 1) ≤ 0 := fun z => by have := (nI_leI (b := 0) (by omega) (by omega)).mp z; omega
    have e2 : nI (p + 1) - 1 = nI p := nI_sub (a := p + 1) (b := 1) (by omega)
    have e3 : nI (p + 1) + -1 = nI p := by rw [← e2, Int32.sub_eq_add_neg]
    have v0 : vp_in (nI (p + 1)) 10 := vp_in_nI (by omega) (by decide)
    have v1 : vp_in (nI p) 10 := vp_in_nI (by omega) (by decide)
    have c0 : p + 1 < 2 ^ 31 := by omega
    have c1 : p < 2 ^ 31 := by omega
    have r1 := l1 p (by omega)
    have le : nI (a p) ≤ nI v ↔ a p ≤ v := nI_leI (by have := ha p (by omega); omega) (by omega)
    simp only [mX12_canBeDone_h19, l1X12_canBeDone_h19, qX12_canBeDone_h19, if_neg e1, e2, e3, nI_clamp c0, nI_clamp c1, r1, le]
    by_cases q1 : a p ≤ v
    · simp only [if_pos q1]
      exact ⟨p + 1, _, h1, rfl, trivial, ⟨fun z => absurd z e1, fun _ => ⟨v1, fun _ => v0, fun z => absurd q1 z⟩⟩, fr.i rfl, fin (p + 1) ν' h1 l1 l2, l3, fun i hi => by
        have := as i p (by omega) (by omega); omega⟩
    · simp only [if_neg q1]
      obtain ⟨p', ν2, k1, k2, k3, k4, k5, k6⟩ := ih f (fm_i ν' 16 (p + 1) (nI (a p))) (by omega) (by omega) (fr.i rfl) (fun i hi => by
        rw [fI_i, if_neg (by omega)]; exact l1 i (by omega)) (fun i h1 h2 => by
        by_cases z : i = p + 1
        · rw [z, fI_i, if_pos ⟨rfl, rfl⟩]; rfl
        · rw [fI_i, if_neg (by omega)]; exact l2 i (by omega) h2) (fun i h1 h2 => by
        by_cases z : i = p
        · rw [z]; omega
        · exact l3 i (by omega) h2)
      exact ⟨p', ν2, k1, k2, k3, ⟨fun z => absurd z e1, fun _ => ⟨v1, fun z => absurd z q1, fun _ => ⟨v1, v0, k4⟩⟩⟩, k5, k6⟩
theorem cb_70 {m L day : Nat} {a : Nat → Nat} {ν : fm_T} (hm : m ≤ 10) (hL : 0 < L) (hL2 : L ≤ 4) (hday : day ≤ 199) (h32 : fI ν 0 32 = nI m) (h34 : fI ν 0 34 = nI day) (h4 : fI ν 2 4 = nI L) (ha : ∀ i, i < m → fI ν 16 i = nI (a i) ∧ a i ≤ 1000) : ∀ (c k f : Nat), k + c = m → c < f → qX12_canBeDone_h70 f ν (nI k) ∧ (¬ lX12_canBeDone_h70 f ν (nI k) = 0 ↔ ∀ j, k ≤ j → j < m → day + j / L ≤ a j) := by
  have l0 : ¬ nI L = 0 := fun z => by have := nI_inj (b := 0) (by omega) (by omega) z; omega
  intro c
  induction c with
  | zero =>
    intro k f h1 h2
    obtain ⟨f, rfl⟩ : ∃ m, f = m + 1 := ⟨f - 1, by omega⟩
    have e1 : nI m ≤ nI k := (nI_leI (by omega) (by omega)).mpr (by omega)
    simp only [lX12_canBeDone_h70, qX12_canBeDone_h70, h32, if_pos e1]
    exact ⟨fun z => absurd e1 z, fun _ j h1 h2 => absurd h2 (by omega), fun _ => by decide⟩
  | succ c ih =>
    intro k f h1 h2
    obtain ⟨f, rfl⟩ : ∃ m, f = m + 1 := ⟨f - 1, by omega⟩
    have e1 : ¬ nI m ≤ nI k := fun z => by have := (nI_leI (by omega) (by omega)).mp z; omega
    obtain ⟨r1, r2⟩ := ha k (by omega)
    have ck : k < 2 ^ 31 := by omega
    have kl : k / L ≤ k := Nat.div_le_self _ _
    have ed : nI day + nI k / nI L = nI (day + k / L) := by rw [nI_div (by omega) (by omega) hL, nI_add]
    have le : nI (day + k / L) ≤ nI (a k) ↔ day + k / L ≤ a k := nI_leI (by omega) (by omega)
    have v : vp_in (nI k) 10 := vp_in_nI (by omega) (by decide)
    obtain ⟨k1, k2⟩ := ih (k + 1) f (by omega) (by omega)
    simp only [lX12_canBeDone_h70, qX12_canBeDone_h70, h32, h34, h4, if_neg e1, nI_clamp ck, r1, ed, le, nI_1]
    by_cases q1 : day + k / L ≤ a k
    · simp only [if_pos q1]
      refine ⟨fun _ => ⟨l0, v, fun _ => k1⟩, k2.trans ⟨fun z j h1 h2 => ?_, fun z j h1 h2 => z j (by omega) h2⟩⟩
      by_cases y : j = k
      · rw [y]; exact q1
      · exact z j (by omega) h2
    · simp only [if_neg q1]
      exact ⟨fun _ => ⟨l0, v, fun z => absurd z q1⟩, fun z => absurd trivial z, fun z => absurd (z k (Nat.le_refl _) (by omega)) q1⟩
theorem cb_2 {m L day : Nat} {ld : Nat → Nat} {ν0 : fm_T} (hm : m ≤ 10) (hL : 0 < L) (hL2 : L ≤ 4) (hday : day ≤ 199) (h32 : fI ν0 0 32 = nI m) (h34 : fI ν0 0 34 = nI day) (h4 : fI ν0 2 4 = nI L) (hl : ∀ i, i < m → fI ν0 14 i = nI (ld i) ∧ ld i ≤ 1000) : ∀ (c k f : Nat) (ν : fm_T) (a : Nat → Nat), k + c = m → c < f → frL f16 fN ν0 ν → (∀ i, i < k → fI ν 16 i = nI (a i) ∧ a i ≤ 1000) → (∀ i j, i ≤ j → j < k → a i ≤ a j) → (∀ x, ctS a k x = ctS ld k x) →
    qX12_canBeDone_h2 f ν (nI k) ∧ frL f16 fN ν0 (mX12_canBeDone_h2 f ν (nI k)) ∧ (¬ lX12_canBeDone_h2 f ν (nI k) = 0 ↔ ∀ x, ctS ld m x ≤ L * (x + 1 - day)) := by
  intro c
  induction c with
  | zero =>
    intro k f ν a h1 h2 fr ha as hc
    obtain ⟨f, rfl⟩ : ∃ m, f = m + 1 := ⟨f - 1, by omega⟩
    obtain rfl : k = m := by omega
    have g32 : fI ν 0 32 = nI k := by rw [fr.2.2.2 0 32 (by unfold f16; omega)]; exact h32
    have e1 : nI k ≤ nI k := (nI_leI (by omega) (by omega)).mpr (by omega)
    obtain ⟨k1, k2⟩ := cb_70 hm hL hL2 hday g32 (by rw [fr.2.2.2 0 34 (by unfold f16; omega)]; exact h34) (by rw [fr.2.2.2 2 4 (by unfold f16; omega)]; exact h4) ha k 0 fF (by omega) (fF_gt (by omega))
    rw [show nI 0 = 0 from rfl] at k1 k2
    simp only [lX12_canBeDone_h2, mX12_canBeDone_h2, qX12_canBeDone_h2, g32, if_pos e1]
    refine ⟨⟨fun _ => k1, fun z => absurd e1 z⟩, fr, k2.trans ?_⟩
    have := ck_iff (day := day) hL as
    simp only [hc] at this
    rw [← this]
    exact ⟨fun z j hj => z j (Nat.zero_le _) hj, fun z j _ hj => z j hj⟩
  | succ c ih =>
    intro k f ν a h1 h2 fr ha as hc
    obtain ⟨f, rfl⟩ : ∃ m, f = m + 1 := ⟨f - 1, by omega⟩
    have g32 : fI ν 0 32 = nI m := by rw [fr.2.2.2 0 32 (by unfold f16; omega)]; exact h32
    have e1 : ¬ nI m ≤ nI k := fun z => by have := (nI_leI (by omega) (by omega)).mp z; omega
    have ck : k < 2 ^ 31 := by omega
    have g14 : fI ν 14 k = nI (ld k) := by rw [fr.2.2.2 14 k (by unfold f16; omega)]; exact (hl k (by omega)).1
    have lk := (hl k (by omega)).2
    obtain ⟨p, ν2, j1, j2, j3, j4, j5, j6, j7, j8⟩ := cb_19 (k := k) (v := ld k) (a := a) (ν0 := ν) (by omega) lk (fun i hi => (ha i hi).2) as (nI k) k fF ν (Nat.le_refl _) (fF_gt (by omega)) (frL.rf _ _ _) (fun i hi => (ha i hi).1) (fun i h1 h2 => absurd h2 (by omega)) (fun i h1 h2 => absurd h2 (by omega))
    rw [nI_1] at j3
    simp only [lX12_canBeDone_h2, mX12_canBeDone_h2, qX12_canBeDone_h2, g32, if_neg e1, nI_clamp ck, g14, j2, j3]
    obtain ⟨k1, k2, k3⟩ := ih (k + 1) f ν2 (fun i => if i < p then a i else if i = p then ld k else a (i - 1)) (by omega) (by omega) (fr.tr j5) (fun i hi => ⟨j6 i (by omega), by
      by_cases z1 : i < p
      · simp only [if_pos z1]; exact (ha i (by omega)).2
      · by_cases z2 : i = p
        · simp only [if_neg z1, if_pos z2]; exact lk
        · simp only [if_neg z1, if_neg z2]; exact (ha (i - 1) (by omega)).2⟩) (fun i j h1 h2 => by
      by_cases z1 : j < p
      · simp only [if_pos z1, if_pos (by omega : i < p)]; exact as i j h1 (by omega)
      · by_cases z2 : j = p
        · by_cases z3 : i < p
          · simp only [if_neg z1, if_pos z2, if_pos z3]; exact j8 i z3
          · simp only [if_neg z1, if_pos z2, if_neg z3, if_pos (by omega : i = p)]; exact Nat.le_refl _
        · have q5 := j7 (j - 1) (by omega) (by omega)
          by_cases z3 : i < p
          · simp only [if_neg z1, if_neg z2, if_pos z3]; exact as i (j - 1) (by omega) (by omega)
          · by_cases z4 : i = p
            · simp only [if_neg z1, if_neg z2, if_neg z3, if_pos z4]; omega
            · simp only [if_neg z1, if_neg z2, if_neg z3, if_neg z4]; exact as (i - 1) (j - 1) (by omega) (by omega)) (fun x => by
      have e : ctS (fun i => if i < p then a i else if i = p then ld k else a (i - 1)) (k + 1) x = ctS a k x + (if ld k ≤ x then 1 else 0) := by
        unfold ctS
        rw [← sm_ins (f := fun i => if a i ≤ x then 1 else 0) (y := if ld k ≤ x then 1 else 0) k j1]
        exact sm_cg (k + 1) (fun i hi => by
          by_cases z1 : i < p
          · simp only [if_pos z1]
          · by_cases z2 : i = p
            · simp only [if_neg z1, if_pos z2]
            · simp only [if_neg z1, if_neg z2])
      rw [e, hc x]
      rfl)
    exact ⟨⟨fun z => absurd z e1, fun _ => ⟨vp_in_nI (by omega) (by decide), j4, k1⟩⟩, k2, k3⟩
theorem cb_ok {m L day : Nat} {ld : Nat → Nat} {ν : fm_T} (hm : m ≤ 10) (hL : 0 < L) (hL2 : L ≤ 4) (hday : day ≤ 199) (h32 : fI ν 0 32 = nI m) (h34 : fI ν 0 34 = nI day) (h4 : fI ν 2 4 = nI L) (hl : ∀ i, i < m → fI ν 14 i = nI (ld i) ∧ ld i ≤ 1000) : pX12_canBeDone ν ∧ frL f16 fN ν (uX12_canBeDone ν) ∧ (¬ gX12_canBeDone ν = 0 ↔ ∀ x, ctS ld m x ≤ L * (x + 1 - day)) :=
  cb_2 hm hL hL2 hday h32 h34 h4 hl m 0 fF ν (fun _ => 0) (by omega) (fF_gt (by omega)) (frL.rf _ _ _) (fun i hi => absurd hi (by omega)) (fun i j _ hj => absurd hj (by omega)) (fun x => rfl)
