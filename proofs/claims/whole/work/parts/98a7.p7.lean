def f4z (k _j : Nat) : Prop := 41 ≤ k ∧ k ≤ 50
def EnC (du sh we he : Nat → Nat) (μ : fm_T) (q c : Nat) : Prop := fI μ 42 q = nI (du c) ∧ fI μ 43 q = nI (sh c) ∧ fI μ 44 q = nI (we c) ∧ fI μ 45 q = nI (he c)
section
variable {du sh we he : Nat → Nat}
theorem en_ne {μ : fm_T} {q x z : Nat} {a b c d : Int32} (h : q ≠ x) (e : EnC du sh we he μ q z) : EnC du sh we he (fm_i (fm_i (fm_i (fm_i μ 42 x a) 43 x b) 44 x c) 45 x d) q z := by
  obtain ⟨e1, e2, e3, e4⟩ := e
  refine ⟨?_, ?_, ?_, ?_⟩
  · rw [fI_i, if_neg (by omega), fI_i, if_neg (by omega), fI_i, if_neg (by omega), fI_i, if_neg (by omega)]; exact e1
  · rw [fI_i, if_neg (by omega), fI_i, if_neg (by omega), fI_i, if_neg (by omega), fI_i, if_neg (by omega)]; exact e2
  · rw [fI_i, if_neg (by omega), fI_i, if_neg (by omega), fI_i, if_neg (by omega), fI_i, if_neg (by omega)]; exact e3
  · rw [fI_i, if_neg (by omega), fI_i, if_neg (by omega), fI_i, if_neg (by omega), fI_i, if_neg (by omega)]; exact e4
theorem en_eq {μ : fm_T} {x z : Nat} : EnC du sh we he (fm_i (fm_i (fm_i (fm_i μ 42 x (nI (du z))) 43 x (nI (sh z))) 44 x (nI (we z))) 45 x (nI (he z))) x z := by
  refine ⟨?_, ?_, ?_, ?_⟩
  · rw [fI_i, if_neg (by omega), fI_i, if_neg (by omega), fI_i, if_neg (by omega), fI_i, if_pos ⟨rfl, rfl⟩]
  · rw [fI_i, if_neg (by omega), fI_i, if_neg (by omega), fI_i, if_pos ⟨rfl, rfl⟩]
  · rw [fI_i, if_neg (by omega), fI_i, if_pos ⟨rfl, rfl⟩]
  · rw [fI_i, if_pos ⟨rfl, rfl⟩]
theorem en_9 {μ : fm_T} {q z : Nat} {v : Int32} (e : EnC du sh we he μ q z) : EnC du sh we he (fm_i μ 41 9 v) q z := by
  obtain ⟨e1, e2, e3, e4⟩ := e
  refine ⟨?_, ?_, ?_, ?_⟩
  · rw [fI_i, if_neg (by omega)]; exact e1
  · rw [fI_i, if_neg (by omega)]; exact e2
  · rw [fI_i, if_neg (by omega)]; exact e3
  · rw [fI_i, if_neg (by omega)]; exact e4
theorem in_16 {i : Nat} {e : Nat → Nat} {μ0 : fm_T} (hi : i < 10) (bd : ∀ c, c ≤ i → du c ≤ 199) (eb : ∀ q, q < i → e q < i) (so : ∀ q r, q ≤ r → r < i → du (e q) ≤ du (e r)) : ∀ (p f : Nat) (μ' : fm_T), p ≤ i → p < f → frL f4z fN μ0 μ' → fI μ' 41 9 = nI i → (∀ q, q < p → EnC du sh we he μ' q (e q)) → (∀ q, p < q → q ≤ i → EnC du sh we he μ' q (e (q - 1))) → (∀ q, p ≤ q → q < i → du i < du (e q)) →
    qX4_insert_h16 f μ' (nI (du i)) (nI (sh i)) (nI (we i)) (nI (he i)) (nI p) ∧ ∃ p' M, p' ≤ i ∧ mX4_insert_h16 f μ' (nI (du i)) (nI (sh i)) (nI (we i)) (nI (he i)) (nI p) = M ∧ frL f4z fN μ0 M ∧ fI M 41 9 = nI (i + 1) ∧ (∀ q, q ≤ i → EnC du sh we he M q (if q < p' then e q else if q = p' then i else e (q - 1))) ∧ (∀ q, p' ≤ q → q < i → du i < du (e q)) ∧ ∀ q, q < p' → du (e q) ≤ du i := by
  have fin : ∀ (p : Nat) (μ' : fm_T), p ≤ i → frL f4z fN μ0 μ' → (∀ q, q < p → EnC du sh we he μ' q (e q)) → (∀ q, p < q → q ≤ i → EnC du sh we he μ' q (e (q - 1))) → frL f4z fN μ0 (fm_i (fm_i (fm_i (fm_i (fm_i μ' 42 p (nI (du i))) 43 p (nI (sh i))) 44 p (nI (we i))) 45 p (nI (he i))) 41 9 (nI (i + 1))) ∧ fI (fm_i (fm_i (fm_i (fm_i (fm_i μ' 42 p (nI (du i))) 43 p (nI (sh i))) 44 p (nI (we i))) 45 p (nI (he i))) 41 9 (nI (i + 1))) 41 9 = nI (i + 1) ∧ ∀ q, q ≤ i → EnC du sh we he (fm_i (fm_i (fm_i (fm_i (fm_i μ' 42 p (nI (du i))) 43 p (nI (sh i))) 44 p (nI (we i))) 45 p (nI (he i))) 41 9 (nI (i + 1))) q (if q < p then e q else if q = p then i else e (q - 1)) := by
    intro p μ' hp fr l1 l2
    refine ⟨((((fr.i ⟨by omega, by omega⟩).i ⟨by omega, by omega⟩).i ⟨by omega, by omega⟩).i ⟨by omega, by omega⟩).i ⟨by omega, by omega⟩, by rw [fI_i, if_pos ⟨rfl, rfl⟩], fun q hq => en_9 ?_⟩
    by_cases z : q = p
    · rw [if_neg (by omega), if_pos z, z]; exact en_eq
    · by_cases y : q < p
      · rw [if_pos y]; exact en_ne z (l1 q y)
      · rw [if_neg y, if_neg z]; exact en_ne z (l2 q (by omega) hq)
  intro p
  induction p with
  | zero =>
    intro f μ' h1 h2 fr h9 l1 l2 l3
    obtain ⟨f, rfl⟩ : ∃ m, f = m + 1 := ⟨f - 1, by omega⟩
    have e1 : nI 0 ≤ 0 := by decide
    have c0 : 0 < 2 ^ 31 := by omega
    have v0 : vp_in (nI 0) 10 := vp_in_nI (by omega) (by decide)
    obtain ⟨g1, g2, g3⟩ := fin 0 μ' h1 fr l1 l2
    simp only [mX4_insert_h16, qX4_insert_h16, if_pos e1, nI_clamp c0, h9, nI_1]
    exact ⟨⟨fun _ => ⟨v0, v0, v0, v0⟩, fun z => absurd e1 z⟩, 0, _, h1, rfl, g1, g2, g3, l3, fun q hq => absurd hq (by omega)⟩
  | succ p ih =>
    intro f μ' h1 h2 fr h9 l1 l2 l3
    obtain ⟨f, rfl⟩ : ∃ m, f = m + 1 := ⟨f - 1, by omega⟩
    have e1 : ¬ nI (p + 1) ≤ 0 := fun z => by have := (nI_leI (b := 0) (by omega) (by omega)).mp z; omega
    have e2 : nI (p + 1) - 1 = nI p := nI_sub (a := p + 1) (b := 1) (by omega)
    have e3 : nI (p + 1) + -1 = nI p := by rw [← e2, Int32.sub_eq_add_neg]
    have v0 : vp_in (nI (p + 1)) 10 := vp_in_nI (by omega) (by decide)
    have v1 : vp_in (nI p) 10 := vp_in_nI (by omega) (by decide)
    have c0 : p + 1 < 2 ^ 31 := by omega
    have c1 : p < 2 ^ 31 := by omega
    obtain ⟨r1, r2, r3, r4⟩ := l1 p (by omega)
    have b1 := bd (e p) (by have := eb p (by omega); omega)
    have b2 := bd i (Nat.le_refl _)
    have le : nI (du (e p)) ≤ nI (du i) ↔ du (e p) ≤ du i := nI_leI (by omega) (by omega)
    simp only [mX4_insert_h16, qX4_insert_h16, if_neg e1, e2, e3, nI_clamp c0, nI_clamp c1, r1, r2, r3, r4, h9, le, nI_1]
    by_cases q1 : du (e p) ≤ du i
    · obtain ⟨g1, g2, g3⟩ := fin (p + 1) μ' h1 fr l1 l2
      simp only [if_pos q1]
      exact ⟨⟨fun z => absurd z e1, fun _ => ⟨v1, fun _ => ⟨v0, v0, v0, v0⟩, fun z => absurd q1 z⟩⟩, p + 1, _, h1, rfl, g1, g2, g3, l3, fun q hq => by
        have := so q p (by omega) (by omega); omega⟩
    · simp only [if_neg q1]
      obtain ⟨k1, k2⟩ := ih f (fm_i (fm_i (fm_i (fm_i μ' 42 (p + 1) (nI (du (e p)))) 43 (p + 1) (nI (sh (e p)))) 44 (p + 1) (nI (we (e p)))) 45 (p + 1) (nI (he (e p)))) (by omega) (by omega) ((((fr.i ⟨by omega, by omega⟩).i ⟨by omega, by omega⟩).i ⟨by omega, by omega⟩).i ⟨by omega, by omega⟩) (by rw [fI_i, if_neg (by omega), fI_i, if_neg (by omega), fI_i, if_neg (by omega), fI_i, if_neg (by omega)]; exact h9) (fun q hq => en_ne (by omega) (l1 q (by omega))) (fun q h1 h2 => by
        by_cases z : q = p + 1
        · rw [z]; exact en_eq
        · exact en_ne z (l2 q (by omega) h2)) (fun q h1 h2 => by
        by_cases z : q = p
        · rw [z]; omega
        · exact l3 q (by omega) h2)
      exact ⟨⟨fun z => absurd z e1, fun _ => ⟨v1, fun z => absurd z q1, fun _ => ⟨v1, v0, v1, v0, v1, v0, v1, v0, k1⟩⟩⟩, k2⟩
theorem in_ok {i : Nat} {e : Nat → Nat} {μ0 μ' : fm_T} (hi : i < 10) (bd : ∀ c, c ≤ i → du c ≤ 199) (bj : BJ i e) (so : ∀ q r, q ≤ r → r < i → du (e q) ≤ du (e r)) (fr : frL f4z fN μ0 μ') (pc : PC i e du sh we he μ') : pX4_insert μ' (nI (du i)) (nI (sh i)) (nI (we i)) (nI (he i)) ∧ ∃ e', frL f4z fN μ0 (uX4_insert μ' (nI (du i)) (nI (sh i)) (nI (we i)) (nI (he i))) ∧ PC (i + 1) e' du sh we he (uX4_insert μ' (nI (du i)) (nI (sh i)) (nI (we i)) (nI (he i))) ∧ BJ (i + 1) e' ∧ ∀ q r, q ≤ r → r < i + 1 → du (e' q) ≤ du (e' r) := by
  obtain ⟨k1, p, M, k2, k3, k4, k5, k6, k7, k8⟩ := in_16 (sh := sh) (we := we) (he := he) hi bd bj.1 so i fF μ' (Nat.le_refl _) (fF_gt (by omega)) fr pc.1 (fun q hq => pc.2 q hq) (fun q h1 h2 => absurd h2 (by omega)) (fun q h1 h2 => absurd h2 (by omega))
  have l : nI i < 10 := (nI_ltI (b := 10) (by omega) (by omega)).mpr hi
  unfold pX4_insert uX4_insert
  rw [pc.1, if_pos l, k3]
  refine ⟨fun _ => k1, fun q => if q < p then e q else if q = p then i else e (q - 1), k4, ⟨k5, fun q hq => k6 q (by omega)⟩, ⟨fun q hq => ?_, fun q r hq hr => ?_, fun c hc => ?_⟩, fun q r hqr hr => ?_⟩
  · by_cases z1 : q < p
    · simp only [if_pos z1]; have := bj.1 q (by omega); omega
    · by_cases z2 : q = p
      · simp only [if_neg z1, if_pos z2]; omega
      · simp only [if_neg z1, if_neg z2]; have := bj.1 (q - 1) (by omega); omega
  · have eb := bj.1
    have ei := bj.2.1
    by_cases z1 : q < p
    · by_cases y1 : r < p
      · simp only [if_pos z1, if_pos y1]; exact ei q r (by omega) (by omega)
      · by_cases y2 : r = p
        · simp only [if_pos z1, if_neg y1, if_pos y2]
          have := eb q (by omega)
          intro z; omega
        · simp only [if_pos z1, if_neg y1, if_neg y2]
          intro z
          have := ei q (r - 1) (by omega) (by omega) z
          omega
    · by_cases z2 : q = p
      · by_cases y1 : r < p
        · simp only [if_neg z1, if_pos z2, if_pos y1]
          have := eb r (by omega)
          intro z; omega
        · by_cases y2 : r = p
          · intro _; omega
          · simp only [if_neg z1, if_pos z2, if_neg y1, if_neg y2]
            have := eb (r - 1) (by omega)
            intro z; omega
      · by_cases y1 : r < p
        · simp only [if_neg z1, if_neg z2, if_pos y1]
          intro z
          have := ei (q - 1) r (by omega) (by omega) z
          omega
        · by_cases y2 : r = p
          · simp only [if_neg z1, if_neg z2, if_neg y1, if_pos y2]
            have := eb (q - 1) (by omega)
            intro z; omega
          · simp only [if_neg z1, if_neg z2, if_neg y1, if_neg y2]
            intro z
            have := ei (q - 1) (r - 1) (by omega) (by omega) z
            omega
  · by_cases z : c = i
    · exact ⟨p, by omega, by simp only [if_neg (Nat.lt_irrefl p), if_true]; exact z.symm⟩
    · obtain ⟨q, q1, q2⟩ := bj.2.2 c (by omega)
      by_cases y : q < p
      · exact ⟨q, by omega, by simp only [if_pos y]; exact q2⟩
      · exact ⟨q + 1, by omega, by simp only [if_neg (by omega : ¬ q + 1 < p), if_neg (by omega : ¬ q + 1 = p)]; exact q2⟩
  · by_cases y1 : r < p
    · simp only [if_pos y1, if_pos (by omega : q < p)]; exact so q r hqr (by omega)
    · by_cases y2 : r = p
      · by_cases z1 : q < p
        · simp only [if_neg y1, if_pos y2, if_pos z1]; exact k8 q z1
        · simp only [if_neg y1, if_pos y2, if_neg z1, if_pos (by omega : q = p)]; exact Nat.le_refl _
      · have l5 := k7 (r - 1) (by omega) (by omega)
        by_cases z1 : q < p
        · simp only [if_neg y1, if_neg y2, if_pos z1]; exact so q (r - 1) (by omega) (by omega)
        · by_cases z2 : q = p
          · simp only [if_neg y1, if_neg y2, if_neg z1, if_pos z2]; omega
          · simp only [if_neg y1, if_neg y2, if_neg z1, if_neg z2]; exact so (q - 1) (r - 1) (by omega) (by omega)
end
def f910 (k _j : Nat) : Prop := k = 9 ∨ k = 10
theorem rd_pl {σ : sg_T} {μ ν : fm_T} {b du : Nat → Nat} {n : Nat} {x1 : Int32} (w : WR σ (blk μ 8) (fL μ 25) (fI ν 2) (fL ν 5)) (hn : n ≤ 10) (hb : ∀ i, i < 940 → fI μ 3 i = nI (b i) ∧ fI ν 1 i = nI (b i) ∧ b i ≤ 255) (hdu : ∀ j, j < n → du j = if ¬ x1 = 0 ∧ j = 0 then σ 0 3 else σ 1 (14 * b j + 7)) : ∀ (c i f f' : Nat) (y : Int64) (μ' ν' : fm_T) (e : Nat → Nat), i + c = n → c < f → c < f' → frL f4z fN μ μ' → frL f910 fN ν ν' → fI ν' 0 31 = nI n → PC i e du (fun j => σ 1 (14 * b j + 1)) (fun j => σ 1 (14 * b j + 2)) (fun j => σ 16 (σ 1 (14 * b j + 0))) μ' → BJ i e → (∀ q r, q ≤ r → r < i → du (e q) ≤ du (e r)) → (∀ j, j < i → b j < σ 0 0 ∧ fI ν' 9 j = nI (b j) ∧ fI ν' 10 j = nI (σ 1 (14 * b j + 7))) →
    (lX11_takePlanned_h32 f μ' x1 (nI n) y (nI i) = 0 ∧ lX12_takesTickets_h31 f' ν' y (nI i) = 0 ∧ frL f4z fN μ (mX11_takePlanned_h32 f μ' x1 (nI n) y (nI i)) ∧ frL f910 fN ν (mX12_takesTickets_h31 f' ν' y (nI i)) ∧ qX11_takePlanned_h32 f μ' x1 (nI n) y (nI i) ∧ qX12_takesTickets_h31 f' ν' y (nI i)) ∨
    (∃ μ2 e', lX11_takePlanned_h32 f μ' x1 (nI n) y (nI i) = 1 ∧ lX12_takesTickets_h31 f' ν' y (nI i) = 1 ∧ frL f4z fN μ μ2 ∧ frL f910 fN ν (mX12_takesTickets_h31 f' ν' y (nI i)) ∧ mX11_takePlanned_h32 f μ' x1 (nI n) y (nI i) = uX4_findFits μ2 ∧ (pX4_findFits μ2 → qX11_takePlanned_h32 f μ' x1 (nI n) y (nI i)) ∧ qX12_takesTickets_h31 f' ν' y (nI i) ∧ PC n e' du (fun j => σ 1 (14 * b j + 1)) (fun j => σ 1 (14 * b j + 2)) (fun j => σ 16 (σ 1 (14 * b j + 0))) μ2 ∧ BJ n e' ∧ (∀ q r, q ≤ r → r < n → du (e' q) ≤ du (e' r)) ∧ (∀ j, j < n → b j < σ 0 0 ∧ fI (mX12_takesTickets_h31 f' ν' y (nI i)) 9 j = nI (b j) ∧ fI (mX12_takesTickets_h31 f' ν' y (nI i)) 10 j = nI (σ 1 (14 * b j + 7)))) := by
  have hS := (wr_S w).2.2
  have wfc : ∀ M, frL f4z fN μ M → WR σ (blk M 8) (fL M 25) (fI ν 2) (fL ν 5) := fun M h => WR_fc w h (fun k j z => by unfold f4z at z; omega) (fun k j z => by unfold fN at z; exact z.elim)
  have wfm : ∀ M, frL f910 fN ν M → WR σ (blk μ 8) (fL μ 25) (fI M 2) (fL M 5) := fun M h => WR_fm w h (fun k j z => by unfold f910 at z; omega) (fun k j z => by unfold fN at z; exact z.elim)
  intro c
  induction c with
  | zero =>
    intro i f f' y μ' ν' e h1 h2 h3 fr1 fr2 h31 pc bj so hd
    obtain ⟨f, rfl⟩ : ∃ m, f = m + 1 := ⟨f - 1, by omega⟩
    obtain ⟨f', rfl⟩ : ∃ m, f' = m + 1 := ⟨f' - 1, by omega⟩
    obtain rfl : i = n := by omega
    have e1 : nI i ≤ nI i := (nI_leI (by omega) (by omega)).mpr (by omega)
    refine Or.inr ⟨μ', e, ?_⟩
    simp only [lX11_takePlanned_h32, mX11_takePlanned_h32, qX11_takePlanned_h32, lX12_takesTickets_h31, mX12_takesTickets_h31, qX12_takesTickets_h31, h31, if_pos e1]
    exact ⟨trivial, trivial, fr1, fr2, trivial, fun q => ⟨fun _ => q, fun z => absurd e1 z⟩, fun z => absurd e1 z, pc, bj, so, hd⟩
  | succ c ih =>
    intro i f f' y μ' ν' e h1 h2 h3 fr1 fr2 h31 pc bj so hd
    obtain ⟨f, rfl⟩ : ∃ m, f = m + 1 := ⟨f - 1, by omega⟩
    obtain ⟨f', rfl⟩ : ∃ m, f' = m + 1 := ⟨f' - 1, by omega⟩
    have e1 : ¬ nI n ≤ nI i := fun z => by have := (nI_leI (by omega) (by omega)).mp z; omega
    have w1 := wfc μ' fr1
    have w2 := wfm ν' fr2
    have by1 := by_c (b := b) (μ := μ') (fun i hi => ⟨by rw [fr1.2.2.2 3 i (by unfold f4z; omega)]; exact (hb i hi).1, (hb i hi).2.2⟩) (i := i) (by omega)
    have by2 : fI ν' 1 i = nI (b i) := by rw [fr2.2.2.2 1 i (by unfold f910; omega)]; exact (hb i (by omega)).2.1
    have b255 := (hb i (by omega)).2.2
    have ci : i < 2 ^ 31 := by omega
    have v9 : vp_in (nI i) 940 := vp_in_nI (by omega) (by decide)
    have v10 : vp_in (nI i) 10 := vp_in_nI (by omega) (by decide)
    have l0 := lgc_0 (y >>> ((nI (b i)).toInt64 &&& 63))
    have pT : pX11_isTicket μ' (nI (b i)) := wi_01 _ _ _ _
    have iT := isT (x := nI (b i)) (by omega) (wr_S w1).1 (wr_S w2).2.1
    simp only [lX11_takePlanned_h32, mX11_takePlanned_h32, qX11_takePlanned_h32, lX12_takesTickets_h31, mX12_takesTickets_h31, qX12_takesTickets_h31, h31, if_neg e1, by1.1, by2, nI_clamp ci, l0, iT, nI_1]
    by_cases a1 : gX11_isTicket μ' (nI (b i)) = 0
    · simp only [if_pos a1]
      exact Or.inl ⟨trivial, trivial, fr1, fr2, ⟨fun z => absurd z e1, fun _ => ⟨by1.2, pT, fun z => absurd a1 z⟩⟩, fun _ => ⟨v9, fun z => absurd a1 z⟩⟩
    · obtain ⟨t, t1, t2⟩ := isT_of (by omega) (wr_S w1).1 a1
      obtain rfl : b i = t := nI_inj (by omega) (by omega) t2
      simp only [if_neg a1]
      by_cases a2 : lg_cmp ((y >>> ((nI (b i)).toInt64 &&& 63)) &&& 1) 1 = 0
      · simp only [if_pos a2, if_neg (not_not_intro a2)]
        exact Or.inl ⟨trivial, trivial, fr1, fr2, ⟨fun z => absurd z e1, fun _ => ⟨by1.2, pT, fun _ z => absurd a2 z⟩⟩, fun _ => ⟨v9, fun _ z => absurd a2 z⟩⟩
      · simp only [if_neg a2, if_pos (show ¬ _ from a2)]
        obtain ⟨o1, o2⟩ := of_c w1 (j := 12) t1 (by omega)
        have o1 : gX8_of μ' (nI (b i)) 12 = nI (σ 1 (14 * b i + 12)) := o1
        have o2 : pX8_of μ' (nI (b i)) 12 := o2
        obtain ⟨s1, s2, s3⟩ := st_now w2 t1
        simp only [o1, s1]
        by_cases a3 : nI (σ 1 (14 * b i + 12)) = 0
        · obtain ⟨c7, d7⟩ := of_c w1 (j := 7) t1 (by omega)
          have c7 : gX8_of μ' (nI (b i)) 7 = nI (σ 1 (14 * b i + 7)) := c7
          have d7 : pX8_of μ' (nI (b i)) 7 := d7
          obtain ⟨c1, d1⟩ := of_c w1 (j := 1) t1 (by omega)
          have c1 : gX8_of μ' (nI (b i)) 1 = nI (σ 1 (14 * b i + 1)) := c1
          have d1 : pX8_of μ' (nI (b i)) 1 := d1
          obtain ⟨c2, d2⟩ := of_c w1 (j := 2) t1 (by omega)
          have c2 : gX8_of μ' (nI (b i)) 2 = nI (σ 1 (14 * b i + 2)) := c2
          have d2 : pX8_of μ' (nI (b i)) 2 := d2
          obtain ⟨c0, d0⟩ := of_c w1 (j := 0) t1 (by omega)
          have c0 : gX8_of μ' (nI (b i)) 0 = nI (σ 1 (14 * b i + 0)) := c0
          have d0 : pX8_of μ' (nI (b i)) 0 := d0
          obtain ⟨⟨q0, -, -, -, -, -, -, -, -, q7, -⟩, -⟩ := w.2.2.1.2.1 (b i) t1
          have q7' := (wr_hw w).1.2.2.1
          have hc : gX2_heatOfCloth μ' (nI (σ 1 (14 * b i + 0))) = nI (σ 16 (σ 1 (14 * b i + 0))) := by
            unfold gX2_heatOfCloth
            rw [if_neg (isCl_y w1 q0), nI_clamp (by omega)]
            exact (cl_c w1 q0).1
          have ph : pX2_heatOfCloth μ' (nI (σ 1 (14 * b i + 0))) := ⟨wi_01 _ _ _ _, fun _ => vp_in_nI (by omega) (by decide)⟩
          have hT := (wr_T w).2.2
          have bdu : ∀ j, j ≤ i → du j ≤ 199 := fun j hj => by
            rw [hdu j (by omega)]
            by_cases z : ¬ x1 = 0 ∧ j = 0
            · rw [if_pos z]; exact hT
            · rw [if_neg z]
              have tj : b j < σ 0 0 := by
                by_cases y : j = i
                · rw [y]; exact t1
                · exact (hd j (by omega)).1
              obtain ⟨⟨-, -, -, -, -, -, -, -, -, q7, -⟩, -⟩ := w.2.2.1.2.1 (b j) tj
              exact q7
          obtain ⟨n1, e', n2, n3, n4, n5⟩ := in_ok (by omega) bdu bj so fr1 pc
          have t8 : fI μ' 8 4 = nI (σ 0 3) := (wr_T w1).1
          have m7 : ∀ M, frL f910 fN ν M → gX12_of M (nI (b i)) 7 = nI (σ 1 (14 * b i + 7)) ∧ pX12_of M (nI (b i)) 7 := fun M h => of_m (wfm M h) (j := 7) t1 (by omega)
          have f9 : frL f910 fN ν (fm_i ν' 9 i (nI (b i))) := fr2.i (Or.inl rfl)
          have f10 : frL f910 fN ν (fm_i (fm_i ν' 9 i (nI (b i))) 10 i (nI (σ 1 (14 * b i + 7)))) := f9.i (Or.inr rfl)
          have nx := ih (i + 1) f f' (y ||| ((1 : Int64) <<< ((nI (b i)).toInt64 &&& 63))) (uX4_insert μ' (nI (du i)) (nI (σ 1 (14 * b i + 1))) (nI (σ 1 (14 * b i + 2))) (nI (σ 16 (σ 1 (14 * b i + 0))))) (fm_i (fm_i ν' 9 i (nI (b i))) 10 i (nI (σ 1 (14 * b i + 7)))) e' (by omega) (by omega) (by omega) n2 f10 (by rw [fI_i, if_neg (by omega), fI_i, if_neg (by omega)]; exact h31) n3 n4 n5 (fun j hj => by
            by_cases z : j = i
            · rw [z, fI_i, if_neg (by omega), fI_i, if_pos ⟨rfl, rfl⟩, fI_i, if_pos ⟨rfl, rfl⟩]
              exact ⟨t1, rfl, rfl⟩
            · rw [fI_i, if_neg (by omega), fI_i, if_neg (by omega), fI_i, if_neg (by omega), fI_i, if_neg (by omega)]
              exact hd j (by omega))
          simp only [if_pos a3, c7, c1, c2, c0, hc, t8, (m7 _ f9).1]
          have pr : qX12_takesTickets_h31 f' (fm_i (fm_i ν' 9 i (nI (b i))) 10 i (nI (σ 1 (14 * b i + 7)))) (y ||| ((1 : Int64) <<< ((nI (b i)).toInt64 &&& 63))) (nI (i + 1)) → _ := fun (q : qX12_takesTickets_h31 f' (fm_i (fm_i ν' 9 i (nI (b i))) 10 i (nI (σ 1 (14 * b i + 7)))) (y ||| ((1 : Int64) <<< ((nI (b i)).toInt64 &&& 63))) (nI (i + 1))) => (fun (_ : ¬ nI n ≤ nI i) => (⟨v9, fun _ _ => ⟨s2, fun _ => ⟨v10, (m7 _ f9).2, v10, q⟩⟩⟩ : vp_in (nI i) 940 ∧ (¬ gX11_isTicket μ' (nI (b i)) = 0 → ¬ lg_cmp ((y >>> ((nI (b i)).toInt64 &&& 63)) &&& 1) 1 = 0 → pX12_standsNow ν' (nI (b i)) ∧ (nI (σ 1 (14 * b i + 12)) = 0 → vp_in (nI i) 10 ∧ pX12_of (fm_i ν' 9 i (nI (b i))) (nI (b i)) 7 ∧ vp_in (nI i) 10 ∧ qX12_takesTickets_h31 f' (fm_i (fm_i ν' 9 i (nI (b i))) 10 i (nI (σ 1 (14 * b i + 7)))) (y ||| ((1 : Int64) <<< ((nI (b i)).toInt64 &&& 63))) (nI (i + 1))))))
          by_cases x0 : x1 = 0
          · have dui : du i = σ 1 (14 * b i + 7) := by rw [hdu i (by omega), if_neg (fun z => z.1 x0)]
            rw [dui] at n1 nx
            simp only [if_pos x0]
            rcases nx with ⟨i1, i2, i3, i4, i5, i6⟩ | ⟨μ2, e2, i1, i2, i3, i4, i5, i6, i7, i8⟩
            · exact Or.inl ⟨i1, i2, i3, i4, ⟨fun z => absurd z e1, fun _ => ⟨by1.2, pT, fun _ _ => ⟨o2, fun _ => ⟨fun _ => ⟨d7, d1, d2, d0, ph, n1, i5⟩, fun z => absurd x0 z⟩⟩⟩⟩, pr i6⟩
            · exact Or.inr ⟨μ2, e2, i1, i2, i3, i4, i5, fun q => ⟨fun z => absurd z e1, fun _ => ⟨by1.2, pT, fun _ _ => ⟨o2, fun _ => ⟨fun _ => ⟨d7, d1, d2, d0, ph, n1, i6 q⟩, fun z => absurd x0 z⟩⟩⟩⟩, pr i7, i8⟩
          · by_cases i0 : i = 0
            · have iz : nI i = 0 := by rw [i0]; rfl
              have dui : du i = σ 0 3 := by rw [hdu i (by omega), if_pos ⟨x0, i0⟩]
              rw [dui] at n1 nx
              simp only [if_neg x0, if_pos iz]
              rcases nx with ⟨i1, i2, i3, i4, i5, i6⟩ | ⟨μ2, e2, i1, i2, i3, i4, i5, i6, i7, i8⟩
              · exact Or.inl ⟨i1, i2, i3, i4, ⟨fun z => absurd z e1, fun _ => ⟨by1.2, pT, fun _ _ => ⟨o2, fun _ => ⟨fun z => absurd z x0, fun _ => ⟨fun z => absurd iz z, fun _ => ⟨d1, d2, d0, ph, n1, i5⟩⟩⟩⟩⟩⟩, pr i6⟩
              · exact Or.inr ⟨μ2, e2, i1, i2, i3, i4, i5, fun q => ⟨fun z => absurd z e1, fun _ => ⟨by1.2, pT, fun _ _ => ⟨o2, fun _ => ⟨fun z => absurd z x0, fun _ => ⟨fun z => absurd iz z, fun _ => ⟨d1, d2, d0, ph, n1, i6 q⟩⟩⟩⟩⟩⟩, pr i7, i8⟩
            · have iz : ¬ nI i = 0 := fun z => i0 (nI_inj (b := 0) (by omega) (by omega) z)
              have dui : du i = σ 1 (14 * b i + 7) := by rw [hdu i (by omega), if_neg (fun z => i0 z.2)]
              rw [dui] at n1 nx
              simp only [if_neg x0, if_neg iz]
              rcases nx with ⟨i1, i2, i3, i4, i5, i6⟩ | ⟨μ2, e2, i1, i2, i3, i4, i5, i6, i7, i8⟩
              · exact Or.inl ⟨i1, i2, i3, i4, ⟨fun z => absurd z e1, fun _ => ⟨by1.2, pT, fun _ _ => ⟨o2, fun _ => ⟨fun z => absurd z x0, fun _ => ⟨fun _ => ⟨d7, d1, d2, d0, ph, n1, i5⟩, fun z => absurd z iz⟩⟩⟩⟩⟩, pr i6⟩
              · exact Or.inr ⟨μ2, e2, i1, i2, i3, i4, i5, fun q => ⟨fun z => absurd z e1, fun _ => ⟨by1.2, pT, fun _ _ => ⟨o2, fun _ => ⟨fun z => absurd z x0, fun _ => ⟨fun _ => ⟨d7, d1, d2, d0, ph, n1, i6 q⟩, fun z => absurd z iz⟩⟩⟩⟩⟩, pr i7, i8⟩
        · simp only [if_neg a3]
          exact Or.inl ⟨trivial, trivial, fr1, fr2, ⟨fun z => absurd z e1, fun _ => ⟨by1.2, pT, fun _ _ => ⟨o2, fun z => absurd z a3⟩⟩⟩, fun _ => ⟨v9, fun _ _ => ⟨s2, fun z => absurd z a3⟩⟩⟩
