section
variable {b : Nat → Nat} {z l : Nat}
theorem rt_ok {n q : Nat} {μ : fm_T} (cb : CBy b z μ) (hn : n < 941) (hq : q < z) : pX7_readToken μ (nI n) (nI q) ∧ ∃ E k v w, gX7_readToken μ (nI n) (nI q) = nI E ∧ frL (fT n) (fTl n) μ (uX7_readToken μ (nI n) (nI q)) ∧ EnT n k q v w (uX7_readToken μ (nI n) (nI q)) ∧ ((isAn (b q) = false ∧ E = q + 1 ∧ v = b q ∧ k = (if isSg (b q) then 5 else 1)) ∨ (isAn (b q) = true ∧ RUN b z q E k v w)) := by
  have cb0 := cb
  obtain ⟨z1, z2, z3, z4⟩ := cb
  obtain ⟨b1, b2⟩ := z3 q (by omega)
  have cn : n < 2 ^ 31 := by omega
  have cq : q < 2 ^ 31 := by omega
  have vn : vp_in (nI n) 941 := vp_in_nI (by omega) (by decide)
  have vq : vp_in (nI q) 940 := vp_in_nI (by omega) (by decide)
  have fr5 : frL (fT n) (fTl n) μ (fm_i μ 5 n (nI q)) := (frL.rf _ _ _).i ⟨by omega, rfl⟩
  have cb5 : CBy b z (fm_i μ 5 n (nI q)) := CBy_f cb0 fr5 (fun _ _ y => fT_c y) (fun _ _ y => fTl_c y)
  have h5 : fI (fm_i μ 5 n (nI q)) 5 n = nI q := by rw [fI_i, if_pos ⟨rfl, rfl⟩]
  obtain ⟨i1, i2⟩ := il_c (μ := fm_i μ 5 n (nI q)) b2
  have n1 : ¬ (1 : Int32) = 0 := by decide
  unfold pX7_readToken gX7_readToken uX7_readToken
  rw [nI_clamp cn, nI_clamp cq, b1, i1, i2, nI_1]
  have run : isAn (b q) = true → pX7_readRun (fm_i μ 5 n (nI q)) (nI n) (nI q) ∧ ∃ E k v w, gX7_readRun (fm_i μ 5 n (nI q)) (nI n) (nI q) = nI E ∧ frL (fT n) (fTl n) μ (uX7_readRun (fm_i μ 5 n (nI q)) (nI n) (nI q)) ∧ EnT n k q v w (uX7_readRun (fm_i μ 5 n (nI q)) (nI n) (nI q)) ∧ RUN b z q E k v w := fun an => by
    obtain ⟨k1, E, U, k, v, w, k2, k3, k4, k5, k6⟩ := rc_14 cb5 hn hq h5 (z - q) q fF 0 0 0 0 0 (by omega) (fF_gt (by omega)) (Nat.le_refl _) (by omega) (fun i h1 h2 => absurd h2 (by omega)) ⟨fun _ i h1 h2 => absurd h2 (by omega), fun _ => rfl⟩ ⟨fun _ i h1 h2 => absurd h2 (by omega), fun _ => rfl⟩ (fun _ _ => by rw [Nat.sub_self]; rfl) (fun _ _ => by rw [Nat.sub_self]; rfl) (fun _ => an)
    rw [show nI 0 = 0 from rfl] at k1 k2 k3
    unfold pX7_readRun gX7_readRun uX7_readRun
    rw [k3]
    exact ⟨k1, E, k, v, w, k2, fr5.tr k4, k5, k6⟩
  cases t : isLt (b q)
  · cases d : isDg (b q)
    · have an : isAn (b q) = false := by unfold isAn; rw [t, d]; rfl
      have t1 : nI (b q) = 59 ↔ b q = 59 := nI_eq (b := 59) (by omega) (by omega)
      have t2 : nI (b q) = 40 ↔ b q = 40 := nI_eq (b := 40) (by omega) (by omega)
      have t3 : nI (b q) = 41 ↔ b q = 41 := nI_eq (b := 41) (by omega) (by omega)
      have t4 : nI (b q) = 60 ↔ b q = 60 := nI_eq (b := 60) (by omega) (by omega)
      have t5 : nI (b q) = 61 ↔ b q = 61 := nI_eq (b := 61) (by omega) (by omega)
      have t6 : nI (b q) = 62 ↔ b q = 62 := nI_eq (b := 62) (by omega) (by omega)
      have sg : gX7_isSignByte (fm_i μ 5 n (nI q)) (nI (b q)) = 0 ↔ isSg (b q) = false := by
        unfold gX7_isSignByte isSg
        simp only [t1, t2, t3, t4, t5, t6]
        by_cases s1 : b q = 59
        · simp [s1]
        · by_cases s2 : b q = 40
          · simp [s2]
          · by_cases s3 : b q = 41
            · simp [s3]
            · by_cases s4 : b q = 60
              · simp [s4]
              · by_cases s5 : b q = 61
                · simp [s5]
                · by_cases s6 : b q = 62
                  · simp [s6]
                  · simp [s1, s2, s3, s4, s5, s6]
      simp only [Bool.false_eq_true, if_false, if_true, sg, ite_self]
      have wt : ∀ k : Nat, frL (fT n) (fTl n) μ (fm_i (fm_i (fm_i μ 5 n (nI q)) 4 n (nI k)) 6 n (nI (b q))) ∧ EnT n k q (b q) 0 (fm_i (fm_i (fm_i μ 5 n (nI q)) 4 n (nI k)) 6 n (nI (b q))) ∨ k = 2 ∨ k = 3 := fun k => by
        by_cases y : k = 2 ∨ k = 3
        · exact Or.inr y
        · refine Or.inl ⟨(fr5.i ⟨by omega, rfl⟩).i ⟨by omega, rfl⟩, ?_, ?_, fun _ => ?_, fun w => absurd w y⟩
          · rw [fI_i, if_neg (by omega), fI_i, if_pos ⟨rfl, rfl⟩]
          · rw [fI_i, if_neg (by omega), fI_i, if_neg (by omega), fI_i, if_pos ⟨rfl, rfl⟩]
          · rw [fI_i, if_pos ⟨rfl, rfl⟩]
      have p0 : (vp_in (nI n) 941) ∧ ((vp_in (nI q) 940) ∧ ((vp_in (nI n) 941))) := ⟨vn, vq, vn⟩
      cases s : isSg (b q)
      · simp only [if_true]
        obtain ⟨f1, f2⟩ := (wt 1).resolve_right (by omega)
        exact ⟨⟨vn, vq, fun y => absurd trivial y, fun _ => ⟨vq, fun _ => ⟨vq, fun _ => p0, fun y => absurd trivial y⟩, fun y => absurd trivial y⟩⟩, q + 1, 1, b q, 0, rfl, f1, f2, Or.inl ⟨an, rfl, rfl, rfl⟩⟩
      · simp only [Bool.true_eq_false, if_false]
        obtain ⟨f1, f2⟩ := (wt 5).resolve_right (by omega)
        exact ⟨⟨vn, vq, fun y => absurd trivial y, fun _ => ⟨vq, fun _ => ⟨vq, fun y => y.elim, fun _ => p0⟩, fun y => absurd trivial y⟩⟩, q + 1, 5, b q, 0, rfl, f1, f2, Or.inl ⟨an, rfl, rfl, rfl⟩⟩
    · have an : isAn (b q) = true := by unfold isAn; rw [d, Bool.or_true]
      obtain ⟨r1, E, k, v, w, r2, r3, r4, r5⟩ := run an
      simp only [Bool.false_eq_true, if_false, if_true, if_neg n1]
      exact ⟨⟨vn, vq, fun y => absurd trivial y, fun _ => ⟨vq, fun y => absurd y n1, fun _ => r1⟩⟩, E, k, v, w, r2, r3, r4, Or.inr ⟨an, r5⟩⟩
  · have an : isAn (b q) = true := by unfold isAn; rw [t, Bool.true_or]
    obtain ⟨r1, E, k, v, w, r2, r3, r4, r5⟩ := run an
    simp only [if_true, if_neg n1]
    exact ⟨⟨vn, vq, fun _ => r1, fun y => absurd y n1⟩, E, k, v, w, r2, r3, r4, Or.inr ⟨an, r5⟩⟩
def fA1 (k j : Nat) : Prop := k = 1 ∧ 8 ≤ j ∧ j ≤ 11
def fA1l (k j : Nat) : Prop := k = 1 ∧ j = 12
def TSt (last : Nat) (K A V W : Nat → Nat) (n : Nat) (μ : fm_T) : Prop := last ≤ 940 ∧ fI μ 1 7 = nI last ∧ n ≤ last ∧ fI μ 1 8 = nI n ∧ (∀ i, i ≤ last → EnT i (K i) (A i) (V i) (W i) μ) ∧ fI μ 1 9 = nI (K n) ∧ fI μ 1 10 = nI (A n) ∧ (K n = 2 ∨ K n = 4 ∨ K n = 5 → fI μ 1 11 = nI (V n)) ∧ (K n = 2 ∨ K n = 3 → fL μ 1 12 = lN (W n))
theorem EnT_f {n k a v w : Nat} {μ μ' : fm_T} {A B : Nat → Nat → Prop} (h : EnT n k a v w μ) (f : frL A B μ μ') (hA : ∀ i j, A i j → ¬ ((i = 4 ∨ i = 5 ∨ i = 6) ∧ j = n)) (hB : ∀ i j, B i j → ¬ (i = 7 ∧ j = n)) : EnT n k a v w μ' := by
  obtain ⟨h1, h2, h3, h4⟩ := h
  refine ⟨by rw [f.2.2.2 4 n (fun y => hA _ _ y ⟨by omega, rfl⟩)]; exact h1, by rw [f.2.2.2 5 n (fun y => hA _ _ y ⟨by omega, rfl⟩)]; exact h2, fun y => by rw [f.2.2.2 6 n (fun y => hA _ _ y ⟨by omega, rfl⟩)]; exact h3 y, fun y => by rw [f.2.2.1 7 n (fun y => hB _ _ y ⟨rfl, rfl⟩)]; exact h4 y⟩
theorem adv0 {last : Nat} {K A V W : Nat → Nat} {n : Nat} {x : Int32} {μ : fm_T} (hl : last ≤ 940) (h7 : fI μ 1 7 = nI last) (h8 : fI μ 1 8 = x) (hx : x + 1 = nI n) (hxl : ¬ nI last ≤ x) (hn : n ≤ last) (he : ∀ i, i ≤ last → EnT i (K i) (A i) (V i) (W i) μ) : pX7_advance μ ∧ frL fA1 fA1l μ (uX7_advance μ) ∧ TSt last K A V W n (uX7_advance μ) := by
  have cn : n < 2 ^ 31 := by omega
  have vn : vp_in (nI n) 941 := vp_in_nI (by omega) (by decide)
  obtain ⟨e1, e2, e3, e4⟩ := he n hn
  unfold pX7_advance uX7_advance
  rw [h7, h8, if_neg hxl, hx, nI_clamp cn, e1, e2]
  have fr : frL fA1 fA1l μ (fm_l (fm_i (fm_i (fm_i (fm_i μ 1 8 (nI n)) 1 9 (nI (K n))) 1 10 (nI (A n))) 1 11 (fI μ 6 n)) 1 12 (fL μ 7 n)) := (((((frL.rf fA1 fA1l μ).i ⟨rfl, by omega, by omega⟩).i ⟨rfl, by omega, by omega⟩).i ⟨rfl, by omega, by omega⟩).i ⟨rfl, by omega, by omega⟩).l ⟨rfl, rfl⟩
  refine ⟨fun _ => ⟨vn, vn, vn, vn⟩, fr, hl, ?_, hn, ?_, fun i hi => EnT_f (he i hi) fr (fun a j y => by unfold fA1 at y; omega) (fun a j y => by unfold fA1l at y; omega), ?_, ?_, fun y => ?_, fun y => ?_⟩
  · rw [fr.2.2.2 1 7 (by unfold fA1; omega)]; exact h7
  · rw [fI_l, fI_i, if_neg (by omega), fI_i, if_neg (by omega), fI_i, if_neg (by omega), fI_i, if_pos ⟨rfl, rfl⟩]
  · rw [fI_l, fI_i, if_neg (by omega), fI_i, if_neg (by omega), fI_i, if_pos ⟨rfl, rfl⟩]
  · rw [fI_l, fI_i, if_neg (by omega), fI_i, if_pos ⟨rfl, rfl⟩]
  · rw [fI_l, fI_i, if_pos ⟨rfl, rfl⟩]; exact e3 y
  · rw [fL_lq]; exact e4 y
theorem adv {last : Nat} {K A V W : Nat → Nat} {n : Nat} {μ : fm_T} (t : TSt last K A V W n μ) (hn : n < last) : pX7_advance μ ∧ frL fA1 fA1l μ (uX7_advance μ) ∧ TSt last K A V W (n + 1) (uX7_advance μ) :=
  adv0 t.1 t.2.1 t.2.2.2.1 (nI_1 n) (fun y => by have := (nI_leI (by have := t.1; omega) (by have := t.1; omega)).mp y; omega) (by omega) t.2.2.2.2.1
theorem ex_q : ∀ (c p : Nat), p + c = z → ∃ q, p ≤ q ∧ q ≤ z ∧ (∀ i, p ≤ i → i < q → isBl (b i) = true) ∧ (q = z ∨ isBl (b q) = false)
  | 0, p, h => ⟨p, Nat.le_refl _, by omega, fun i h1 h2 => absurd h2 (by omega), Or.inl (by omega)⟩
  | c + 1, p, h => by
    cases y : isBl (b p)
    · exact ⟨p, Nat.le_refl _, by omega, fun i h1 h2 => absurd h2 (by omega), Or.inr y⟩
    · obtain ⟨q, q1, q2, q3, q4⟩ := ex_q c (p + 1) (by omega)
      refine ⟨q, by omega, q2, fun i h1 h2 => ?_, q4⟩
      by_cases w : i = p
      · rw [w]; exact y
      · exact q3 i (by omega) h2
def fTa (k j : Nat) : Prop := k = 4 ∨ k = 5 ∨ k = 6 ∨ (k = 1 ∧ 7 ≤ j ∧ j ≤ 11)
def fTal (k j : Nat) : Prop := k = 7 ∨ (k = 1 ∧ j = 12)
theorem up_e {f : Nat → Nat} {n v i : Nat} : (fun j => if j = n then v else f j) i = if i = n then v else f i := rfl
theorem fin_w {μ' : fm_T} {n : Nat} (hn : n < 940) (f : Nat) (x1 x2 x3 : Int32) : mX7_startReading_h17 (f + 1) μ' x1 x2 x3 (nI (n + 1)) 1 = uX7_advance (fm_i (fm_i μ' 1 7 (nI n)) 1 8 (-1)) ∧ (pX7_advance (fm_i (fm_i μ' 1 7 (nI n)) 1 8 (-1)) → qX7_startReading_h17 (f + 1) μ' x1 x2 x3 (nI (n + 1)) 1) := by
  have n1 : ¬ (1 : Int32) = 0 := by decide
  have e : nI (n + 1) - 1 = nI n := nI_sub (a := n + 1) (b := 1) (by omega)
  simp only [mX7_startReading_h17, qX7_startReading_h17, if_neg n1, e]
  by_cases a : x2 ≤ x3
  · simp only [if_pos a]
    exact ⟨trivial, fun g => ⟨fun _ => ⟨fun y => absurd y n1, fun _ => g⟩, fun y => absurd a y⟩⟩
  · simp only [if_neg a]
    by_cases c : (940 : Int32) ≤ nI (n + 1)
    · simp only [if_pos c]
      exact ⟨trivial, fun g => ⟨fun y => absurd y a, fun _ => ⟨fun _ => ⟨fun y => absurd y n1, fun _ => g⟩, fun y => absurd c y⟩⟩⟩
    · simp only [if_neg c]
      exact ⟨trivial, fun g => ⟨fun y => absurd y a, fun _ => ⟨fun y => absurd y c, fun _ => ⟨fun _ => g, fun y => absurd y n1⟩⟩⟩⟩
def LXs (b : Nat → Nat) (z l last : Nat) (K A V W P : Nat → Nat) : Prop := P 0 = 0 ∧ (∀ i, i ≤ last → TK b z l (P i) (K i) (A i) (V i) (W i) (P (i + 1))) ∧ (∀ i, i < last → K i ≠ 0 ∧ K i ≠ 1) ∧ (K last = 0 ∨ K last = 1)
theorem fin_a {μ0 μ' : fm_T} {n : Nat} {K A V W P : Nat → Nat} (hn : n ≤ 940) (fr : frL fTa fTal μ0 μ') (lx : LXs b z l n K A V W P) (he : ∀ i, i ≤ n → EnT i (K i) (A i) (V i) (W i) μ') : pX7_advance (fm_i (fm_i μ' 1 7 (nI n)) 1 8 (-1)) ∧ ∃ U last K A V W P, uX7_advance (fm_i (fm_i μ' 1 7 (nI n)) 1 8 (-1)) = U ∧ frL fTa fTal μ0 U ∧ TSt last K A V W 0 U ∧ LXs b z l last K A V W P := by
  have fr1 : frL fTa fTal μ' (fm_i (fm_i μ' 1 7 (nI n)) 1 8 (-1)) := ((frL.rf fTa fTal μ').i (by unfold fTa; omega)).i (by unfold fTa; omega)
  have fr1' : frL (fun k j => k = 1 ∧ (j = 7 ∨ j = 8)) fN μ' (fm_i (fm_i μ' 1 7 (nI n)) 1 8 (-1)) := ((frL.rf _ fN μ').i ⟨rfl, by omega⟩).i ⟨rfl, by omega⟩
  obtain ⟨a1, a2, a3⟩ := adv0 (last := n) (n := 0) (x := -1) (K := K) (A := A) (V := V) (W := W) hn (by rw [fI_i, if_neg (by omega), fI_i, if_pos ⟨rfl, rfl⟩]) (by rw [fI_i, if_pos ⟨rfl, rfl⟩]) (by decide) (fun y => by rw [le_ti, ti_m1, ti_nI (by omega)] at y; omega) (Nat.zero_le _) (fun i hi => EnT_f (he i hi) fr1' (fun a j y => by omega) (fun a j y => y.elim))
  exact ⟨a1, _, n, K, A, V, W, P, rfl, (fr.tr fr1).tr (a2.mo (fun k j y => by unfold fA1 at y; unfold fTa; omega) (fun k j y => by unfold fA1l at y; unfold fTal; omega)), a3, lx⟩
theorem st_17 {μ0 : fm_T} (hl : l ≤ 900) : ∀ (c p f n : Nat) (μ : fm_T) (K A V W P : Nat → Nat), z ≤ p + c → c + 1 < f → p ≤ z → CBy b z μ → frL fTa fTal μ0 μ → n ≤ P n → P n ≤ p → P 0 = 0 → (∀ i, P n ≤ i → i < p → isBl (b i) = true) → (∀ i, i < n → TK b z l (P i) (K i) (A i) (V i) (W i) (P (i + 1)) ∧ EnT i (K i) (A i) (V i) (W i) μ ∧ K i ≠ 0 ∧ K i ≠ 1) →
    qX7_startReading_h17 f μ (nI l) (nI (if l < z then l else z)) (nI p) (nI n) 0 ∧ ∃ U last K A V W P, mX7_startReading_h17 f μ (nI l) (nI (if l < z then l else z)) (nI p) (nI n) 0 = U ∧ frL fTa fTal μ0 U ∧ TSt last K A V W 0 U ∧ LXs b z l last K A V W P := by
  have n1 : ¬ (1 : Int32) = 0 := by decide
  have fin : ∀ (p n f : Nat) (μ : fm_T) (K A V W P : Nat → Nat), p ≤ z → CBy b z μ → frL fTa fTal μ0 μ → n ≤ P n → P n ≤ p → P 0 = 0 → (∀ i, P n ≤ i → i < p → isBl (b i) = true) → (∀ i, i < n → TK b z l (P i) (K i) (A i) (V i) (W i) (P (i + 1)) ∧ EnT i (K i) (A i) (V i) (W i) μ ∧ K i ≠ 0 ∧ K i ≠ 1) → (if l < z then l else z) ≤ p →
      qX7_startReading_h17 (f + 1) μ (nI l) (nI (if l < z then l else z)) (nI p) (nI n) 0 ∧ ∃ U last K A V W P, mX7_startReading_h17 (f + 1) μ (nI l) (nI (if l < z then l else z)) (nI p) (nI n) 0 = U ∧ frL fTa fTal μ0 U ∧ TSt last K A V W 0 U ∧ LXs b z l last K A V W P := by
    intro p n f μ K A V W P hp cb fr hn hP h0 hbl hch hs
    obtain ⟨z1, z2, z3, z4⟩ := cb
    have e1 : nI (if l < z then l else z) ≤ nI p := (nI_leI (by split <;> omega) (by omega)).mpr hs
    have le : nI z ≤ nI l ↔ z ≤ l := nI_leI (by omega) (by omega)
    have cn : n < 2 ^ 31 := by omega
    have vn : vp_in (nI n) 941 := vp_in_nI (by omega) (by decide)
    have go : ∀ kk : Nat, ((kk = 0 ∧ z ≤ l) ∨ (kk = 1 ∧ l < z)) → pX7_advance (fm_i (fm_i (fm_i (fm_i μ 1 7 (nI n)) 4 n (nI kk)) 5 n (nI (if l < z then l else z))) 1 8 (-1)) ∧ ∃ U last K A V W P, uX7_advance (fm_i (fm_i (fm_i (fm_i μ 1 7 (nI n)) 4 n (nI kk)) 5 n (nI (if l < z then l else z))) 1 8 (-1)) = U ∧ frL fTa fTal μ0 U ∧ TSt last K A V W 0 U ∧ LXs b z l last K A V W P := by
      intro kk hk
      have fr1 : frL fTa fTal μ0 (fm_i (fm_i (fm_i (fm_i μ 1 7 (nI n)) 4 n (nI kk)) 5 n (nI (if l < z then l else z))) 1 8 (-1)) := (((fr.i (by unfold fTa; omega)).i (by unfold fTa; omega)).i (by unfold fTa; omega)).i (by unfold fTa; omega)
      have fr2 : frL (fun k j => (k = 1 ∧ (j = 7 ∨ j = 8)) ∨ ((k = 4 ∨ k = 5) ∧ j = n)) fN μ (fm_i (fm_i (fm_i (fm_i μ 1 7 (nI n)) 4 n (nI kk)) 5 n (nI (if l < z then l else z))) 1 8 (-1)) := ((((frL.rf _ fN μ).i (Or.inl ⟨rfl, by omega⟩)).i (Or.inr ⟨by omega, rfl⟩)).i (Or.inr ⟨by omega, rfl⟩)).i (Or.inl ⟨rfl, by omega⟩)
      obtain ⟨a1, a2, a3⟩ := adv0 (μ := fm_i (fm_i (fm_i (fm_i μ 1 7 (nI n)) 4 n (nI kk)) 5 n (nI (if l < z then l else z))) 1 8 (-1)) (last := n) (n := 0) (x := -1) (K := fun i => if i = n then kk else K i) (A := fun i => if i = n then (if l < z then l else z) else A i) (V := V) (W := W) (by omega) (by rw [fI_i, if_neg (by omega), fI_i, if_neg (by omega), fI_i, if_neg (by omega), fI_i, if_pos ⟨rfl, rfl⟩]) (by rw [fI_i, if_pos ⟨rfl, rfl⟩]) (by decide) (fun y => by rw [le_ti, ti_m1, ti_nI (by omega)] at y; omega) (Nat.zero_le _) (fun i hi => by
        by_cases y : i = n
        · simp only [if_pos y]
          rw [y]
          refine ⟨?_, ?_, fun w => by omega, fun w => by omega⟩
          · rw [fI_i, if_neg (by omega), fI_i, if_neg (by omega), fI_i, if_pos ⟨rfl, rfl⟩]
          · rw [fI_i, if_neg (by omega), fI_i, if_pos ⟨rfl, rfl⟩]
        · simp only [if_neg y]
          exact EnT_f (hch i (by omega)).2.1 fr2 (fun a j w => by omega) (fun a j w => w.elim))
      refine ⟨a1, _, n, _, _, V, W, P, rfl, fr1.tr (a2.mo (fun k j y => by unfold fA1 at y; unfold fTa; omega) (fun k j y => by unfold fA1l at y; unfold fTal; omega)), a3, h0, fun i hi => ?_, fun i hi => ?_, ?_⟩
      · by_cases y : i = n
        · simp only [if_pos y]
          rw [y]
          rcases hk with ⟨k0, zl⟩ | ⟨k1, zl⟩
          · rw [if_neg (by omega)] at hs ⊢
            exact ⟨z, by omega, Nat.le_refl _, fun i h1 h2 => hbl i h1 (by omega), Or.inl rfl, Or.inr (Or.inl ⟨Or.inl zl, rfl, k0, rfl⟩)⟩
          · rw [if_pos zl] at hs ⊢
            obtain ⟨q, q1, q2, q3, q4⟩ := ex_q (b := b) (z := z) (z - p) p (by omega)
            refine ⟨q, by omega, q2, fun i h1 h2 => ?_, q4, Or.inl ⟨zl, by omega, k1, rfl⟩⟩
            by_cases w : i < p
            · exact hbl i h1 w
            · exact q3 i (by omega) h2
        · simp only [if_neg y]
          exact (hch i (by omega)).1
      · simp only [if_neg (show ¬ i = n by omega)]
        exact (hch i hi).2.2
      · simp only [if_true]
        omega
    simp only [qX7_startReading_h17, mX7_startReading_h17, if_pos e1, if_true, z2, le, nI_clamp cn]
    by_cases zl : z ≤ l
    · simp only [if_pos zl]
      obtain ⟨g1, g2⟩ := go 0 (Or.inl ⟨rfl, zl⟩)
      exact ⟨⟨fun _ => ⟨fun _ => ⟨fun _ => ⟨vn, vn, g1⟩, fun y => absurd zl y⟩, fun y => absurd trivial y⟩, fun y => absurd e1 y⟩, g2⟩
    · simp only [if_neg zl]
      obtain ⟨g1, g2⟩ := go 1 (Or.inr ⟨rfl, by omega⟩)
      exact ⟨⟨fun _ => ⟨fun _ => ⟨fun y => absurd y zl, fun _ => ⟨vn, vn, g1⟩⟩, fun y => absurd trivial y⟩, fun y => absurd e1 y⟩, g2⟩
  intro c
  induction c with
  | zero =>
    intro p f n μ K A V W P h1 h2 hp cb fr hn hP h0 hbl hch
    obtain ⟨f, rfl⟩ : ∃ m, f = m + 1 := ⟨f - 1, by omega⟩
    exact fin p n f μ K A V W P hp cb fr hn hP h0 hbl hch (by split <;> omega)
  | succ c ih =>
    intro p f n μ K A V W P h1 h2 hp cb fr hn hP h0 hbl hch
    obtain ⟨f, rfl⟩ : ∃ m, f = m + 1 := ⟨f - 1, by omega⟩
    by_cases hs : (if l < z then l else z) ≤ p
    · exact fin p n f μ K A V W P hp cb fr hn hP h0 hbl hch hs
    · have cb0 := cb
      obtain ⟨z1, z2, z3, z4⟩ := cb
      have pl : p < z ∧ p < l := by split at hs <;> omega
      have e1 : ¬ nI (if l < z then l else z) ≤ nI p := fun y => hs ((nI_leI (by split <;> omega) (by omega)).mp y)
      have e2 : ¬ (940 : Int32) ≤ nI n := fun y => by have := (nI_leI (a := 940) (by omega) (by omega)).mp y; omega
      have cn : n < 2 ^ 31 := by omega
      have cp : p < 2 ^ 31 := by omega
      have vn : vp_in (nI n) 941 := vp_in_nI (by omega) (by decide)
      have vp : vp_in (nI p) 940 := vp_in_nI (by omega) (by decide)
      obtain ⟨b1, b2⟩ := z3 p (by omega)
      have bl := bl_c2 (μ := μ) b2
      simp only [qX7_startReading_h17, mX7_startReading_h17, if_neg e1, if_neg e2, if_true, nI_clamp cp, nI_clamp cn, b1, bl, nI_1]
      cases y : isBl (b p)
      · simp only [if_true]
        obtain ⟨r1, E, k, v, w, r2, r3, r4, r5⟩ := rt_ok (n := n) cb0 (by omega) pl.1
        have cb1 : CBy b z (uX7_readToken μ (nI n) (nI p)) := CBy_f cb0 r3 (fun _ _ y => fT_c y) (fun _ _ y => fTl_c y)
        have fr1 : frL fTa fTal μ0 (uX7_readToken μ (nI n) (nI p)) := fr.tr (r3.mo (fun a j y => by unfold fT at y; unfold fTa; omega) (fun a j y => by unfold fTl at y; unfold fTal; omega))
        have tk : TK b z l (P n) k p v w E := by
          refine ⟨p, hP, hp, hbl, Or.inr y, ?_⟩
          rcases r5 with ⟨s1, s2⟩ | ⟨s1, s2⟩
          · exact Or.inr (Or.inr (Or.inl ⟨Or.inr pl.2, pl.1, s1, rfl, s2⟩))
          · exact Or.inr (Or.inr (Or.inr ⟨Or.inr pl.2, pl.1, s1, rfl, s2⟩))
        have pE : p < E ∧ E ≤ z := by
          rcases r5 with ⟨-, s2, -⟩ | ⟨-, s2, s3, -⟩
          · omega
          · exact ⟨s2, s3⟩
        have k5 : k ≠ 0 ∧ k < 6 := by
          rcases r5 with ⟨-, -, -, s2⟩ | ⟨-, -, -, -, -, s2⟩
          · split at s2 <;> omega
          · rcases s2 with ⟨-, -, -, s2⟩ | ⟨-, -, s2, -⟩ | ⟨s2, -⟩
            · omega
            · omega
            · omega
        rw [r2, r4.1]
        generalize uX7_readToken μ (nI n) (nI p) = M at r3 r4 cb1 fr1 ⊢
        have ch : ∀ i, i < n + 1 → TK b z l ((fun j => if j = n + 1 then E else P j) i) ((fun j => if j = n then k else K j) i) ((fun j => if j = n then p else A j) i) ((fun j => if j = n then v else V j) i) ((fun j => if j = n then w else W j) i) ((fun j => if j = n + 1 then E else P j) (i + 1)) ∧ EnT i ((fun j => if j = n then k else K j) i) ((fun j => if j = n then p else A j) i) ((fun j => if j = n then v else V j) i) ((fun j => if j = n then w else W j) i) M := fun i hi => by
          by_cases y : i = n
          · simp only [if_pos y, if_neg (show ¬ i = n + 1 by omega), if_pos (show i + 1 = n + 1 by omega)]
            rw [y]
            exact ⟨tk, r4⟩
          · simp only [if_neg y, if_neg (show ¬ i = n + 1 by omega), if_neg (show ¬ i + 1 = n + 1 by omega)]
            obtain ⟨c1, c2, -⟩ := hch i (by omega)
            exact ⟨c1, EnT_f c2 r3 (fun a j w => by unfold fT at w; omega) (fun a j w => by unfold fTl at w; omega)⟩
        have e4 : nI k = 1 ↔ k = 1 := nI_eq (b := 1) (by omega) (by omega)
        simp only [e4]
        by_cases k1 : k = 1
        · simp only [if_pos k1]
          obtain ⟨f, rfl⟩ : ∃ m, f = m + 1 := ⟨f - 1, by omega⟩
          obtain ⟨w1, w2⟩ := fin_w (μ' := M) (n := n) (by omega) f (nI l) (nI (if l < z then l else z)) (nI E)
          obtain ⟨a1, a2⟩ := fin_a (μ0 := μ0) (μ' := M) (n := n) (by omega) fr1 (lx := ⟨by simp only [if_neg (show ¬ 0 = n + 1 by omega)]; exact h0, fun i hi => (ch i (by omega)).1, fun i hi => by simp only [if_neg (show ¬ i = n by omega)]; exact (hch i hi).2.2, by simp only [if_true]; exact Or.inr k1⟩) (fun i hi => (ch i (by omega)).2)
          rw [w1]
          exact ⟨⟨fun y => absurd y e1, fun _ => ⟨fun y => absurd y e2, fun _ => ⟨fun y => absurd trivial y, fun _ => ⟨vp, fun _ => ⟨r1, vn, fun y => absurd k1 y, fun _ => w2 a1⟩, fun y => absurd trivial y⟩⟩⟩⟩, a2⟩
        · simp only [if_neg k1]
          obtain ⟨i1, i2⟩ := ih E f (n + 1) M (fun j => if j = n then k else K j) (fun j => if j = n then p else A j) (fun j => if j = n then v else V j) (fun j => if j = n then w else W j) (fun j => if j = n + 1 then E else P j) (by omega) (by omega) pE.2 cb1 fr1 (by simp only [if_true]; omega) (by simp only [if_true]; exact Nat.le_refl _) (by simp only [if_neg (show ¬ 0 = n + 1 by omega)]; exact h0) (fun i h1 h2 => by simp only [if_true] at h1; omega) (fun i hi => ⟨(ch i hi).1, (ch i hi).2, by
            by_cases y : i = n
            · simp only [if_pos y]; exact ⟨k5.1, k1⟩
            · simp only [if_neg y]; exact (hch i (by omega)).2.2⟩)
          exact ⟨⟨fun y => absurd y e1, fun _ => ⟨fun y => absurd y e2, fun _ => ⟨fun y => absurd trivial y, fun _ => ⟨vp, fun _ => ⟨r1, vn, fun _ => i1, fun y => absurd y k1⟩, fun y => absurd trivial y⟩⟩⟩⟩, i2⟩
      · simp only [Bool.true_eq_false, if_false]
        obtain ⟨i1, i2⟩ := ih (p + 1) f n μ K A V W P (by omega) (by omega) (by omega) cb0 fr hn (by omega) h0 (fun i h1 h2 => by
          by_cases w : i = p
          · rw [w]; exact y
          · exact hbl i h1 (by omega)) hch
        exact ⟨⟨fun y => absurd y e1, fun _ => ⟨fun y => absurd y e2, fun _ => ⟨fun y => absurd trivial y, fun _ => ⟨vp, fun y => y.elim, fun _ => i1⟩⟩⟩⟩, i2⟩
theorem sr_ok {μ : fm_T} (cb : CBy b z μ) (hl : l ≤ 900) : pX7_startReading μ (nI l) ∧ frL fTa fTal μ (uX7_startReading μ (nI l)) ∧ ∃ last K A V W P, TSt last K A V W 0 (uX7_startReading μ (nI l)) ∧ LXs b z l last K A V W P := by
  have e : (if nI l < nI z then nI l else nI z) = nI (if l < z then l else z) := by
    have := cb.1
    have h : nI l < nI z ↔ l < z := nI_ltI (by omega) (by omega)
    by_cases y : l < z
    · rw [if_pos (h.mpr y), if_pos y]
    · rw [if_neg (fun w => y (h.mp w)), if_neg y]
  obtain ⟨k1, U, last, K, A, V, W, P, k2, k3, k4, k5⟩ := st_17 (μ0 := μ) hl z 0 fF 0 μ (fun _ => 0) (fun _ => 0) (fun _ => 0) (fun _ => 0) (fun _ => 0) (by omega) (fF_gt (by have := cb.1; omega)) (Nat.zero_le _) cb (frL.rf _ _ _) (Nat.le_refl _) (Nat.le_refl _) rfl (fun i h1 h2 => absurd h2 (by omega)) (fun i hi => absurd hi (by omega))
  rw [show nI 0 = 0 from rfl] at k1 k2
  unfold pX7_startReading uX7_startReading
  rw [cb.2.1, e, k2]
  exact ⟨k1, k3, last, K, A, V, W, P, k4, k5⟩
end
