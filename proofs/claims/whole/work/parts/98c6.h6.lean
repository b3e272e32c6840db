section
variable {b : Nat → Nat} {z l last : Nat} {K A V W P : Nat → Nat} {τ : sg_T} {μ ν : fm_T} {n k : Nat}
def ClR (b : Nat → Nat) (z l last : Nat) (K A V W P : Nat → Nat) (n k : Nat) (μ ν : fm_T) (gC gM : Int32) (U T : fm_T) : Prop := frL (fDc 78 81 k) fA1l μ U ∧ frL (fDm (60 + 4 * k) (63 + 4 * k)) fGl ν T ∧ ((gC = 0 ∧ gM = 0 ∧ FQ U T) ∨ (gC = 1 ∧ gM = 1 ∧ ∃ n' v1 v2 v3 v4, n ≤ n' ∧ LK b z l last K A V W P n' U T ∧ (v1 ≤ 9 ∧ v2 ≤ 999 ∧ v3 ≤ 1 ∧ v4 < 64) ∧ (fI U 78 k = nI v1 ∧ fI U 79 k = nI v2 ∧ fI U 80 k = nI v3 ∧ fI U 81 k = nI v4) ∧ fI T 3 (60 + 4 * k) = nI v1 ∧ fI T 3 (61 + 4 * k) = nI v2 ∧ fI T 3 (62 + 4 * k) = nI v3 ∧ fI T 3 (63 + 4 * k) = nI v4))
theorem cl_end {X Y : fm_T} {n0 v1 v2 v3 : Nat} (lx : LXs b z l last K A V W P) (hk : k < 8) (h6 : τ 0 6 ≤ 6) (lk : LK b z l last K A V W P n X Y) (hd : HDs τ 1 X Y) (hn : n0 ≤ n) (f1 : frL (fDc 78 81 k) fA1l μ X) (f2 : frL (fDm (60 + 4 * k) (63 + 4 * k)) fGl ν Y) (e81 : fI X 81 k = 0) (e63 : fI Y 3 (63 + 4 * k) = 0) (hv : v1 ≤ 9 ∧ v2 ≤ 999 ∧ v3 ≤ 1) (c : fI X 78 k = nI v1 ∧ fI X 79 k = nI v2 ∧ fI X 80 k = nI v3) (m : fI Y 3 (60 + 4 * k) = nI v1 ∧ fI Y 3 (61 + 4 * k) = nI v2 ∧ fI Y 3 (62 + 4 * k) = nI v3) :
    qX2_readCloth_h73 fF X (nI k) 0 ∧ qX12_readCloth_h99 fF Y (nI (60 + 4 * k)) ∧ ClR b z l last K A V W P n0 k μ ν (lX2_readCloth_h73 fF X (nI k) 0) (lX12_readCloth_h99 fF Y (nI (60 + 4 * k))) (mX2_readCloth_h73 fF X (nI k) 0) (mX12_readCloth_h99 fF Y (nI (60 + 4 * k))) := by
  obtain ⟨i1, i2, U, T, i3, i4, i5, i6, i7⟩ := cl_73 lx hk h6 6 0 n fF fF X Y rfl (by omega) (fF_gt (by omega)) (fF_gt (by omega)) lk hd e81 e63
  have p0 : nI (pc6 0) = 0 := rfl
  rw [p0] at i1 i3 i7
  refine ⟨i1, i2, ?_⟩
  rw [i3, i4]
  refine ⟨f1.tr (i5.mo (fun a j y => y.elim Or.inl (fun w => Or.inr ⟨by omega, by omega, w.2.2⟩)) (fun _ _ y => y)), f2.tr (i6.mo (fun a j y => y.elim Or.inl (fun w => Or.inr ⟨w.1, by omega, by omega⟩)) (fun _ _ y => y)), ?_⟩
  rcases i7 with q | ⟨q1, q2, n', B', q3, q4, q5, q6, q7⟩
  · exact Or.inl q
  · have cc : ∀ a, 78 ≤ a → a < 81 → fI U a k = fI X a k := fun a h1 h2 => i5.2.2.2 a k (by unfold fDc fAc; omega)
    have mm : ∀ j, j < 63 + 4 * k → fI T 3 j = fI Y 3 j := fun j h1 => i6.2.2.2 3 j (by unfold fDm fGm; omega)
    refine Or.inr ⟨q1, q2, n', v1, v2, v3, B', by omega, q4, ⟨hv.1, hv.2.1, hv.2.2, q5⟩, ⟨?_, ?_, ?_, q6⟩, ?_, ?_, ?_, q7⟩
    · rw [cc 78 (by omega) (by omega)]; exact c.1
    · rw [cc 79 (by omega) (by omega)]; exact c.2.1
    · rw [cc 80 (by omega) (by omega)]; exact c.2.2
    · rw [mm _ (by omega)]; exact m.1
    · rw [mm _ (by omega)]; exact m.2.1
    · rw [mm _ (by omega)]; exact m.2.2
theorem cl_ok (lx : LXs b z l last K A V W P) (lk : LK b z l last K A V W P n μ ν) (hk : k < 8) (h6 : τ 0 6 ≤ 6) (h3 : fI ν 3 2 = nI k) (hd : HDs τ 1 μ ν) (z80 : fI μ 80 k = 0) (z81 : fI μ 81 k = 0) : pX2_readCloth μ (nI k) ∧ pX12_readCloth ν ∧ ClR b z l last K A V W P n k μ ν (gX2_readCloth μ (nI k)) (gX12_readCloth ν) (uX2_readCloth μ (nI k)) (uX12_readCloth ν) := by
  obtain ⟨t1, t2, t3, t4, t5⟩ := ptn lx lk (lo := 0) (hi := 9) (by omega) (by omega)
  have y0 : nI 0 = (0 : Int32) := rfl
  have y8 : nI 8 = (8 : Int32) := rfl
  have y9 : nI 9 = (9 : Int32) := rfl
  have y999 : nI 999 = (999 : Int32) := rfl
  simp only [y0, y9] at t1 t2 t3 t4 t5
  have ix : (60 : Int32) + (4 : Int32) * nI k = nI (60 + 4 * k) := by rw [show (60 : Int32) = nI 60 from rfl, show (4 : Int32) = nI 4 from rfl, nI_mul, nI_add]
  have ix1 : nI (60 + 4 * k) + 1 = nI (61 + 4 * k) := by rw [nI_1]; congr 1; omega
  have ix2 : nI (60 + 4 * k) + 2 = nI (62 + 4 * k) := by rw [show (2 : Int32) = nI 2 from rfl, nI_add]; congr 1; omega
  have ix3 : nI (60 + 4 * k) + 3 = nI (63 + 4 * k) := by rw [show (3 : Int32) = nI 3 from rfl, nI_add]; congr 1; omega
  have ck : (nI k).toNatClampNeg = k := nI_clamp (by omega)
  have c0 : (nI (60 + 4 * k)).toNatClampNeg = 60 + 4 * k := nI_clamp (by omega)
  have c1 : (nI (61 + 4 * k)).toNatClampNeg = 61 + 4 * k := nI_clamp (by omega)
  have c2 : (nI (62 + 4 * k)).toNatClampNeg = 62 + 4 * k := nI_clamp (by omega)
  have c3 : (nI (63 + 4 * k)).toNatClampNeg = 63 + 4 * k := nI_clamp (by omega)
  have vk : vp_in (nI k) 8 := vp_in_nI (by omega) (by decide)
  have v0 : vp_in (nI (60 + 4 * k)) 130 := vp_in_nI (by omega) (by decide)
  have v1 : vp_in (nI (61 + 4 * k)) 130 := vp_in_nI (by omega) (by decide)
  have v2 : vp_in (nI (62 + 4 * k)) 130 := vp_in_nI (by omega) (by decide)
  have v3 : vp_in (nI (63 + 4 * k)) 130 := vp_in_nI (by omega) (by decide)
  unfold pX2_readCloth gX2_readCloth uX2_readCloth pX12_readCloth gX12_readCloth uX12_readCloth
  simp only [h3, ix, ix1, ix2, ix3, ck, c0, c1, c2, c3]
  generalize uX7_takeNumber μ 0 9 = X at t3 t5 ⊢
  generalize uX12_readNumber ν 0 9 = Y at t4 t5 ⊢
  have fX : ∀ v, frL (fDc 78 81 k) fA1l μ (fm_i X 78 k v) := fun v => (t3.mo (fun a j y => Or.inl y) (fun _ _ y => y)).i (Or.inr ⟨by omega, by omega, rfl⟩)
  have fY : frL (fDm (60 + 4 * k) (63 + 4 * k)) fGl ν Y := t4.mo (fun a j y => Or.inl y) (fun _ _ y => y)
  have n10 : ¬ (1 : Int32) = 0 := by decide
  rcases t5 with ⟨a1, a2, a3⟩ | ⟨a1, a2, a3, a4, a5, a6, a7⟩
  · simp only [a1, a2, if_true]
    exact ⟨⟨t1, vk, vk, fun y => absurd trivial y⟩, ⟨t2, fun y => absurd trivial y⟩, fX _, fY, Or.inl ⟨rfl, rfl, FQ_c a3 (by omega)⟩⟩
  · have ne : ¬ nI (V n) = -1 := nI_m1 (by omega)
    simp only [a4, a5, if_neg ne, if_neg n10, a6]
    have lk2 := LK_c (a := 78) (j := k) (v := nI (V n)) (p := 60 + 4 * k) (w := nI (V n)) a7 (by omega)
    have u78 : fI (fm_i X 78 k (nI (V n))) 78 k = nI (V n) := by rw [fI_i, if_pos ⟨rfl, rfl⟩]
    have u60 : fI (fm_i Y 3 (60 + 4 * k) (nI (V n))) 3 (60 + 4 * k) = nI (V n) := by rw [fI_i, if_pos ⟨rfl, rfl⟩]
    have u80 : fI (fm_i X 78 k (nI (V n))) 80 k = 0 := by rw [fI_i, if_neg (by omega), t3.2.2.2 80 k (by unfold fAc; omega)]; exact z80
    have u81 : fI (fm_i X 78 k (nI (V n))) 81 k = 0 := by rw [fI_i, if_neg (by omega), t3.2.2.2 81 k (by unfold fAc; omega)]; exact z81
    have fX1 := fX (nI (V n))
    have fY1 : frL (fDm (60 + 4 * k) (63 + 4 * k)) fGl ν (fm_i Y 3 (60 + 4 * k) (nI (V n))) := fY.i (Or.inr ⟨rfl, by omega, by omega⟩)
    generalize fm_i X 78 k (nI (V n)) = X1 at lk2 u78 u80 u81 fX1 ⊢
    generalize fm_i Y 3 (60 + 4 * k) (nI (V n)) = Y1 at lk2 u60 fY1 ⊢
    obtain ⟨s1, s2, s3, s4, s5⟩ := ptn lx lk2 (lo := 0) (hi := 999) (by omega) (by omega)
    simp only [y0, y999] at s1 s2 s3 s4 s5
    generalize uX7_takeNumber X1 0 999 = X2 at s3 s5 ⊢
    generalize uX12_readNumber Y1 0 999 = Y2 at s4 s5 ⊢
    have fX2 : ∀ v, frL (fDc 78 81 k) fA1l μ (fm_i X2 79 k v) := fun v => (fX1.tr (s3.mo (fun a j y => Or.inl y) (fun _ _ y => y))).i (Or.inr ⟨by omega, by omega, rfl⟩)
    have fY2 : frL (fDm (60 + 4 * k) (63 + 4 * k)) fGl ν Y2 := fY1.tr (s4.mo (fun a j y => Or.inl y) (fun _ _ y => y))
    rcases s5 with ⟨d1, d2, d3⟩ | ⟨d1, d2, d3, d4, d5, d6, d7⟩
    · simp only [d1, d2, if_true]
      exact ⟨⟨t1, vk, vk, fun _ => ⟨s1, vk, vk, fun y => absurd trivial y⟩⟩, ⟨t2, fun _ => ⟨v0, s2, fun y => absurd trivial y⟩⟩, fX2 _, fY2, Or.inl ⟨rfl, rfl, FQ_c d3 (by omega)⟩⟩
    · have ne2 : ¬ nI (V (n + 1)) = -1 := nI_m1 (by omega)
      simp only [d4, d5, if_neg ne2, if_neg n10, d6]
      have lk3 := LK_m (p := 63 + 4 * k) (w := 0) (LK_m (p := 62 + 4 * k) (w := 0) (LK_c (a := 79) (j := k) (v := nI (V (n + 1))) (p := 61 + 4 * k) (w := nI (V (n + 1))) d7 (by omega)))
      have fX3 := fX2 (nI (V (n + 1)))
      have fY3 : frL (fDm (60 + 4 * k) (63 + 4 * k)) fGl ν (fm_i (fm_i (fm_i Y2 3 (61 + 4 * k) (nI (V (n + 1)))) 3 (62 + 4 * k) 0) 3 (63 + 4 * k) 0) := ((fY2.i (Or.inr ⟨rfl, by omega, by omega⟩)).i (Or.inr ⟨rfl, by omega, by omega⟩)).i (Or.inr ⟨rfl, by omega, by omega⟩)
      have w78 : fI (fm_i X2 79 k (nI (V (n + 1)))) 78 k = nI (V n) := by rw [fI_i, if_neg (by omega), s3.2.2.2 78 k (by unfold fAc; omega)]; exact u78
      have w79 : fI (fm_i X2 79 k (nI (V (n + 1)))) 79 k = nI (V (n + 1)) := by rw [fI_i, if_pos ⟨rfl, rfl⟩]
      have w80 : fI (fm_i X2 79 k (nI (V (n + 1)))) 80 k = 0 := by rw [fI_i, if_neg (by omega), s3.2.2.2 80 k (by unfold fAc; omega)]; exact u80
      have w81 : fI (fm_i X2 79 k (nI (V (n + 1)))) 81 k = 0 := by rw [fI_i, if_neg (by omega), s3.2.2.2 81 k (by unfold fAc; omega)]; exact u81
      have w60 : fI (fm_i (fm_i (fm_i Y2 3 (61 + 4 * k) (nI (V (n + 1)))) 3 (62 + 4 * k) 0) 3 (63 + 4 * k) 0) 3 (60 + 4 * k) = nI (V n) := by rw [fI_i, if_neg (by omega), fI_i, if_neg (by omega), fI_i, if_neg (by omega), s4.2.2.2 3 _ (by unfold fGm; omega)]; exact u60
      have w61 : fI (fm_i (fm_i (fm_i Y2 3 (61 + 4 * k) (nI (V (n + 1)))) 3 (62 + 4 * k) 0) 3 (63 + 4 * k) 0) 3 (61 + 4 * k) = nI (V (n + 1)) := by rw [fI_i, if_neg (by omega), fI_i, if_neg (by omega), fI_i, if_pos ⟨rfl, rfl⟩]
      have w62 : fI (fm_i (fm_i (fm_i Y2 3 (61 + 4 * k) (nI (V (n + 1)))) 3 (62 + 4 * k) 0) 3 (63 + 4 * k) 0) 3 (62 + 4 * k) = 0 := by rw [fI_i, if_neg (by omega), fI_i, if_pos ⟨rfl, rfl⟩]
      have w63 : fI (fm_i (fm_i (fm_i Y2 3 (61 + 4 * k) (nI (V (n + 1)))) 3 (62 + 4 * k) 0) 3 (63 + 4 * k) 0) 3 (63 + 4 * k) = 0 := by rw [fI_i, if_pos ⟨rfl, rfl⟩]
      generalize fm_i X2 79 k (nI (V (n + 1))) = X3 at lk3 fX3 w78 w79 w80 w81 ⊢
      generalize fm_i (fm_i (fm_i Y2 3 (61 + 4 * k) (nI (V (n + 1)))) 3 (62 + 4 * k) 0) 3 (63 + 4 * k) 0 = Y3 at lk3 fY3 w60 w61 w62 w63 ⊢
      have hd3 := HDs_g hd fX3 fY3 (by unfold fDc fAc; omega) (fun j => by unfold fA1l; omega) (by unfold fDm fGm; omega) (fun j => by unfold fGl; omega)
      obtain ⟨b1, b2, b3⟩ := pw lx lk3 (i := 8) (by omega)
      rw [y8] at b1 b2 b3
      by_cases kn : K (n + 1 + 1) = 2 ∧ V (n + 1 + 1) = 8
      · have c8 : ¬ gX7_isWord X3 8 = 0 := fun y => b1.mp y kn
        have m8 : ¬ gX12_isWord Y3 8 = 0 := fun y => b2.mp y kn
        have lk4 := LK_c (a := 80) (j := k) (v := 1) (p := 62 + 4 * k) (w := 1) lk3 (by omega)
        obtain ⟨p1, p2, p3, p4, p5⟩ := pad lx lk4 (by omega) (by omega)
        have fX4 : frL (fDc 78 81 k) fA1l μ (uX7_advance (fm_i X3 80 k 1)) := (fX3.i (Or.inr ⟨by omega, by omega, rfl⟩)).tr ((fA1_A p3).mo (fun _ _ y => Or.inl y) (fun _ _ y => y))
        have fY4 : frL (fDm (60 + 4 * k) (63 + 4 * k)) fGl ν (uX12_go (fm_i Y3 3 (62 + 4 * k) 1)) := (fY3.i (Or.inr ⟨rfl, by omega, by omega⟩)).tr ((fG_G p4).mo (fun _ _ y => Or.inl y) (fun _ _ y => y))
        have gx : ∀ a, a ≠ 80 → a ≠ 1 → fI (uX7_advance (fm_i X3 80 k 1)) a k = fI X3 a k := fun a h1 h2 => by rw [p3.2.2.2 a k (by unfold fA1; omega), fI_i, if_neg (by omega)]
        have gy : ∀ j, j ≠ 62 + 4 * k → fI (uX12_go (fm_i Y3 3 (62 + 4 * k) 1)) 3 j = fI Y3 3 j := fun j h1 => by rw [p4.2.2.2 3 j (by unfold fG; omega), fI_i, if_neg (by omega)]
        have gx80 : fI (uX7_advance (fm_i X3 80 k 1)) 80 k = nI 1 := by rw [p3.2.2.2 80 k (by unfold fA1; omega), fI_i, if_pos ⟨rfl, rfl⟩]; rfl
        have gy62 : fI (uX12_go (fm_i Y3 3 (62 + 4 * k) 1)) 3 (62 + 4 * k) = nI 1 := by rw [p4.2.2.2 3 _ (by unfold fG; omega), fI_i, if_pos ⟨rfl, rfl⟩]; rfl
        have hd4 := HDs_g hd fX4 fY4 (by unfold fDc fAc; omega) (fun j => by unfold fA1l; omega) (by unfold fDm fGm; omega) (fun j => by unfold fGl; omega)
        simp only [if_neg c8, if_neg m8]
        obtain ⟨i1, i2, i3⟩ := cl_end (n0 := n) (v1 := V n) (v2 := V (n + 1)) (v3 := 1) lx hk h6 p5 hd4 (by omega) fX4 fY4 (by rw [gx 81 (by omega) (by omega)]; exact w81) (by rw [gy _ (by omega)]; exact w63) ⟨a3, d3, by omega⟩ ⟨by rw [gx 78 (by omega) (by omega)]; exact w78, by rw [gx 79 (by omega) (by omega)]; exact w79, gx80⟩ ⟨by rw [gy _ (by omega)]; exact w60, by rw [gy _ (by omega)]; exact w61, gy62⟩
        exact ⟨⟨t1, vk, vk, fun _ => ⟨s1, vk, vk, fun _ => ⟨fun y => absurd y c8, fun _ => ⟨vk, p1, i1⟩⟩⟩⟩, ⟨t2, fun _ => ⟨v0, s2, fun _ => ⟨v1, v2, v3, b3, fun y => absurd y m8, fun _ => ⟨v2, p2, i2⟩⟩⟩⟩, i3⟩
      · have c8 : gX7_isWord X3 8 = 0 := b1.mpr kn
        have m8 : gX12_isWord Y3 8 = 0 := b2.mpr kn
        simp only [if_pos c8, if_pos m8]
        obtain ⟨i1, i2, i3⟩ := cl_end (n0 := n) (v1 := V n) (v2 := V (n + 1)) (v3 := 0) lx hk h6 lk3 hd3 (by omega) fX3 fY3 w81 w63 ⟨a3, d3, by omega⟩ ⟨w78, w79, w80⟩ ⟨w60, w61, w62⟩
        exact ⟨⟨t1, vk, vk, fun _ => ⟨s1, vk, vk, fun _ => ⟨fun _ => i1, fun y => absurd c8 y⟩⟩⟩, ⟨t2, fun _ => ⟨v0, s2, fun _ => ⟨v1, v2, v3, b3, fun _ => i2, fun y => absurd m8 y⟩⟩⟩, i3⟩
end
