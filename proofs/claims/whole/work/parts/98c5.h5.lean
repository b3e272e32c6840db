def pc6 (B : Nat) : Nat := B % 2 + B / 2 % 2 + B / 4 % 2 + B / 8 % 2 + B / 16 % 2 + B / 32 % 2
theorem st_64p : ∀ B, B < 64 → ∀ j, j < 6 → B.testBit j = false → nI B ||| ((1 : Int32) <<< (nI j &&& 31)) = nI (B + 2 ^ j) ∧ B + 2 ^ j < 64 ∧ pc6 (B + 2 ^ j) = pc6 B + 1 := by decide +kernel
theorem pc6_le (B : Nat) : pc6 B ≤ 6 := by unfold pc6; omega
section
variable {b : Nat → Nat} {z l last : Nat} {K A V W P : Nat → Nat} {τ : sg_T}
theorem HDs_g {s : Nat} {μ ν μ' ν' : fm_T} {A1 B1 A2 B2 : Nat → Nat → Prop} (h : HDs τ s μ ν) (f1 : frL A1 B1 μ μ') (f2 : frL A2 B2 ν ν') (h1 : ¬ A1 75 s) (h2 : ∀ j, ¬ B1 74 j) (h3 : ¬ A2 3 s) (h4 : ∀ j, ¬ B2 6 j) : HDs τ s μ' ν' :=
  HDs_f h (f1.2.2.2 75 s h1) (f2.2.2.2 3 s h3) (fun i _ => f1.2.2.1 74 _ (h2 _)) (fun i _ => f2.2.2.1 6 _ (h4 _)) rfl (fun _ _ => rfl)
theorem cl_73 {k : Nat} (lx : LXs b z l last K A V W P) (hk : k < 8) (h6 : τ 0 6 ≤ 6) : ∀ (c B n f f' : Nat) (μ ν : fm_T), pc6 B + c = 6 → B < 64 → c < f → c < f' → LK b z l last K A V W P n μ ν → HDs τ 1 μ ν → fI μ 81 k = nI B → fI ν 3 (63 + 4 * k) = nI B →
    qX2_readCloth_h73 f μ (nI k) (nI (pc6 B)) ∧ qX12_readCloth_h99 f' ν (nI (60 + 4 * k)) ∧ ∃ U T, mX2_readCloth_h73 f μ (nI k) (nI (pc6 B)) = U ∧ mX12_readCloth_h99 f' ν (nI (60 + 4 * k)) = T ∧ frL (fDc 81 81 k) fA1l μ U ∧ frL (fDm (63 + 4 * k) (63 + 4 * k)) fGl ν T ∧
    ((lX2_readCloth_h73 f μ (nI k) (nI (pc6 B)) = 0 ∧ lX12_readCloth_h99 f' ν (nI (60 + 4 * k)) = 0 ∧ FQ U T) ∨
     (lX2_readCloth_h73 f μ (nI k) (nI (pc6 B)) = 1 ∧ lX12_readCloth_h99 f' ν (nI (60 + 4 * k)) = 1 ∧ ∃ n' B', n ≤ n' ∧ LK b z l last K A V W P n' U T ∧ B' < 64 ∧ fI U 81 k = nI B' ∧ fI T 3 (63 + 4 * k) = nI B')) := by
  have ck : (nI k).toNatClampNeg = k := nI_clamp (by omega)
  have vk : vp_in (nI k) 8 := vp_in_nI (by omega) (by decide)
  have ix : nI (60 + 4 * k) + 3 = nI (63 + 4 * k) := by rw [show (3 : Int32) = nI 3 from rfl, nI_add]; congr 1; omega
  have cx : (nI (63 + 4 * k)).toNatClampNeg = 63 + 4 * k := nI_clamp (by omega)
  have vx : vp_in (nI (63 + 4 * k)) 130 := vp_in_nI (by omega) (by decide)
  have y1 : nI 1 = (1 : Int32) := rfl
  have y9 : nI 9 = (9 : Int32) := rfl
  intro c
  induction c with
  | zero =>
    intro B n f f' μ ν h1 h2 h3 h4 lk hd e1 e2
    obtain ⟨f, rfl⟩ : ∃ m, f = m + 1 := ⟨f - 1, by omega⟩
    obtain ⟨f', rfl⟩ : ∃ m, f' = m + 1 := ⟨f' - 1, by omega⟩
    have n6 : ¬ (6 : Int32) < nI (pc6 B) := fun y => by have := (nI_ltI (a := 6) (by omega) (by have := pc6_le B; omega)).mp y; have := pc6_le B; omega
    obtain ⟨w1, w2, w3⟩ := pw lx lk (i := 9) (by omega)
    rw [y9] at w1 w2 w3
    by_cases kn : K n = 2 ∧ V n = 9
    · have c9 : ¬ gX7_isWord μ 9 = 0 := fun y => w1.mp y kn
      have m9 : ¬ gX12_isWord ν 9 = 0 := fun y => w2.mp y kn
      obtain ⟨a1, a2, a3, a4, a5⟩ := pad lx lk (by omega) (by omega)
      have x81 : fI (uX7_advance μ) 81 k = nI B := by rw [a3.2.2.2 81 k (by unfold fA1; omega)]; exact e1
      have x63 : fI (uX12_go ν) 3 (63 + 4 * k) = nI B := by rw [a4.2.2.2 3 _ (by unfold fG; omega)]; exact e2
      have hd2 := HDs_g hd a3 a4 (by unfold fA1; omega) (fun j => by unfold fA1l; omega) (by unfold fG; omega) (fun j => by unfold fGl; omega)
      obtain ⟨s1, s2, s3, s4, s5⟩ := tn_ok lx a5 hd2 (by omega) (show B < 512 by omega)
      rw [y1] at s1 s2 s3 s4 s5
      simp only [qX2_readCloth_h73, mX2_readCloth_h73, lX2_readCloth_h73, qX12_readCloth_h99, mX12_readCloth_h99, lX12_readCloth_h99, if_neg n6, if_neg c9, if_neg m9, ck, ix, cx, x81, x63]
      rcases s5 with ⟨d1, d2, d3⟩ | ⟨j, d1, d2, -⟩
      · simp only [d1, d2, if_true]
        exact ⟨fun _ _ => ⟨a1, vk, s1, fun y => absurd trivial y⟩, ⟨w3, fun _ => ⟨a2, vx, s2, fun y => absurd trivial y⟩⟩, _, _, rfl, rfl, ((fA1_A a3).tr s3).mo (fun _ _ y => Or.inl y) (fun _ _ y => y), ((fG_G a4).tr s4).mo (fun _ _ y => Or.inl y) (fun _ _ y => y), Or.inl ⟨trivial, trivial, d3⟩⟩
      · exfalso
        have dj : j < τ 0 6 := d1
        obtain ⟨-, g2, g3⟩ := st_64p B h2 j (by omega) d2
        have := pc6_le (B + 2 ^ j)
        omega
    · have c9 : gX7_isWord μ 9 = 0 := w1.mpr kn
      have m9 : gX12_isWord ν 9 = 0 := w2.mpr kn
      simp only [qX2_readCloth_h73, mX2_readCloth_h73, lX2_readCloth_h73, qX12_readCloth_h99, mX12_readCloth_h99, lX12_readCloth_h99, if_neg n6, c9, m9, if_true]
      exact ⟨fun _ y => absurd trivial y, ⟨w3, fun y => absurd trivial y⟩, μ, ν, rfl, rfl, frL.rf _ _ _, frL.rf _ _ _, Or.inr ⟨trivial, trivial, n, B, by omega, lk, h2, e1, e2⟩⟩
  | succ c ih =>
    intro B n f f' μ ν h1 h2 h3 h4 lk hd e1 e2
    obtain ⟨f, rfl⟩ : ∃ m, f = m + 1 := ⟨f - 1, by omega⟩
    obtain ⟨f', rfl⟩ : ∃ m, f' = m + 1 := ⟨f' - 1, by omega⟩
    have n6 : ¬ (6 : Int32) < nI (pc6 B) := fun y => by have := (nI_ltI (a := 6) (by omega) (by have := pc6_le B; omega)).mp y; have := pc6_le B; omega
    obtain ⟨w1, w2, w3⟩ := pw lx lk (i := 9) (by omega)
    rw [y9] at w1 w2 w3
    by_cases kn : K n = 2 ∧ V n = 9
    · have c9 : ¬ gX7_isWord μ 9 = 0 := fun y => w1.mp y kn
      have m9 : ¬ gX12_isWord ν 9 = 0 := fun y => w2.mp y kn
      obtain ⟨a1, a2, a3, a4, a5⟩ := pad lx lk (by omega) (by omega)
      have x81 : fI (uX7_advance μ) 81 k = nI B := by rw [a3.2.2.2 81 k (by unfold fA1; omega)]; exact e1
      have x63 : fI (uX12_go ν) 3 (63 + 4 * k) = nI B := by rw [a4.2.2.2 3 _ (by unfold fG; omega)]; exact e2
      have hd2 := HDs_g hd a3 a4 (by unfold fA1; omega) (fun j => by unfold fA1l; omega) (by unfold fG; omega) (fun j => by unfold fGl; omega)
      obtain ⟨s1, s2, s3, s4, s5⟩ := tn_ok lx a5 hd2 (by omega) (show B < 512 by omega)
      rw [y1] at s1 s2 s3 s4 s5
      have f1 := (fA1_A a3).tr s3
      have f2 := (fG_G a4).tr s4
      simp only [qX2_readCloth_h73, mX2_readCloth_h73, lX2_readCloth_h73, qX12_readCloth_h99, mX12_readCloth_h99, lX12_readCloth_h99, if_neg n6, if_neg c9, if_neg m9, ck, ix, cx, x81, x63]
      have g81 : fI (uX2_takeName (uX7_advance μ) 1 (nI B)) 81 k = nI B := by rw [s3.2.2.2 81 k (by unfold fAc; omega)]; exact x81
      have g63 : fI (uX12_readOld (uX12_go ν) 1 (nI B)) 3 (63 + 4 * k) = nI B := by rw [s4.2.2.2 3 _ (by unfold fGm; omega)]; exact x63
      have hd3 := HDs_g hd2 s3 s4 (by unfold fAc; omega) (fun j => by unfold fA1l; omega) (by unfold fGm; omega) (fun j => by unfold fGl; omega)
      generalize uX2_takeName (uX7_advance μ) 1 (nI B) = X at s3 s5 f1 g81 hd3 ⊢
      generalize uX12_readOld (uX12_go ν) 1 (nI B) = Y at s4 s5 f2 g63 hd3 ⊢
      rcases s5 with ⟨d1, d2, d3⟩ | ⟨j, d1, d2, d3, d4, d5, d6, d7⟩
      · simp only [d1, d2, if_true]
        exact ⟨fun _ _ => ⟨a1, vk, s1, fun y => absurd trivial y⟩, ⟨w3, fun _ => ⟨a2, vx, s2, fun y => absurd trivial y⟩⟩, _, _, rfl, rfl, f1.mo (fun _ _ y => Or.inl y) (fun _ _ y => y), f2.mo (fun _ _ y => Or.inl y) (fun _ _ y => y), Or.inl ⟨trivial, trivial, d3⟩⟩
      · have dj : j < τ 0 6 := d1
        obtain ⟨g1, g2, g3⟩ := st_64p B h2 j (by omega) d2
        have ne : ¬ nI j = -1 := nI_m1 (by omega)
        have n10 : ¬ (1 : Int32) = 0 := by decide
        have pcs : nI (pc6 B) + 1 = nI (pc6 (B + 2 ^ j)) := by rw [nI_1, g3]
        simp only [d4, d5, d6, if_neg ne, if_neg n10, g81, g63, g1, pcs]
        obtain ⟨i1, i2, U, T, i3, i4, i5, i6, i7⟩ := ih (B + 2 ^ j) (n + 1 + 1) f f' (fm_i X 81 k (nI (B + 2 ^ j))) (fm_i Y 3 (63 + 4 * k) (nI (B + 2 ^ j))) (by omega) g2 (by omega) (by omega) (LK_c d7 (by omega)) (HDs_g hd3 ((frL.rf (fun a _ => a = 81) fN X).i rfl) ((frL.rf (fun a j => a = 3 ∧ j = 63 + 4 * k) fN Y).i ⟨rfl, rfl⟩) (by omega) (fun j y => by unfold fN at y; exact y) (by omega) (fun j y => by unfold fN at y; exact y)) (by rw [fI_i, if_pos ⟨rfl, rfl⟩]) (by rw [fI_i, if_pos ⟨rfl, rfl⟩])
        refine ⟨fun _ _ => ⟨a1, vk, s1, fun _ => ⟨vk, vk, i1⟩⟩, ⟨w3, fun _ => ⟨a2, vx, s2, fun _ => ⟨vx, vx, i2⟩⟩⟩, U, T, i3, i4, ((f1.mo (fun _ _ y => Or.inl y) (fun _ _ y => y)).i (Or.inr ⟨by omega, by omega, rfl⟩)).tr i5, ((f2.mo (fun _ _ y => Or.inl y) (fun _ _ y => y)).i (Or.inr ⟨rfl, by omega, by omega⟩)).tr i6, ?_⟩
        rcases i7 with q | ⟨q1, q2, n', B', q3, q4⟩
        · exact Or.inl q
        · exact Or.inr ⟨q1, q2, n', B', by omega, q4⟩
    · have c9 : gX7_isWord μ 9 = 0 := w1.mpr kn
      have m9 : gX12_isWord ν 9 = 0 := w2.mpr kn
      simp only [qX2_readCloth_h73, mX2_readCloth_h73, lX2_readCloth_h73, qX12_readCloth_h99, mX12_readCloth_h99, lX12_readCloth_h99, if_neg n6, c9, m9, if_true]
      exact ⟨fun _ y => absurd trivial y, ⟨w3, fun y => absurd trivial y⟩, μ, ν, rfl, rfl, frL.rf _ _ _, frL.rf _ _ _, Or.inr ⟨trivial, trivial, n, B, by omega, lk, h2, e1, e2⟩⟩
end
