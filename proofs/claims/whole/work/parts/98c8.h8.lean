def fEa (k a j : Nat) : Prop := fEc k a j ∨ (a = 76 ∧ j = k)
section
variable {b : Nat → Nat} {z l last : Nat} {K A V W P : Nat → Nat} {τ : sg_T} {μ ν : fm_T} {n k : Nat}
theorem ag_37 (hk : k < 6) : ∀ (c i f : Nat) (Y : fm_T), i + c = 6 → c < f → ∃ Z, frL (fun a j => a = 3 ∧ 11 + 8 * k + i ≤ j ∧ j ≤ 16 + 8 * k) fN Y Z ∧ (∀ s, i ≤ s → s < 6 → fI Z 3 (11 + 8 * k + s) = 0) ∧ lX12_readAgent_h37 f Y (nI (10 + 8 * k)) (nI i) = lX12_readAgent_h62 fF Z (nI (10 + 8 * k)) 0 ∧ mX12_readAgent_h37 f Y (nI (10 + 8 * k)) (nI i) = mX12_readAgent_h62 fF Z (nI (10 + 8 * k)) 0 ∧ (qX12_readAgent_h62 fF Z (nI (10 + 8 * k)) 0 → qX12_readAgent_h37 f Y (nI (10 + 8 * k)) (nI i)) := by
  have ix1 : nI (10 + 8 * k) + 1 = nI (11 + 8 * k) := by rw [nI_1]; congr 1; omega
  intro c
  induction c with
  | zero =>
    intro i f Y h1 h2
    obtain ⟨f, rfl⟩ : ∃ m, f = m + 1 := ⟨f - 1, by omega⟩
    have e1 : (6 : Int32) ≤ nI i := (nI_leI (a := 6) (by omega) (by omega)).mpr (by omega)
    simp only [qX12_readAgent_h37, lX12_readAgent_h37, mX12_readAgent_h37, if_pos e1]
    exact ⟨Y, frL.rf _ _ _, fun s q1 q2 => by omega, rfl, rfl, fun q => ⟨fun _ => q, fun y => absurd e1 y⟩⟩
  | succ c ih =>
    intro i f Y h1 h2
    obtain ⟨f, rfl⟩ : ∃ m, f = m + 1 := ⟨f - 1, by omega⟩
    have e1 : ¬ (6 : Int32) ≤ nI i := fun y => by have := (nI_leI (a := 6) (by omega) (by omega)).mp y; omega
    have jy : nI (11 + 8 * k) + nI i = nI (11 + 8 * k + i) := nI_add _ _
    have cjy : (nI (11 + 8 * k + i)).toNatClampNeg = 11 + 8 * k + i := nI_clamp (by omega)
    have vjy : vp_in (nI (11 + 8 * k + i)) 130 := vp_in_nI (by omega) (by decide)
    simp only [qX12_readAgent_h37, lX12_readAgent_h37, mX12_readAgent_h37, if_neg e1, ix1, jy, cjy, nI_1]
    obtain ⟨Z, i1, i2, i3, i4, i5⟩ := ih (i + 1) f (fm_i Y 3 (11 + 8 * k + i) 0) (by omega) (by omega)
    refine ⟨Z, ((frL.rf _ _ _).i ⟨rfl, by omega, by omega⟩).tr (i1.mo (fun a j y => by omega) (fun _ _ y => y)), fun s q1 q2 => ?_, i3, i4, fun q => ⟨fun y => absurd y e1, fun _ => ⟨vjy, i5 q⟩⟩⟩
    by_cases e : s = i
    · subst e
      rw [i1.2.2.2 3 _ (by omega), fI_i, if_pos ⟨rfl, rfl⟩]
    · exact i2 s (by omega) q2
def AgF (b : Nat → Nat) (z l last : Nat) (K A V W P : Nat → Nat) (n k : Nat) (gC gM : Int32) (U T : fm_T) : Prop := (gC = 0 ∧ gM = 0 ∧ FQ U T) ∨ (gC = 1 ∧ gM = 1 ∧ ∃ n' c v, n ≤ n' ∧ LK b z l last K A V W P n' U T ∧ ChN k c U T ∧ v ≤ 99 ∧ fI U 76 k = nI v ∧ fI T 3 (10 + 8 * k) = nI v) ∨ (gC = 0 ∧ gM = 1 ∧ ∃ n' X, LK b z l last K A V W P n' X T ∧ ¬ (K n' = 5 ∧ V n' = 59) ∧ U = uX7_fail X 1)
theorem agt_ok (lx : LXs b z l last K A V W P) (lk : LK b z l last K A V W P n μ ν) (hk : k < 6) (h5 : τ 0 5 ≤ 6) (h3 : fI ν 3 1 = nI k) (hd : HDs τ 0 μ ν) (z77 : ∀ s, s < 6 → fI μ 77 (6 * k + s) = 0) : pX2_readAgent μ (nI k) ∧ pX12_readAgent ν ∧ frL (fEa k) fA1l μ (uX2_readAgent μ (nI k)) ∧ frL (fDm (10 + 8 * k) (16 + 8 * k)) fGl ν (uX12_readAgent ν) ∧ AgF b z l last K A V W P n k (gX2_readAgent μ (nI k)) (gX12_readAgent ν) (uX2_readAgent μ (nI k)) (uX12_readAgent ν) := by
  obtain ⟨t1, t2, t3, t4, t5⟩ := ptn lx lk (lo := 0) (hi := 99) (by omega) (by omega)
  have y0 : nI 0 = (0 : Int32) := rfl
  have y99 : nI 99 = (99 : Int32) := rfl
  simp only [y0, y99] at t1 t2 t3 t4 t5
  have ix : (10 : Int32) + (8 : Int32) * nI k = nI (10 + 8 * k) := by rw [show (10 : Int32) = nI 10 from rfl, show (8 : Int32) = nI 8 from rfl, nI_mul, nI_add]
  have ck : (nI k).toNatClampNeg = k := nI_clamp (by omega)
  have c0 : (nI (10 + 8 * k)).toNatClampNeg = 10 + 8 * k := nI_clamp (by omega)
  have vk : vp_in (nI k) 6 := vp_in_nI (by omega) (by decide)
  have v0 : vp_in (nI (10 + 8 * k)) 130 := vp_in_nI (by omega) (by decide)
  unfold pX2_readAgent gX2_readAgent uX2_readAgent pX12_readAgent gX12_readAgent uX12_readAgent
  simp only [h3, ix, ck, c0]
  generalize uX7_takeNumber μ 0 99 = X at t3 t5 ⊢
  generalize uX12_readNumber ν 0 99 = Y at t4 t5 ⊢
  have fX : ∀ v, frL (fEa k) fA1l μ (fm_i X 76 k v) := fun v => (t3.mo (fun a j y => Or.inl (Or.inl y)) (fun _ _ y => y)).i (Or.inr ⟨rfl, rfl⟩)
  have fY : frL (fDm (10 + 8 * k) (16 + 8 * k)) fGl ν Y := t4.mo (fun a j y => Or.inl y) (fun _ _ y => y)
  have n10 : ¬ (1 : Int32) = 0 := by decide
  rcases t5 with ⟨a1, a2, a3⟩ | ⟨a1, a2, a3, a4, a5, a6, a7⟩
  · simp only [a1, a2, if_true]
    exact ⟨⟨t1, vk, vk, fun y => absurd trivial y⟩, ⟨t2, fun y => absurd trivial y⟩, fX _, fY, Or.inl ⟨rfl, rfl, FQ_c a3 (by omega)⟩⟩
  · have ne : ¬ nI (V n) = -1 := nI_m1 (by omega)
    simp only [a4, a5, if_neg ne, if_neg n10, a6]
    have lk2 := LK_c (a := 76) (j := k) (v := nI (V n)) (p := 10 + 8 * k) (w := nI (V n)) a7 (by omega)
    have u76 : fI (fm_i X 76 k (nI (V n))) 76 k = nI (V n) := by rw [fI_i, if_pos ⟨rfl, rfl⟩]
    have u10 : fI (fm_i Y 3 (10 + 8 * k) (nI (V n))) 3 (10 + 8 * k) = nI (V n) := by rw [fI_i, if_pos ⟨rfl, rfl⟩]
    have u77 : ∀ s, s < 6 → fI (fm_i X 76 k (nI (V n))) 77 (6 * k + s) = 0 := fun s hs => by rw [fI_i, if_neg (by omega), t3.2.2.2 77 _ (by unfold fAc; omega)]; exact z77 s hs
    have fX1 := fX (nI (V n))
    have fY1 : frL (fDm (10 + 8 * k) (16 + 8 * k)) fGl ν (fm_i Y 3 (10 + 8 * k) (nI (V n))) := fY.i (Or.inr ⟨rfl, by omega, by omega⟩)
    generalize fm_i X 76 k (nI (V n)) = X1 at lk2 u76 u77 fX1 ⊢
    generalize fm_i Y 3 (10 + 8 * k) (nI (V n)) = Y1 at lk2 u10 fY1 ⊢
    obtain ⟨Z, e1, e2, e3, e4, e5⟩ := ag_37 hk 6 0 fF Y1 (by omega) (fF_gt (by omega))
    rw [y0] at e3 e4 e5
    rw [e3, e4]
    have fZ : frL (fDm (10 + 8 * k) (16 + 8 * k)) fGl ν Z := fY1.tr (e1.mo (fun a j y => Or.inr ⟨y.1, by omega, by omega⟩) (fun _ _ y => fN_e y))
    have lk3 : LK b z l last K A V W P (n + 1) X1 Z := LK_f lk2 (frL.rf (fun _ _ => False) fN _) e1 (fun _ _ q => q.elim) (fun _ _ q => by unfold fN at q; exact q.elim) (fun k j q => by omega) (fun _ _ q => by unfold fN at q; exact q.elim)
    have hd3 := HDs_g hd fX1 fZ (by unfold fEa fEc fAc; omega) (fun j => by unfold fA1l; omega) (by unfold fDm fGm; omega) (fun j => by unfold fGl; omega)
    have w10 : fI Z 3 (10 + 8 * k) = nI (V n) := by rw [e1.2.2.2 3 _ (by omega)]; exact u10
    obtain ⟨i1, i2, U, T, i3, i4, i5, i6, i7⟩ := ag_30 lx hk h5 6 0 (n + 1) fF fF (fun _ => 0) X1 Z rfl (by omega) (fF_gt (by omega)) (fF_gt (by omega)) lk3 hd3 (fun s hs => ⟨u77 s hs, e2 s (by omega) hs, Nat.zero_le _⟩)
    have p0 : nI (pc6 0) = 0 := rfl
    rw [p0, y0] at i1 i3 i7
    rw [y0] at i2 i4
    rw [i3, i4]
    refine ⟨⟨t1, vk, vk, fun _ => i1⟩, ⟨t2, fun _ => ⟨v0, e5 i2⟩⟩, fX1.tr (i5.mo (fun a j y => Or.inl y) (fun _ _ y => y)), fZ.tr (i6.mo (fun a j y => y.elim Or.inl (fun w => Or.inr ⟨w.1, by omega, by omega⟩)) (fun _ _ y => y)), ?_⟩
    rcases i7 with q | ⟨q1, q2, n', c', q3, q4, q5⟩ | q
    · exact Or.inl q
    · exact Or.inr (Or.inl ⟨q1, q2, n', c', V n, by omega, q4, q5, a3, by rw [i5.2.2.2 76 k (by unfold fEc fAc; omega)]; exact u76, by rw [i6.2.2.2 3 _ (by unfold fDm fGm; omega)]; exact w10⟩)
    · exact Or.inr (Or.inr q)
end
