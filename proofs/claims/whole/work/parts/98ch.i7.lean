section
variable {b : Nat → Nat} {z l last : Nat} {K A V W P : Nat → Nat}
theorem hl_ok (lx : LXs b z l last K A V W P) : ∀ (c n f f' i : Nat) (μ ν : fm_T) (τ : sg_T) (m : Nat), n + c = 941 → c < f → c < f' → 2 * i ≤ n → LK b z l last K A V W P n μ ν → HDR τ m μ ν → fI μ 73 12 = nI i →
    qX2_readFrom_h13 f μ (nI i) ∧ ∃ U T, mX2_readFrom_h13 f μ (nI i) = U ∧ frL (fun k j => fAc k j ∨ (73 ≤ k ∧ k ≤ 84)) fLcl μ U ∧ frL fLm fLml ν T ∧
    ((lX2_readFrom_h13 f μ (nI i) = 0 ∧ FQ U T ∧ lX12_house_h25 f' ν (nI i) = (-1 : Int32) - fI T 0 11 ∧ mX12_house_h25 f' ν (nI i) = T ∧ qX12_house_h25 f' ν (nI i)) ∨
     (lX2_readFrom_h13 f μ (nI i) = 1 ∧ ∃ τ' m' i' n', LK b z l last K A V W P n' U T ∧ HDR τ' m' U T ∧ fI U 73 12 = nI i' ∧ lX12_house_h25 f' ν (nI i) = lX12_house_h54 fF T (nI i') 0 ∧ mX12_house_h25 f' ν (nI i) = mX12_house_h54 fF T (nI i') 0 ∧ (qX12_house_h54 fF T (nI i') 0 → qX12_house_h25 f' ν (nI i)))) := by
  intro c
  induction c using Nat.strongRecOn with
  | _ c ih =>
    intro n f f' i μ ν τ m h1 h2 h3 h4 lk hr h12
    obtain ⟨f, rfl⟩ : ∃ q, f = q + 1 := ⟨f - 1, by omega⟩
    obtain ⟨f', rfl⟩ : ∃ q, f' = q + 1 := ⟨f' - 1, by omega⟩
    have hl := lk.1.1
    have hn := lk_n lk
    have n9 : ¬ (940 : Int32) ≤ nI i := fun y => by have := (nI_leI (a := 940) (by omega) (by omega)).mp y; omega
    have ck : fI μ 1 9 = 0 ↔ K n = 0 := lk_K lx lk 0 (by omega)
    have mk : fI ν 0 7 = 0 ↔ kM (K n) = 0 := lk_M lx lk 0 (by omega)
    rw [(kM_v (lk_t lx lk).1).1] at mk
    by_cases k0 : K n = 0
    · have c0 := ck.mpr k0
      have m0 := mk.mpr k0
      simp only [qX2_readFrom_h13, mX2_readFrom_h13, lX2_readFrom_h13, qX12_house_h25, lX12_house_h25, mX12_house_h25, if_neg n9, if_pos c0, if_pos m0]
      exact ⟨fun _ y => absurd c0 y, μ, ν, rfl, frL.rf _ _ _, frL.rf _ _ _, Or.inr ⟨trivial, τ, m, i, n, lk, hr, h12, rfl, rfl, fun q => ⟨fun _ => q, fun y => absurd m0 y⟩⟩⟩
    · have c0 : ¬ fI μ 1 9 = 0 := fun y => k0 (ck.mp y)
      have m0 : ¬ fI ν 0 7 = 0 := fun y => k0 (mk.mp y)
      obtain ⟨p1, p2, f1, f2, p3⟩ := rl_ok lx lk hr
      simp only [qX2_readFrom_h13, mX2_readFrom_h13, lX2_readFrom_h13, qX12_house_h25, lX12_house_h25, mX12_house_h25, if_neg n9, if_neg c0, if_neg m0]
      rcases p3 with ⟨d1, d2, d3⟩ | ⟨d1, d2, n', τ', m', d3, d4, d5⟩
      · simp only [d1, d2, if_true]
        exact ⟨fun _ _ => ⟨p1, fun y => absurd trivial y⟩, _, _, rfl, f1.mo (fun a j y => y.elim Or.inl (fun y => Or.inr ⟨y.1, y.2.1⟩)) (fun _ _ y => y), f2, Or.inl ⟨trivial, d3, rfl, rfl, fun y => absurd y m0, fun _ => ⟨p2, fun y => absurd trivial y⟩⟩⟩
      · have n10 : ¬ (1 : Int32) = 0 := by decide
        have e12 : fI (uX2_readLine μ) 73 12 = nI i := by rw [f1.2.2.2 73 12 (by unfold fLc fAc; omega)]; exact h12
        simp only [d1, d2, if_neg n10, e12, nI_1]
        have hn' := lk_n d4
        have F1 := f1.mo (A' := fun k j => fAc k j ∨ (73 ≤ k ∧ k ≤ 84)) (B' := fLcl) (fun a j y => y.elim Or.inl (fun y => Or.inr ⟨y.1, y.2.1⟩)) (fun _ _ y => y)
        generalize uX2_readLine μ = U1 at d4 d5 F1 ⊢
        generalize uX12_readLine ν = T1 at f2 d4 d5 ⊢
        obtain ⟨i1, U, T, i2, i3, i4, i5⟩ := ih (941 - n') (by omega) n' f f' (i + 1) (fm_i U1 73 12 (nI (i + 1))) T1 τ' m' (by omega) (by omega) (by omega) (by omega) (LK_k d4 (by omega)) (HDR_f d5 ((frL.rf (fun a j => a = 73 ∧ j = 12) fN U1).i ⟨rfl, rfl⟩) (frL.rf (fun _ _ => False) fN T1) (fun a j _ _ => by omega) (by omega) (fun j y => by unfold fN at y; exact y) (fun j y => y) (fun y => y) (fun j y => by unfold fN at y; exact y)) (by rw [fI_i, if_pos ⟨rfl, rfl⟩])
        refine ⟨fun _ _ => ⟨p1, fun _ => i1⟩, U, T, i2, (F1.i (Or.inr ⟨by omega, by omega⟩)).tr i3, f2.tr i4, ?_⟩
        rcases i5 with ⟨j1, j2, j3, j4, j5⟩ | ⟨j1, τ2, m2, i', n2, j2, j3, j4, j5, j6, j7⟩
        · exact Or.inl ⟨j1, j2, j3, j4, fun y => absurd y m0, fun _ => ⟨p2, fun _ => j5⟩⟩
        · exact Or.inr ⟨j1, τ2, m2, i', n2, j2, j3, j4, j5, j6, fun q => ⟨fun y => absurd y m0, fun _ => ⟨p2, fun _ => j7 q⟩⟩⟩
end
