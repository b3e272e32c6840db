theorem vc_pw : ∀ n v, vcode n v → v < 32 ^ n := fun n => by
  induction n with
  | zero => intro v hv; rw [show v = 0 from hv]; decide
  | succ n ihn =>
    intro v hv
    rcases hv with hv | ⟨p1, p2, p3⟩
    · rw [hv]; exact Nat.pow_pos (by decide)
    · have := ihn _ p3
      rw [Nat.pow_succ]
      omega
theorem vc_63 {v : Nat} (h : vcode 7 v) : v < 2 ^ 63 := by
  have := vc_pw 7 _ h
  have e : (32 : Nat) ^ 7 < 2 ^ 63 := by decide
  omega
theorem bas_m (ν : fm_T) {s : Nat} (hs : s < 4) : gX12_base ν (nI s) = nI (bsn s) := by
  have : s = 0 ∨ s = 1 ∨ s = 2 ∨ s = 3 := by omega
  rcases this with rfl | rfl | rfl | rfl <;> rfl
def HDs (τ : sg_T) (s : Nat) (μ ν : fm_T) : Prop := (fI μ 75 s = nI (τ 0 (5 + s)) ∧ fI ν 3 s = nI (τ 0 (5 + s))) ∧ (∀ i, i < τ 0 (5 + s) → fL μ 74 (8 * s + i) = lN (τ 22 (8 * s + i)) ∧ fL ν 6 (bsn s + i) = lN (conv 7 (τ 22 (8 * s + i))) ∧ vcode 7 (τ 22 (8 * s + i)) ∧ τ 22 (8 * s + i) ≠ 0) ∧ τ 0 (5 + s) ≤ 8 ∧ bsn s + τ 0 (5 + s) ≤ 24
theorem HDn_b {τ : sg_T} {μ ν : fm_T} {s : Nat} (h : HDs τ s μ ν) (_ : s < 4) : τ 0 (5 + s) ≤ 8 ∧ bsn s + τ 0 (5 + s) ≤ 24 := h.2.2
section
variable {τ : sg_T} {μ ν : fm_T} {s w : Nat}
theorem nb_c (h : HDs τ s μ ν) (hs : s < 4) (hw : vcode 7 w) : ∀ (c i f : Nat), i + c = τ 0 (5 + s) → c < f → qX2_numberOf_73_h3 f μ (nI s) (lN w) (nI i) ∧ ((lX2_numberOf_73_h3 f μ (nI s) (lN w) (nI i) = -1 ∧ ∀ j, i ≤ j → j < τ 0 (5 + s) → τ 22 (8 * s + j) ≠ w) ∨ ∃ j, i ≤ j ∧ j < τ 0 (5 + s) ∧ τ 22 (8 * s + j) = w ∧ (∀ q, i ≤ q → q < j → τ 22 (8 * s + q) ≠ w) ∧ lX2_numberOf_73_h3 f μ (nI s) (lN w) (nI i) = nI j) := by
  have b := HDn_b h hs
  obtain ⟨h1, h2, -⟩ := h
  have e2 := h1.1
  have vs : vp_in (nI s) 4 := vp_in_nI (by omega) (by decide)
  have ts : (nI s).toNatClampNeg = s := nI_clamp (by omega)
  intro c
  induction c with
  | zero =>
    intro i f a1 a2
    obtain ⟨f, rfl⟩ : ∃ m, f = m + 1 := ⟨f - 1, by omega⟩
    have e1 : nI (τ 0 (5 + s)) ≤ nI i := (nI_leI (by omega) (by omega)).mpr (by omega)
    simp only [qX2_numberOf_73_h3, lX2_numberOf_73_h3, ts, e2, if_pos e1]
    exact ⟨⟨vs, fun q => absurd e1 q⟩, Or.inl ⟨trivial, fun j p q => absurd q (by omega)⟩⟩
  | succ c ih =>
    intro i f a1 a2
    obtain ⟨f, rfl⟩ : ∃ m, f = m + 1 := ⟨f - 1, by omega⟩
    have e1 : ¬ nI (τ 0 (5 + s)) ≤ nI i := fun q => by have := (nI_leI (by omega) (by omega)).mp q; omega
    have ix : nI s * (8 : Int32) + nI i = nI (8 * s + i) := by rw [show (8 : Int32) = nI 8 from rfl, nI_mul, nI_add, Nat.mul_comm]
    have cx : 8 * s + i < 2 ^ 31 := by omega
    obtain ⟨g1, -, g3, -⟩ := h2 i (by omega)
    have eq : lg_cmp (lN (τ 22 (8 * s + i))) (lN w) = 0 ↔ τ 22 (8 * s + i) = w := lG_eq (vc_63 g3) (vc_63 hw)
    have vx : vp_in (nI (8 * s + i)) 32 := vp_in_nI (by omega) (by decide)
    obtain ⟨k1, k2⟩ := ih (i + 1) f (by omega) (by omega)
    simp only [qX2_numberOf_73_h3, lX2_numberOf_73_h3, ts, e2, if_neg e1, ix, nI_clamp cx, g1, eq, nI_1]
    by_cases y : τ 22 (8 * s + i) = w
    · simp only [if_pos y]
      exact ⟨⟨vs, fun _ => ⟨vx, fun q => absurd y q⟩⟩, Or.inr ⟨i, by omega, by omega, y, fun q q1 q2 => absurd q2 (by omega), rfl⟩⟩
    · simp only [if_neg y]
      refine ⟨⟨vs, fun _ => ⟨vx, fun _ => k1⟩⟩, ?_⟩
      rcases k2 with ⟨d1, d2⟩ | ⟨j, d1, d2, d3, d4, d5⟩
      · exact Or.inl ⟨d1, fun j q1 q2 => by
          by_cases z : j = i
          · rw [z]; exact y
          · exact d2 j (by omega) q2⟩
      · exact Or.inr ⟨j, by omega, d2, d3, fun q q1 q2 => by
          by_cases z : q = i
          · rw [z]; exact y
          · exact d4 q (by omega) q2, d5⟩
theorem nb_m (h : HDs τ s μ ν) (hs : s < 4) (hw : vcode 7 w) (hν : fL ν 0 12 = lN (conv 7 w)) : ∀ (c i f : Nat), i + c = τ 0 (5 + s) → c < f → qX12_findRead_h2 f ν (nI s) (nI i) ∧ ((lX12_findRead_h2 f ν (nI s) (nI i) = -1 ∧ ∀ j, i ≤ j → j < τ 0 (5 + s) → τ 22 (8 * s + j) ≠ w) ∨ ∃ j, i ≤ j ∧ j < τ 0 (5 + s) ∧ τ 22 (8 * s + j) = w ∧ (∀ q, i ≤ q → q < j → τ 22 (8 * s + q) ≠ w) ∧ lX12_findRead_h2 f ν (nI s) (nI i) = nI j) := by
  have b := HDn_b h hs
  obtain ⟨h1, h2, -⟩ := h
  have e2 := h1.2
  have vs : vp_in (nI s) 130 := vp_in_nI (by omega) (by decide)
  have ts : (nI s).toNatClampNeg = s := nI_clamp (by omega)
  have bm := bas_m ν hs
  intro c
  induction c with
  | zero =>
    intro i f a1 a2
    obtain ⟨f, rfl⟩ : ∃ m, f = m + 1 := ⟨f - 1, by omega⟩
    have e1 : nI (τ 0 (5 + s)) ≤ nI i := (nI_leI (by omega) (by omega)).mpr (by omega)
    simp only [qX12_findRead_h2, lX12_findRead_h2, ts, e2, if_pos e1]
    exact ⟨⟨vs, fun q => absurd e1 q⟩, Or.inl ⟨trivial, fun j p q => absurd q (by omega)⟩⟩
  | succ c ih =>
    intro i f a1 a2
    obtain ⟨f, rfl⟩ : ∃ m, f = m + 1 := ⟨f - 1, by omega⟩
    have e1 : ¬ nI (τ 0 (5 + s)) ≤ nI i := fun q => by have := (nI_leI (by omega) (by omega)).mp q; omega
    have ix : nI (bsn s) + nI i = nI (bsn s + i) := nI_add _ _
    have cx : bsn s + i < 2 ^ 31 := by omega
    obtain ⟨-, g2, g3, -⟩ := h2 i (by omega)
    have l1 := cv_lt 7 _ g3
    have l2 := cv_lt 7 _ hw
    have e27 : (27 : Nat) ^ 7 < 2 ^ 63 := by decide
    have eq : lg_cmp (lN (conv 7 (τ 22 (8 * s + i)))) (lN (conv 7 w)) = 0 ↔ τ 22 (8 * s + i) = w := by
      rw [lG_eq (by omega) (by omega)]
      exact ⟨fun y => cv_inj 7 _ _ g3 hw y, fun y => by rw [y]⟩
    have vx : vp_in (nI (bsn s + i)) 24 := vp_in_nI (by omega) (by decide)
    obtain ⟨k1, k2⟩ := ih (i + 1) f (by omega) (by omega)
    simp only [qX12_findRead_h2, lX12_findRead_h2, ts, e2, bm, if_neg e1, ix, nI_clamp cx, g2, hν, eq, nI_1]
    by_cases y : τ 22 (8 * s + i) = w
    · simp only [if_pos y]
      exact ⟨⟨vs, fun _ => ⟨vx, fun q => absurd y q⟩⟩, Or.inr ⟨i, by omega, by omega, y, fun q q1 q2 => absurd q2 (by omega), rfl⟩⟩
    · simp only [if_neg y]
      refine ⟨⟨vs, fun _ => ⟨vx, fun _ => k1⟩⟩, ?_⟩
      rcases k2 with ⟨d1, d2⟩ | ⟨j, d1, d2, d3, d4, d5⟩
      · exact Or.inl ⟨d1, fun j q1 q2 => by
          by_cases z : j = i
          · rw [z]; exact y
          · exact d2 j (by omega) q2⟩
      · exact Or.inr ⟨j, by omega, d2, d3, fun q q1 q2 => by
          by_cases z : q = i
          · rw [z]; exact y
          · exact d4 q (by omega) q2, d5⟩
theorem nb_ok (h : HDs τ s μ ν) (hs : s < 4) (hw : vcode 7 w) (hμ : fL μ 1 12 = lN w) (hν : fL ν 0 12 = lN (conv 7 w)) : pX2_numberOf_73 μ (nI s) (fL μ 1 12) ∧ pX12_findRead ν (nI s) ∧ ((gX2_numberOf_73 μ (nI s) (fL μ 1 12) = -1 ∧ gX12_findRead ν (nI s) = -1 ∧ ∀ j, j < τ 0 (5 + s) → τ 22 (8 * s + j) ≠ w) ∨ ∃ j, j < τ 0 (5 + s) ∧ τ 22 (8 * s + j) = w ∧ gX2_numberOf_73 μ (nI s) (fL μ 1 12) = nI j ∧ gX12_findRead ν (nI s) = nI j) := by
  have b := HDn_b h hs
  rw [hμ]
  obtain ⟨c1, c2⟩ := nb_c h hs hw (τ 0 (5 + s)) 0 fF (by omega) (fF_gt (by omega))
  obtain ⟨m1, m2⟩ := nb_m h hs hw hν (τ 0 (5 + s)) 0 fF (by omega) (fF_gt (by omega))
  refine ⟨c1, m1, ?_⟩
  unfold gX2_numberOf_73 gX12_findRead
  rcases c2 with ⟨d1, d2⟩ | ⟨j, d1, d2, d3, d4, d5⟩
  · rcases m2 with ⟨f1, f2⟩ | ⟨j', f1, f2, f3, f4, f5⟩
    · exact Or.inl ⟨d1, f1, fun j hj => d2 j (by omega) hj⟩
    · exact absurd f3 (d2 j' (by omega) f2)
  · rcases m2 with ⟨f1, f2⟩ | ⟨j', f1, f2, f3, f4, f5⟩
    · exact absurd d3 (f2 j (by omega) d2)
    · have : j = j' := by
        rcases Nat.lt_trichotomy j j' with y | y | y
        · exact absurd d3 (f4 j (by omega) y)
        · exact y
        · exact absurd f3 (d4 j' (by omega) y)
      subst this
      exact Or.inr ⟨j, d2, d3, d5, f5⟩
end
