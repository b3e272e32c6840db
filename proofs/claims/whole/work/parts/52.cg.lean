theorem HC_cg {σ : sg_T} {h h' : Nat → Nat → Int32} {hn hn' : Nat → Int64} (e1 : ∀ k j, k < 12 → h' k j = h k j) (e2 : ∀ j, hn' j = hn j) (H : HC σ h hn) : HC σ h' hn' := by
  obtain ⟨a1, a2, a3, a4, a5, a6⟩ := H
  refine ⟨fun s hs => ?_, fun i hi => ?_, fun i hi => ⟨?_, fun s hs => ?_⟩, fun i hi => ?_, fun i hi => ?_, fun s i hs hi => ?_⟩
  · rw [e1 2 s (by decide)]; exact a1 s hs
  · rw [e1 11 i (by decide)]; exact a2 i hi
  · rw [e1 3 i (by decide)]; exact (a3 i hi).1
  · rw [e1 4 _ (by decide)]; exact (a3 i hi).2 s hs
  · rw [e1 5 i (by decide), e1 6 i (by decide), e1 7 i (by decide), e1 8 i (by decide)]; exact a4 i hi
  · rw [e1 9 i (by decide), e1 10 i (by decide)]; exact a5 i hi
  · rw [e2]; exact a6 s i hs hi
theorem CB_cg {σ : sg_T} {c c' : Nat → Nat → Int32} {cn cn' : Nat → Int64} (e1 : ∀ k j, k < 28 → c' k j = c k j) (e2 : ∀ j, cn' j = cn j) (H : CB σ c cn) : CB σ c' cn' := by
  obtain ⟨a1, a2, a3, a4, a5, a6, a7⟩ := H
  refine ⟨?_, fun t j ht hj => ?_, fun n hn => ?_, fun d hd => ?_, fun l hl => ?_, fun q hq => ?_, HC_cg (fun k j hk => e1 (16 + k) j (by omega)) e2 a7⟩
  · rw [e1 1 5 (by decide), e1 1 6 (by decide), e1 1 7 (by decide), e1 0 4 (by decide), e1 7 8 (by decide)]; exact a1
  · rw [e1 2 _ (by decide)]; exact a2 t j ht hj
  · rw [e1 3 n (by decide), e1 4 n (by decide), e1 5 n (by decide), e1 6 n (by decide)]; exact a3 n hn
  · rw [e1 8 d (by decide), e1 9 d (by decide), e1 10 d (by decide)]; exact a4 d hd
  · rw [e1 11 l (by decide)]; exact a5 l hl
  · rw [e1 12 q (by decide), e1 13 q (by decide), e1 14 q (by decide), e1 15 q (by decide)]; exact a6 q hq
theorem TG_cg {r r' : Nat → Nat → Int32} {a a' : Nat → Int32} (e1 : ∀ k j, k < 4 → r' k j = r k j) (e2 : ∀ j, 2000 ≤ j → j < 2240 → a' j = a j) {n2 : Nat} : ∀ (f i j k : Nat), TG f r a i j k n2 → TG f r' a' i j k n2
  | 0, i, j, k, h => h
  | f + 1, i, j, k, h => by
    obtain ⟨h1, h2, h3⟩ := h
    have q0 : a' (2000 + 4 * k) = a (2000 + 4 * k) := e2 _ (by omega) (by omega)
    have q1 : a' (2001 + 4 * k) = a (2001 + 4 * k) := e2 _ (by omega) (by omega)
    have q2 : a' (2002 + 4 * k) = a (2002 + 4 * k) := e2 _ (by omega) (by omega)
    have q3 : a' (2003 + 4 * k) = a (2003 + 4 * k) := e2 _ (by omega) (by omega)
    refine ⟨h1, h2, ?_⟩
    rw [q0, q1, q2, q3, e1 1 i (by decide), e1 2 i (by decide), e1 3 i (by decide), e1 1 (j - 1) (by decide)]
    rcases h3 with h | h | h | h | h | ⟨k1, g1, g2, g3, g4, g5⟩ | ⟨k1, k2, m, g1, g2, g3, g4, g5, g6, g7, g8⟩ | ⟨k1, k2, m, g1, g2, g3, g4, g5, g6, g7, g8⟩
    · exact Or.inl h
    · exact Or.inr (Or.inl h)
    · exact Or.inr (Or.inr (Or.inl h))
    · exact Or.inr (Or.inr (Or.inr (Or.inl h)))
    · exact Or.inr (Or.inr (Or.inr (Or.inr (Or.inl h))))
    · exact Or.inr (Or.inr (Or.inr (Or.inr (Or.inr (Or.inl ⟨k1, g1, g2, g3, g4, TG_cg e1 e2 f _ _ _ g5⟩)))))
    · exact Or.inr (Or.inr (Or.inr (Or.inr (Or.inr (Or.inr (Or.inl ⟨k1, k2, m, g1, g2, g3, g4, g5, g6, TG_cg e1 e2 f _ _ _ g7, TG_cg e1 e2 f _ _ _ g8⟩))))))
    · exact Or.inr (Or.inr (Or.inr (Or.inr (Or.inr (Or.inr (Or.inr ⟨k1, k2, m, g1, g2, g3, g4, g5, g6, TG_cg e1 e2 f _ _ _ g7, TG_cg e1 e2 f _ _ _ g8⟩))))))
theorem RU_cg {r r' : Nat → Nat → Int32} {a a' : Nat → Int32} {n2 : Nat} (e1 : ∀ k j, k < 4 → r' k j = r k j) (e2 : ∀ j, j = 135 ∨ j = 136 ∨ (2000 ≤ j ∧ j < 2240) → a' j = a j) (H : RU r a n2) : RU r' a' n2 := by
  obtain ⟨so, st, tp, h1, h2, h3, h4, h5⟩ := H
  refine ⟨so, st, tp, by rw [e1 0 4 (by decide)]; exact h1, by rw [e1 0 3 (by decide)]; exact h2, h3, h4, ?_⟩
  rw [e2 135 (by simp), e2 136 (by simp)]
  rcases h5 with h | ⟨g1, g2, g3, g4⟩
  · exact Or.inl h
  · exact Or.inr ⟨g1, g2, g3, TG_cg e1 (fun j q1 q2 => e2 j (Or.inr (Or.inr ⟨q1, q2⟩))) _ _ _ _ g4⟩
theorem WR_cg {σ : sg_T} {c c' : Nat → Nat → Int32} {cn cn' : Nat → Int64} {a : Nat → Int32} {nm : Nat → Int64} (e1 : ∀ k j, k < 32 → c' k j = c k j) (e2 : ∀ j, cn' j = cn j) (H : WR σ c cn a nm) : WR σ c' cn' a nm :=
  ⟨CB_cg (fun k j hk => e1 k j (by omega)) e2 H.1, H.2.1, H.2.2.1, RU_cg (fun k j hk => e1 (28 + k) j (by omega)) (fun _ _ => rfl) H.2.2.2⟩
def cgC (μ μ' : fm_T) : Prop := μ'.1 = μ.1 ∧ μ'.2.1 = μ.2.1 ∧ (∀ k j, (8 ≤ k ∧ k < 40) ∨ 89 ≤ k → fI μ' k j = fI μ k j) ∧ ∀ k j, k = 25 ∨ 89 ≤ k → fL μ' k j = fL μ k j
def kpC (μ μ' : fm_T) : Prop := μ'.1 = μ.1 ∧ μ'.2.1 = μ.2.1 ∧ (∀ k j, 89 ≤ k → fI μ' k j = fI μ k j) ∧ ∀ k j, 89 ≤ k → fL μ' k j = fL μ k j
def cgM (ν ν' : fm_T) : Prop := ν'.1 = ν.1 ∧ ν'.2.1 = ν.2.1 ∧ fI ν' 0 21 = fI ν 0 21 ∧ (∀ j, fI ν' 2 j = fI ν 2 j) ∧ (∀ j, fL ν' 5 j = fL ν 5 j) ∧ (∀ j, fI ν' 4 j = fI ν 4 j) ∧ (∀ j, fI ν' 8 j = fI ν 8 j) ∧ ∀ j, fL ν' 7 j = fL ν 7 j
def kpM (ν ν' : fm_T) : Prop := ν'.1 = ν.1 ∧ ν'.2.1 = ν.2.1 ∧ (∀ j, fI ν' 4 j = fI ν 4 j) ∧ (∀ j, fI ν' 8 j = fI ν 8 j) ∧ ∀ j, fL ν' 7 j = fL ν 7 j
theorem lz_r_cg {μ μ' : fm_T} {r0 r1 : Nat} (h1 : μ'.1 = μ.1) (h2 : μ'.2.1 = μ.2.1) (h : lz_r μ r0 r1) : lz_r μ' r0 r1 := by
  unfold lz_r at *
  rw [h1, h2]
  exact h
theorem KP_cg {σ : sg_T} {r k : Nat} {μ μ' ν ν' : fm_T} (h1 : kpC μ μ') (h2 : kpM ν ν') (h : KP σ r μ ν k) : KP σ r μ' ν' k := by
  obtain ⟨-, -, c3, c4⟩ := h1
  obtain ⟨-, -, m3, m4, m5⟩ := h2
  have e1 : (fun j => fI ν' 4 (2560 * k + j)) = fun j => fI ν 4 (2560 * k + j) := funext fun j => m3 _
  have e2 : (fun j => fL ν' 7 (24 * k + j)) = fun j => fL ν 7 (24 * k + j) := funext fun j => m5 _
  unfold KP
  rw [m4 k, e1, e2]
  rcases h with h | ⟨g1, g2, g3⟩ | ⟨g1, g2, g3⟩
  · exact Or.inl h
  · exact Or.inr (Or.inl ⟨g1, g2, WR_cg (fun i j _ => c3 (89 + i) j (by omega)) (fun j => c4 106 j (by omega)) g3⟩)
  · exact Or.inr (Or.inr ⟨g1, g2, WR_cg (fun i j _ => c3 (121 + i) j (by omega)) (fun j => c4 138 j (by omega)) g3⟩)
theorem cgC.kp {μ μ' : fm_T} (h : cgC μ μ') : kpC μ μ' := ⟨h.1, h.2.1, fun k j q => h.2.2.1 k j (Or.inr q), fun k j q => h.2.2.2 k j (Or.inr q)⟩
theorem cgM.kp {ν ν' : fm_T} (h : cgM ν ν') : kpM ν ν' := ⟨h.1, h.2.1, h.2.2.2.2.2.1, h.2.2.2.2.2.2.1, h.2.2.2.2.2.2.2⟩
theorem cgC.rf (μ : fm_T) : cgC μ μ := ⟨rfl, rfl, fun _ _ _ => rfl, fun _ _ _ => rfl⟩
theorem kpC.rf (μ : fm_T) : kpC μ μ := ⟨rfl, rfl, fun _ _ _ => rfl, fun _ _ _ => rfl⟩
theorem cgM.rf (ν : fm_T) : cgM ν ν := ⟨rfl, rfl, rfl, fun _ => rfl, fun _ => rfl, fun _ => rfl, fun _ => rfl, fun _ => rfl⟩
section RSX
variable {σ σ0 σ1 ρ σ' ρ' : sg_T} {r0 r1 : Nat} {μ μ' ν ν' : fm_T}
theorem RS_x (h : RS σ σ0 σ1 ρ r0 r1 μ ν) (h1 : cgC μ μ') (h2 : cgM ν ν') (hx : XR ρ' μ' ν') : RS σ σ0 σ1 ρ' r0 r1 μ' ν' := by
  obtain ⟨a1, a2, a3, a4, a5, a6, a7, a8⟩ := h
  have e : rowN ν' = rowN ν := funext fun j => by unfold rowN; rw [h2.2.2.1, h2.2.2.2.1 j]
  refine ⟨lz_r_cg h1.1 h1.2.1 a1, h2.2.1.trans a2, h2.1.trans a3, hx, ?_, ?_, KP_cg h1.kp h2.kp a7, KP_cg h1.kp h2.kp a8⟩
  · rcases a5 with g | ⟨g1, g2⟩
    · exact Or.inl (by rw [h2.2.2.1]; exact g)
    · exact Or.inr ⟨by rw [h2.2.2.1]; exact g1, fun j => by rw [h2.2.2.2.1 j]; exact g2 j⟩
  · rw [e, show fL ν' 5 = fL ν 5 from funext h2.2.2.2.2.1]
    exact WR_cg (fun k j hk => h1.2.2.1 (8 + k) j (by omega)) (fun j => h1.2.2.2 25 j (by omega)) a6
theorem RS_w (h : RS σ σ0 σ1 ρ r0 r1 μ ν) (h1 : kpC μ μ') (h2 : kpM ν ν') (hx : XR ρ' μ' ν') (hb : fI ν' 0 21 = 1) (hw : WR σ' (blk μ' 8) (fL μ' 25) (fI ν' 2) (fL ν' 5)) : RS σ' σ0 σ1 ρ' r0 r1 μ' ν' := by
  obtain ⟨a1, a2, a3, a4, a5, a6, a7, a8⟩ := h
  have e : rowN ν' = fI ν' 2 := funext fun j => by unfold rowN; rw [hb]; rfl
  exact ⟨lz_r_cg h1.1 h1.2.1 a1, h2.2.1.trans a2, h2.1.trans a3, hx, Or.inl hb, by rw [e]; exact hw, KP_cg h1 h2 a7, KP_cg h1 h2 a8⟩
end RSX
def xgC (μ μ' : fm_T) : Prop := (fI μ' 1 2 = fI μ 1 2 ∧ fI μ' 51 8 = fI μ 51 8 ∧ fI μ' 57 4 = fI μ 57 4 ∧ fI μ' 0 11 = fI μ 0 11 ∧ fI μ' 61 5 = fI μ 61 5 ∧ fI μ' 66 5 = fI μ 66 5 ∧ fI μ' 0 12 = fI μ 0 12) ∧ (∀ k j, k = 3 ∨ k = 56 ∨ k = 60 ∨ k = 72 ∨ k = 65 ∨ k = 70 → fI μ' k j = fI μ k j) ∧ ∀ j, fL μ' 2 j = fL μ 2 j
def xgM (ν ν' : fm_T) : Prop := (fI ν' 0 2 = fI ν 0 2 ∧ fI ν' 0 39 = fI ν 0 39 ∧ fI ν' 0 45 = fI ν 0 45 ∧ fI ν' 0 48 = fI ν 0 48 ∧ fI ν' 0 54 = fI ν 0 54 ∧ fI ν' 0 59 = fI ν 0 59 ∧ fI ν' 0 10 = fI ν 0 10) ∧ ∀ k j, k = 1 ∨ k = 20 ∨ k = 23 ∨ k = 25 ∨ k = 29 ∨ k = 32 → fI ν' k j = fI ν k j
theorem xgC.rf (μ : fm_T) : xgC μ μ := ⟨⟨rfl, rfl, rfl, rfl, rfl, rfl, rfl⟩, fun _ _ _ => rfl, fun _ => rfl⟩
theorem xgM.rf (ν : fm_T) : xgM ν ν := ⟨⟨rfl, rfl, rfl, rfl, rfl, rfl, rfl⟩, fun _ _ _ => rfl⟩
theorem XR_cg {ρ : sg_T} {μ μ' ν ν' : fm_T} (h1 : xgC μ μ') (h2 : xgM ν ν') (h : XR ρ μ ν) : XR ρ μ' ν' := by
  obtain ⟨⟨c1, c2, c3, c4, c5, c6, c7⟩, c8, c9⟩ := h1
  obtain ⟨⟨m1, m2, m3, m4, m5, m6, m7⟩, m8⟩ := h2
  obtain ⟨a1, a2, a3, a4, a5, a6, a7, a8⟩ := h
  unfold XR
  rw [c1, c2, c3, c4, c5, c6, c7, m1, m2, m3, m4, m5, m6, m7]
  refine ⟨⟨a1.1, a1.2.1, a1.2.2.1, fun i hi => ?_⟩, ⟨a2.1, a2.2.1, a2.2.2.1, fun i hi => ?_⟩, ⟨a3.1, a3.2.1, a3.2.2.1, fun i hi => ?_⟩, ⟨a4.1, a4.2.1, a4.2.2.1, fun i hi => ?_⟩, ⟨a5.1, a5.2.1, a5.2.2.1, fun i hi => ?_⟩, ⟨a6.1, a6.2.1, a6.2.2.1, fun i hi => ?_⟩, a7, fun i hi => ?_⟩
  · rw [c8 3 i (by simp), m8 1 i (by simp)]; exact a1.2.2.2 i hi
  · rw [c8 56 i (by simp), m8 20 i (by simp)]; exact a2.2.2.2 i hi
  · rw [c8 60 i (by simp), m8 23 i (by simp)]; exact a3.2.2.2 i hi
  · rw [c8 72 i (by simp), m8 25 i (by simp)]; exact a4.2.2.2 i hi
  · rw [c8 65 i (by simp), m8 29 i (by simp)]; exact a5.2.2.2 i hi
  · rw [c8 70 i (by simp), m8 32 i (by simp)]; exact a6.2.2.2 i hi
  · rw [c9]; exact a8 i hi
