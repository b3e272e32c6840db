theorem TG_lt {r : Nat → Nat → Int32} {a : Nat → Int32} {n2 : Nat} : ∀ f i j k, TG f r a i j k n2 → i < j
  | 0, _, _, _, h => h.elim
  | _ + 1, _, _, _, h => h.2.1
theorem TG_s {r : Nat → Nat → Int32} {a : Nat → Int32} {n2 : Nat} : ∀ f i j k, TG f r a i j k n2 → TG (f + 1) r a i j k n2
  | 0, _, _, _, h => h.elim
  | f + 1, i, j, k, h => by
    obtain ⟨h1, h2, h3⟩ := h
    refine ⟨h1, h2, ?_⟩
    rcases h3 with h | h | h | h | h | ⟨k1, g1, g2, g3, g4, g5⟩ | ⟨k1, k2, m, g1, g2, g3, g4, g5, g6, g7, g8⟩ | ⟨k1, k2, m, g1, g2, g3, g4, g5, g6, g7, g8⟩
    · exact Or.inl h
    · exact Or.inr (Or.inl h)
    · exact Or.inr (Or.inr (Or.inl h))
    · exact Or.inr (Or.inr (Or.inr (Or.inl h)))
    · exact Or.inr (Or.inr (Or.inr (Or.inr (Or.inl h))))
    · exact Or.inr (Or.inr (Or.inr (Or.inr (Or.inr (Or.inl ⟨k1, g1, g2, g3, g4, TG_s f _ _ _ g5⟩)))))
    · exact Or.inr (Or.inr (Or.inr (Or.inr (Or.inr (Or.inr (Or.inl ⟨k1, k2, m, g1, g2, g3, g4, g5, g6, TG_s f _ _ _ g7, TG_s f _ _ _ g8⟩))))))
    · exact Or.inr (Or.inr (Or.inr (Or.inr (Or.inr (Or.inr (Or.inr ⟨k1, k2, m, g1, g2, g3, g4, g5, g6, TG_s f _ _ _ g7, TG_s f _ _ _ g8⟩))))))
theorem TG_m {r : Nat → Nat → Int32} {a : Nat → Int32} {n2 f i j k : Nat} (h : TG f r a i j k n2) {g : Nat} (hg : f ≤ g) : TG g r a i j k n2 := by
  obtain ⟨d, rfl⟩ : ∃ d, g = f + d := ⟨g - f, by omega⟩
  clear hg
  induction d with
  | zero => exact h
  | succ d ih => exact TG_s _ _ _ _ ih
theorem TG_lc {r r' : Nat → Nat → Int32} {a a' : Nat → Int32} {n2 : Nat} : ∀ f i j k, (∀ q s, 1 ≤ q → q < 4 → i ≤ s → s < j → r' q s = r q s) → (∀ m, m ≤ k → ∀ e, e < 4 → a' (2000 + e + 4 * m) = a (2000 + e + 4 * m)) → TG f r a i j k n2 → TG f r' a' i j k n2
  | 0, _, _, _, _, _, h => h.elim
  | f + 1, i, j, k, e1, e2, h => by
    obtain ⟨h1, h2, h3⟩ := h
    have q0 : a' (2000 + 4 * k) = a (2000 + 4 * k) := e2 k (Nat.le_refl _) 0 (by omega)
    have q1 : a' (2001 + 4 * k) = a (2001 + 4 * k) := e2 k (Nat.le_refl _) 1 (by omega)
    have q2 : a' (2002 + 4 * k) = a (2002 + 4 * k) := e2 k (Nat.le_refl _) 2 (by omega)
    have q3 : a' (2003 + 4 * k) = a (2003 + 4 * k) := e2 k (Nat.le_refl _) 3 (by omega)
    refine ⟨h1, h2, ?_⟩
    rw [q0, q1, q2, q3, e1 1 i (by omega) (by omega) (by omega) (by omega), e1 2 i (by omega) (by omega) (by omega) (by omega), e1 3 i (by omega) (by omega) (by omega) (by omega), e1 1 (j - 1) (by omega) (by omega) (by omega) (by omega)]
    rcases h3 with h | h | h | h | h | ⟨k1, g1, g2, g3, g4, g5⟩ | ⟨k1, k2, m, g1, g2, g3, g4, g5, g6, g7, g8⟩ | ⟨k1, k2, m, g1, g2, g3, g4, g5, g6, g7, g8⟩
    · exact Or.inl h
    · exact Or.inr (Or.inl h)
    · exact Or.inr (Or.inr (Or.inl h))
    · exact Or.inr (Or.inr (Or.inr (Or.inl h)))
    · exact Or.inr (Or.inr (Or.inr (Or.inr (Or.inl h))))
    · exact Or.inr (Or.inr (Or.inr (Or.inr (Or.inr (Or.inl ⟨k1, g1, g2, g3, g4, TG_lc f _ _ _ (fun q s a b c d => e1 q s a b c (by omega)) (fun m hm => e2 m (by omega)) g5⟩)))))
    · have l1 := TG_lt _ _ _ _ g7
      have l2 := TG_lt _ _ _ _ g8
      exact Or.inr (Or.inr (Or.inr (Or.inr (Or.inr (Or.inr (Or.inl ⟨k1, k2, m, g1, g2, g3, g4, g5, g6, TG_lc f _ _ _ (fun q s a b c d => e1 q s a b c (by omega)) (fun m hm => e2 m (by omega)) g7, TG_lc f _ _ _ (fun q s a b c d => e1 q s a b (by omega) (by omega)) (fun m hm => e2 m (by omega)) g8⟩))))))
    · have l1 := TG_lt _ _ _ _ g7
      have l2 := TG_lt _ _ _ _ g8
      exact Or.inr (Or.inr (Or.inr (Or.inr (Or.inr (Or.inr (Or.inr ⟨k1, k2, m, g1, g2, g3, g4, g5, g6, TG_lc f _ _ _ (fun q s a b c d => e1 q s a b c (by omega)) (fun m hm => e2 m (by omega)) g7, TG_lc f _ _ _ (fun q s a b c d => e1 q s a b (by omega) (by omega)) (fun m hm => e2 m (by omega)) g8⟩))))))
def aNd (ν : fm_T) : Nat → Int32 := fun j => fI ν 33 (j - 2000)
def RlN (so st wi : Nat) (μ ν : fm_T) : Prop := fI μ 85 3 = nI st ∧ fI μ 85 4 = nI so ∧ fI ν 0 61 = nI st ∧ fI ν 0 62 = nI so ∧ fI ν 0 63 = nI wi ∧ so ≤ 20 ∧ st ≤ 2 * so ∧ wi ≤ 8
def fRc (st k j : Nat) : Prop := (k = 1 ∧ ((8 ≤ j ∧ j ≤ 11) ∨ j = 13 ∨ j = 14)) ∨ (k = 85 ∧ (j = 3 ∨ j = 4)) ∨ (86 ≤ k ∧ k ≤ 88 ∧ st ≤ j)
def fRm (st k j : Nat) : Prop := (k = 0 ∧ ((5 ≤ j ∧ j ≤ 11) ∨ j = 13 ∨ (61 ≤ j ∧ j ≤ 64))) ∨ (k = 33 ∧ 4 * st ≤ j)
def CNe (N : Nat) (nm : Nat → Nat) (μ ν : fm_T) : Prop := N ≤ 8 ∧ fI μ 26 2 = nI N ∧ fI ν 2 2 = nI N ∧ (∀ i, i < N → fL μ 25 (16 + i) = lN (nm i) ∧ fL ν 5 (12 + i) = lN (conv 7 (nm i)) ∧ vcode 7 (nm i)) ∧ ∀ i j, i < j → j < N → nm i ≠ nm j
theorem CNe_f {N : Nat} {nm : Nat → Nat} {μ μ' ν ν' : fm_T} {st st' : Nat} (h : CNe N nm μ ν) (f1 : frL (fRc st) fA1l μ μ') (f2 : frL (fRm st') fGl ν ν') : CNe N nm μ' ν' := by
  obtain ⟨h1, h2, h3, h4, h5⟩ := h
  refine ⟨h1, by rw [f1.2.2.2 26 2 (by unfold fRc; omega)]; exact h2, by rw [f2.2.2.2 2 2 (by unfold fRm; omega)]; exact h3, fun i hi => ?_, h5⟩
  rw [f1.2.2.1 25 _ (by unfold fA1l; omega), f2.2.2.1 5 _ (by unfold fGl; omega)]
  exact h4 i hi
theorem as_ok {μ : fm_T} {st : Nat} (h : fI μ 85 3 = nI st) (hs : st < 40) (x y w : Int32) : pX5_addStep μ x y w ∧ uX5_addStep μ x y w = fm_i (fm_i (fm_i (fm_i μ 86 st x) 87 st y) 88 st w) 85 3 (nI (st + 1)) := by
  have e1 : ¬ (40 : Int32) ≤ nI st := fun z => by have := (nI_leI (a := 40) (by omega) (by omega)).mp z; omega
  have v : vp_in (nI st) 40 := vp_in_nI (by omega) (by decide)
  unfold pX5_addStep uX5_addStep
  rw [h, if_neg e1, nI_clamp (by omega), nI_1]
  exact ⟨fun _ => ⟨v, v, v⟩, rfl⟩
theorem ly_ok {ν : fm_T} {st : Nat} (h : fI ν 0 61 = nI st) (hs : st < 40) (x y w u : Int32) : pX12_lays ν x y w u ∧ uX12_lays ν x y w u = fm_i (fm_i (fm_i (fm_i (fm_i ν 33 (4 * st) x) 33 (4 * st + 1) y) 33 (4 * st + 2) w) 33 (4 * st + 3) u) 0 61 (nI (st + 1)) ∧ gX12_lays ν x y w u = nI st := by
  have e0 : (4 : Int32) * nI st = nI (4 * st) := by rw [show (4 : Int32) = nI 4 from rfl, nI_mul]
  have e1 : nI (4 * st) + 1 = nI (4 * st + 1) := by rw [show (1 : Int32) = nI 1 from rfl, nI_add]
  have e2 : nI (4 * st) + 2 = nI (4 * st + 2) := by rw [show (2 : Int32) = nI 2 from rfl, nI_add]
  have e3 : nI (4 * st) + 3 = nI (4 * st + 3) := by rw [show (3 : Int32) = nI 3 from rfl, nI_add]
  unfold pX12_lays uX12_lays gX12_lays
  rw [h, e0, e1, e2, e3, nI_1, nI_clamp (by omega), nI_clamp (by omega), nI_clamp (by omega), nI_clamp (by omega)]
  exact ⟨⟨vp_in_nI (by omega) (by decide), vp_in_nI (by omega) (by decide), vp_in_nI (by omega) (by decide), vp_in_nI (by omega) (by decide)⟩, rfl, nI_sub (a := st + 1) (b := 1) (by omega)⟩
def SPw (st : Nat) (x y w : Int32) (p q r s : Int32) (μ ν μ' ν' : fm_T) : Prop := frL (fun k j => (k = 85 ∧ j = 3) ∨ (86 ≤ k ∧ k ≤ 88 ∧ j = st)) fN μ μ' ∧ frL (fun k j => (k = 0 ∧ (j = 61 ∨ j = 64)) ∨ (k = 33 ∧ 4 * st ≤ j ∧ j ≤ 4 * st + 3)) fN ν ν' ∧ fI μ' 85 3 = nI (st + 1) ∧ fI μ' 86 st = x ∧ fI μ' 87 st = y ∧ fI μ' 88 st = w ∧ fI ν' 0 61 = nI (st + 1) ∧ fI ν' 0 64 = nI st ∧ fI ν' 33 (4 * st) = p ∧ fI ν' 33 (4 * st + 1) = q ∧ fI ν' 33 (4 * st + 2) = r ∧ fI ν' 33 (4 * st + 3) = s
theorem sp_ok {μ ν : fm_T} {st : Nat} (h : fI μ 85 3 = nI st) (h2 : fI ν 0 61 = nI st) (hs : st < 40) (x y w p q r s : Int32) : SPw st x y w p q r s μ ν (uX5_addStep μ x y w) (fm_i (uX12_lays ν p q r s) 0 64 (gX12_lays ν p q r s)) := by
  rw [(as_ok h hs x y w).2, (ly_ok h2 hs p q r s).2.1, (ly_ok h2 hs p q r s).2.2]
  refine ⟨((((frL.rf _ fN μ).i (by omega)).i (by omega)).i (by omega)).i (by omega), ((((((frL.rf _ fN ν).i (by omega)).i (by omega)).i (by omega)).i (by omega)).i (by omega)).i (by omega), ?_, ?_, ?_, ?_, ?_, ?_, ?_, ?_, ?_, ?_⟩
  · rw [fI_i, if_pos ⟨rfl, rfl⟩]
  · rw [fI_i, if_neg (by omega), fI_i, if_neg (by omega), fI_i, if_neg (by omega), fI_i, if_pos ⟨rfl, rfl⟩]
  · rw [fI_i, if_neg (by omega), fI_i, if_neg (by omega), fI_i, if_pos ⟨rfl, rfl⟩]
  · rw [fI_i, if_neg (by omega), fI_i, if_pos ⟨rfl, rfl⟩]
  · rw [fI_i, if_neg (by omega), fI_i, if_pos ⟨rfl, rfl⟩]
  · rw [fI_i, if_pos ⟨rfl, rfl⟩]
  · rw [fI_i, if_neg (by omega), fI_i, if_neg (by omega), fI_i, if_neg (by omega), fI_i, if_neg (by omega), fI_i, if_neg (by omega), fI_i, if_pos ⟨rfl, rfl⟩]
  · rw [fI_i, if_neg (by omega), fI_i, if_neg (by omega), fI_i, if_neg (by omega), fI_i, if_neg (by omega), fI_i, if_pos ⟨rfl, rfl⟩]
  · rw [fI_i, if_neg (by omega), fI_i, if_neg (by omega), fI_i, if_neg (by omega), fI_i, if_pos ⟨rfl, rfl⟩]
  · rw [fI_i, if_neg (by omega), fI_i, if_neg (by omega), fI_i, if_pos ⟨rfl, rfl⟩]
def RQ (b : Nat → Nat) (z l last : Nat) (K A V W P : Nat → Nat) (n2 so st wi : Nat) (gC : Int32) (μ μ' : fm_T) (gM : Int32) (ν ν' : fm_T) : Prop :=
  frL (fRc st) fA1l μ μ' ∧ frL (fRm st) fGl ν ν' ∧ ((gC = 0 ∧ gM = 0 ∧ FQ μ' ν') ∨ (gC = 1 ∧ gM = 1 ∧ ∃ n' so' st', LK b z l last K A V W P n' μ' ν' ∧ RlN so' st' wi μ' ν' ∧ so < so' ∧ st < st' ∧ st' + 1 ≤ st + 2 * (so' - so) ∧ fI ν' 0 64 = nI (st' - 1) ∧ TG st' (blk μ' 85) (aNd ν') st st' (st' - 1) n2))
def HP (b : Nat → Nat) (z l last : Nat) (K A V W P : Nat → Nat) (n2 : Nat) (nm : Nat → Nat) (wi : Nat) (gC : fm_T → Int32 × fm_T) (pC : fm_T → Prop) (gM : fm_T → Int32 × fm_T) (pM : fm_T → Prop) : Prop := ∀ n so st μ ν, LK b z l last K A V W P n μ ν → RlN so st wi μ ν → CNe n2 nm μ ν → pC μ ∧ pM ν ∧ RQ b z l last K A V W P n2 so st wi (gC μ).1 μ (gC μ).2 (gM ν).1 ν (gM ν).2
theorem fRc_m {st st' k j : Nat} (h : st ≤ st') (f : fRc st' k j) : fRc st k j := by unfold fRc at *; omega
theorem fRm_m {st st' k j : Nat} (h : st ≤ st') (f : fRm st' k j) : fRm st k j := by unfold fRm at *; omega
theorem fA1_R {st k j : Nat} (h : fA1 k j) : fRc st k j := by unfold fA1 at h; unfold fRc; omega
theorem fG_R {st k j : Nat} (h : fG k j) : fRm st k j := by unfold fG at h; unfold fRm; omega
theorem fN_e {B : Nat → Nat → Prop} {k j : Nat} (h : fN k j) : B k j := by unfold fN at h; exact h.elim
section
variable {b : Nat → Nat} {z l last : Nat} {K A V W P : Nat → Nat}
theorem LK_R {n st st' : Nat} {μ ν μ' ν' : fm_T} (lk : LK b z l last K A V W P n μ ν) (f1 : frL (fun k j => (k = 85 ∧ (j = 3 ∨ j = 4)) ∨ (86 ≤ k ∧ k ≤ 88 ∧ st ≤ j)) fN μ μ') (f2 : frL (fun k j => (k = 0 ∧ (61 ≤ j ∧ j ≤ 64)) ∨ (k = 33 ∧ 4 * st' ≤ j)) fN ν ν') : LK b z l last K A V W P n μ' ν' :=
  LK_f lk f1 f2 (fun k j y => by omega) (fun k j y => by unfold fN at y; exact y.elim) (fun k j y => by omega) (fun k j y => by unfold fN at y; exact y.elim)
theorem TG_fr {n2 st st' s t : Nat} {μ ν μ' ν' : fm_T} (h : TG t (blk μ 85) (aNd ν) s t (t - 1) n2) (hs : t ≤ st) (hs' : t ≤ st') (h0 : s < t) (f1 : ∀ k j, 86 ≤ k → k ≤ 88 → j < st → fI μ' k j = fI μ k j) (f2 : ∀ j, j < 4 * st' → fI ν' 33 j = fI ν 33 j) : TG t (blk μ' 85) (aNd ν') s t (t - 1) n2 :=
  TG_lc t s t (t - 1) (fun q s' h1 h2 h3 h4 => f1 (85 + q) s' (by omega) (by omega) (by omega)) (fun m hm e he => by
    show fI ν' 33 (2000 + e + 4 * m - 2000) = fI ν 33 (2000 + e + 4 * m - 2000)
    exact f2 _ (by omega)) h
end
