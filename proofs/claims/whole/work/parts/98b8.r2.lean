def IQ (b : Nat → Nat) (z l last : Nat) (K A V W P : Nat → Nat) (n2 so st wi : Nat) (gC : Int32) (μ μ' : fm_T) (gM : Int32) (ν ν' : fm_T) : Prop :=
  frL (fRc st) fA1l μ μ' ∧ frL (fRm st) fGl ν ν' ∧ ((gC = 0 ∧ gM = 0 ∧ FQ μ' ν') ∨ (gC = 1 ∧ gM = 1 ∧ ∃ n' so' st', LK b z l last K A V W P n' μ' ν' ∧ RlN so' st' wi μ' ν' ∧ so ≤ so' ∧ st < st' ∧ st' + 1 ≤ st + 2 * (so' + 1 - so) ∧ fI ν' 0 64 = nI (st' - 1) ∧ TG st' (blk μ' 85) (aNd ν') st st' (st' - 1) n2))
section
variable {b : Nat → Nat} {z l last : Nat} {K A V W P : Nat → Nat} {n2 wi : Nat} {nm : Nat → Nat}
theorem RQ_I {so st : Nat} {gC gM : Int32} {μ μ' ν ν' : fm_T} (h : RQ b z l last K A V W P n2 so st wi gC μ μ' gM ν ν') : IQ b z l last K A V W P n2 so st wi gC μ μ' gM ν ν' := by
  obtain ⟨h1, h2, h3⟩ := h
  refine ⟨h1, h2, ?_⟩
  rcases h3 with h | ⟨d1, d2, n', so', st', lk', rl', p1, p2, p3, p4, p5⟩
  · exact Or.inl h
  · exact Or.inr ⟨d1, d2, n', so', st', lk', rl', by omega, p2, by omega, p4, p5⟩
theorem br_HP (lx : LXs b z l last K A V W P) {f f' : Nat} {x3 : Int32} (hp : HP b z l last K A V W P n2 nm wi (fun μ => guX5_read f 0 μ (x3 + 1)) (fun μ => puX5_read f 0 μ (x3 + 1)) (fun ν => guX12_read f' 0 ν) (fun ν => puX12_read f' 0 ν)) : HP b z l last K A V W P n2 nm wi (fun μ => guX5_read (f + 1) 3 μ x3) (fun μ => puX5_read (f + 1) 3 μ x3) (fun ν => guX12_read (f' + 1) 4 ν) (fun ν => puX12_read (f' + 1) 4 ν) := by
  intro n so st μ ν lk rl cn
  obtain ⟨c1, c2, c3, c4, c5⟩ := hp n so st μ ν lk rl cn
  simp only at c1 c2 c3 c4 c5
  have n1 : ¬ (1 : Int32) = 0 := by decide
  have m1 : ¬ (3 : Nat) = 0 := by decide
  have m2 : ¬ (3 : Nat) = 1 := by decide
  have m3 : ¬ (3 : Nat) = 2 := by decide
  have k1 : ¬ (4 : Nat) = 0 := by decide
  have k2 : ¬ (4 : Nat) = 1 := by decide
  have k3 : ¬ (4 : Nat) = 2 := by decide
  have k4 : ¬ (4 : Nat) = 3 := by decide
  simp only [guX5_read, puX5_read, guX12_read, puX12_read, if_neg m1, if_neg m2, if_neg m3, if_neg k1, if_neg k2, if_neg k3, if_neg k4, pX5_readBracket, gX5_readBracket, uX5_readBracket, pX12_readBracket, gX12_readBracket, uX12_readBracket]
  rcases c5 with ⟨d1, d2, d3⟩ | ⟨d1, d2, n', so', st', lk', rl', p1, p2, p3, p4, p5⟩
  · simp only [if_pos d1, if_pos d2]
    exact ⟨⟨c1, fun q => absurd d1 q⟩, ⟨c2, fun q => absurd d2 q⟩, c3, c4, Or.inl ⟨rfl, rfl, d3⟩⟩
  · have d1' : ¬ (guX5_read f 0 μ (x3 + 1)).1 = 0 := by rw [d1]; exact n1
    have d2' : ¬ (guX12_read f' 0 ν).1 = 0 := by rw [d2]; exact n1
    simp only [if_neg d1', if_neg d2']
    obtain ⟨s1, s2⟩ := psg lx lk' (c := 41) (by omega)
    have s1 : gX7_isSign (guX5_read f 0 μ (x3 + 1)).2 41 = 0 ↔ ¬ (K n' = 5 ∧ V n' = 41) := s1
    have s2 : gX12_isSign (guX12_read f' 0 ν).2 41 = 0 ↔ ¬ (K n' = 5 ∧ V n' = 41) := s2
    by_cases y : K n' = 5 ∧ V n' = 41
    · have a1 : ¬ gX7_isSign (guX5_read f 0 μ (x3 + 1)).2 41 = 0 := fun q => s1.mp q y
      have a2 : ¬ gX12_isSign (guX12_read f' 0 ν).2 41 = 0 := fun q => s2.mp q y
      simp only [if_neg a1, if_neg a2]
      obtain ⟨b1, b2, b3, b4, b5⟩ := pad lx lk' (by omega) (by omega)
      obtain ⟨r1, r2, r3, r4, r5, r6, r7, r8⟩ := rl'
      refine ⟨⟨c1, fun _ => ⟨fun _ => b1, fun q => absurd q a1⟩⟩, ⟨c2, fun _ => ⟨fun _ => b2, fun q => absurd q a2⟩⟩, c3.tr (b3.mo (fun _ _ q => fA1_R q) (fun _ _ q => q)), c4.tr (b4.mo (fun _ _ q => fG_R q) (fun _ _ q => q)), Or.inr ⟨rfl, rfl, n' + 1, so', st', b5, ⟨by rw [b3.2.2.2 85 3 (by unfold fA1; omega)]; exact r1, by rw [b3.2.2.2 85 4 (by unfold fA1; omega)]; exact r2, by rw [b4.2.2.2 0 61 (by unfold fG; omega)]; exact r3, by rw [b4.2.2.2 0 62 (by unfold fG; omega)]; exact r4, by rw [b4.2.2.2 0 63 (by unfold fG; omega)]; exact r5, r6, r7, r8⟩, p1, p2, p3, by rw [b4.2.2.2 0 64 (by unfold fG; omega)]; exact p4, TG_fr (st := st') (st' := st') p5 (Nat.le_refl _) (Nat.le_refl _) p2 (fun k j h1 h2 h3 => b3.2.2.2 k j (by unfold fA1; omega)) (fun j hj => b4.2.2.2 33 j (by unfold fG; omega))⟩⟩
    · have a1 := s1.mpr y
      have a2 := s2.mpr y
      simp only [if_pos a1, if_pos a2, gbad, gX7_fail]
      obtain ⟨f1, f2, f3⟩ := pfa lx lk' 1 (fun _ => rfl)
      exact ⟨⟨c1, fun _ => ⟨fun q => absurd a1 q, fun _ => Or.inl trivial⟩⟩, ⟨c2, fun _ => ⟨fun q => absurd a2 q, fun _ => Or.inl trivial⟩⟩, c3.tr (f1.mo (fun k j q => by unfold fAc at q; unfold fRc; omega) (fun _ _ q => fN_e q)), c4.tr (f2.mo (fun k j q => by unfold fGm at q; unfold fRm; omega) (fun _ _ q => fN_e q)), Or.inl ⟨rfl, rfl, f3⟩⟩
theorem lff_ok {n so st : Nat} {μ ν μ' ν' : fm_T} {x y w p q r s : Int32} (lk : LK b z l last K A V W P n μ ν) (rl : RlN so st wi μ ν) (hso : 1 ≤ so) (hst : st + 2 ≤ 2 * so) (sp : SPw st x y w p q r s μ ν μ' ν') (tg : TG (st + 1) (blk μ' 85) (aNd ν') st (st + 1) (st + 1 - 1) n2) : frL (fRc st) fA1l μ μ' ∧ frL (fRm st) fGl ν ν' ∧ ∃ n' so' st', LK b z l last K A V W P n' μ' ν' ∧ RlN so' st' wi μ' ν' ∧ so ≤ so' ∧ st < st' ∧ st' + 1 ≤ st + 2 * (so' + 1 - so) ∧ fI ν' 0 64 = nI (st' - 1) ∧ TG st' (blk μ' 85) (aNd ν') st st' (st' - 1) n2 := by
  obtain ⟨g1, g2, v3, -, -, -, u61, u64, -⟩ := sp
  obtain ⟨r1, r2, r3, r4, r5, r6, r7, r8⟩ := rl
  exact ⟨g1.mo (fun k j q => by unfold fRc; omega) (fun _ _ q => fN_e q), g2.mo (fun k j q => by unfold fRm; omega) (fun _ _ q => fN_e q), n, so, st + 1, LK_R (st := st) (st' := st) lk (g1.mo (fun k j q => by omega) (fun _ _ q => q)) (g2.mo (fun k j q => by omega) (fun _ _ q => q)), ⟨v3, by rw [g1.2.2.2 85 4 (by omega)]; exact r2, u61, by rw [g2.2.2.2 0 62 (by omega)]; exact r4, by rw [g2.2.2.2 0 63 (by omega)]; exact r5, r6, by omega, r8⟩, Nat.le_refl _, by omega, by omega, u64, tg⟩
theorem lf_TG {st : Nat} {μ ν μ' ν' : fm_T} {x y w p q r s : Int32} (hs : st < 40) (sp : SPw st x y w p q r s μ ν μ' ν') (h : (∃ w' v q' : Nat, x = nI (17 + w') ∧ w' < 8 ∧ y = nI q' ∧ (q' = 60 ∨ q' = 61 ∨ q' = 62) ∧ w = nI v ∧ v ≤ 999 ∧ p = 4 ∧ q = nI w' ∧ r = nI v ∧ s = nI q') ∨ (∃ v : Nat, x = 13 ∧ w = nI v ∧ v < 8 ∧ p = 5 ∧ q = nI v) ∨ (∃ v : Nat, x = 14 ∧ w = nI v ∧ v ≤ 5 ∧ p = 6 ∧ q = nI v) ∨ (x = 15 ∧ p = 7) ∨ (x = 16 ∧ p = 8)) : TG (st + 1) (blk μ' 85) (aNd ν') st (st + 1) (st + 1 - 1) n2 := by
  obtain ⟨-, -, -, v86, v87, v88, -, -, u0, u1, u2, u3⟩ := sp
  have a0 : aNd ν' (2000 + 4 * (st + 1 - 1)) = p := by
    show fI ν' 33 (2000 + 4 * (st + 1 - 1) - 2000) = p
    rw [show 2000 + 4 * (st + 1 - 1) - 2000 = 4 * st by omega]; exact u0
  have a1 : aNd ν' (2001 + 4 * (st + 1 - 1)) = q := by
    show fI ν' 33 (2001 + 4 * (st + 1 - 1) - 2000) = q
    rw [show 2001 + 4 * (st + 1 - 1) - 2000 = 4 * st + 1 by omega]; exact u1
  have a2 : aNd ν' (2002 + 4 * (st + 1 - 1)) = r := by
    show fI ν' 33 (2002 + 4 * (st + 1 - 1) - 2000) = r
    rw [show 2002 + 4 * (st + 1 - 1) - 2000 = 4 * st + 2 by omega]; exact u2
  have a3 : aNd ν' (2003 + 4 * (st + 1 - 1)) = s := by
    show fI ν' 33 (2003 + 4 * (st + 1 - 1) - 2000) = s
    rw [show 2003 + 4 * (st + 1 - 1) - 2000 = 4 * st + 3 by omega]; exact u3
  refine ⟨by omega, by omega, ?_⟩
  rcases h with ⟨w', v, q', h1, h2, h3, h4, h5, h6, h7, h8, h9, h10⟩ | ⟨v, h1, h2, h3, h4, h5⟩ | ⟨v, h1, h2, h3, h4, h5⟩ | ⟨h1, h2⟩ | ⟨h1, h2⟩
  · exact Or.inl ⟨rfl, w', v, q', v86.trans h1, h2, v87.trans h3, h4, v88.trans h5, h6, a0.trans h7, a1.trans h8, a2.trans h9, a3.trans h10⟩
  · exact Or.inr (Or.inl ⟨rfl, v, v86.trans h1, v88.trans h2, h3, a0.trans h4, a1.trans h5⟩)
  · exact Or.inr (Or.inr (Or.inl ⟨rfl, v, v86.trans h1, v88.trans h2, h3, a0.trans h4, a1.trans h5⟩))
  · exact Or.inr (Or.inr (Or.inr (Or.inl ⟨rfl, v86.trans h1, a0.trans h2⟩)))
  · exact Or.inr (Or.inr (Or.inr (Or.inr (Or.inl ⟨rfl, v86.trans h1, a0.trans h2⟩))))
theorem nc_c {μ ν : fm_T} {w : Nat} (cn : CNe n2 nm μ ν) (hw : vcode 7 w) (hw2 : w < 2 ^ 40) : ∀ (c i f : Nat), i + c = n2 → c < f → qX2_numberOf_24_h3 f μ 2 (lN w) (nI i) ∧ ((lX2_numberOf_24_h3 f μ 2 (lN w) (nI i) = -1 ∧ ∀ j, i ≤ j → j < n2 → nm j ≠ w) ∨ ∃ j, i ≤ j ∧ j < n2 ∧ nm j = w ∧ lX2_numberOf_24_h3 f μ 2 (lN w) (nI i) = nI j) := by
  obtain ⟨h1, h2, h3, h4, h5⟩ := cn
  have v2 : vp_in (2 : Int32) 4 := vp_in_nI (n := 2) (by omega) (by decide)
  have t2 : (2 : Int32).toNatClampNeg = 2 := rfl
  intro c
  induction c with
  | zero =>
    intro i f a1 a2
    obtain ⟨f, rfl⟩ : ∃ m, f = m + 1 := ⟨f - 1, by omega⟩
    have e1 : nI n2 ≤ nI i := (nI_leI (by omega) (by omega)).mpr (by omega)
    simp only [qX2_numberOf_24_h3, lX2_numberOf_24_h3, t2, h2, if_pos e1]
    exact ⟨⟨v2, fun q => absurd e1 q⟩, Or.inl ⟨trivial, fun j p q => absurd q (by omega)⟩⟩
  | succ c ih =>
    intro i f a1 a2
    obtain ⟨f, rfl⟩ : ∃ m, f = m + 1 := ⟨f - 1, by omega⟩
    have e1 : ¬ nI n2 ≤ nI i := fun q => by have := (nI_leI (by omega) (by omega)).mp q; omega
    have ix : (2 : Int32) * (8 : Int32) + nI i = nI (16 + i) := by rw [show (2 : Int32) * (8 : Int32) = nI 16 from rfl, nI_add]
    have cx : 16 + i < 2 ^ 31 := by omega
    obtain ⟨g1, -, g3⟩ := h4 i (by omega)
    have bl : nm i < 2 ^ 62 ∨ True := Or.inr trivial
    have eq : lg_cmp (lN (nm i)) (lN w) = 0 ↔ nm i = w := by
      have hb : nm i < 2 ^ 40 := by
        have : ∀ n v, vcode n v → v < 32 ^ n := fun n => by
          induction n with
          | zero => intro v hv; rw [show v = 0 from hv]; decide
          | succ n ihn =>
            intro v hv
            rcases hv with hv | ⟨p1, p2, p3⟩
            · rw [hv]; exact Nat.pow_pos (by decide)
            · have := ihn _ p3
              rw [Nat.pow_succ]
              omega
        have := this 7 _ g3
        have e : (32 : Nat) ^ 7 < 2 ^ 40 := by decide
        omega
      exact lG_eq (by omega) (by omega)
    simp only [qX2_numberOf_24_h3, lX2_numberOf_24_h3, t2, h2, if_neg e1, ix, nI_clamp cx, g1, eq, nI_1]
    have vx : vp_in (nI (16 + i)) 32 := vp_in_nI (by omega) (by decide)
    by_cases y : nm i = w
    · simp only [if_pos y]
      exact ⟨⟨v2, fun _ => ⟨vx, fun q => absurd y q⟩⟩, Or.inr ⟨i, Nat.le_refl _, by omega, y, rfl⟩⟩
    · simp only [if_neg y]
      obtain ⟨k1, k2⟩ := ih (i + 1) f (by omega) (by omega)
      refine ⟨⟨v2, fun _ => ⟨vx, fun _ => k1⟩⟩, ?_⟩
      rcases k2 with ⟨k2, k3⟩ | ⟨j, j1, j2, j3, j4⟩
      · refine Or.inl ⟨k2, fun j p q => ?_⟩
        by_cases e : j = i
        · rw [e]; exact y
        · exact k3 j (by omega) q
      · exact Or.inr ⟨j, by omega, j2, j3, j4⟩
theorem nc_m {μ ν : fm_T} {w : Nat} (cn : CNe n2 nm μ ν) (hw : vcode 7 w) (hν : fL ν 0 12 = lN (conv 7 w)) (x1 : Int32) (v : Nat) (hv : (v < n2 ∧ nm v = w) ∨ (v = n2 ∧ ∀ j, j < n2 → nm j ≠ w)) : ∀ (c i f : Nat), i + c = n2 → c < f →
    lX12_readPlain_h46 f ν x1 (if i ≤ v then -1 else nI v) (nI i) = (if v < n2 then 1 else 0) ∧ mX12_readPlain_h46 f ν x1 (if i ≤ v then -1 else nI v) (nI i) = (if v < n2 then fm_i (uX12_lays (uX12_go ν) x1 (nI v) 0 0) 0 64 (gX12_lays (uX12_go ν) x1 (nI v) 0 0) else uX12_bad ν 3) ∧ ((v < n2 → pX12_go ν ∧ pX12_lays (uX12_go ν) x1 (nI v) 0 0) → qX12_readPlain_h46 f ν x1 (if i ≤ v then -1 else nI v) (nI i)) := by
  obtain ⟨h1, h2, h3, h4, h5⟩ := cn
  intro c
  induction c with
  | zero =>
    intro i f a1 a2
    obtain ⟨f, rfl⟩ : ∃ m, f = m + 1 := ⟨f - 1, by omega⟩
    have e1 : nI n2 ≤ nI i := (nI_leI (by omega) (by omega)).mpr (by omega)
    simp only [qX12_readPlain_h46, lX12_readPlain_h46, mX12_readPlain_h46, h3, if_pos e1, gbad]
    rcases hv with ⟨v1, v2⟩ | ⟨v1, v2⟩
    · have ne : ¬ nI v = -1 := nI_m1 (by omega)
      simp only [if_neg (show ¬ i ≤ v by omega), if_neg ne, if_pos v1]
      exact ⟨trivial, trivial, fun q => ⟨fun _ => ⟨fun _ => q v1, fun y => absurd y ne⟩, fun y => absurd e1 y⟩⟩
    · simp only [if_pos (show i ≤ v by omega), if_true, if_neg (show ¬ v < n2 by omega)]
      exact ⟨trivial, trivial, fun q => ⟨fun _ => ⟨fun y => absurd trivial y, fun _ => Or.inl trivial⟩, fun y => absurd e1 y⟩⟩
  | succ c ih =>
    intro i f a1 a2
    obtain ⟨f, rfl⟩ : ∃ m, f = m + 1 := ⟨f - 1, by omega⟩
    have e1 : ¬ nI n2 ≤ nI i := fun q => by have := (nI_leI (by omega) (by omega)).mp q; omega
    have ix : (12 : Int32) + nI i = nI (12 + i) := by rw [show (12 : Int32) = nI 12 from rfl, nI_add]
    have cx : 12 + i < 2 ^ 31 := by omega
    obtain ⟨-, g2, g3⟩ := h4 i (by omega)
    have l1 := cv_lt 7 _ g3
    have l2 := cv_lt 7 _ hw
    have e27 : (27 : Nat) ^ 7 < 2 ^ 63 := by decide
    have eq : lg_cmp (lN (conv 7 (nm i))) (lN (conv 7 w)) = 0 ↔ nm i = w := by
      rw [lG_eq (by omega) (by omega)]
      exact ⟨fun y => cv_inj 7 _ _ g3 hw y, fun y => by rw [y]⟩
    have vx : vp_in (nI (12 + i)) 24 := vp_in_nI (by omega) (by decide)
    obtain ⟨k1, k2, k3⟩ := ih (i + 1) f (by omega) (by omega)
    simp only [qX12_readPlain_h46, lX12_readPlain_h46, mX12_readPlain_h46, h3, if_neg e1, ix, nI_clamp cx, g2, hν, eq, nI_1]
    by_cases y : nm i = w
    · have vi : v = i := by
        rcases hv with ⟨v1, v2⟩ | ⟨v1, v2⟩
        · rcases Nat.lt_trichotomy v i with q | q | q
          · exact absurd (v2.trans y.symm) (h5 v i q (by omega))
          · exact q
          · exact absurd (y.trans v2.symm) (h5 i v q v1)
        · exact absurd y (v2 i (by omega))
      subst vi
      rw [if_neg (show ¬ v + 1 ≤ v by omega)] at k1 k2 k3
      simp only [if_pos y]
      exact ⟨k1, k2, fun q => ⟨fun y => absurd y e1, fun _ => ⟨vx, fun w => absurd y w, fun _ => k3 q⟩⟩⟩
    · have vi : v ≠ i := fun q => by
        rcases hv with ⟨v1, v2⟩ | ⟨v1, v2⟩
        · rw [q] at v2; exact y v2
        · omega
      simp only [if_neg y]
      have ex : (if i ≤ v then (-1 : Int32) else nI v) = if i + 1 ≤ v then -1 else nI v := by
        by_cases q : i ≤ v
        · rw [if_pos q, if_pos (by omega)]
        · rw [if_neg q, if_neg (by omega)]
      rw [ex]
      exact ⟨k1, k2, fun q => ⟨fun y => absurd y e1, fun _ => ⟨vx, fun _ => k3 q, fun w => absurd w y⟩⟩⟩
end
