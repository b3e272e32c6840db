theorem and_i (a b : Nat) : nI a &&& nI b = nI (a &&& b) := by
  apply Int32.toBitVec_inj.mp
  show (nI a).toBitVec &&& (nI b).toBitVec = (nI (a &&& b)).toBitVec
  rw [nI_bv, nI_bv, nI_bv]
  apply BitVec.eq_of_getLsbD_eq
  intro i hi
  simp only [BitVec.getLsbD_and, BitVec.getLsbD_ofNat, hi, decide_true, Bool.true_and, Nat.testBit_and]
theorem sm_bn {f : Nat → Nat} {B : Nat} : ∀ n, (∀ j, j < n → f j ≤ B) → sm f n ≤ n * B
  | 0, _ => Nat.zero_le _
  | n + 1, h => by
    have := sm_bn n (fun j hj => h j (by omega))
    have h2 := h n (by omega)
    unfold sm
    rw [Nat.succ_mul]
    omega
theorem sm_z : ∀ n, sm (fun _ => 0) n = 0
  | 0 => rfl
  | n + 1 => by
    unfold sm
    rw [sm_z n]
def f4x (k _j : Nat) : Prop := 46 ≤ k ∧ k ≤ 50
def PC (n : Nat) (e du sh we he : Nat → Nat) (μ : fm_T) : Prop := fI μ 41 9 = nI n ∧ ∀ i, i < n → fI μ 42 i = nI (du (e i)) ∧ fI μ 43 i = nI (sh (e i)) ∧ fI μ 44 i = nI (we (e i)) ∧ fI μ 45 i = nI (he (e i))
def DRc (D : Nat) (dk dh : Nat → Nat) (μ : fm_T) : Prop := fI μ 26 3 = nI D ∧ ∀ d, d < D → fI μ 33 d = nI (dk d) ∧ fI μ 34 d = nI (dh d)
def BDp (D n : Nat) (dk dh du sh we he : Nat → Nat) : Prop := n ≤ 10 ∧ D ≤ 4 ∧ (∀ p, p < n → du p ≤ 199 ∧ sh p ≤ 2 ∧ 1 ≤ we p ∧ we p ≤ 200 ∧ he p ≤ 9) ∧ ∀ d, d < D → dk d ≤ 99 ∧ dh d ≤ 9
def BJ (n : Nat) (e : Nat → Nat) : Prop := (∀ i, i < n → e i < n) ∧ (∀ i j, i < n → j < n → e i = e j → i = j) ∧ ∀ p, p < n → ∃ i, i < n ∧ e i = p
def wS (n : Nat) (e we : Nat → Nat) (m : Nat) : Nat := sm (fun p => if LsN e n m p then we p else 0) n
def PT4 (D n : Nat) (dk dh sh we he e : Nat → Nat) (U : Nat) (μ : fm_T) : Prop := ∀ m, m < U → fI μ 46 m = nI (wS n e we m) ∧ (∃ H, H ≤ 9 ∧ fI μ 47 m = nI H ∧ ∀ x, x ≤ 9 → (x ≤ H ↔ ∀ p, p < n → LsN e n m p = true → x ≤ he p)) ∧ (∃ S, S < 8 ∧ fI μ 48 m = nI S ∧ ∀ s, s < 3 → (S.testBit s = true ↔ ∃ p, p < n ∧ LsN e n m p = true ∧ sh p = s)) ∧ (m ≠ 0 → (¬ fI μ 49 m = 0 ↔ FT2 D n dk dh sh we he (LsN e n m)))
section
variable {D n : Nat} {dk dh du sh we he e : Nat → Nat}
theorem PC_f {A : Nat → Nat → Prop} {μ μ' : fm_T} (h : PC n e du sh we he μ) (f : frL A fN μ μ') (hA : ∀ k j, A k j → f4x k j) : PC n e du sh we he μ' := by
  have g : ∀ k j, k < 46 → fI μ' k j = fI μ k j := fun k j hk => f.2.2.2 k j (fun z => by have := hA _ _ z; unfold f4x at this; omega)
  refine ⟨by rw [g 41 9 (by omega)]; exact h.1, fun i hi => ?_⟩
  rw [g 42 i (by omega), g 43 i (by omega), g 44 i (by omega), g 45 i (by omega)]
  exact h.2 i hi
theorem DR_f {A : Nat → Nat → Prop} {μ μ' : fm_T} (h : DRc D dk dh μ) (f : frL A fN μ μ') (hA : ∀ k j, A k j → f4x k j) : DRc D dk dh μ' := by
  have g : ∀ k j, k < 46 → fI μ' k j = fI μ k j := fun k j hk => f.2.2.2 k j (fun z => by have := hA _ _ z; unfold f4x at this; omega)
  refine ⟨by rw [g 26 3 (by omega)]; exact h.1, fun d hd => ?_⟩
  rw [g 33 d (by omega), g 34 d (by omega)]
  exact h.2 d hd
theorem hdf {μ : fm_T} (b : BDp D n dk dh du sh we he) (dr : DRc D dk dh μ) {w H : Nat} (hw : w ≤ 100000) (hH : H ≤ 9) : ∀ (c i f : Nat), i + c = D → c < f → qX2_hasDrumFor_h2 f μ (nI w) (nI H) (nI i) ∧ (¬ lX2_hasDrumFor_h2 f μ (nI w) (nI H) (nI i) = 0 ↔ ∃ d, i ≤ d ∧ d < D ∧ dh d ≤ H ∧ w ≤ 10 * dk d) := by
  obtain ⟨-, hD, -, hd⟩ := b
  intro c
  induction c with
  | zero =>
    intro i f h1 h2
    obtain ⟨f, rfl⟩ : ∃ m, f = m + 1 := ⟨f - 1, by omega⟩
    have e1 : nI D ≤ nI i := (nI_leI (by omega) (by omega)).mpr (by omega)
    simp only [lX2_hasDrumFor_h2, qX2_hasDrumFor_h2, dr.1, if_pos e1]
    exact ⟨fun z => absurd e1 z, fun z => absurd trivial z, fun ⟨d, d1, d2, _⟩ => absurd d2 (by omega)⟩
  | succ c ih =>
    intro i f h1 h2
    obtain ⟨f, rfl⟩ : ∃ m, f = m + 1 := ⟨f - 1, by omega⟩
    have e1 : ¬ nI D ≤ nI i := fun z => by have := (nI_leI (by omega) (by omega)).mp z; omega
    obtain ⟨r1, r2⟩ := dr.2 i (by omega)
    have hi := hd i (by omega)
    have ci : i < 2 ^ 31 := by omega
    have v : vp_in (nI i) 4 := vp_in_nI (by omega) (by decide)
    have e2 : (10 : Int32) * nI (dk i) = nI (10 * dk i) := by rw [show (10 : Int32) = nI 10 from rfl, nI_mul]
    have l1 : nI H < nI (dh i) ↔ H < dh i := nI_ltI (by omega) (by omega)
    have l2 : nI (10 * dk i) < nI w ↔ 10 * dk i < w := nI_ltI (by omega) (by omega)
    obtain ⟨k1, k2⟩ := ih (i + 1) f (by omega) (by omega)
    simp only [lX2_hasDrumFor_h2, qX2_hasDrumFor_h2, dr.1, if_neg e1, nI_clamp ci, r1, r2, e2, l1, l2, nI_1]
    have up : ¬ (dh i ≤ H ∧ w ≤ 10 * dk i) → ((∃ d, i + 1 ≤ d ∧ d < D ∧ dh d ≤ H ∧ w ≤ 10 * dk d) ↔ ∃ d, i ≤ d ∧ d < D ∧ dh d ≤ H ∧ w ≤ 10 * dk d) := fun z => ⟨fun ⟨d, d1, d2⟩ => ⟨d, by omega, d2⟩, fun ⟨d, d1, d2, d3⟩ => by
      by_cases y : d = i
      · rw [y] at d3; exact absurd d3 z
      · exact ⟨d, by omega, d2, d3⟩⟩
    by_cases q1 : H < dh i
    · simp only [if_pos q1]
      exact ⟨fun _ => ⟨v, fun _ => k1, fun z => absurd q1 z⟩, k2.trans (up (by omega))⟩
    · by_cases q2 : 10 * dk i < w
      · simp only [if_neg q1, if_pos q2]
        exact ⟨fun _ => ⟨v, fun z => absurd z q1, fun _ => ⟨v, fun _ => k1⟩⟩, k2.trans (up (by omega))⟩
      · simp only [if_neg q1, if_neg q2]
        have n1 : ¬ (1 : Int32) = 0 := by decide
        exact ⟨fun _ => ⟨v, fun z => absurd z q1, fun _ => ⟨v, fun z => absurd z q2⟩⟩, fun _ => ⟨i, by omega, by omega, by omega, by omega⟩, fun _ => n1⟩
theorem Ls_ad {i r p : Nat} (hi : i < n) (hr : r < 2 ^ i) : LsN e n (2 ^ i + r) p = true ↔ LsN e n r p = true ∨ p = e i := by
  rw [LS_iff, LS_iff, ← or_p hr]
  constructor
  · rintro ⟨k, k1, k2, k3⟩
    rw [Nat.testBit_or, Bool.or_eq_true, Nat.testBit_two_pow, decide_eq_true_eq] at k3
    rcases k3 with k3 | k3
    · exact Or.inl ⟨k, k1, k2, k3⟩
    · rw [k3]; exact Or.inr k2.symm
  · rintro (⟨k, k1, k2, k3⟩ | h)
    · exact ⟨k, k1, k2, by rw [Nat.testBit_or, k3]; rfl⟩
    · exact ⟨i, hi, h.symm, by rw [Nat.testBit_or, Nat.testBit_two_pow_self]; simp⟩
theorem Ls_no {i r : Nat} (bj : BJ n e) (hi : i < n) (hr : r < 2 ^ i) : LsN e n r (e i) = false := by
  rw [LS_t bj.2.1 hi]
  exact tb_o hr (Nat.le_refl _)
theorem wS_ad {i r : Nat} (bj : BJ n e) (hi : i < n) (hr : r < 2 ^ i) : wS n e we (2 ^ i + r) = wS n e we r + we (e i) := by
  unfold wS
  refine sm_one (a := e i) n (bj.1 i hi) (fun p hp hne => ?_) ?_
  · have : LsN e n (2 ^ i + r) p = LsN e n r p := Bool.eq_iff_iff.mpr ((Ls_ad hi hr).trans ⟨fun z => z.elim id (fun y => absurd y hne), Or.inl⟩)
    rw [this]
  · have h1 : LsN e n (2 ^ i + r) (e i) = true := (Ls_ad hi hr).mpr (Or.inr rfl)
    rw [h1, Ls_no bj hi hr]
    simp
theorem sh8 : ∀ S, S < 8 → ∀ s, s < 3 → (nI S ||| nI (2 ^ s) = nI (2 ^ s) ↔ ∀ k, k < 3 → S.testBit k = true → k = s) ∧ S ||| 2 ^ s < 8 := by decide +kernel
theorem wS_l (b : BDp D n dk dh du sh we he) (m : Nat) : wS n e we m ≤ 2000 := by
  obtain ⟨b1, -, b2, -⟩ := b
  have : wS n e we m ≤ n * 200 := sm_bn n (fun p hp => by
    have := b2 p hp
    split <;> omega)
  omega
theorem ft_st {i r H S : Nat} (b : BDp D n dk dh du sh we he) (bj : BJ n e) (hi : i < n) (hr : r < 2 ^ i) (hH : ∀ x, x ≤ 9 → (x ≤ H ↔ ∀ p, p < n → LsN e n r p = true → x ≤ he p)) (hS : S < 8) (hs : ∀ s, s < 3 → (S.testBit s = true ↔ ∃ p, p < n ∧ LsN e n r p = true ∧ sh p = s)) : FT2 D n dk dh sh we he (LsN e n (2 ^ i + r)) ↔ (nI S ||| nI (2 ^ sh (e i)) = nI (2 ^ sh (e i)) ∧ ∃ d, 0 ≤ d ∧ d < D ∧ dh d ≤ (if he (e i) < H then he (e i) else H) ∧ wS n e we (2 ^ i + r) ≤ 10 * dk d) := by
  obtain ⟨b1, b2, b3, b4⟩ := b
  have ei := bj.1 i hi
  have bi := b3 _ ei
  rw [(sh8 S hS (sh (e i)) (by omega)).1]
  have hx : ∀ d, d < D → (dh d ≤ (if he (e i) < H then he (e i) else H) ↔ ∀ p, p < n → LsN e n (2 ^ i + r) p = true → dh d ≤ he p) := fun d hd => by
    have bd := b4 d hd
    have h1 := hH (dh d) bd.2
    constructor
    · intro z p hp hl
      rcases (Ls_ad hi hr).mp hl with y | y
      · exact h1.mp (by split at z <;> omega) p hp y
      · rw [y]; split at z <;> omega
    · intro z
      have z1 := z _ ei ((Ls_ad hi hr).mpr (Or.inr rfl))
      have z2 := h1.mpr (fun p hp hl => z p hp ((Ls_ad hi hr).mpr (Or.inl hl)))
      split <;> omega
  unfold FT2
  constructor
  · rintro ⟨h1, d, d1, d2, d3⟩
    refine ⟨fun k hk hb => ?_, d, Nat.zero_le _, d1, (hx d d1).mpr d2, d3⟩
    obtain ⟨p, p1, p2, p3⟩ := (hs k hk).mp hb
    rw [← p3]
    exact h1 p (e i) p1 ei ((Ls_ad hi hr).mpr (Or.inl p2)) ((Ls_ad hi hr).mpr (Or.inr rfl))
  · rintro ⟨h1, d, -, d1, d2, d3⟩
    have sa : ∀ p, p < n → LsN e n (2 ^ i + r) p = true → sh p = sh (e i) := fun p hp hl => by
      rcases (Ls_ad hi hr).mp hl with y | y
      · have bp := b3 p hp
        exact h1 (sh p) (by omega) ((hs (sh p) (by omega)).mpr ⟨p, hp, y, rfl⟩)
      · rw [y]
    exact ⟨fun p q hp hq a c => (sa p hp a).trans (sa q hq c).symm, d, d1, (hx d d1).mp d2, d3⟩
theorem ff_34 (b : BDp D n dk dh du sh we he) (bj : BJ n e) {i : Nat} (hi : i < n) : ∀ (c r f : Nat) (μ : fm_T), r + c = 2 ^ i → c < f → PC n e du sh we he μ → DRc D dk dh μ → PT4 D n dk dh sh we he e (2 ^ i + r) μ →
    ∃ M, mX4_findFits_h34 f μ (nI i) (nI r) = M ∧ frL f4x fN μ M ∧ PT4 D n dk dh sh we he e (2 ^ (i + 1)) M ∧ l2X4_findFits_h34 f μ (nI i) (nI r) = nI (i + 1) ∧ qX4_findFits_h34 f μ (nI i) (nI r) := by
  have hn := b.1
  have hp := Nat.pow_le_pow_right (n := 2) (i := i) (j := 9) (by decide) (by omega)
  have hp : 2 ^ i ≤ 512 := hp
  have ei := bj.1 i hi
  have bi := b.2.2.1 _ ei
  intro c
  induction c with
  | zero =>
    intro r f μ h1 h2 pc dr pt
    obtain ⟨f, rfl⟩ : ∃ m, f = m + 1 := ⟨f - 1, by omega⟩
    have e1 : nI (2 ^ i) ≤ nI r := (nI_leI (by omega) (by omega)).mpr (by omega)
    simp only [mX4_findFits_h34, l2X4_findFits_h34, qX4_findFits_h34, sh_12 i (by omega), if_pos e1, nI_1]
    refine ⟨μ, rfl, frL.rf _ _ _, ?_, trivial, fun z => absurd e1 z⟩
    rw [Nat.pow_succ, show 2 ^ i * 2 = 2 ^ i + r by omega]
    exact pt
  | succ c ih =>
    intro r f μ h1 h2 pc dr pt
    obtain ⟨f, rfl⟩ : ∃ m, f = m + 1 := ⟨f - 1, by omega⟩
    have e1 : ¬ nI (2 ^ i) ≤ nI r := fun z => by have := (nI_leI (by omega) (by omega)).mp z; omega
    have hr : r < 2 ^ i := by omega
    have eo : nI r ||| nI (2 ^ i) = nI (2 ^ i + r) := by rw [or_i, or_p hr]
    have ci : i < 2 ^ 31 := by omega
    have cr : r < 2 ^ 31 := by omega
    have cm : 2 ^ i + r < 2 ^ 31 := by omega
    obtain ⟨q1, q2, q3, q4⟩ := pc.2 i hi
    obtain ⟨t1, ⟨H, t2, t3, t4⟩, ⟨S, t5, t6, t7⟩, -⟩ := pt r (by omega)
    have s3 : (1 : Int32) <<< (nI (sh (e i)) &&& 31) = nI (2 ^ sh (e i)) := sh_12 _ (by omega)
    have ew : nI (wS n e we r) + nI (we (e i)) = nI (wS n e we (2 ^ i + r)) := by rw [nI_add, wS_ad bj hi hr]
    have lh : nI (he (e i)) < nI H ↔ he (e i) < H := nI_ltI (by omega) (by omega)
    have eh : (if nI (he (e i)) < nI H then nI (he (e i)) else nI H) = nI (if he (e i) < H then he (e i) else H) := by
      by_cases z : he (e i) < H
      · rw [if_pos (lh.mpr z), if_pos z]
      · rw [if_neg (fun y => z (lh.mp y)), if_neg z]
    have ft := ft_st b bj hi hr t4 t5 t7
    have wl := wS_l (e := e) b (2 ^ i + r)
    have s8 := (sh8 S t5 (sh (e i)) (by omega)).2
    simp only [mX4_findFits_h34, l2X4_findFits_h34, qX4_findFits_h34, sh_12 i (by omega), if_neg e1, eo, nI_clamp ci, nI_clamp cr, nI_clamp cm, q2, q3, q4, t1, t3, t6, s3, ew, eh, nI_1]
    generalize hh : (if he (e i) < H then he (e i) else H) = H' at ft ⊢
    have hH' : H' ≤ 9 := by rw [← hh]; split <;> omega
    have va : vp_in (nI r) 1024 := vp_in_nI (by omega) (by decide)
    have vb : vp_in (nI i) 10 := vp_in_nI (by omega) (by decide)
    have vc : vp_in (nI (2 ^ i + r)) 1024 := vp_in_nI (by omega) (by decide)
    have fr3 : frL f4x fN μ (fm_i (fm_i (fm_i μ 46 (2 ^ i + r) (nI (wS n e we (2 ^ i + r)))) 47 (2 ^ i + r) (nI H')) 48 (2 ^ i + r) (nI S ||| nI (2 ^ sh (e i)))) := (((frL.rf f4x fN μ).i ⟨by omega, by omega⟩).i ⟨by omega, by omega⟩).i ⟨by omega, by omega⟩
    have nxt : ∀ z : Int32, (¬ z = 0 ↔ FT2 D n dk dh sh we he (LsN e n (2 ^ i + r))) → PT4 D n dk dh sh we he e (2 ^ i + (r + 1)) (fm_i (fm_i (fm_i (fm_i μ 46 (2 ^ i + r) (nI (wS n e we (2 ^ i + r)))) 47 (2 ^ i + r) (nI H')) 48 (2 ^ i + r) (nI S ||| nI (2 ^ sh (e i)))) 49 (2 ^ i + r) z) := fun z hz m hm => by
      by_cases q : m = 2 ^ i + r
      · subst q
        rw [fI_i, if_neg (by omega), fI_i, if_neg (by omega), fI_i, if_neg (by omega), fI_i, if_pos ⟨rfl, rfl⟩, fI_i, if_neg (by omega), fI_i, if_neg (by omega), fI_i, if_pos ⟨rfl, rfl⟩, fI_i, if_neg (by omega), fI_i, if_pos ⟨rfl, rfl⟩, fI_i, if_pos ⟨rfl, rfl⟩, or_i]
        refine ⟨rfl, ⟨H', hH', rfl, fun x hx => ?_⟩, ⟨S ||| 2 ^ sh (e i), s8, rfl, fun s hs => ?_⟩, fun _ => hz⟩
        · have h1 := t4 x hx
          constructor
          · intro z p hp hl
            rcases (Ls_ad hi hr).mp hl with y | y
            · exact h1.mp (by rw [← hh] at z; split at z <;> omega) p hp y
            · rw [y]; rw [← hh] at z; split at z <;> omega
          · intro z
            have z1 := z _ ei ((Ls_ad hi hr).mpr (Or.inr rfl))
            have z2 := h1.mpr (fun p hp hl => z p hp ((Ls_ad hi hr).mpr (Or.inl hl)))
            rw [← hh]
            split <;> omega
        · rw [Nat.testBit_or, Bool.or_eq_true, t7 s hs, Nat.testBit_two_pow, decide_eq_true_eq]
          constructor
          · rintro (⟨p, p1, p2, p3⟩ | z)
            · exact ⟨p, p1, (Ls_ad hi hr).mpr (Or.inl p2), p3⟩
            · exact ⟨e i, ei, (Ls_ad hi hr).mpr (Or.inr rfl), z⟩
          · rintro ⟨p, p1, p2, p3⟩
            rcases (Ls_ad hi hr).mp p2 with y | y
            · exact Or.inl ⟨p, p1, y, p3⟩
            · rw [y] at p3; exact Or.inr p3
      · rw [fI_i, if_neg (by omega), fI_i, if_neg (by omega), fI_i, if_neg (by omega), fI_i, if_neg (by omega), fI_i, if_neg (by omega), fI_i, if_neg (by omega), fI_i, if_neg (by omega), fI_i, if_neg (by omega), fI_i, if_neg (by omega), fI_i, if_neg (by omega), fI_i, if_neg (by omega), fI_i, if_neg (by omega), fI_i, if_neg (by omega), fI_i, if_neg (by omega), fI_i, if_neg (by omega), fI_i, if_neg (by omega)]
        exact pt m (by omega)
    obtain ⟨d1, d2⟩ := hdf b (DR_f dr fr3 (fun _ _ z => z)) (w := wS n e we (2 ^ i + r)) (by omega) hH' D 0 fF (by omega) (fF_gt (by have := b.2.1; omega))
    rw [show nI 0 = 0 from rfl] at d1 d2
    have fin : ∀ z : Int32, (¬ z = 0 ↔ FT2 D n dk dh sh we he (LsN e n (2 ^ i + r))) → ∃ M, mX4_findFits_h34 f (fm_i (fm_i (fm_i (fm_i μ 46 (2 ^ i + r) (nI (wS n e we (2 ^ i + r)))) 47 (2 ^ i + r) (nI H')) 48 (2 ^ i + r) (nI S ||| nI (2 ^ sh (e i)))) 49 (2 ^ i + r) z) (nI i) (nI (r + 1)) = M ∧ frL f4x fN μ M ∧ PT4 D n dk dh sh we he e (2 ^ (i + 1)) M ∧ l2X4_findFits_h34 f (fm_i (fm_i (fm_i (fm_i μ 46 (2 ^ i + r) (nI (wS n e we (2 ^ i + r)))) 47 (2 ^ i + r) (nI H')) 48 (2 ^ i + r) (nI S ||| nI (2 ^ sh (e i)))) 49 (2 ^ i + r) z) (nI i) (nI (r + 1)) = nI (i + 1) ∧ qX4_findFits_h34 f (fm_i (fm_i (fm_i (fm_i μ 46 (2 ^ i + r) (nI (wS n e we (2 ^ i + r)))) 47 (2 ^ i + r) (nI H')) 48 (2 ^ i + r) (nI S ||| nI (2 ^ sh (e i)))) 49 (2 ^ i + r) z) (nI i) (nI (r + 1)) := fun z hz => by
      have fr4 := fr3.i (k := 49) (j := 2 ^ i + r) (v := z) ⟨by omega, by omega⟩
      obtain ⟨M, k1, k2, k3, k4, k5⟩ := ih (r + 1) f _ (by omega) (by omega) (PC_f pc fr4 (fun _ _ z => z)) (DR_f dr fr4 (fun _ _ z => z)) (nxt z hz)
      exact ⟨M, k1, fr4.tr k2, k3, k4, k5⟩
    by_cases g1 : nI S ||| nI (2 ^ sh (e i)) = nI (2 ^ sh (e i))
    · by_cases g2 : gX2_hasDrumFor (fm_i (fm_i (fm_i μ 46 (2 ^ i + r) (nI (wS n e we (2 ^ i + r)))) 47 (2 ^ i + r) (nI H')) 48 (2 ^ i + r) (nI S ||| nI (2 ^ sh (e i)))) (nI (wS n e we (2 ^ i + r))) (nI H') = 0
      · obtain ⟨M, k1, k2, k3, k4, k5⟩ := fin 0 ⟨fun z => absurd rfl z, fun z => absurd g2 (d2.mpr (ft.mp z).2)⟩
        simp only [if_pos g1, if_pos g2]
        exact ⟨M, k1, k2, k3, k4, fun _ => ⟨va, vb, vc, va, vb, vc, va, vb, vc, vc, vb, fun z => absurd g1 z, fun _ => ⟨vc, vc, d1, fun _ => ⟨vc, k5⟩, fun z => absurd g2 z⟩⟩⟩
      · obtain ⟨M, k1, k2, k3, k4, k5⟩ := fin 1 ⟨fun _ => ft.mpr ⟨g1, d2.mp g2⟩, fun _ => by decide⟩
        simp only [if_pos g1, if_neg g2]
        exact ⟨M, k1, k2, k3, k4, fun _ => ⟨va, vb, vc, va, vb, vc, va, vb, vc, vc, vb, fun z => absurd g1 z, fun _ => ⟨vc, vc, d1, fun z => absurd z g2, fun _ => ⟨vc, k5⟩⟩⟩⟩
    · obtain ⟨M, k1, k2, k3, k4, k5⟩ := fin 0 ⟨fun z => absurd rfl z, fun z => absurd (ft.mp z).1 g1⟩
      simp only [if_neg g1]
      exact ⟨M, k1, k2, k3, k4, fun _ => ⟨va, vb, vc, va, vb, vc, va, vb, vc, vc, vb, fun _ => ⟨vc, k5⟩, fun z => absurd z g1⟩⟩
theorem ff_24 (b : BDp D n dk dh du sh we he) (bj : BJ n e) : ∀ (c i f : Nat) (μ : fm_T), i + c = n → c < f → PC n e du sh we he μ → DRc D dk dh μ → PT4 D n dk dh sh we he e (2 ^ i) μ →
    ∃ M, mX4_findFits_h24 f μ (nI i) = M ∧ frL f4x fN μ M ∧ PT4 D n dk dh sh we he e (2 ^ n) M ∧ qX4_findFits_h24 f μ (nI i) := by
  have hn := b.1
  intro c
  induction c with
  | zero =>
    intro i f μ h1 h2 pc dr pt
    obtain ⟨f, rfl⟩ : ∃ m, f = m + 1 := ⟨f - 1, by omega⟩
    obtain rfl : i = n := by omega
    have e1 : nI i ≤ nI i := (nI_leI (by omega) (by omega)).mpr (by omega)
    simp only [mX4_findFits_h24, qX4_findFits_h24, pc.1, if_pos e1]
    exact ⟨μ, rfl, frL.rf _ _ _, pt, fun z => absurd e1 z⟩
  | succ c ih =>
    intro i f μ h1 h2 pc dr pt
    obtain ⟨f, rfl⟩ : ∃ m, f = m + 1 := ⟨f - 1, by omega⟩
    have e1 : ¬ nI n ≤ nI i := fun z => by have := (nI_leI (by omega) (by omega)).mp z; omega
    have hp : 2 ^ i ≤ 4096 := p2_12 (by omega)
    obtain ⟨M, k1, k2, k3, k4, k5⟩ := ff_34 b bj (i := i) (by omega) (2 ^ i) 0 fF μ (by omega) (fF_gt (by omega)) pc dr pt
    rw [show nI 0 = 0 from rfl] at k1 k4 k5
    obtain ⟨M2, j1, j2, j3, j4⟩ := ih (i + 1) f M (by omega) (by omega) (PC_f pc k2 (fun _ _ z => z)) (DR_f dr k2 (fun _ _ z => z)) k3
    simp only [mX4_findFits_h24, qX4_findFits_h24, pc.1, if_neg e1, k1, k4]
    exact ⟨M2, j1, k2.tr j2, j3, fun _ => ⟨k5, j4⟩⟩
theorem ff_ok (b : BDp D n dk dh du sh we he) (bj : BJ n e) {μ : fm_T} (pc : PC n e du sh we he μ) (dr : DRc D dk dh μ) : ∃ M, uX4_findFits μ = M ∧ frL f4x fN μ M ∧ PT4 D n dk dh sh we he e (2 ^ n) M ∧ pX4_findFits μ := by
  have fr : frL f4x fN μ (fm_i (fm_i (fm_i μ 46 0 0) 47 0 9) 48 0 0) := (((frL.rf f4x fN μ).i ⟨by omega, by omega⟩).i ⟨by omega, by omega⟩).i ⟨by omega, by omega⟩
  have l0 : ∀ p, LsN e n 0 p = false := (LS_0 (Nat.two_pow_pos n)).mpr rfl
  obtain ⟨M, k1, k2, k3, k4⟩ := ff_24 b bj n 0 fF _ (by omega) (fF_gt (by have := b.1; omega)) (PC_f pc fr (fun _ _ z => z)) (DR_f dr fr (fun _ _ z => z)) (fun m hm => by
    obtain rfl : m = 0 := by omega
    rw [fI_i, if_neg (by omega), fI_i, if_neg (by omega), fI_i, if_pos ⟨rfl, rfl⟩, fI_i, if_neg (by omega), fI_i, if_pos ⟨rfl, rfl⟩, fI_i, if_pos ⟨rfl, rfl⟩]
    refine ⟨?_, ⟨9, by omega, rfl, fun x hx => ⟨fun _ p _ hl => ?_, fun _ => hx⟩⟩, ⟨0, by omega, rfl, fun s hs => ⟨fun z => ?_, fun ⟨p, _, hl, _⟩ => ?_⟩⟩, fun z => absurd rfl z⟩
    · have : wS n e we 0 = 0 := by
        unfold wS
        have : sm (fun p => if LsN e n 0 p then we p else 0) n = sm (fun _ => 0) n := sm_cg n (fun p _ => by rw [l0]; rfl)
        rw [this, sm_z]
      rw [this]
      rfl
    · rw [l0] at hl; exact absurd hl (by decide)
    · rw [Nat.zero_testBit] at z; exact absurd z (by decide)
    · rw [l0] at hl; exact absurd hl (by decide))
  exact ⟨M, k1, fr.tr k2, k3, k4⟩
end
