theorem fl_50 (v : Int32) : ∀ (c i n : Nat) (μ : fm_T), i + c = 1024 → c < n → qJ7_fill_53178_50_h5 n μ v (nI i) 1024 ∧ frL f50 fN μ (mJ7_fill_53178_50_h5 n μ v (nI i) 1024) ∧ ∀ S, S < 1024 → fI (mJ7_fill_53178_50_h5 n μ v (nI i) 1024) 50 S = if i ≤ S then v else fI μ 50 S := by
  intro c
  induction c with
  | zero =>
    intro i n μ h1 h2
    obtain ⟨n, rfl⟩ : ∃ m, n = m + 1 := ⟨n - 1, by omega⟩
    have e : (1024 : Int32) ≤ nI i := (nI_leI (a := 1024) (by omega) (by omega)).mpr (by omega)
    simp only [mJ7_fill_53178_50_h5, qJ7_fill_53178_50_h5, if_pos e]
    exact ⟨fun z => absurd e z, frL.rf _ _ _, fun S hS => by rw [if_neg (by omega)]⟩
  | succ c ih =>
    intro i n μ h1 h2
    obtain ⟨n, rfl⟩ : ∃ m, n = m + 1 := ⟨n - 1, by omega⟩
    have e : ¬ (1024 : Int32) ≤ nI i := fun z => by have := (nI_leI (a := 1024) (by omega) (by omega)).mp z; omega
    have hi : i < 2 ^ 31 := by omega
    obtain ⟨k1, k2, k3⟩ := ih (i + 1) n (fm_i μ 50 i v) (by omega) (by omega)
    simp only [mJ7_fill_53178_50_h5, qJ7_fill_53178_50_h5, if_neg e, nI_clamp hi, nI_1]
    refine ⟨fun _ => ⟨vp_in_nI (by omega) (by decide), k1⟩, ((frL.rf f50 fN μ).i (k := 50) (j := i) (v := v) rfl).tr k2, fun S hS => ?_⟩
    rw [k3 S hS, fI_i]
    by_cases q : i + 1 ≤ S
    · rw [if_pos q, if_pos (by omega)]
    · by_cases w : S = i
      · rw [if_neg q, if_pos ⟨rfl, w⟩, if_pos (by omega)]
      · rw [if_neg q, if_neg (by omega), if_neg (by omega)]
section
variable {D n L day : Nat} {dk dh du sh we he e : Nat → Nat}
theorem fw_ok (b : BDp D n dk dh du sh we he) (bj : BJ n e) (so : ∀ i j, i ≤ j → j < n → du (e i) ≤ du (e j)) (hL : L ≤ 4) (hday : day ≤ 199) {μ : fm_T} (pc : PC n e du sh we he μ) (pt : PT4 D n dk dh sh we he e (2 ^ n) μ) : pX4_fewestFrom μ (nI day) (nI L) ∧ frL f50 fN μ (uX4_fewestFrom μ (nI day) (nI L)) ∧ ResP D n L day dk dh du sh we he (gX4_fewestFrom μ (nI day) (nI L)) := by
  have hn := b.1
  have hp : 2 ^ n ≤ 1024 := Nat.pow_le_pow_right (n := 2) (j := 10) (by decide) hn
  have hp1 := Nat.two_pow_pos n
  obtain ⟨b1, b2, b3⟩ := fl_50 99 1024 0 fF μ (by omega) (fF_gt (by omega))
  rw [show nI 0 = 0 from rfl] at b1 b2 b3
  have fr : frL f50 fN μ (fm_i (mJ7_fill_53178_50_h5 fF μ 99 0 1024) 50 0 0) := b2.i rfl
  obtain ⟨T, k1, k2, k3, k4, k5, k6, k7⟩ := fw_28 (L := L) (day := day) b bj so hL hday (2 ^ n - 1) 0 fF (fm_i (mJ7_fill_53178_50_h5 fF μ 99 0 1024) 50 0 0) (fun y => if y = 0 then 0 else 99) (by omega) (fF_gt (by omega)) (PC_f pc (fr.mo (B' := fN) (A' := f4x) (fun k j z => by unfold f50 at z; unfold f4x; omega) (fun _ _ z => z)) (fun _ _ z => z)) (PT4_50 pt fr) (fun y hy => by
    by_cases w : y = 0
    · rw [fI_i, if_pos ⟨rfl, w⟩]
      simp only [if_pos w]
      exact ⟨rfl, by omega⟩
    · rw [fI_i, if_neg (fun z => w z.2), b3 y (by omega), if_pos (Nat.zero_le _)]
      simp only [if_neg w]
      exact ⟨rfl, by omega⟩) (fun x hx hx2 => by
    have x0 : x = 0 := by
      apply Decidable.byContradiction
      intro z
      rw [if_neg z] at hx2
      omega
    rw [x0, if_pos rfl]
    have l0 := (LS_0 (e := e) hp1).mpr rfl
    exact ⟨fun _ => 0, fun i hi z => by rw [l0] at z; exact absurd z (by decide), fun k hk => absurd hk (by omega), fun k hk => absurd hk (by omega), fun v => Nat.zero_le _⟩) (fun y' g s hy' => absurd hy' (by omega))
  rw [show nI 0 = 0 from rfl] at k3 k4 k5
  have t0 : T 0 = 0 := k1
  unfold pX4_fewestFrom uX4_fewestFrom gX4_fewestFrom pJ7_fill_53178_50 uJ7_fill_53178_50
  rw [pc.1, sh_m1 n (by omega)]
  refine ⟨⟨b1, k4⟩, fr.tr k3, ?_⟩
  rw [k5]
  have full : ∀ p, p < n → true = LsN e n (2 ^ n - 1) p := fun p hp => by
    obtain ⟨i, i1, i2⟩ := bj.2.2 p hp
    exact ((LS_iff n).mpr ⟨i, i1, i2, by rw [Nat.testBit_two_pow_sub_one]; simpa using i1⟩).symm
  have mi : ∀ M h', SpN D n L day dk dh du sh we he (fun _ => true) M h' → T (2 ^ n - 1) ≤ M := fun M h' sp => SP_c bj.1 bj.2.1 bj.2.2 so k7 sp (by omega) (2 ^ n) 0 hp1 (by omega) (fun i j _ _ _ z => by rw [Nat.zero_testBit] at z; exact absurd z (by decide)) (fun i _ z => by rw [Nat.zero_testBit] at z; exact absurd z (by decide)) (by rw [t0]; exact Nat.zero_le _)
  by_cases q : T (2 ^ n - 1) < 99
  · obtain ⟨h, hh⟩ := k6 q
    have h2 : SpN D n L day dk dh du sh we he (fun _ => true) (T (2 ^ n - 1)) h := SP_cg full hh
    rw [if_pos q]
    exact Or.inl ⟨_, h, SP_M h2, rfl, h2, mi⟩
  · rw [if_neg q]
    refine Or.inr ⟨rfl, fun M h' sp => ?_⟩
    have h1 := mi M h' sp
    have h2 := SP_M sp
    omega
theorem fe_lp (b : BDp D n dk dh du sh we he) {μ : fm_T} (pc : PC n e du sh we he μ) (pt : PT4 D n dk dh sh we he e (2 ^ n) μ) : ∀ (c i f : Nat), i + c = n → c < f → qX4_fitsEach_h2 f μ (nI i) ∧ ((lX4_fitsEach_h2 f μ (nI i) = 0 ∧ ∃ j, j < n ∧ ¬ FT2 D n dk dh sh we he (LsN e n (2 ^ j))) ∨ ¬ lX4_fitsEach_h2 f μ (nI i) = 0) := by
  have hn := b.1
  have hp : 2 ^ n ≤ 1024 := Nat.pow_le_pow_right (n := 2) (j := 10) (by decide) hn
  intro c
  induction c with
  | zero =>
    intro i f h1 h2
    obtain ⟨f, rfl⟩ : ∃ m, f = m + 1 := ⟨f - 1, by omega⟩
    have e1 : nI n ≤ nI i := (nI_leI (by omega) (by omega)).mpr (by omega)
    simp only [lX4_fitsEach_h2, qX4_fitsEach_h2, pc.1, if_pos e1]
    exact ⟨fun z => absurd e1 z, Or.inr (by decide)⟩
  | succ c ih =>
    intro i f h1 h2
    obtain ⟨f, rfl⟩ : ∃ m, f = m + 1 := ⟨f - 1, by omega⟩
    have e1 : ¬ nI n ≤ nI i := fun z => by have := (nI_leI (by omega) (by omega)).mp z; omega
    have hpi : 2 ^ i < 2 ^ n := Nat.pow_lt_pow_right (by decide) (by omega)
    have cp : 2 ^ i < 2 ^ 31 := by omega
    have v : vp_in (nI (2 ^ i)) 1024 := vp_in_nI (by omega) (by decide)
    have ft := (pt (2 ^ i) hpi).2.2.2 (by have := Nat.two_pow_pos i; omega)
    simp only [lX4_fitsEach_h2, qX4_fitsEach_h2, pc.1, if_neg e1, sh_12 i (by omega), nI_clamp cp, nI_1]
    by_cases q : fI μ 49 (2 ^ i) = 0
    · simp only [if_pos q]
      exact ⟨fun _ => ⟨v, fun z => absurd q z⟩, Or.inl ⟨trivial, i, by omega, fun z => ft.mpr z q⟩⟩
    · simp only [if_neg q]
      obtain ⟨k1, k2⟩ := ih (i + 1) f (by omega) (by omega)
      exact ⟨fun _ => ⟨v, fun _ => k1⟩, k2⟩
def PatP (D n L T : Nat) (dk dh du sh we he : Nat → Nat) (z : Int32) : Prop := (∃ d M h, T ≤ d ∧ (∀ p, p < n → d ≤ du p) ∧ SpN D n L d dk dh du sh we he (fun _ => true) M h ∧ z = nI d ∧ ∀ d', d < d' → (∀ p, p < n → d' ≤ du p) → ∀ M h, ¬ SpN D n L d' dk dh du sh we he (fun _ => true) M h) ∨ (z = -1 ∧ ∀ d, T ≤ d → (∀ p, p < n → d ≤ du p) → ∀ M h, ¬ SpN D n L d dk dh du sh we he (fun _ => true) M h)
theorem Pat_u {T : Nat} {z z' : Int32} (h : PatP D n L T dk dh du sh we he z) (h' : PatP D n L T dk dh du sh we he z') : z = z' := by
  rcases h with ⟨d, M, g, a1, a2, a3, a4, a5⟩ | ⟨a1, a2⟩
  · rcases h' with ⟨d', M', g', b1, b2, b3, b4, b5⟩ | ⟨b1, b2⟩
    · rcases Nat.lt_trichotomy d d' with q | q | q
      · exact absurd b3 (a5 d' q b2 _ _)
      · rw [a4, b4, q]
      · exact absurd a3 (b5 d q a2 _ _)
    · exact absurd a3 (b2 d a1 a2 _ _)
  · rcases h' with ⟨d', M', g', b1, b2, b3, b4, b5⟩ | ⟨b1, b2⟩
    · exact absurd b3 (a2 d' b1 b2 _ _)
    · rw [a1, b1]
theorem ls_16 (b : BDp D n dk dh du sh we he) (bj : BJ n e) (so : ∀ i j, i ≤ j → j < n → du (e i) ≤ du (e j)) (hL : L ≤ 4) {T : Nat} (hT : T ≤ 199) : ∀ (d f : Nat) (μ : fm_T), d ≤ 199 → d + 1 < f → PC n e du sh we he μ → PT4 D n dk dh sh we he e (2 ^ n) μ → (∀ p, p < n → d ≤ du p) → (∀ d', d < d' → (∀ p, p < n → d' ≤ du p) → ∀ M h, ¬ SpN D n L d' dk dh du sh we he (fun _ => true) M h) →
    qX4_latestStart_h16 f μ (nI T) (nI L) (nI d) ∧ frL f50 fN μ (mX4_latestStart_h16 f μ (nI T) (nI L) (nI d)) ∧ PatP D n L T dk dh du sh we he (lX4_latestStart_h16 f μ (nI T) (nI L) (nI d)) := by
  have st : ∀ (d f : Nat) (μ : fm_T), d ≤ 199 → PC n e du sh we he μ → PT4 D n dk dh sh we he e (2 ^ n) μ → (∀ p, p < n → d ≤ du p) → (∀ d', d < d' → (∀ p, p < n → d' ≤ du p) → ∀ M h, ¬ SpN D n L d' dk dh du sh we he (fun _ => true) M h) →
      (∀ μ', frL f50 fN μ μ' → PC n e du sh we he μ' → PT4 D n dk dh sh we he e (2 ^ n) μ' → (∀ M h, ¬ SpN D n L d dk dh du sh we he (fun _ => true) M h) → qX4_latestStart_h16 f μ' (nI T) (nI L) (nI d + -1) ∧ frL f50 fN μ' (mX4_latestStart_h16 f μ' (nI T) (nI L) (nI d + -1)) ∧ PatP D n L T dk dh du sh we he (lX4_latestStart_h16 f μ' (nI T) (nI L) (nI d + -1))) →
      qX4_latestStart_h16 (f + 1) μ (nI T) (nI L) (nI d) ∧ frL f50 fN μ (mX4_latestStart_h16 (f + 1) μ (nI T) (nI L) (nI d)) ∧ PatP D n L T dk dh du sh we he (lX4_latestStart_h16 (f + 1) μ (nI T) (nI L) (nI d)) := by
    intro d f μ hd pc pt ha hno nx
    have lt : nI d < nI T ↔ d < T := nI_ltI (by omega) (by omega)
    obtain ⟨w1, w2, w3⟩ := fw_ok b bj so hL hd pc pt
    simp only [qX4_latestStart_h16, mX4_latestStart_h16, lX4_latestStart_h16, lt]
    by_cases q : d < T
    · simp only [if_pos q]
      exact ⟨fun z => absurd q z, frL.rf _ _ _, Or.inr ⟨rfl, fun d' h1 h2 => hno d' (by omega) h2⟩⟩
    · simp only [if_neg q]
      rcases w3 with ⟨r, h, r1, r2, r3, r4⟩ | ⟨r1, r2⟩
      · have ne : ¬ gX4_fewestFrom μ (nI d) (nI L) = -1 := by rw [r2]; have := b.1; exact nI_m1 (by omega)
        simp only [if_neg ne]
        exact ⟨fun _ => ⟨w1, fun z => absurd z ne⟩, w2, Or.inl ⟨d, r, h, by omega, ha, r3, rfl, hno⟩⟩
      · simp only [if_pos r1]
        obtain ⟨k1, k2, k3⟩ := nx _ w2 (PC_f pc (w2.mo (B' := fN) (A' := f4x) (fun k j z => by unfold f50 at z; unfold f4x; omega) (fun _ _ z => z)) (fun _ _ z => z)) (PT4_50 pt w2) r2
        exact ⟨fun _ => ⟨w1, fun _ => k1⟩, w2.tr k2, k3⟩
  intro d
  induction d with
  | zero =>
    intro f μ hd hf pc pt ha hno
    obtain ⟨f, rfl⟩ : ∃ m, f = m + 2 := ⟨f - 2, by omega⟩
    refine st 0 (f + 1) μ hd pc pt ha hno (fun μ' fr pc' pt' no => ?_)
    rw [show nI 0 + -1 = (-1 : Int32) by decide]
    have l : (-1 : Int32) < nI T := by rw [lt_ti, ti_m1, ti_nI (by omega)]; omega
    simp only [qX4_latestStart_h16, mX4_latestStart_h16, lX4_latestStart_h16, if_pos l]
    exact ⟨fun z => absurd l z, frL.rf _ _ _, Or.inr ⟨rfl, fun d' h1 h2 => by
      by_cases w : d' = 0
      · rw [w]; exact no
      · exact hno d' (by omega) h2⟩⟩
  | succ d ih =>
    intro f μ hd hf pc pt ha hno
    obtain ⟨f, rfl⟩ : ∃ m, f = m + 1 := ⟨f - 1, by omega⟩
    refine st (d + 1) f μ hd pc pt ha hno (fun μ' fr pc' pt' no => ?_)
    rw [show nI (d + 1) + -1 = nI d by rw [← Int32.sub_eq_add_neg]; exact nI_sub (a := d + 1) (b := 1) (by omega)]
    exact ih f μ' (by omega) (by omega) pc' pt' (fun p hp => by have := ha p hp; omega) (fun d' h1 h2 => by
      by_cases w : d' = d + 1
      · rw [w]; exact no
      · exact hno d' (by omega) h2)
theorem ls_ok (b : BDp D n dk dh du sh we he) (bj : BJ n e) (so : ∀ i j, i ≤ j → j < n → du (e i) ≤ du (e j)) (h1 : 1 ≤ n) (hL : L ≤ 4) {T : Nat} (hT : T ≤ 199) {μ : fm_T} (pc : PC n e du sh we he μ) (pt : PT4 D n dk dh sh we he e (2 ^ n) μ) : pX4_latestStart μ (nI T) (nI L) ∧ frL f50 fN μ (uX4_latestStart μ (nI T) (nI L)) ∧ PatP D n L T dk dh du sh we he (gX4_latestStart μ (nI T) (nI L)) := by
  have hn := b.1
  obtain ⟨p1, p2⟩ := fe_lp b pc pt n 0 fF (by omega) (fF_gt (by omega))
  have p1 : pX4_fitsEach μ := p1
  have e0 := bj.1 0 (by omega)
  unfold pX4_latestStart uX4_latestStart gX4_latestStart
  rcases p2 with ⟨f1, j, j1, j2⟩ | f1
  · have f1 : gX4_fitsEach μ = 0 := f1
    simp only [if_pos f1]
    refine ⟨⟨p1, fun z => absurd f1 z⟩, frL.rf _ _ _, Or.inr ⟨rfl, fun d _ _ M h sp => j2 ?_⟩⟩
    refine FT2_mo (sp.2.2.1 (h (e j)) (sp.1 (e j) (bj.1 j j1) rfl)) (fun p hp hl => ?_)
    obtain ⟨k, k1, k2, k3⟩ := (LS_iff n).mp hl
    rw [Nat.testBit_two_pow, decide_eq_true_eq] at k3
    rw [← k3] at k2
    exact bk_iff.mpr ⟨rfl, by rw [k2]⟩
  · have f1 : ¬ gX4_fitsEach μ = 0 := f1
    simp only [if_neg f1]
    rw [(pc.2 0 (by omega)).1]
    have bd := b.2.2.1 _ e0
    obtain ⟨k1, k2, k3⟩ := ls_16 (L := L) b bj so hL hT (du (e 0)) fF μ (by omega) (fF_gt (by omega)) pc pt (fun p hp => by
      obtain ⟨i, i1, i2⟩ := bj.2.2 p hp
      rw [← i2]
      exact so 0 i (Nat.zero_le _) i1) (fun d' h1 h2 => by have := h2 _ e0; omega)
    exact ⟨⟨p1, fun _ => k1⟩, k2, k3⟩
end
