theorem hs_1k : ∀ M, M < 1024 → ∀ a, a < 10 → (nI M >>> (nI a &&& 31)) &&& (1 : Int32) = if M.testBit a then 1 else 0 := by decide +kernel
theorem sub_nx : ∀ (m s o : Nat), s &&& o = s → m &&& o = m → s < m → s ≤ (m - 1) &&& o := by
  intro m
  induction m using Nat.strongRecOn with
  | ind m ih =>
    intro s o hs hm h
    have s1 : s / 2 &&& o / 2 = s / 2 := by rw [← Nat.and_div_two, hs]
    have m1 : m / 2 &&& o / 2 = m / 2 := by rw [← Nat.and_div_two, hm]
    have q1 : ((m - 1) &&& o) / 2 = (m - 1) / 2 &&& o / 2 := Nat.and_div_two
    have q2 := @Nat.and_mod_two_eq_one (m - 1) o
    have q3 := @Nat.and_mod_two_eq_one s o
    rw [hs] at q3
    by_cases mo : m % 2 = 1
    · rw [show (m - 1) / 2 = m / 2 by omega, m1] at q1
      omega
    · have i1 := ih (m / 2) (by omega) (s / 2) (o / 2) s1 m1 (by omega)
      rw [show (m - 1) / 2 = m / 2 - 1 by omega] at q1
      by_cases so : s % 2 = 1
      · have := q2.mpr ⟨by omega, (q3.mp so).2⟩
        omega
      · omega
theorem lc_i {L a b t : Nat} (hL : L ≤ 4) (ha : a ≤ 199) (hb : b ≤ 199) (ht : t ≤ 99) : (if nI L * ((nI a - nI b) + 1) < 99 then nI L * ((nI a - nI b) + 1) else 99) ≤ nI t ↔ ¬ (t < 99 ∧ t < L * (a + 1 - b)) := by
  have h0 : (nI a - nI b).toInt = (a : Int) - b := ti_sub (by rw [ti_nI (by omega), ti_nI (by omega)]) (by omega) (by omega)
  have h1 : (nI a - nI b + 1).toInt = (a : Int) - b + 1 := ti_add (by rw [h0]; rfl) (by omega) (by omega)
  have hp : (nI L * (nI a - nI b + 1)).toInt = (L : Int) * ((a : Int) - b + 1) := ti_mul (by rw [h1, ti_nI (by omega)]) (by rcases (by omega : L = 0 ∨ L = 1 ∨ L = 2 ∨ L = 3 ∨ L = 4) with rfl | rfl | rfl | rfl | rfl <;> omega) (by rcases (by omega : L = 0 ∨ L = 1 ∨ L = 2 ∨ L = 3 ∨ L = 4) with rfl | rfl | rfl | rfl | rfl <;> omega)
  have h99 : (99 : Int32).toInt = 99 := rfl
  generalize nI L * (nI a - nI b + 1) = p at hp ⊢
  have ht2 : (nI t).toInt = t := ti_nI (by omega)
  have key : (p.toInt ≤ t ∨ 99 ≤ t) ↔ ¬ (t < 99 ∧ t < L * (a + 1 - b)) := by
    rw [hp]
    rcases (by omega : L = 0 ∨ L = 1 ∨ L = 2 ∨ L = 3 ∨ L = 4) with rfl | rfl | rfl | rfl | rfl <;> omega
  rw [← key]
  by_cases q : p < 99
  · rw [if_pos q, le_ti, ht2]
    rw [lt_ti, h99] at q
    omega
  · rw [if_neg q, le_ti, ht2, h99]
    rw [lt_ti, h99] at q
    omega
def f50 (k _j : Nat) : Prop := k = 50
def TbN (n : Nat) (T : Nat → Nat) (μ : fm_T) : Prop := ∀ y, y < 2 ^ n → fI μ 50 y = nI (T y) ∧ T y ≤ 99
def ResP (D n L day : Nat) (dk dh du sh we he : Nat → Nat) (z : Int32) : Prop := (∃ r h, r ≤ n ∧ z = nI r ∧ SpN D n L day dk dh du sh we he (fun _ => true) r h ∧ ∀ M h', SpN D n L day dk dh du sh we he (fun _ => true) M h' → r ≤ M) ∨ (z = -1 ∧ ∀ M h', ¬ SpN D n L day dk dh du sh we he (fun _ => true) M h')
section
variable {D n L day : Nat} {dk dh du sh we he e : Nat → Nat}
theorem Res_u {z z' : Int32} (h : ResP D n L day dk dh du sh we he z) (h' : ResP D n L day dk dh du sh we he z') : z = z' := by
  rcases h with ⟨r, g, -, r2, r3, r4⟩ | ⟨r1, r2⟩
  · rcases h' with ⟨s, g', -, s2, s3, s4⟩ | ⟨s1, s2⟩
    · have h1 := r4 _ _ s3
      have h2 := s4 _ _ r3
      rw [r2, s2, show r = s by omega]
    · exact absurd r3 (s2 _ _)
  · rcases h' with ⟨s, g', -, s2, s3, s4⟩ | ⟨s1, s2⟩
    · exact absurd s3 (r2 _ _)
    · rw [r1, s1]
theorem SP_cg {X X' : Nat → Bool} {M : Nat} {h : Nat → Nat} (hX : ∀ i, i < n → X' i = X i) (s : SpN D n L day dk dh du sh we he X M h) : SpN D n L day dk dh du sh we he X' M h := by
  obtain ⟨s1, s2, s3, s4⟩ := s
  have eb : ∀ k i, i < n → bkN X' h k i = bkN X h k i := fun k i hi => by unfold bkN; rw [hX i hi]
  refine ⟨fun i hi a => s1 i hi (by rw [← hX i hi]; exact a), fun k hk => ?_, fun k hk => FT2_mo (s3 k hk) (fun i hi a => by rw [← eb k i hi]; exact a), fun v => ?_⟩
  · obtain ⟨i, i1, i2⟩ := s2 k hk
    exact ⟨i, i1, by rw [eb k i i1]; exact i2⟩
  · have : cnN n du X' h M v = cnN n du X h M v := sm_cg M (fun k hk => by
      have : hdN n du X' h v k = hdN n du X h v k := an_cg n (fun i hi => by rw [eb k i hi])
      rw [this])
    rw [this]
    exact s4 v
theorem PT4_50 {U : Nat} {μ μ' : fm_T} (h : PT4 D n dk dh sh we he e U μ) (f : frL f50 fN μ μ') : PT4 D n dk dh sh we he e U μ' := by
  have g : ∀ k j, k < 50 → fI μ' k j = fI μ k j := fun k j hk => f.2.2.2 k j (by unfold f50; omega)
  intro m hm
  rw [g 46 m (by omega), g 47 m (by omega), g 48 m (by omega), g 49 m (by omega)]
  exact h m hm
theorem al_27 (hn : n ≤ 10) {y g o v : Nat} (hy : y < 2 ^ n) (hg : g < n) (ho : o < 2 ^ n) (hv : v ≤ 99) (x3 : Int32) : ∀ (c s f : Nat) (μ : fm_T) (T : Nat → Nat), s < c → c + 1 < f → s &&& o = s → PT4 D n dk dh sh we he e (2 ^ n) μ → TbN n T μ →
    ∃ M T', mX4_addLoads_h27 f μ (nI y) (nI g) x3 (nI v) (nI o) (nI s) = M ∧ qX4_addLoads_h27 f μ (nI y) (nI g) x3 (nI v) (nI o) (nI s) ∧ frL f50 fN μ M ∧ TbN n T' M ∧ (∀ x, T' x ≤ T x) ∧ (∀ x, T' x ≠ T x → T' x = v ∧ ∃ s', s' &&& o = s' ∧ s' ≤ s ∧ x = y ||| (s' ||| 2 ^ g) ∧ FT2 D n dk dh sh we he (LsN e n (s' ||| 2 ^ g))) ∧ ∀ s', s' &&& o = s' → s' ≤ s → FT2 D n dk dh sh we he (LsN e n (s' ||| 2 ^ g)) → T' (y ||| (s' ||| 2 ^ g)) ≤ v := by
  have hp : 2 ^ n ≤ 1024 := Nat.pow_le_pow_right (n := 2) (j := 10) (by decide) hn
  have hpg : 2 ^ g < 2 ^ n := Nat.pow_lt_pow_right (by decide) hg
  intro c
  induction c with
  | zero => intro s f μ T h1; omega
  | succ c ih =>
    intro s f μ T h1 h2 hso pt tb
    obtain ⟨f, rfl⟩ : ∃ m, f = m + 1 := ⟨f - 1, by omega⟩
    have hs : s < 2 ^ n := by rw [← hso]; exact Nat.and_lt_two_pow _ ho
    have ll : s ||| 2 ^ g < 2 ^ n := Nat.or_lt_two_pow hs hpg
    have xl : y ||| (s ||| 2 ^ g) < 2 ^ n := Nat.or_lt_two_pow hy ll
    have l0 : s ||| 2 ^ g ≠ 0 := fun z => by have := (Nat.or_eq_zero_iff.mp z).2; have := Nat.two_pow_pos g; omega
    have ft := (pt (s ||| 2 ^ g) ll).2.2.2 l0
    obtain ⟨t1, t2⟩ := tb (y ||| (s ||| 2 ^ g)) xl
    have cl : s ||| 2 ^ g < 2 ^ 31 := by omega
    have cx : y ||| (s ||| 2 ^ g) < 2 ^ 31 := by omega
    have e1 : ¬ nI s < 0 := fun z => by have := (nI_ltI (b := 0) (by omega) (by omega)).mp z; omega
    have vl : vp_in (nI (s ||| 2 ^ g)) 1024 := vp_in_nI (by omega) (by decide)
    have vx : vp_in (nI (y ||| (s ||| 2 ^ g))) 1024 := vp_in_nI (by omega) (by decide)
    have le : nI (T (y ||| (s ||| 2 ^ g))) ≤ nI v ↔ T (y ||| (s ||| 2 ^ g)) ≤ v := nI_leI (by omega) (by omega)
    have nx : ∀ μ1 T1, PT4 D n dk dh sh we he e (2 ^ n) μ1 → TbN n T1 μ1 → frL f50 fN μ μ1 → (∀ x, T1 x ≤ T x) → (∀ x, T1 x ≠ T x → T1 x = v ∧ x = y ||| (s ||| 2 ^ g) ∧ FT2 D n dk dh sh we he (LsN e n (s ||| 2 ^ g))) → (FT2 D n dk dh sh we he (LsN e n (s ||| 2 ^ g)) → T1 (y ||| (s ||| 2 ^ g)) ≤ v) →
        ∃ M T', (if nI s = 0 then mX4_addLoads_h27 f μ1 (nI y) (nI g) x3 (nI v) (nI o) (-1) else mX4_addLoads_h27 f μ1 (nI y) (nI g) x3 (nI v) (nI o) ((nI s - 1) &&& nI o)) = M ∧ ((¬ nI s = 0 → qX4_addLoads_h27 f μ1 (nI y) (nI g) x3 (nI v) (nI o) ((nI s - 1) &&& nI o)) ∧ (nI s = 0 → qX4_addLoads_h27 f μ1 (nI y) (nI g) x3 (nI v) (nI o) (-1))) ∧ frL f50 fN μ M ∧ TbN n T' M ∧ (∀ x, T' x ≤ T x) ∧ (∀ x, T' x ≠ T x → T' x = v ∧ ∃ s', s' &&& o = s' ∧ s' ≤ s ∧ x = y ||| (s' ||| 2 ^ g) ∧ FT2 D n dk dh sh we he (LsN e n (s' ||| 2 ^ g))) ∧ ∀ s', s' &&& o = s' → s' ≤ s → FT2 D n dk dh sh we he (LsN e n (s' ||| 2 ^ g)) → T' (y ||| (s' ||| 2 ^ g)) ≤ v := by
      intro μ1 T1 pt1 tb1 fr1 le1 ch1 do1
      by_cases s0 : s = 0
      · have z : nI s = 0 := by rw [s0]; rfl
        obtain ⟨f, rfl⟩ : ∃ m, f = m + 1 := ⟨f - 1, by omega⟩
        have em : ((-1) : Int32) < 0 := by decide
        simp only [if_pos z, mX4_addLoads_h27, qX4_addLoads_h27, if_pos em]
        refine ⟨μ1, T1, rfl, ⟨fun y => absurd z y, fun _ y => absurd em y⟩, fr1, tb1, le1, fun x hx => ?_, fun s' q1 q2 q3 => ?_⟩
        · obtain ⟨a1, a2, a3⟩ := ch1 x hx
          exact ⟨a1, s, hso, Nat.le_refl _, a2, a3⟩
        · obtain rfl : s' = s := by omega
          exact do1 q3
      · have z : ¬ nI s = 0 := fun y => s0 (nI_inj (b := 0) (by omega) (by omega) y)
        have ea : (nI s - 1) &&& nI o = nI ((s - 1) &&& o) := by rw [show nI s - 1 = nI (s - 1) from nI_sub (b := 1) (by omega), and_i]
        have hl : (s - 1) &&& o ≤ s - 1 := Nat.and_le_left
        obtain ⟨M, T', i1, i2, i3, i4, i5, i6, i7⟩ := ih ((s - 1) &&& o) f μ1 T1 (by omega) (by omega) (by rw [Nat.and_assoc, Nat.and_self]) pt1 tb1
        simp only [if_neg z, ea]
        refine ⟨M, T', i1, ⟨fun _ => i2, fun y => absurd y z⟩, fr1.tr i3, i4, fun x => Nat.le_trans (i5 x) (le1 x), fun x hx => ?_, fun s' q1 q2 q3 => ?_⟩
        · by_cases w : T' x = T1 x
          · obtain ⟨a1, a2, a3⟩ := ch1 x (by rw [← w]; exact hx)
            exact ⟨w.trans a1, s, hso, Nat.le_refl _, a2, a3⟩
          · obtain ⟨a1, s', a2, a3, a4⟩ := i6 x w
            exact ⟨a1, s', a2, by omega, a4⟩
        · by_cases w : s' = s
          · rw [w] at q3 ⊢
            exact Nat.le_trans (i5 _) (do1 q3)
          · exact i7 s' q1 (sub_nx s s' o q1 hso (by omega)) q3
    simp only [mX4_addLoads_h27, qX4_addLoads_h27, if_neg e1, sh_12 g (by omega), or_i, nI_clamp cl, nI_clamp cx, t1, le]
    by_cases q1 : fI μ 49 (s ||| 2 ^ g) = 0
    · have nf : ¬ FT2 D n dk dh sh we he (LsN e n (s ||| 2 ^ g)) := fun z => ft.mpr z q1
      obtain ⟨M, T', i1, i2, i3⟩ := nx μ T pt tb (frL.rf _ _ _) (fun _ => Nat.le_refl _) (fun x z => absurd rfl z) (fun z => absurd z nf)
      simp only [if_pos q1]
      exact ⟨M, T', i1, fun _ => ⟨vl, fun _ => i2, fun z => absurd q1 z⟩, i3⟩
    · by_cases q2 : T (y ||| (s ||| 2 ^ g)) ≤ v
      · obtain ⟨M, T', i1, i2, i3⟩ := nx μ T pt tb (frL.rf _ _ _) (fun _ => Nat.le_refl _) (fun x z => absurd rfl z) (fun _ => q2)
        simp only [if_neg q1, if_pos q2]
        exact ⟨M, T', i1, fun _ => ⟨vl, fun z => absurd z q1, fun _ => ⟨vx, fun _ => i2, fun z => absurd q2 z⟩⟩, i3⟩
      · have fr1 : frL f50 fN μ (fm_i μ 50 (y ||| (s ||| 2 ^ g)) (nI v)) := (frL.rf _ _ _).i rfl
        obtain ⟨M, T', i1, i2, i3⟩ := nx (fm_i μ 50 (y ||| (s ||| 2 ^ g)) (nI v)) (fun x => if x = y ||| (s ||| 2 ^ g) then v else T x) (PT4_50 pt fr1) (fun x hx => by
          by_cases w : x = y ||| (s ||| 2 ^ g)
          · rw [fI_i, if_pos ⟨rfl, w⟩]
            simp only [if_pos w]
            exact ⟨trivial, hv⟩
          · rw [fI_i, if_neg (fun z => w z.2)]
            simp only [if_neg w]
            exact tb x hx) fr1 (fun x => by
          by_cases w : x = y ||| (s ||| 2 ^ g)
          · simp only [if_pos w]; rw [w]; omega
          · simp only [if_neg w]; exact Nat.le_refl _) (fun x z => by
          by_cases w : x = y ||| (s ||| 2 ^ g)
          · exact ⟨if_pos w, w, ft.mp q1⟩
          · exact absurd (if_neg w) z) (fun _ => by simp only [if_true]; exact Nat.le_refl _)
        simp only [if_neg q1, if_neg q2]
        exact ⟨M, T', i1, fun _ => ⟨vl, fun z => absurd z q1, fun _ => ⟨vx, fun z => absurd z q2, fun _ => ⟨vx, i2⟩⟩⟩, i3⟩
theorem fs_o {μ : fm_T} (hn : n ≤ 10) (h9 : fI μ 41 9 = nI n) {y g : Nat} (hy : y < 2 ^ n) (hg : g < n) (h1 : ∀ i, i < g → y.testBit i = true) (h2 : y.testBit g = false) : ∀ (c i f : Nat), i + c = g → c < f → lX4_firstOutside_h2 f μ (nI y) (nI i) = nI g ∧ qX4_firstOutside_h2 f μ (nI y) (nI i) := by
  have hp : 2 ^ n ≤ 1024 := Nat.pow_le_pow_right (n := 2) (j := 10) (by decide) hn
  have e0 : nI n - 1 = nI (n - 1) := nI_sub (b := 1) (by omega)
  intro c
  induction c with
  | zero =>
    intro i f a1 a2
    obtain ⟨f, rfl⟩ : ∃ m, f = m + 1 := ⟨f - 1, by omega⟩
    obtain rfl : i = g := by omega
    have b : ((nI y >>> (nI i &&& 31)) &&& (1 : Int32)) = 0 := by rw [hs_1k y (by omega) i (by omega), h2]; rfl
    simp only [lX4_firstOutside_h2, qX4_firstOutside_h2, h9, e0, if_pos b]
    refine ⟨?_, fun _ z => absurd b z⟩
    split <;> rfl
  | succ c ih =>
    intro i f a1 a2
    obtain ⟨f, rfl⟩ : ∃ m, f = m + 1 := ⟨f - 1, by omega⟩
    have b : ¬ ((nI y >>> (nI i &&& 31)) &&& (1 : Int32)) = 0 := by rw [hs_1k y (by omega) i (by omega), h1 i (by omega)]; decide
    have e1 : ¬ nI (n - 1) ≤ nI i := fun z => by have := (nI_leI (by omega) (by omega)).mp z; omega
    obtain ⟨k1, k2⟩ := ih (i + 1) f (by omega) (by omega)
    simp only [lX4_firstOutside_h2, qX4_firstOutside_h2, h9, e0, if_neg b, if_neg e1, nI_1]
    exact ⟨k1, fun _ _ => k2⟩
theorem fw_28 (b : BDp D n dk dh du sh we he) (bj : BJ n e) (so : ∀ i j, i ≤ j → j < n → du (e i) ≤ du (e j)) (hL : L ≤ 4) (hday : day ≤ 199) : ∀ (c y f : Nat) (μ : fm_T) (T : Nat → Nat), y + c = 2 ^ n - 1 → c < f → PC n e du sh we he μ → PT4 D n dk dh sh we he e (2 ^ n) μ → TbN n T μ → (∀ x, x < 2 ^ n → T x < 99 → ∃ h, SpN D n L day dk dh du sh we he (LsN e n x) (T x) h) →
    (∀ y' g s, y' < y → s < 2 ^ n → g < n → (∀ i, i < g → y'.testBit i = true) → y'.testBit g = false → s.testBit g = true → (∀ i, i < n → s.testBit i = true → y'.testBit i = false) → FT2 D n dk dh sh we he (LsN e n s) → T y' < 99 → T y' < L * (du (e g) + 1 - day) → T (y' ||| s) ≤ T y' + 1) →
    ∃ T' : Nat → Nat, T' 0 = T 0 ∧ T' (2 ^ n - 1) ≤ 99 ∧ frL f50 fN μ (mX4_fewestFrom_h28 f μ (nI day) (nI L) (nI (2 ^ n - 1)) (nI y)) ∧ qX4_fewestFrom_h28 f μ (nI day) (nI L) (nI (2 ^ n - 1)) (nI y) ∧ lX4_fewestFrom_h28 f μ (nI day) (nI L) (nI (2 ^ n - 1)) (nI y) = (if T' (2 ^ n - 1) < 99 then nI (T' (2 ^ n - 1)) else -1) ∧ (T' (2 ^ n - 1) < 99 → ∃ h, SpN D n L day dk dh du sh we he (LsN e n (2 ^ n - 1)) (T' (2 ^ n - 1)) h) ∧
    (∀ y' g s, y' < 2 ^ n → s < 2 ^ n → g < n → (∀ i, i < g → y'.testBit i = true) → y'.testBit g = false → s.testBit g = true → (∀ i, i < n → s.testBit i = true → y'.testBit i = false) → FT2 D n dk dh sh we he (LsN e n s) → T' y' < 99 → T' y' < L * (du (e g) + 1 - day) → T' (y' ||| s) ≤ T' y' + 1) := by
  have hn := b.1
  have hp : 2 ^ n ≤ 1024 := Nat.pow_le_pow_right (n := 2) (j := 10) (by decide) hn
  have hp1 := Nat.two_pow_pos n
  intro c
  induction c with
  | zero =>
    intro y f μ T h1 h2 pc pt tb hS hC
    obtain ⟨f, rfl⟩ : ∃ m, f = m + 1 := ⟨f - 1, by omega⟩
    obtain rfl : y = 2 ^ n - 1 := by omega
    have e1 : nI (2 ^ n - 1) ≤ nI (2 ^ n - 1) := (nI_leI (by omega) (by omega)).mpr (by omega)
    have ca : 2 ^ n - 1 < 2 ^ 31 := by omega
    obtain ⟨t1, t2⟩ := tb (2 ^ n - 1) (by omega)
    have l9 : nI (T (2 ^ n - 1)) < 99 ↔ T (2 ^ n - 1) < 99 := nI_ltI (b := 99) (by omega) (by omega)
    have vx : vp_in (nI (2 ^ n - 1)) 1024 := vp_in_nI (by omega) (by decide)
    simp only [mX4_fewestFrom_h28, lX4_fewestFrom_h28, qX4_fewestFrom_h28, if_pos e1, nI_clamp ca, t1, l9]
    refine ⟨T, rfl, t2, ?_, ⟨fun _ => ⟨vx, fun _ => vx⟩, fun z => absurd e1 z⟩, rfl, hS _ (by omega), fun y' g s hy' hs hg a1 a2 => ?_⟩
    · split <;> exact frL.rf _ _ _
    · by_cases w : y' < 2 ^ n - 1
      · exact hC y' g s w hs hg a1 a2
      · obtain rfl : y' = 2 ^ n - 1 := by omega
        rw [Nat.testBit_two_pow_sub_one] at a2
        simp [hg] at a2
  | succ c ih =>
    intro y f μ T h1 h2 pc pt tb hS hC
    obtain ⟨f, rfl⟩ : ∃ m, f = m + 1 := ⟨f - 1, by omega⟩
    have e1 : ¬ nI (2 ^ n - 1) ≤ nI y := fun z => by have := (nI_leI (by omega) (by omega)).mp z; omega
    have hy : y < 2 ^ n := by omega
    obtain ⟨g, g1, g2, g3⟩ := fo_ex (n := n) (y := y) (by omega)
    obtain ⟨w1, w2⟩ := fs_o hn pc.1 hy g1 g2 g3 g 0 fF (by omega) (fF_gt (by omega))
    have w1 : gX4_firstOutside μ (nI y) = nI g := w1
    have w2 : pX4_firstOutside μ (nI y) := w2
    obtain ⟨t1, t2⟩ := tb y hy
    have cg : g < 2 ^ 31 := by omega
    have cy : y < 2 ^ 31 := by omega
    obtain ⟨d1, -⟩ := pc.2 g g1
    have bg := b.2.2.1 _ (bj.1 g g1)
    have lc := lc_i (L := L) (a := du (e g)) (b := day) (t := T y) hL (by omega) hday t2
    have vy : vp_in (nI y) 1024 := vp_in_nI (by omega) (by decide)
    have vg : vp_in (nI g) 10 := vp_in_nI (by omega) (by decide)
    simp only [mX4_fewestFrom_h28, lX4_fewestFrom_h28, qX4_fewestFrom_h28, if_neg e1, w1, nI_clamp cg, nI_clamp cy, d1, t1, lc, nI_1]
    by_cases q : T y < 99 ∧ T y < L * (du (e g) + 1 - day)
    · have nq : ¬ ¬ (T y < 99 ∧ T y < L * (du (e g) + 1 - day)) := fun z => z q
      simp only [if_neg nq]
      have ol := mkM_l (fun i => !y.testBit i && !(i == g)) n
      have ot : ∀ i, i < n → (mkM (fun i => !y.testBit i && !(i == g)) n).testBit i = (!y.testBit i && !(i == g)) := fun i hi => mkM_t _ n hi
      generalize mkM (fun i => !y.testBit i && !(i == g)) n = o at ol ot
      have eo : ((nI (2 ^ n - 1) &&& (nI y ^^^ ((-1) : Int32))) &&& (((1 : Int32) <<< (nI g &&& 31)) ^^^ ((-1) : Int32))) = nI o := by
        have hg2 : 2 ^ g < 4096 := Nat.pow_lt_pow_right (n := 12) (by decide) (by omega)
        rw [sh_12 g (by omega), mdn_i (by omega) (by omega), mdn_i (Nat.lt_of_le_of_lt (mdn_le _ _) (by omega)) hg2]
        congr 1
        apply Nat.eq_of_testBit_eq
        intro i
        by_cases hi : i < n
        · rw [mdn_t hg2 (by omega), mdn_t (by omega) (by omega), ot i hi, Nat.testBit_two_pow_sub_one, Nat.testBit_two_pow]
          by_cases ig : i = g
          · simp [ig]
          · have : ¬ g = i := fun z => ig z.symm
            simp [hi, ig, this]
        · rw [tb_o ol (by omega), tb_o (n := n) (Nat.lt_of_le_of_lt (mdn_le _ _) (Nat.lt_of_le_of_lt (mdn_le _ _) (by omega))) (by omega)]
      obtain ⟨M, T', i1, i2, i3, i4, i5, i6, i7⟩ := al_27 (D := D) (dk := dk) (dh := dh) (sh := sh) (we := we) (he := he) (e := e) hn hy g1 ol (v := T y + 1) (by omega) (nI (2 ^ n - 1)) (o + 1) o fF μ T (by omega) (fF_gt (by omega)) (Nat.and_self _) pt tb
      have ua : uX4_addLoads μ (nI y) (nI g) (nI (2 ^ n - 1)) = M := by
        unfold uX4_addLoads
        rw [nI_clamp cy, t1, nI_1, eo]
        exact i1
      have pa : pX4_addLoads μ (nI y) (nI g) (nI (2 ^ n - 1)) := by
        unfold pX4_addLoads
        rw [nI_clamp cy, t1, nI_1, eo]
        exact ⟨vy, i2⟩
      rw [ua]
      have bitg : ∀ s', (y ||| (s' ||| 2 ^ g)).testBit g = true := fun s' => by rw [Nat.testBit_or, Nat.testBit_or, Nat.testBit_two_pow_self]; simp
      have keep : ∀ y', y' ≤ y → T' y' = T y' := fun y' hy' => by
        apply Decidable.byContradiction
        intro z
        obtain ⟨-, s', -, -, z3, -⟩ := i6 y' z
        have l := Nat.left_le_or (n := y) (m := s' ||| 2 ^ g)
        have : y ||| (s' ||| 2 ^ g) = y := by omega
        have w := bitg s'
        rw [this, g3] at w
        exact absurd w (by decide)
      have pc2 : PC n e du sh we he M := PC_f pc (i3.mo (B' := fN) (A' := f4x) (fun k j z => by unfold f50 at z; unfold f4x; omega) (fun _ _ z => z)) (fun _ _ z => z)
      have oS : ∀ s', s' &&& o = s' → ∀ i, i < n → s'.testBit i = true → y.testBit i = false ∧ i ≠ g := fun s' hs' i hi hb => by
        rw [← hs', Nat.testBit_and, Bool.and_eq_true, ot i hi, Bool.and_eq_true, Bool.not_eq_true', Bool.not_eq_true'] at hb
        exact ⟨hb.2.1, fun z => by rw [z] at hb; simp at hb⟩
      obtain ⟨T2, k1, k2, k3, k4, k5, k6, k7⟩ := ih (y + 1) f M T' (by omega) (by omega) pc2 (PT4_50 pt i3) i4 (fun x hx hx2 => by
        by_cases w : T' x = T x
        · rw [w] at hx2 ⊢
          exact hS x hx hx2
        · obtain ⟨z1, s', z2, z3, z4, z5⟩ := i6 x w
          obtain ⟨h, hh⟩ := hS y hy q.1
          rw [z1]
          refine ⟨_, SP_a (B := LsN e n (s' ||| 2 ^ g)) (x0 := du (e g)) hh (fun p hp => ?_) (fun p hp hl => ?_) ⟨e g, bj.1 g g1, ?_⟩ z5 q.2 (fun p hp hl => ?_)⟩
          · rw [z4]
            apply Bool.eq_iff_iff.mpr
            rw [Bool.or_eq_true, LS_iff, LS_iff, LS_iff]
            constructor
            · rintro ⟨k, a1, a2, a3⟩
              rw [Nat.testBit_or, Bool.or_eq_true] at a3
              exact a3.elim (fun a => Or.inl ⟨k, a1, a2, a⟩) (fun a => Or.inr ⟨k, a1, a2, a⟩)
            · rintro (⟨k, a1, a2, a3⟩ | ⟨k, a1, a2, a3⟩)
              · exact ⟨k, a1, a2, by rw [Nat.testBit_or, a3]; rfl⟩
              · exact ⟨k, a1, a2, by rw [Nat.testBit_or, a3]; simp⟩
          · obtain ⟨k, a1, a2, a3⟩ := (LS_iff n).mp hl
            rw [← a2, LS_t bj.2.1 a1]
            rw [Nat.testBit_or, Bool.or_eq_true, Nat.testBit_two_pow, decide_eq_true_eq] at a3
            rcases a3 with a3 | a3
            · exact (oS s' z2 k a1 a3).1
            · rw [← a3]; exact g3
          · rw [LS_t bj.2.1 g1, Nat.testBit_or, Nat.testBit_two_pow_self]; simp
          · obtain ⟨k, a1, a2, a3⟩ := (LS_iff n).mp hl
            rw [← a2]
            refine so g k ?_ a1
            apply Decidable.byContradiction
            intro kg
            rw [Nat.testBit_or, Bool.or_eq_true, Nat.testBit_two_pow, decide_eq_true_eq] at a3
            rcases a3 with a3 | a3
            · have := (oS s' z2 k a1 a3).1
              rw [g2 k (by omega)] at this
              exact absurd this (by decide)
            · omega) (fun y' g' s hy' hs hg' a1 a2 a3 a4 a5 a6 a7 => by
        rw [keep y' (by omega)] at a6 a7 ⊢
        by_cases w : y' = y
        · subst w
          have gg : g' = g := by
            rcases Nat.lt_trichotomy g' g with z | z | z
            · rw [g2 g' z] at a2; exact absurd a2 (by decide)
            · exact z
            · rw [a1 g z] at g3; exact absurd g3 (by decide)
          subst gg
          have sl := mkM_l (fun i => s.testBit i && !(i == g')) n
          have st : ∀ i, i < n → (mkM (fun i => s.testBit i && !(i == g')) n).testBit i = (s.testBit i && !(i == g')) := fun i hi => mkM_t _ n hi
          generalize mkM (fun i => s.testBit i && !(i == g')) n = s' at sl st
          have es : s' ||| 2 ^ g' = s := by
            apply Nat.eq_of_testBit_eq
            intro i
            rw [Nat.testBit_or, Nat.testBit_two_pow]
            by_cases hi : i < n
            · rw [st i hi]
              by_cases ig : i = g'
              · rw [ig, a3]; simp
              · have : ¬ g' = i := fun z => ig z.symm
                simp [ig, this]
            · rw [tb_o sl (by omega), tb_o hs (by omega)]
              have : ¬ g' = i := by omega
              simp [this]
          have so' : s' &&& o = s' := by
            apply Nat.eq_of_testBit_eq
            intro i
            rw [Nat.testBit_and]
            by_cases hi : i < n
            · rw [ot i hi]
              cases sb : s'.testBit i
              · rfl
              · rw [st i hi, Bool.and_eq_true] at sb
                rw [a4 i hi sb.1, sb.2]; rfl
            · rw [tb_o sl (by omega)]; rfl
          have sle : s' ≤ o := by rw [← so']; exact Nat.and_le_right
          have := i7 s' so' sle (by rw [es]; exact a5)
          rw [es] at this
          exact this
        · exact Nat.le_trans (i5 _) (hC y' g' s (by omega) hs hg' a1 a2 a3 a4 a5 a6 a7))
      exact ⟨T2, k1.trans (keep 0 (Nat.zero_le _)), k2, i3.tr k3, ⟨fun z => absurd z e1, fun _ => ⟨w2, vy, vg, fun z => absurd z nq, fun _ => ⟨pa, k4⟩⟩⟩, k5, k6, k7⟩
    · simp only [if_pos q]
      obtain ⟨T2, k1, k2, k3, k4, k5, k6, k7⟩ := ih (y + 1) f μ T (by omega) (by omega) pc pt tb hS (fun y' g' s hy' hs hg' a1 a2 a3 a4 a5 a6 a7 => by
        by_cases w : y' = y
        · subst w
          have gg : g' = g := by
            rcases Nat.lt_trichotomy g' g with z | z | z
            · rw [g2 g' z] at a2; exact absurd a2 (by decide)
            · exact z
            · rw [a1 g z] at g3; exact absurd g3 (by decide)
          subst gg
          exact absurd ⟨a6, a7⟩ q
        · exact hC y' g' s (by omega) hs hg' a1 a2 a3 a4 a5 a6 a7)
      exact ⟨T2, k1, k2, k3, ⟨fun z => absurd z e1, fun _ => ⟨w2, vy, vg, fun _ => k4, fun z => absurd q z⟩⟩, k5, k6, k7⟩
end
