def fPm (m k j : Nat) : Prop := (12 ≤ k ∧ k ≤ 15 ∧ m ≤ j) ∨ k = 16 ∨ (k = 0 ∧ j = 33)
def LdN (D m i : Nat) (dk dh du sh we he h : Nat → Nat) (ν : fm_T) : Prop := fI ν 0 32 = nI m ∧ m ≤ i ∧ (∀ j, j < i → h j < m) ∧ ∀ k, k < m → ∃ s w u g, fI ν 12 k = nI s ∧ fI ν 13 k = nI w ∧ fI ν 14 k = nI u ∧ fI ν 15 k = nI g ∧ BkN D dk dh du sh we he h i k s w u g
theorem fPm_a {m k j : Nat} (h : fPm m k j) : fPa k j := by unfold fPm at h; unfold fPa; omega
section
variable {D n L day : Nat} {dk dh du sh we he tk cl : Nat → Nat}
theorem Ld_f {m i : Nat} {h : Nat → Nat} {ν ν' : fm_T} (l : LdN D m i dk dh du sh we he h ν) (f : frL (fPm m) fN ν ν') : LdN D m i dk dh du sh we he h ν' := by
  obtain ⟨l1, l2, l3, l4⟩ := l
  refine ⟨by rw [f.2.2.2 0 32 (by unfold fPm; omega)]; exact l1, l2, l3, fun k hk => ?_⟩
  rw [f.2.2.2 12 k (by unfold fPm; omega), f.2.2.2 13 k (by unfold fPm; omega), f.2.2.2 14 k (by unfold fPm; omega), f.2.2.2 15 k (by unfold fPm; omega)]
  exact l4 k hk
theorem Bk_bd {h : Nat → Nat} {i k s w u g : Nat} (b : BDp D n dk dh du sh we he) (hi : i ≤ n) (bk : BkN D dk dh du sh we he h i k s w u g) : s ≤ 2 ∧ u ≤ 199 ∧ w ≤ 2000 ∧ g < 16 := by
  obtain ⟨⟨j, j1, j2, j3⟩, b2, b3, b4, -⟩ := bk
  obtain ⟨c1, c2, c3, -⟩ := b
  have d1 := c3 j (by omega)
  have d2 := b2 j j1 j2
  have : w ≤ i * 200 := by
    rw [b3]
    exact sm_bn i (fun p hp => by have := c3 p (by omega); split <;> omega)
  have hp : 2 ^ D ≤ 16 := Nat.pow_le_pow_right (n := 2) (j := 4) (by decide) c2
  omega
def PoN (D n L day : Nat) (dk dh du sh we he tk cl : Nat → Nat) (f i : Nat) : Prop := ∀ (ν : fm_T) (h : Nat → Nat) (m F : Nat), MqN D L dk dh ν → MhN n tk cl du sh we he ν → fI ν 0 34 = nI day → LdN D m i dk dh du sh we he h ν → fI ν 0 33 = nI F → F ≤ n + 1 →
  puX12_part f 0 ν (nI i) ∧ frL (fPm m) fN ν (guX12_part f 0 ν (nI i)) ∧ ∃ F', fI (guX12_part f 0 ν (nI i)) 0 33 = nI F' ∧ F' ≤ F ∧ (F' < F → ∃ h', (∀ j, j < i → h' j = h j) ∧ SpN D n L day dk dh du sh we he (fun _ => true) F' h') ∧ ∀ M h', (∀ j, j < i → h' j = h j) → SpN D n L day dk dh du sh we he (fun _ => true) M h' → F' ≤ M
theorem pt_45 (b : BDp D n dk dh du sh we he) {f i : Nat} (hi : i < n) (po : PoN D n L day dk dh du sh we he tk cl f (i + 1)) {ν : fm_T} {h : Nat → Nat} {m F0 : Nat} (mq : MqN D L dk dh ν) (mh : MhN n tk cl du sh we he ν) (hda : fI ν 0 34 = nI day) (ld : LdN D m i dk dh du sh we he h ν) (hF : F0 ≤ n + 1) : ∀ (c k ff : Nat) (ν' : fm_T) (F : Nat), k + c = m → c < ff → frL (fPm m) fN ν ν' → fI ν' 0 33 = nI F → F ≤ F0 → (F < F0 → ∃ h', (∀ j, j < i → h' j = h j) ∧ SpN D n L day dk dh du sh we he (fun _ => true) F h') → (∀ M h', (∀ j, j < i → h' j = h j) → h' i < k → SpN D n L day dk dh du sh we he (fun _ => true) M h' → F ≤ M) →
    qX12_part_h45 (guX12_part f) (puX12_part f) ff ν' (nI i) (nI (tk i)) (nI k) ∧ frL (fPm m) fN ν (mX12_part_h45 (guX12_part f) ff ν' (nI i) (nI (tk i)) (nI k)) ∧ ∃ F', fI (mX12_part_h45 (guX12_part f) ff ν' (nI i) (nI (tk i)) (nI k)) 0 33 = nI F' ∧ F' ≤ F0 ∧ (F' < F0 → ∃ h', (∀ j, j < i → h' j = h j) ∧ SpN D n L day dk dh du sh we he (fun _ => true) F' h') ∧ ∀ M h', (∀ j, j < i → h' j = h j) → SpN D n L day dk dh du sh we he (fun _ => true) M h' → F' ≤ M := by
  have hn := b.1
  have hD := b.2.1
  have bi := b.2.2.1 i hi
  have ci : i < 2 ^ 31 := by omega
  obtain ⟨l1, l2, l3, l4⟩ := ld
  have mi : m ≤ 9 := by omega
  have upe : ∀ c j, j < i → upN h i c j = h j := fun c j hj => by unfold upN; rw [if_neg (by omega)]
  have upi : ∀ c, upN h i c i = c := fun c => by unfold upN; rw [if_pos rfl]
  intro c
  induction c with
  | zero =>
    intro k ff ν' F h1 h2 fr h33 hF1 hF2 hF3
    obtain ⟨ff, rfl⟩ : ∃ m, ff = m + 1 := ⟨ff - 1, by omega⟩
    obtain rfl : k = m := by omega
    have mq' := MQ_f mq fr (fun _ _ z => fPm_a z)
    have mh' := MH_f mh fr (fun _ _ z => fPm_a z)
    have g32 : fI ν' 0 32 = nI k := by rw [fr.2.2.2 0 32 (by unfold fPm; omega)]; exact l1
    have e1 : nI k ≤ nI k := (nI_leI (by omega) (by omega)).mpr (by omega)
    have ck : k < 2 ^ 31 := by omega
    obtain ⟨o0, o1, o2, o3, p0, p1, p2, p3⟩ := mh_of mh' hi
    obtain ⟨a1, a2, a3, a4, -, -, -, a8⟩ := mh'.2 i hi
    obtain ⟨d1, g, d2, d3, d4⟩ := dr_m hD mq' b.2.2.2 a2 a8 (by omega) (w := we i) (by omega) D 0 fF 0 (by omega) (fF_gt (by omega)) (by decide) (fun j hj => absurd hj (by omega))
    have d1 : pX12_drumsFor ν' (nI (cl i)) (nI (we i)) := d1
    have d2 : gX12_drumsFor ν' (nI (cl i)) (nI (we i)) = nI g := d2
    have hp : 2 ^ D ≤ 16 := Nat.pow_le_pow_right (n := 2) (j := 4) (by decide) hD
    have o2' : ∀ v, gX12_of (fm_i ν' 12 k v) (nI (tk i)) 2 = nI (we i) := fun v => by
      have := (mh_of (MH_f mh' ((frL.rf (fPm k) fN ν').i (k := 12) (j := k) (v := v) (Or.inl ⟨by omega, by omega, Nat.le_refl _⟩)) (fun _ _ z => fPm_a z)) hi).2.2.1
      exact this
    have p2' : ∀ v, pX12_of (fm_i ν' 12 k v) (nI (tk i)) 2 := fun v => p2
    simp only [mX12_part_h45, qX12_part_h45, g32, if_pos e1, o0, o1, o2, o2', d2, a4, nI_clamp ck, nI_clamp ci, nI_1]
    by_cases g0 : g = 0
    · have gz : nI g = 0 := by rw [g0]; rfl
      simp only [if_pos gz]
      refine ⟨⟨fun _ => ⟨p0, p2, d1, fun z => absurd gz z⟩, fun z => absurd e1 z⟩, fr, F, h33, hF1, hF2, fun M h' ex sp => ?_⟩
      by_cases w : h' i < k
      · exact hF3 M h' ex w sp
      · obtain ⟨d, x1, x2, x3⟩ := nw_g hi sp
        have := (d4 d x1).mpr ⟨x2, x3⟩
        rw [g0, Nat.zero_testBit] at this
        exact absurd this (by decide)
    · have gz : ¬ nI g = 0 := fun z => g0 (nI_inj (b := 0) (by omega) (by omega) z)
      simp only [if_neg gz]
      have fr1 : frL (fun a j => (12 ≤ a ∧ a ≤ 15 ∧ j = k) ∨ (a = 0 ∧ j = 32)) fN ν' (fm_i (fm_i (fm_i (fm_i (fm_i ν' 12 k (nI (sh i))) 13 k (nI (we i))) 14 k (nI (du i))) 15 k (nI g)) 0 32 (nI (k + 1))) := (((((frL.rf _ fN ν').i (Or.inl ⟨by omega, by omega, rfl⟩)).i (Or.inl ⟨by omega, by omega, rfl⟩)).i (Or.inl ⟨by omega, by omega, rfl⟩)).i (Or.inl ⟨by omega, by omega, rfl⟩)).i (Or.inr ⟨rfl, rfl⟩)
      have v12 : fI (fm_i (fm_i (fm_i (fm_i (fm_i ν' 12 k (nI (sh i))) 13 k (nI (we i))) 14 k (nI (du i))) 15 k (nI g)) 0 32 (nI (k + 1))) 12 k = nI (sh i) := by rw [fI_i, if_neg (by omega), fI_i, if_neg (by omega), fI_i, if_neg (by omega), fI_i, if_neg (by omega), fI_i, if_pos ⟨rfl, rfl⟩]
      have v13 : fI (fm_i (fm_i (fm_i (fm_i (fm_i ν' 12 k (nI (sh i))) 13 k (nI (we i))) 14 k (nI (du i))) 15 k (nI g)) 0 32 (nI (k + 1))) 13 k = nI (we i) := by rw [fI_i, if_neg (by omega), fI_i, if_neg (by omega), fI_i, if_neg (by omega), fI_i, if_pos ⟨rfl, rfl⟩]
      have v14 : fI (fm_i (fm_i (fm_i (fm_i (fm_i ν' 12 k (nI (sh i))) 13 k (nI (we i))) 14 k (nI (du i))) 15 k (nI g)) 0 32 (nI (k + 1))) 14 k = nI (du i) := by rw [fI_i, if_neg (by omega), fI_i, if_neg (by omega), fI_i, if_pos ⟨rfl, rfl⟩]
      have v15 : fI (fm_i (fm_i (fm_i (fm_i (fm_i ν' 12 k (nI (sh i))) 13 k (nI (we i))) 14 k (nI (du i))) 15 k (nI g)) 0 32 (nI (k + 1))) 15 k = nI g := by rw [fI_i, if_neg (by omega), fI_i, if_pos ⟨rfl, rfl⟩]
      have v32 : fI (fm_i (fm_i (fm_i (fm_i (fm_i ν' 12 k (nI (sh i))) 13 k (nI (we i))) 14 k (nI (du i))) 15 k (nI g)) 0 32 (nI (k + 1))) 0 32 = nI (k + 1) := by rw [fI_i, if_pos ⟨rfl, rfl⟩]
      generalize fm_i (fm_i (fm_i (fm_i (fm_i ν' 12 k (nI (sh i))) 13 k (nI (we i))) 14 k (nI (du i))) 15 k (nI g)) 0 32 (nI (k + 1)) = ν1 at fr1 v12 v13 v14 v15 v32 ⊢
      have ld1 : LdN D (k + 1) (i + 1) dk dh du sh we he (upN h i k) ν1 := by
        refine ⟨v32, by omega, fun j hj => ?_, fun k' hk' => ?_⟩
        · by_cases z : j = i
          · rw [z, upi]; omega
          · rw [upe k j (by omega)]
            have := l3 j (by omega)
            omega
        · by_cases z : k' = k
          · rw [z]
            exact ⟨sh i, we i, du i, g, v12, v13, v14, v15, Bk_n l3 d3 g0 d4⟩
          · obtain ⟨s, w, u, g', x1, x2, x3, x4, x5⟩ := l4 k' (by omega)
            refine ⟨s, w, u, g', ?_, ?_, ?_, ?_, Bk_o z x5⟩
            · rw [fr1.2.2.2 12 k' (by omega), fr.2.2.2 12 k' (by unfold fPm; omega)]; exact x1
            · rw [fr1.2.2.2 13 k' (by omega), fr.2.2.2 13 k' (by unfold fPm; omega)]; exact x2
            · rw [fr1.2.2.2 14 k' (by omega), fr.2.2.2 14 k' (by unfold fPm; omega)]; exact x3
            · rw [fr1.2.2.2 15 k' (by omega), fr.2.2.2 15 k' (by unfold fPm; omega)]; exact x4
      have fa : ∀ a j, (12 ≤ a ∧ a ≤ 15 ∧ j = k) ∨ (a = 0 ∧ j = 32) → fPa a j := fun a j z => by unfold fPa; omega
      obtain ⟨r1, r2, F', r3, r4, r5, r6⟩ := po ν1 (upN h i k) (k + 1) F (MQ_f mq' fr1 fa) (MH_f mh' fr1 fa) (by rw [fr1.2.2.2 0 34 (by omega), fr.2.2.2 0 34 (by unfold fPm; omega)]; exact hda) ld1 (by rw [fr1.2.2.2 0 33 (by omega)]; exact h33) (by omega)
      have r32 : fI (guX12_part f 0 ν1 (nI (i + 1))) 0 32 = nI (k + 1) := by rw [r2.2.2.2 0 32 (by unfold fPm; omega)]; exact v32
      rw [r32, show nI (k + 1) - 1 = nI k from nI_sub (a := k + 1) (b := 1) (by omega)]
      have vk : vp_in (nI k) 10 := vp_in_nI (by omega) (by decide)
      refine ⟨⟨fun _ => ⟨p0, p2, d1, fun _ => ⟨p1, vk, p2' _, vk, vp_in_nI (by omega) (by decide), vk, vk, r1⟩⟩, fun z => absurd e1 z⟩, ?_, F', ?_, by omega, fun z => ?_, fun M h' ex sp => ?_⟩
      · refine ⟨(r2.1.trans fr1.1).trans fr.1, (r2.2.1.trans fr1.2.1).trans fr.2.1, fun a j z => ((r2.2.2.1 a j z).trans (fr1.2.2.1 a j z)).trans (fr.2.2.1 a j z), fun a j z => ?_⟩
        rw [fI_i]
        by_cases y : a = 0 ∧ j = 32
        · rw [if_pos y, y.1, y.2]; exact l1.symm
        · rw [if_neg y, r2.2.2.2 a j (by unfold fPm at z ⊢; omega), fr1.2.2.2 a j (by unfold fPm at z; omega)]
          exact fr.2.2.2 a j z
      · rw [fI_i, if_neg (by omega)]; exact r3
      · by_cases y : F' < F
        · obtain ⟨h', y1, y2⟩ := r5 y
          exact ⟨h', fun j hj => (y1 j (by omega)).trans (upe k j hj), y2⟩
        · obtain rfl : F' = F := by omega
          exact hF2 z
      · by_cases y : h' i < k
        · exact Nat.le_trans r4 (hF3 M h' ex y sp)
        · have hM := sp.1 i hi rfl
          refine r6 M (fun j => swN (h' i) k (h' j)) (fun j hj => ?_) (SP_sw hM (by omega) sp)
          by_cases z : j = i
          · rw [z, upi]
            unfold swN
            rw [if_pos rfl]
          · rw [upe k j (by omega), ex j (by omega)]
            have := l3 j (by omega)
            unfold swN
            rw [if_neg (by omega), if_neg (by omega)]
  | succ c ih =>
    intro k ff ν' F h1 h2 fr h33 hF1 hF2 hF3
    obtain ⟨ff, rfl⟩ : ∃ m, ff = m + 1 := ⟨ff - 1, by omega⟩
    have mq' := MQ_f mq fr (fun _ _ z => fPm_a z)
    have mh' := MH_f mh fr (fun _ _ z => fPm_a z)
    have g32 : fI ν' 0 32 = nI m := by rw [fr.2.2.2 0 32 (by unfold fPm; omega)]; exact l1
    have e1 : ¬ nI m ≤ nI k := fun z => by have := (nI_leI (by omega) (by omega)).mp z; omega
    have ck : k < 2 ^ 31 := by omega
    obtain ⟨o0, o1, o2, o3, p0, p1, p2, p3⟩ := mh_of mh' hi
    obtain ⟨a1, a2, a3, a4, -, -, -, a8⟩ := mh'.2 i hi
    obtain ⟨s, w, u, g, x1, x2, x3, x4, x5⟩ := l4 k (by omega)
    have bb := Bk_bd b (by omega) x5
    have x1' : fI ν' 12 k = nI s := by rw [fr.2.2.2 12 k (by unfold fPm; omega)]; exact x1
    have x2' : fI ν' 13 k = nI w := by rw [fr.2.2.2 13 k (by unfold fPm; omega)]; exact x2
    have x3' : fI ν' 14 k = nI u := by rw [fr.2.2.2 14 k (by unfold fPm; omega)]; exact x3
    have x4' : fI ν' 15 k = nI g := by rw [fr.2.2.2 15 k (by unfold fPm; omega)]; exact x4
    have hp : 2 ^ D ≤ 16 := Nat.pow_le_pow_right (n := 2) (j := 4) (by decide) hD
    obtain ⟨d1, g2, d2, d3, d4⟩ := dr_m hD mq' b.2.2.2 a2 a8 (by omega) (w := 0) (by omega) D 0 fF 0 (by omega) (fF_gt (by omega)) (by decide) (fun j hj => absurd hj (by omega))
    have d1 : pX12_drumsFor ν' (nI (cl i)) 0 := d1
    have d2 : gX12_drumsFor ν' (nI (cl i)) 0 = nI g2 := d2
    obtain ⟨c1, g1, c2, c3, c4⟩ := be_m hD mq' b.2.2.2 x5.2.2.2.1 (w := w + we i) (by omega) D 0 fF 0 (by omega) (fF_gt (by omega)) (by decide) (fun j hj => absurd hj (by omega))
    have c1 : pX12_bigEnough ν' (nI g) (nI (w + we i)) := c1
    have c2 : gX12_bigEnough ν' (nI g) (nI (w + we i)) = nI g1 := c2
    have es : nI s = nI (sh i) ↔ s = sh i := nI_eq (by omega) (by omega)
    have ed : nI u ≤ nI (du i) ↔ u ≤ du i := nI_leI (by omega) (by omega)
    have vk : vp_in (nI k) 10 := vp_in_nI (by omega) (by decide)
    have vi : vp_in (nI i) 10 := vp_in_nI (by omega) (by decide)
    simp only [mX12_part_h45, qX12_part_h45, g32, if_neg e1, nI_clamp ck, nI_clamp ci, x1', x2', x3', x4', o0, o1, o2, a4, nI_add, c2, d2, and_i, es, ed, nI_1]
    have skip : (∀ M h', (∀ j, j < i → h' j = h j) → h' i = k → SpN D n L day dk dh du sh we he (fun _ => true) M h' → F ≤ M) → ∀ M h', (∀ j, j < i → h' j = h j) → h' i < k + 1 → SpN D n L day dk dh du sh we he (fun _ => true) M h' → F ≤ M := fun z M h' ex hl sp => by
      by_cases y : h' i = k
      · exact z M h' ex y sp
      · exact hF3 M h' ex (by omega) sp
    by_cases q1 : s = sh i
    · by_cases q2 : g1 &&& g2 = 0
      · have qz : nI (g1 &&& g2) = 0 := by rw [q2]; rfl
        simp only [if_pos q1, if_pos qz]
        obtain ⟨k1, k2⟩ := ih (k + 1) ff ν' F (by omega) (by omega) fr h33 hF1 hF2 (skip (fun M h' ex hk sp => by
          obtain ⟨-, d, y1, y2, y3⟩ := Bk_g x5 hi ex hk sp
          have t1 := (c4 d y1).mpr y2
          have t2 := (d4 d y1).mpr ⟨y3, by omega⟩
          have : (g1 &&& g2).testBit d = true := by rw [Nat.testBit_and, t1, t2]; rfl
          rw [q2, Nat.zero_testBit] at this
          exact absurd this (by decide)))
        exact ⟨⟨fun z => absurd z e1, fun _ => ⟨vk, p1, fun _ => ⟨vk, vk, vk, p2, c1, p0, d1, fun z => absurd qz z, fun _ => k1⟩, fun z => absurd q1 z⟩⟩, k2⟩
      · have gl : g1 &&& g2 < 2 ^ D := Nat.and_lt_two_pow _ d3
        have qz : ¬ nI (g1 &&& g2) = 0 := fun z => q2 (nI_inj (b := 0) (by omega) (by omega) z)
        simp only [if_pos q1, if_neg qz]
        have bk' := Bk_a (g' := g1 &&& g2) x5 q1.symm gl q2 (fun d hd => by
          rw [Nat.testBit_and, Bool.and_eq_true, c4 d hd, d4 d hd]
          exact ⟨fun z => ⟨z.1, z.2.1⟩, fun z => ⟨z.1, z.2, by omega⟩⟩)
        have go : ∀ ν1, frL (fun a j => 13 ≤ a ∧ a ≤ 15 ∧ j = k) fN ν' ν1 → fI ν1 13 k = nI (w + we i) → fI ν1 14 k = nI (if u ≤ du i then u else du i) → fI ν1 15 k = nI (g1 &&& g2) →
            puX12_part f 0 ν1 (nI (i + 1)) ∧ qX12_part_h45 (guX12_part f) (puX12_part f) ff (fm_i (fm_i (fm_i (guX12_part f 0 ν1 (nI (i + 1))) 13 k (nI w)) 14 k (nI u)) 15 k (nI g)) (nI i) (nI (tk i)) (nI (k + 1)) ∧ frL (fPm m) fN ν (mX12_part_h45 (guX12_part f) ff (fm_i (fm_i (fm_i (guX12_part f 0 ν1 (nI (i + 1))) 13 k (nI w)) 14 k (nI u)) 15 k (nI g)) (nI i) (nI (tk i)) (nI (k + 1))) ∧ ∃ F', fI (mX12_part_h45 (guX12_part f) ff (fm_i (fm_i (fm_i (guX12_part f 0 ν1 (nI (i + 1))) 13 k (nI w)) 14 k (nI u)) 15 k (nI g)) (nI i) (nI (tk i)) (nI (k + 1))) 0 33 = nI F' ∧ F' ≤ F0 ∧ (F' < F0 → ∃ h', (∀ j, j < i → h' j = h j) ∧ SpN D n L day dk dh du sh we he (fun _ => true) F' h') ∧ ∀ M h', (∀ j, j < i → h' j = h j) → SpN D n L day dk dh du sh we he (fun _ => true) M h' → F' ≤ M := by
          intro ν1 fr1 v13 v14 v15
          have fa : ∀ a j, 13 ≤ a ∧ a ≤ 15 ∧ j = k → fPa a j := fun a j z => by unfold fPa; omega
          have ld1 : LdN D m (i + 1) dk dh du sh we he (upN h i k) ν1 := by
            refine ⟨by rw [fr1.2.2.2 0 32 (by omega)]; exact g32, by omega, fun j hj => ?_, fun k' hk' => ?_⟩
            · by_cases z : j = i
              · rw [z, upi]; omega
              · rw [upe k j (by omega)]
                exact l3 j (by omega)
            · by_cases z : k' = k
              · rw [z]
                exact ⟨s, w + we i, (if u ≤ du i then u else du i), g1 &&& g2, by rw [fr1.2.2.2 12 k (by omega)]; exact x1', v13, v14, v15, bk'⟩
              · obtain ⟨s', w', u', g'', y1, y2, y3, y4, y5⟩ := l4 k' hk'
                refine ⟨s', w', u', g'', ?_, ?_, ?_, ?_, Bk_o z y5⟩
                · rw [fr1.2.2.2 12 k' (by omega), fr.2.2.2 12 k' (by unfold fPm; omega)]; exact y1
                · rw [fr1.2.2.2 13 k' (by omega), fr.2.2.2 13 k' (by unfold fPm; omega)]; exact y2
                · rw [fr1.2.2.2 14 k' (by omega), fr.2.2.2 14 k' (by unfold fPm; omega)]; exact y3
                · rw [fr1.2.2.2 15 k' (by omega), fr.2.2.2 15 k' (by unfold fPm; omega)]; exact y4
          obtain ⟨r1, r2, F', r3, r4, r5, r6⟩ := po ν1 (upN h i k) m F (MQ_f mq' fr1 fa) (MH_f mh' fr1 fa) (by rw [fr1.2.2.2 0 34 (by omega), fr.2.2.2 0 34 (by unfold fPm; omega)]; exact hda) ld1 (by rw [fr1.2.2.2 0 33 (by omega)]; exact h33) (by omega)
          have frV : frL (fPm m) fN ν (fm_i (fm_i (fm_i (guX12_part f 0 ν1 (nI (i + 1))) 13 k (nI w)) 14 k (nI u)) 15 k (nI g)) := by
            refine ⟨(r2.1.trans fr1.1).trans fr.1, (r2.2.1.trans fr1.2.1).trans fr.2.1, fun a j z => ((r2.2.2.1 a j z).trans (fr1.2.2.1 a j z)).trans (fr.2.2.1 a j z), fun a j z => ?_⟩
            rw [fI_i]
            by_cases y : a = 15 ∧ j = k
            · rw [if_pos y, y.1, y.2]; exact x4.symm
            · rw [if_neg y, fI_i]
              by_cases y2 : a = 14 ∧ j = k
              · rw [if_pos y2, y2.1, y2.2]; exact x3.symm
              · rw [if_neg y2, fI_i]
                by_cases y3 : a = 13 ∧ j = k
                · rw [if_pos y3, y3.1, y3.2]; exact x2.symm
                · rw [if_neg y3, r2.2.2.2 a j z, fr1.2.2.2 a j (by omega)]
                  exact fr.2.2.2 a j z
          obtain ⟨t1, t2⟩ := ih (k + 1) ff _ F' (by omega) (by omega) frV (by rw [fI_i, if_neg (by omega), fI_i, if_neg (by omega), fI_i, if_neg (by omega)]; exact r3) (by omega) (fun z => by
            by_cases y : F' < F
            · obtain ⟨h', y1, y2⟩ := r5 y
              exact ⟨h', fun j hj => (y1 j (by omega)).trans (upe k j hj), y2⟩
            · obtain rfl : F' = F := by omega
              exact hF2 z) (fun M h' ex hl sp => by
            by_cases y : h' i = k
            · refine r6 M h' (fun j hj => ?_) sp
              by_cases z : j = i
              · rw [z, upi]; exact y
              · rw [upe k j (by omega)]; exact ex j (by omega)
            · exact Nat.le_trans r4 (hF3 M h' ex (by omega) sp))
          exact ⟨r1, t1, t2⟩
        by_cases q3 : u ≤ du i
        · simp only [if_pos q3]
          obtain ⟨t1, t2, t3⟩ := go (fm_i (fm_i ν' 13 k (nI (w + we i))) 15 k (nI (g1 &&& g2))) (((frL.rf _ fN ν').i ⟨by omega, by omega, rfl⟩).i ⟨by omega, by omega, rfl⟩) (by rw [fI_i, if_neg (by omega), fI_i, if_pos ⟨rfl, rfl⟩]) (by rw [if_pos q3, fI_i, if_neg (by omega), fI_i, if_neg (by omega)]; exact x3') (by rw [fI_i, if_pos ⟨rfl, rfl⟩])
          exact ⟨⟨fun z => absurd z e1, fun _ => ⟨vk, p1, fun _ => ⟨vk, vk, vk, p2, c1, p0, d1, fun _ => ⟨p2, vk, vk, vi, fun _ => ⟨t1, vk, vk, vk, t2⟩, fun z => absurd q3 z⟩, fun z => absurd z qz⟩, fun z => absurd q1 z⟩⟩, t3⟩
        · simp only [if_neg q3]
          obtain ⟨t1, t2, t3⟩ := go (fm_i (fm_i (fm_i ν' 13 k (nI (w + we i))) 15 k (nI (g1 &&& g2))) 14 k (nI (du i))) ((((frL.rf _ fN ν').i ⟨by omega, by omega, rfl⟩).i ⟨by omega, by omega, rfl⟩).i ⟨by omega, by omega, rfl⟩) (by rw [fI_i, if_neg (by omega), fI_i, if_neg (by omega), fI_i, if_pos ⟨rfl, rfl⟩]) (by rw [if_neg q3, fI_i, if_pos ⟨rfl, rfl⟩]) (by rw [fI_i, if_neg (by omega), fI_i, if_pos ⟨rfl, rfl⟩])
          exact ⟨⟨fun z => absurd z e1, fun _ => ⟨vk, p1, fun _ => ⟨vk, vk, vk, p2, c1, p0, d1, fun _ => ⟨p2, vk, vk, vi, fun z => absurd z q3, fun _ => ⟨vi, vk, t1, vk, vk, vk, t2⟩⟩, fun z => absurd z qz⟩, fun z => absurd q1 z⟩⟩, t3⟩
    · simp only [if_neg q1]
      obtain ⟨k1, k2⟩ := ih (k + 1) ff ν' F (by omega) (by omega) fr h33 hF1 hF2 (skip (fun M h' ex hk sp => absurd (Bk_g x5 hi ex hk sp).1.symm q1))
      exact ⟨⟨fun z => absurd z e1, fun _ => ⟨vk, p1, fun z => absurd z q1, fun _ => k1⟩⟩, k2⟩
theorem po_ok (b : BDp D n dk dh du sh we he) (hL : 0 < L) (hL2 : L ≤ 4) (hday : day ≤ 199) : ∀ (c i f : Nat), i + c = n → c < f → PoN D n L day dk dh du sh we he tk cl f i := by
  have hn := b.1
  have mM : ∀ {ν : fm_T} {h : Nat → Nat} {m i : Nat}, i ≤ n → LdN D m i dk dh du sh we he h ν → ∀ M h', (∀ j, j < i → h' j = h j) → SpN D n L day dk dh du sh we he (fun _ => true) M h' → m ≤ M := fun {ν h m i} hi ld M h' ex sp => by
    cases m with
    | zero => exact Nat.zero_le _
    | succ m =>
      obtain ⟨s, w, u, g, -, -, -, -, ⟨j, j1, j2, -⟩, -⟩ := ld.2.2.2 m (by omega)
      have := sp.1 j (by omega) rfl
      rw [ex j j1, j2] at this
      omega
  intro c
  induction c with
  | zero =>
    intro i f h1 h2 ν h m F mq mh hda ld h33 hF
    obtain ⟨f, rfl⟩ : ∃ g, f = g + 1 := ⟨f - 1, by omega⟩
    obtain rfl : i = n := by omega
    obtain ⟨l1, l2, l3, l4⟩ := ld
    have lt : nI m < nI F ↔ m < F := nI_ltI (by omega) (by omega)
    have exl : ∀ k, ∃ u, k < m → fI ν 14 k = nI u ∧ u ≤ 1000 ∧ ∀ x, (u ≤ x ↔ hdN i du (fun _ => true) h x k = true) := fun k => by
      by_cases q : k < m
      · obtain ⟨s, w, u, g, -, -, x3, -, x5⟩ := l4 k q
        have bb := Bk_bd b (Nat.le_refl _) x5
        obtain ⟨⟨j, j1, j2, j3⟩, b2, -⟩ := x5
        exact ⟨u, fun _ => ⟨x3, by omega, fun x => ⟨fun z => hd_iff.mpr ⟨j, j1, rfl, j2, by omega⟩, fun z => by
          obtain ⟨j', y1, -, y3, y4⟩ := hd_iff.mp z
          have := (b2 j' y1 y3).2
          omega⟩⟩⟩
      · exact ⟨0, fun z => absurd z q⟩
    have ldu := fun k => Classical.choose_spec (exl k)
    generalize hld : (fun k => Classical.choose (exl k)) = ldf
    have ldu : ∀ k, k < m → fI ν 14 k = nI (ldf k) ∧ ldf k ≤ 1000 ∧ ∀ x, (ldf k ≤ x ↔ hdN i du (fun _ => true) h x k = true) := fun k hk => by rw [← hld]; exact ldu k hk
    have ec : ∀ x, ctS ldf m x = cnN i du (fun _ => true) h m x := fun x => sm_cg m (fun k hk => by
      have := (ldu k hk).2.2 x
      by_cases z : ldf k ≤ x
      · rw [if_pos z, if_pos (this.mp z)]
      · rw [if_neg z, if_neg (fun y => z (this.mpr y))])
    obtain ⟨c1, c2, c3⟩ := cb_ok (ld := ldf) (by omega) hL hL2 hday l1 hda mq.2.1 (fun k hk => ⟨(ldu k hk).1, (ldu k hk).2.1⟩)
    have spm : (∀ x, ctS ldf m x ≤ L * (x + 1 - day)) → SpN D i L day dk dh du sh we he (fun _ => true) m h := fun z => by
      refine ⟨fun j hj _ => l3 j hj, fun k hk => ?_, fun k hk => ?_, fun x => by rw [← ec]; exact z x⟩
      · obtain ⟨s, w, u, g, -, -, -, -, ⟨j, j1, j2, -⟩, -⟩ := l4 k hk
        exact ⟨j, j1, bk_iff.mpr ⟨rfl, j2⟩⟩
      · obtain ⟨s, w, u, g, -, -, -, -, -, b2, b3, b4, b5, b6⟩ := l4 k hk
        obtain ⟨d, d1, d2⟩ := tb_ex b4 b5
        obtain ⟨y1, y2⟩ := (b6 d d1).mp d2
        refine ⟨fun p q hp hq a c => (b2 p hp (bk_iff.mp a).2).1.trans (b2 q hq (bk_iff.mp c).2).1.symm, d, d1, fun p hp a => y1 p hp (bk_iff.mp a).2, ?_⟩
        have : sm (fun j => if bkN (fun _ => true) h k j = true then we j else 0) i = w := by
          rw [b3]
          exact sm_cg i (fun j hj => by
            by_cases z : h j = k
            · rw [if_pos z, if_pos (bk_iff.mpr ⟨rfl, z⟩)]
            · rw [if_neg z, if_neg (fun y => z (bk_iff.mp y).2)])
        rw [this]
        exact y2
    have eqM : ∀ M h', (∀ j, j < i → h' j = h j) → SpN D i L day dk dh du sh we he (fun _ => true) M h' → M = m ∧ SpN D i L day dk dh du sh we he (fun _ => true) m h := fun M h' ex sp => by
      have a1 := mM (Nat.le_refl _) ⟨l1, l2, l3, l4⟩ M h' ex sp
      have a2 : M ≤ m := by
        apply Decidable.byContradiction
        intro z
        obtain ⟨j, j1, j2⟩ := sp.2.1 m (by omega)
        have j2 := (bk_iff.mp j2).2
        rw [ex j j1] at j2
        have := l3 j j1
        omega
      have e : M = m := by omega
      subst e
      exact ⟨rfl, SP_h (fun j hj => (ex j hj).symm) sp⟩
    simp only [puX12_part, guX12_part, pX12_part, uX12_part, l1, h33, lt, mh.1]
    by_cases q : m < F
    · simp only [if_pos q, if_true]
      by_cases g0 : gX12_canBeDone ν = 0
      · simp only [if_pos g0]
        refine ⟨fun _ => ⟨fun z => absurd trivial z, fun _ => c1⟩, c2.mo (fun a j z => Or.inr (Or.inl z)) (fun _ _ z => z), F, ?_, Nat.le_refl _, fun z => absurd z (by omega), fun M h' ex sp => ?_⟩
        · rw [c2.2.2.2 0 33 (by unfold f16; omega)]; exact h33
        · have s := (eqM M h' ex sp).2
          exact absurd g0 (c3.mpr (fun x => by rw [ec]; exact s.2.2.2 x))
      · simp only [if_neg g0]
        have r32 : fI (uX12_canBeDone ν) 0 32 = nI m := by rw [c2.2.2.2 0 32 (by unfold f16; omega)]; exact l1
        rw [r32]
        refine ⟨fun _ => ⟨fun z => absurd trivial z, fun _ => c1⟩, (c2.mo (fun a j z => Or.inr (Or.inl z)) (fun _ _ z => z)).i (Or.inr (Or.inr ⟨rfl, rfl⟩)), m, ?_, by omega, fun _ => ⟨h, fun _ _ => rfl, spm (c3.mp g0)⟩, fun M h' ex sp => ?_⟩
        · rw [fI_i, if_pos ⟨rfl, rfl⟩]
        · have := (eqM M h' ex sp).1
          omega
    · simp only [if_neg q]
      exact ⟨fun z => absurd z q, frL.rf _ _ _, F, h33, Nat.le_refl _, fun z => absurd z (by omega), fun M h' ex sp => by
        have := mM (Nat.le_refl _) ⟨l1, l2, l3, l4⟩ M h' ex sp
        omega⟩
  | succ c ih =>
    intro i f h1 h2 ν h m F mq mh hda ld h33 hF
    obtain ⟨f, rfl⟩ : ∃ g, f = g + 1 := ⟨f - 1, by omega⟩
    have hi : i < n := by omega
    have po := ih (i + 1) f (by omega) (by omega)
    have lt : nI m < nI F ↔ m < F := nI_ltI (by have := ld.2.1; omega) (by omega)
    have ne : ¬ nI i = nI n := fun z => by have := nI_inj (by omega) (by omega) z; omega
    have ci : i < 2 ^ 31 := by omega
    have t9 := (mh.2 i hi).2.2.1
    have mm := ld.2.1
    simp only [puX12_part, guX12_part, pX12_part, uX12_part, ld.1, h33, lt, mh.1, if_neg ne, nI_clamp ci, t9]
    by_cases q : m < F
    · simp only [if_pos q]
      obtain ⟨k1, k2, F', k3, k4, k5, k6⟩ := pt_45 b hi po mq mh hda ld hF m 0 fF ν F (by omega) (fF_gt (by omega)) (frL.rf _ _ _) h33 (Nat.le_refl _) (fun z => absurd z (by omega)) (fun M h' _ z => absurd z (by omega))
      rw [show nI 0 = 0 from rfl] at k1 k2 k3
      exact ⟨fun _ => ⟨fun _ => ⟨vp_in_nI (by omega) (by decide), k1⟩, fun z => absurd z ne⟩, k2, F', k3, k4, k5, k6⟩
    · simp only [if_neg q]
      exact ⟨fun z => absurd z q, frL.rf _ _ _, F, h33, Nat.le_refl _, fun z => absurd z (by omega), fun M h' ex sp => by
        have := mM (by omega) ld M h' ex sp
        omega⟩
theorem fwm_ok (b : BDp D n dk dh du sh we he) (hL : 0 < L) (hL2 : L ≤ 4) (hday : day ≤ 199) {ν : fm_T} (mq : MqN D L dk dh ν) (mh : MhN n tk cl du sh we he ν) : pX12_fewestFrom ν (nI day) ∧ frL fPa fN ν (uX12_fewestFrom ν (nI day)) ∧ ResP D n L day dk dh du sh we he (gX12_fewestFrom ν (nI day)) := by
  have hn := b.1
  have fr : frL fPa fN ν (fm_i (fm_i (fm_i ν 0 34 (nI day)) 0 32 0) 0 33 (nI (n + 1))) := (((frL.rf fPa fN ν).i (Or.inr ⟨rfl, by omega⟩)).i (Or.inr ⟨rfl, by omega⟩)).i (Or.inr ⟨rfl, by omega⟩)
  obtain ⟨r1, r2, F, r3, r4, r5, r6⟩ := po_ok (tk := tk) (cl := cl) b hL hL2 hday n 0 fD (by omega) (by rw [fD_eq]; omega) _ (fun _ => 0) 0 (n + 1) (MQ_f mq fr (fun _ _ z => z)) (MH_f mh fr (fun _ _ z => z)) (by rw [fI_i, if_neg (by omega), fI_i, if_neg (by omega), fI_i, if_pos ⟨rfl, rfl⟩]) ⟨by rw [fI_i, if_neg (by omega), fI_i, if_pos ⟨rfl, rfl⟩]; rfl, Nat.le_refl _, fun j hj => absurd hj (by omega), fun k hk => absurd hk (by omega)⟩ (by rw [fI_i, if_pos ⟨rfl, rfl⟩]) (Nat.le_refl _)
  rw [show nI 0 = 0 from rfl] at r1 r2 r3
  unfold pX12_fewestFrom uX12_fewestFrom gX12_fewestFrom
  rw [mh.1, nI_1]
  generalize hU : guX12_part fD 0 (fm_i (fm_i (fm_i ν 0 34 (nI day)) 0 32 0) 0 33 (nI (n + 1))) 0 = U at r2 r3
  have fU : frL fPa fN ν U := fr.tr (r2.mo (fun _ _ z => fPm_a z) (fun _ _ z => z))
  have r31 : fI U 0 31 = nI n := by rw [fU.2.2.2 0 31 (by unfold fPa; omega)]; exact mh.1
  have le : nI F ≤ nI n ↔ F ≤ n := nI_leI (by omega) (by omega)
  rw [r3, r31]
  simp only [le]
  refine ⟨r1, by split <;> exact fU, ?_⟩
  by_cases q : F ≤ n
  · rw [if_pos q]
    obtain ⟨h', -, y2⟩ := r5 (by omega)
    exact Or.inl ⟨F, h', q, rfl, y2, fun M h'' sp => r6 M h'' (fun j hj => absurd hj (by omega)) sp⟩
  · rw [if_neg q]
    exact Or.inr ⟨rfl, fun M h'' sp => by
      have h1 := r6 M h'' (fun j hj => absurd hj (by omega)) sp
      have h2 := SP_M sp
      omega⟩
end
