def swN (a b k : Nat) : Nat := if k = a then b else if k = b then a else k
theorem sw_e {a b k j : Nat} : swN a b j = k ↔ j = swN a b k := by
  unfold swN
  constructor <;> (intro h; repeat' split at h) <;> (repeat' split) <;> omega
theorem sm_sw {f : Nat → Nat} {a b M : Nat} (ha : a < M) (hb : b < M) : sm (fun k => f (swN a b k)) M = sm f M := by
  by_cases q : a = b
  · exact sm_cg M (fun k hk => by
      have : swN a b k = k := by unfold swN; repeat' split
                                 all_goals omega
      rw [this])
  · have s1 : sm (fun k => if k = b then 0 else f k) M = sm (fun k => if k = a ∨ k = b then 0 else f k) M + f a := sm_one M ha (fun j hj hja => by
      by_cases w : j = b
      · rw [if_pos w, if_pos (Or.inr w)]
      · rw [if_neg w, if_neg (fun z => z.elim hja w)]) (by rw [if_neg q, if_pos (Or.inl rfl), Nat.zero_add])
    have s2 : sm f M = sm (fun k => if k = b then 0 else f k) M + f b := sm_one M hb (fun j hj hjb => by rw [if_neg hjb]) (by rw [if_pos rfl, Nat.zero_add])
    have s3 : sm (fun k => if k = b then 0 else f (swN a b k)) M = sm (fun k => if k = a ∨ k = b then 0 else f k) M + f b := sm_one M ha (fun j hj hja => by
      by_cases w : j = b
      · rw [if_pos w, if_pos (Or.inr w)]
      · rw [if_neg w, if_neg (fun z => z.elim hja w)]
        unfold swN
        rw [if_neg hja, if_neg w]) (by
      rw [if_neg q, if_pos (Or.inl rfl), Nat.zero_add]
      unfold swN
      rw [if_pos rfl])
    have s4 : sm (fun k => f (swN a b k)) M = sm (fun k => if k = b then 0 else f (swN a b k)) M + f a := sm_one M hb (fun j hj hjb => by rw [if_neg hjb]) (by
      rw [if_pos rfl, Nat.zero_add]
      have : swN a b b = a := by unfold swN; rw [if_neg (fun z => q z.symm), if_pos rfl]
      rw [this])
    omega
theorem sm_x {f : Nat → Nat} {i : Nat} : ∀ n, i ≤ n → sm f i ≤ sm f n
  | 0, h => by rw [show i = 0 by omega]; exact Nat.le_refl _
  | n + 1, h => by
    by_cases q : i = n + 1
    · rw [q]; exact Nat.le_refl _
    · have := sm_x (f := f) (i := i) n (by omega)
      exact Nat.le_trans this (Nat.le_add_right _ _)
theorem sm_ins {f : Nat → Nat} {y p : Nat} : ∀ k, p ≤ k → sm (fun i => if i < p then f i else if i = p then y else f (i - 1)) (k + 1) = sm f k + y
  | 0, h => by
    obtain rfl : p = 0 := by omega
    unfold sm sm
    simp
  | k + 1, h => by
    by_cases q : p = k + 1
    · have : sm (fun i => if i < p then f i else if i = p then y else f (i - 1)) (k + 1) = sm f (k + 1) := sm_cg (k + 1) (fun i hi => by rw [if_pos (by omega)])
      show sm (fun i => if i < p then f i else if i = p then y else f (i - 1)) (k + 1) + (if k + 1 < p then f (k + 1) else if k + 1 = p then y else f (k + 1 - 1)) = sm f (k + 1) + y
      rw [this, if_neg (by omega), if_pos q.symm]
    · have := sm_ins (f := f) (y := y) (p := p) k (by omega)
      show sm (fun i => if i < p then f i else if i = p then y else f (i - 1)) (k + 1) + (if k + 1 < p then f (k + 1) else if k + 1 = p then y else f (k + 1 - 1)) = sm f k + f k + y
      rw [this, if_neg (by omega), if_neg (by omega)]
      simp only [Nat.add_sub_cancel]
      omega
def ctS (a : Nat → Nat) (m x : Nat) : Nat := sm (fun i => if a i ≤ x then 1 else 0) m
theorem ct_le {a : Nat → Nat} {x : Nat} : ∀ m, ctS a m x ≤ m
  | 0 => Nat.le_refl _
  | m + 1 => by
    have := ct_le (a := a) (x := x) m
    unfold ctS at this ⊢
    unfold sm
    split <;> omega
theorem ct_s {a : Nat → Nat} {x : Nat} : ∀ m, (∀ i j, i ≤ j → j < m → a i ≤ a j) → ∀ i, i < m → (a i ≤ x ↔ i < ctS a m x)
  | 0, _, i, hi => by omega
  | m + 1, so, i, hi => by
    have ih := ct_s (x := x) m (fun i j h1 h2 => so i j h1 (by omega))
    have cl := ct_le (a := a) (x := x) m
    have e : ctS a (m + 1) x = ctS a m x + (if a m ≤ x then 1 else 0) := rfl
    rw [e]
    by_cases q : a m ≤ x
    · rw [if_pos q]
      have h1 := so i m (by omega) (by omega)
      have : m ≤ ctS a m x := by
        cases m with
        | zero => exact Nat.zero_le _
        | succ m => have := (ih m (by omega)).mp (by have := so m (m + 1) (by omega) (by omega); omega); omega
      omega
    · rw [if_neg q]
      by_cases w : i = m
      · rw [w]; omega
      · have := ih i (by omega); omega
theorem ck_iff {a : Nat → Nat} {m L day : Nat} (hL : 0 < L) (so : ∀ i j, i ≤ j → j < m → a i ≤ a j) : (∀ k, k < m → day + k / L ≤ a k) ↔ ∀ x, ctS a m x ≤ L * (x + 1 - day) := by
  constructor
  · intro h x
    have cl := ct_le (a := a) (x := x) m
    by_cases q : ctS a m x = 0
    · omega
    · have h1 := (ct_s (x := x) m so (ctS a m x - 1) (by omega)).mpr (by omega)
      have h2 := h (ctS a m x - 1) (by omega)
      have h3 : (ctS a m x - 1) / L < x + 1 - day := by omega
      rw [Nat.div_lt_iff_lt_mul hL, Nat.mul_comm] at h3
      omega
  · intro h k hk
    have h1 := (ct_s (x := a k) m so k hk).mp (Nat.le_refl _)
    have h2 := h (a k)
    have h3 : k < (a k + 1 - day) * L := by rw [Nat.mul_comm]; omega
    rw [← Nat.div_lt_iff_lt_mul hL] at h3
    have := Nat.zero_le (k / L)
    omega
def upN (h : Nat → Nat) (i c : Nat) : Nat → Nat := fun j => if j = i then c else h j
def BkN (D : Nat) (dk dh du sh we he h : Nat → Nat) (i k s w u g : Nat) : Prop := (∃ j, j < i ∧ h j = k ∧ du j = u) ∧ (∀ j, j < i → h j = k → sh j = s ∧ u ≤ du j) ∧ w = sm (fun j => if h j = k then we j else 0) i ∧ g < 2 ^ D ∧ g ≠ 0 ∧ ∀ d, d < D → (g.testBit d = true ↔ (∀ j, j < i → h j = k → dh d ≤ he j) ∧ w ≤ 10 * dk d)
section
variable {D n L day : Nat} {dk dh du sh we he : Nat → Nat}
theorem SP_h {X : Nat → Bool} {M : Nat} {h h' : Nat → Nat} (hh : ∀ i, i < n → h' i = h i) (s : SpN D n L day dk dh du sh we he X M h) : SpN D n L day dk dh du sh we he X M h' := by
  obtain ⟨s1, s2, s3, s4⟩ := s
  have eb : ∀ k i, i < n → bkN X h' k i = bkN X h k i := fun k i hi => by unfold bkN; rw [hh i hi]
  refine ⟨fun i hi a => by rw [hh i hi]; exact s1 i hi a, fun k hk => ?_, fun k hk => FT2_mo (s3 k hk) (fun i hi a => by rw [← eb k i hi]; exact a), fun v => ?_⟩
  · obtain ⟨i, i1, i2⟩ := s2 k hk
    exact ⟨i, i1, by rw [eb k i i1]; exact i2⟩
  · have : cnN n du X h' M v = cnN n du X h M v := sm_cg M (fun k hk => by
      have : hdN n du X h' v k = hdN n du X h v k := an_cg n (fun i hi => by rw [eb k i hi])
      rw [this])
    rw [this]
    exact s4 v
theorem SP_sw {X : Nat → Bool} {M a b : Nat} {h : Nat → Nat} (ha : a < M) (hb : b < M) (s : SpN D n L day dk dh du sh we he X M h) : SpN D n L day dk dh du sh we he X M (fun j => swN a b (h j)) := by
  obtain ⟨s1, s2, s3, s4⟩ := s
  have sl : ∀ k, k < M → swN a b k < M := fun k hk => by unfold swN; repeat' split
                                                         all_goals omega
  have eb : ∀ k, bkN X (fun j => swN a b (h j)) k = bkN X h (swN a b k) := fun k => by
    funext i
    apply Bool.eq_iff_iff.mpr
    rw [bk_iff, bk_iff, sw_e]
  refine ⟨fun i hi z => sl _ (s1 i hi z), fun k hk => ?_, fun k hk => ?_, fun v => ?_⟩
  · obtain ⟨i, i1, i2⟩ := s2 (swN a b k) (sl k hk)
    exact ⟨i, i1, by rw [eb]; exact i2⟩
  · rw [eb]; exact s3 _ (sl k hk)
  · have : cnN n du X (fun j => swN a b (h j)) M v = cnN n du X h M v := by
      unfold cnN
      have e : (fun k => if hdN n du X (fun j => swN a b (h j)) v k = true then 1 else 0) = fun k => (fun k => if hdN n du X h v k = true then 1 else 0) (swN a b k) := by
        funext k
        have : hdN n du X (fun j => swN a b (h j)) v k = hdN n du X h v (swN a b k) := by unfold hdN; rw [eb]
        rw [this]
      rw [e]
      exact sm_sw (f := fun k => if hdN n du X h v k = true then 1 else 0) ha hb
    rw [this]
    exact s4 v
theorem Bk_o {h : Nat → Nat} {i k c s w u g : Nat} (hk : k ≠ c) (b : BkN D dk dh du sh we he h i k s w u g) : BkN D dk dh du sh we he (upN h i c) (i + 1) k s w u g := by
  obtain ⟨⟨j, j1, j2, j3⟩, b2, b3, b4, b5, b6⟩ := b
  have e : ∀ j, j < i → upN h i c j = h j := fun j hj => by unfold upN; rw [if_neg (by omega)]
  have ei : upN h i c i = c := by unfold upN; rw [if_pos rfl]
  have mm : ∀ j, j < i + 1 → upN h i c j = k → j < i ∧ h j = k := fun j hj z => by
    by_cases q : j = i
    · rw [q, ei] at z; exact absurd z.symm hk
    · rw [e j (by omega)] at z; exact ⟨by omega, z⟩
  refine ⟨⟨j, by omega, by rw [e j j1]; exact j2, j3⟩, fun j hj z => b2 j (mm j hj z).1 (mm j hj z).2, ?_, b4, b5, fun d hd => ?_⟩
  · have : sm (fun j => if upN h i c j = k then we j else 0) (i + 1) = sm (fun j => if upN h i c j = k then we j else 0) i + (if upN h i c i = k then we i else 0) := rfl
    rw [this, ei, if_neg (fun z => hk z.symm), b3]
    exact sm_cg i (fun j hj => by rw [e j hj])
  · rw [b6 d hd]
    exact ⟨fun ⟨z1, z2⟩ => ⟨fun j hj y => z1 j (mm j hj y).1 (mm j hj y).2, z2⟩, fun ⟨z1, z2⟩ => ⟨fun j hj y => z1 j (by omega) (by rw [e j hj]; exact y), z2⟩⟩
theorem Bk_a {h : Nat → Nat} {i k s w u g g' : Nat} (b : BkN D dk dh du sh we he h i k s w u g) (hs : sh i = s) (g1 : g' < 2 ^ D) (g2 : g' ≠ 0) (g3 : ∀ d, d < D → (g'.testBit d = true ↔ (g.testBit d = true ∧ w + we i ≤ 10 * dk d) ∧ dh d ≤ he i)) : BkN D dk dh du sh we he (upN h i k) (i + 1) k s (w + we i) (if u ≤ du i then u else du i) g' := by
  obtain ⟨⟨j, j1, j2, j3⟩, b2, b3, b4, b5, b6⟩ := b
  have e : ∀ j, j < i → upN h i k j = h j := fun j hj => by unfold upN; rw [if_neg (by omega)]
  have ei : upN h i k i = k := by unfold upN; rw [if_pos rfl]
  refine ⟨?_, fun j hj z => ?_, ?_, g1, g2, fun d hd => ?_⟩
  · by_cases q : u ≤ du i
    · exact ⟨j, by omega, by rw [e j j1]; exact j2, by rw [if_pos q]; exact j3⟩
    · exact ⟨i, by omega, ei, by rw [if_neg q]⟩
  · by_cases q : j = i
    · rw [q]; exact ⟨hs, by split <;> omega⟩
    · rw [e j (by omega)] at z
      obtain ⟨z1, z2⟩ := b2 j (by omega) z
      exact ⟨z1, by split <;> omega⟩
  · have : sm (fun j => if upN h i k j = k then we j else 0) (i + 1) = sm (fun j => if upN h i k j = k then we j else 0) i + (if upN h i k i = k then we i else 0) := rfl
    rw [this, ei, if_pos rfl, b3]
    congr 1
    exact sm_cg i (fun j hj => by rw [e j hj])
  · rw [g3 d hd, b6 d hd]
    constructor
    · rintro ⟨⟨⟨z1, z2⟩, z3⟩, z4⟩
      refine ⟨fun j hj y => ?_, z3⟩
      by_cases q : j = i
      · rw [q]; exact z4
      · rw [e j (by omega)] at y; exact z1 j (by omega) y
    · rintro ⟨z1, z2⟩
      exact ⟨⟨⟨fun j hj y => z1 j (by omega) (by rw [e j hj]; exact y), by omega⟩, z2⟩, z1 i (by omega) ei⟩
theorem Bk_n {h : Nat → Nat} {i m g' : Nat} (hm : ∀ j, j < i → h j < m) (g1 : g' < 2 ^ D) (g2 : g' ≠ 0) (g3 : ∀ d, d < D → (g'.testBit d = true ↔ dh d ≤ he i ∧ we i ≤ 10 * dk d)) : BkN D dk dh du sh we he (upN h i m) (i + 1) m (sh i) (we i) (du i) g' := by
  have e : ∀ j, j < i → upN h i m j = h j := fun j hj => by unfold upN; rw [if_neg (by omega)]
  have ei : upN h i m i = m := by unfold upN; rw [if_pos rfl]
  have mm : ∀ j, j < i + 1 → upN h i m j = m → j = i := fun j hj z => by
    by_cases q : j = i
    · exact q
    · rw [e j (by omega)] at z
      have := hm j (by omega)
      omega
  refine ⟨⟨i, by omega, ei, rfl⟩, fun j hj z => ?_, ?_, g1, g2, fun d hd => ?_⟩
  · rw [mm j hj z]; exact ⟨rfl, Nat.le_refl _⟩
  · have : sm (fun j => if upN h i m j = m then we j else 0) (i + 1) = sm (fun j => if upN h i m j = m then we j else 0) i + (if upN h i m i = m then we i else 0) := rfl
    rw [this, ei, if_pos rfl]
    have : sm (fun j => if upN h i m j = m then we j else 0) i = 0 := (sm_cg i (fun j hj => by
        have := hm j hj
        rw [e j hj, if_neg (by omega)])).trans (sm_z i)
    omega
  · rw [g3 d hd]
    exact ⟨fun ⟨z1, z2⟩ => ⟨fun j hj y => by rw [mm j hj y]; exact z1, z2⟩, fun ⟨z1, z2⟩ => ⟨z1 i (by omega) ei, z2⟩⟩
theorem tb_ex {g : Nat} (h : g < 2 ^ D) (h0 : g ≠ 0) : ∃ d, d < D ∧ g.testBit d = true := by
  apply Classical.byContradiction
  intro z
  apply h0
  apply Nat.eq_of_testBit_eq
  intro i
  rw [Nat.zero_testBit]
  by_cases q : i < D
  · cases w : g.testBit i
    · rfl
    · exact absurd ⟨i, q, w⟩ z
  · exact tb_o h (by omega)
theorem Bk_g {h h' : Nat → Nat} {i k M s w u g : Nat} (b : BkN D dk dh du sh we he h i k s w u g) (hi : i < n) (ex : ∀ j, j < i → h' j = h j) (hk : h' i = k) (sp : SpN D n L day dk dh du sh we he (fun _ => true) M h') : sh i = s ∧ ∃ d, d < D ∧ (g.testBit d = true ∧ w + we i ≤ 10 * dk d) ∧ dh d ≤ he i := by
  obtain ⟨⟨j, j1, j2, j3⟩, b2, b3, b4, b5, b6⟩ := b
  obtain ⟨f1, d, d1, d2, d3⟩ := sp.2.2.1 k (by rw [← hk]; exact sp.1 i hi rfl)
  have bi : bkN (fun _ => true) h' k i = true := bk_iff.mpr ⟨rfl, hk⟩
  have bj : ∀ j, j < i → h j = k → bkN (fun _ => true) h' k j = true := fun j hj z => bk_iff.mpr ⟨rfl, by rw [ex j hj]; exact z⟩
  have ws : w + we i ≤ sm (fun j => if bkN (fun _ => true) h' k j = true then we j else 0) n := by
    have h1 := sm_x (f := fun j => if bkN (fun _ => true) h' k j = true then we j else 0) (i := i + 1) n (by omega)
    have h2 : sm (fun j => if bkN (fun _ => true) h' k j = true then we j else 0) (i + 1) = sm (fun j => if bkN (fun _ => true) h' k j = true then we j else 0) i + (if bkN (fun _ => true) h' k i = true then we i else 0) := rfl
    have h3 : sm (fun j => if bkN (fun _ => true) h' k j = true then we j else 0) i = w := by
      rw [b3]
      exact sm_cg i (fun j hj => by
        by_cases z : h j = k
        · rw [if_pos z, if_pos (bj j hj z)]
        · rw [if_neg z, if_neg (fun y => z (by rw [← ex j hj]; exact (bk_iff.mp y).2))])
    rw [h2, h3, if_pos bi] at h1
    exact h1
  refine ⟨(f1 i j hi (by omega) bi (bj j j1 j2)).trans (b2 j j1 j2).1, d, d1, ⟨(b6 d d1).mpr ⟨fun j hj z => d2 j (by omega) (bj j hj z), by omega⟩, by omega⟩, d2 i hi bi⟩
theorem nw_g {h' : Nat → Nat} {i M : Nat} (hi : i < n) (sp : SpN D n L day dk dh du sh we he (fun _ => true) M h') : ∃ d, d < D ∧ dh d ≤ he i ∧ we i ≤ 10 * dk d := by
  obtain ⟨-, d, d1, d2, d3⟩ := sp.2.2.1 (h' i) (sp.1 i hi rfl)
  have bi : bkN (fun _ => true) h' (h' i) i = true := bk_iff.mpr ⟨rfl, rfl⟩
  have h1 := sm_x (f := fun j => if bkN (fun _ => true) h' (h' i) j = true then we j else 0) (i := i + 1) n (by omega)
  have h2 : sm (fun j => if bkN (fun _ => true) h' (h' i) j = true then we j else 0) (i + 1) = sm (fun j => if bkN (fun _ => true) h' (h' i) j = true then we j else 0) i + (if bkN (fun _ => true) h' (h' i) i = true then we i else 0) := rfl
  rw [h2, if_pos bi] at h1
  exact ⟨d, d1, d2 i hi bi, by omega⟩
end
