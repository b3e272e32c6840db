def lz_r (μ : fm_T) (r0 r1 : Nat) : Prop := μ.2.1 = shC r0 r1 ∧ ((μ.1 = 89 ∧ r0 = 2 ∧ r1 = 2) ∨ (μ.1 = 121 ∧ r0 = 92 ∧ r1 = 2) ∨ (μ.1 = 121 ∧ r0 = 2 ∧ r1 = 92) ∨ (μ.1 = 153 ∧ r0 = 92 ∧ r1 = 124) ∨ (μ.1 = 153 ∧ r0 = 124 ∧ r1 = 92))
def gX11_image (x1 : Int32) : Int32 := if x1 = 0 then 1 else if x1 = 1 then 1 else 0
noncomputable def uX11_image (r0 r1 : Nat) (μ : fm_T) (x1 : Int32) : fm_T := if x1 = 0 then (if r0 = 92 then uX10_copyFrom_89_8 μ else if r0 = 124 then uX10_copyFrom_121_8 μ else if μ.1 = 89 then uX10_copyFrom_89_8 (imgN 89 92 r1 μ) else uX10_copyFrom_121_8 (imgN 121 124 r1 μ)) else if x1 = 1 then (if r1 = 92 then uX10_copyFrom_89_8 μ else if r1 = 124 then uX10_copyFrom_121_8 μ else if μ.1 = 89 then uX10_copyFrom_89_8 (imgN 89 r0 92 μ) else uX10_copyFrom_121_8 (imgN 121 r0 124 μ)) else μ
def gX11_restore (r0 r1 : Nat) (x1 : Int32) : Int32 := if x1 = 0 then (if r0 = 2 then 0 else 1) else if x1 = 1 then (if r1 = 2 then 0 else 1) else 0
noncomputable def uX11_restore (r0 r1 : Nat) (μ : fm_T) (x1 : Int32) : fm_T := if x1 = 0 then (if r0 = 92 then uX10_copyFrom_8_89 μ else if r0 = 124 then uX10_copyFrom_8_121 μ else μ) else if x1 = 1 then (if r1 = 92 then uX10_copyFrom_8_89 μ else if r1 = 124 then uX10_copyFrom_8_121 μ else μ) else μ
theorem wi_in {μ : fm_T} {x1 : Int32} (h : ¬ gX11_within μ x1 0 1 = 0) : x1 = 0 ∨ x1 = 1 := by
  unfold gX11_within at h
  split at h
  · exact absurd rfl h
  · rename_i h1
    split at h
    · exact absurd rfl h
    · rename_i h2
      have h3 : x1.toInt = 0 ∨ x1.toInt = 1 := by
        rw [Int32.lt_iff_toInt_lt] at h1 h2
        have e0 : (0 : Int32).toInt = 0 := rfl
        have e1 : (1 : Int32).toInt = 1 := rfl
        omega
      rcases h3 with h3 | h3
      · exact Or.inl (Int32.toInt_inj.mp h3)
      · exact Or.inr (Int32.toInt_inj.mp h3)
theorem wi_out {μ : fm_T} {x1 : Int32} (h : gX11_within μ x1 0 1 = 0) : ¬ x1 = 0 ∧ ¬ x1 = 1 := by
  constructor
  · rintro rfl
    exact absurd h (by unfold gX11_within; decide)
  · rintro rfl
    exact absurd h (by unfold gX11_within; decide)
theorem wX11_image {l : Launch} {r0 r1 : Nat} {μ : fm_T} (h : lz_r μ r0 r1) (x1 : Int32) : fwp l sC mX11_image 4 32 2662 0 0 0 (fl_ent [.ref 0, .int x1] mX11_image.2.2.1) [] μ (fp_f (some (.int (gX11_image x1))) (uX11_image r0 r1 μ x1)) := by
  refine sX11_image_0 h.1 x1 ⟨fun q => ?_, fun q => ?_⟩
  · obtain ⟨q1, q2⟩ := wi_out q
    exact ⟨by simp only [gX11_image, if_neg q1, if_neg q2], by simp only [uX11_image, if_neg q1, if_neg q2]⟩
  · obtain ⟨hμ, hr⟩ := h
    rcases wi_in q with rfl | rfl
    · rcases hr with ⟨hn, rfl, rfl⟩ | ⟨hn, rfl, rfl⟩ | ⟨hn, rfl, rfl⟩ | ⟨hn, rfl, rfl⟩ | ⟨hn, rfl, rfl⟩
      · exact sX11_image_11_0_n89 hμ hn ⟨rfl, by simp [uX11_image, hn]⟩
      · exact sX11_image_11_0_92 hμ ⟨rfl, by simp [uX11_image]⟩
      · exact sX11_image_11_0_n121 hμ hn ⟨rfl, by simp [uX11_image, hn]⟩
      · exact sX11_image_11_0_92 hμ ⟨rfl, by simp [uX11_image]⟩
      · exact sX11_image_11_0_124 hμ ⟨rfl, by simp [uX11_image]⟩
    · rcases hr with ⟨hn, rfl, rfl⟩ | ⟨hn, rfl, rfl⟩ | ⟨hn, rfl, rfl⟩ | ⟨hn, rfl, rfl⟩ | ⟨hn, rfl, rfl⟩
      · exact sX11_image_11_1_n89 hμ hn ⟨rfl, by simp [uX11_image, hn]⟩
      · exact sX11_image_11_1_n121 hμ hn ⟨rfl, by simp [uX11_image, hn]⟩
      · exact sX11_image_11_1_92 hμ ⟨rfl, by simp [uX11_image]⟩
      · exact sX11_image_11_1_124 hμ ⟨rfl, by simp [uX11_image]⟩
      · exact sX11_image_11_1_92 hμ ⟨rfl, by simp [uX11_image]⟩
theorem wX11_restore {l : Launch} {r0 r1 : Nat} {μ : fm_T} (h : lz_r μ r0 r1) (x1 : Int32) : fwp l sC mX11_restore 4 0 0 0 0 0 (fl_ent [.ref 0, .int x1] mX11_restore.2.2.1) [] μ (fp_f (some (.int (gX11_restore r0 r1 x1))) (uX11_restore r0 r1 μ x1)) := by
  refine sX11_restore_0 h.1 x1 ⟨fun q => ?_, fun q => ?_⟩
  · obtain ⟨q1, q2⟩ := wi_out q
    exact ⟨by simp only [gX11_restore, if_neg q1, if_neg q2], by simp only [uX11_restore, if_neg q1, if_neg q2]⟩
  · obtain ⟨hμ, hr⟩ := h
    rcases wi_in q with rfl | rfl
    · rcases hr with ⟨hn, rfl, rfl⟩ | ⟨hn, rfl, rfl⟩ | ⟨hn, rfl, rfl⟩ | ⟨hn, rfl, rfl⟩ | ⟨hn, rfl, rfl⟩
      · exact sX11_restore_9_0_2 hμ ⟨rfl, by simp [uX11_restore]⟩
      · exact sX11_restore_9_0_92 hμ ⟨rfl, by simp [uX11_restore]⟩
      · exact sX11_restore_9_0_2 hμ ⟨rfl, by simp [uX11_restore]⟩
      · exact sX11_restore_9_0_92 hμ ⟨rfl, by simp [uX11_restore]⟩
      · exact sX11_restore_9_0_124 hμ ⟨rfl, by simp [uX11_restore]⟩
    · rcases hr with ⟨hn, rfl, rfl⟩ | ⟨hn, rfl, rfl⟩ | ⟨hn, rfl, rfl⟩ | ⟨hn, rfl, rfl⟩ | ⟨hn, rfl, rfl⟩
      · exact sX11_restore_9_1_2 hμ ⟨rfl, by simp [uX11_restore]⟩
      · exact sX11_restore_9_1_2 hμ ⟨rfl, by simp [uX11_restore]⟩
      · exact sX11_restore_9_1_92 hμ ⟨rfl, by simp [uX11_restore]⟩
      · exact sX11_restore_9_1_124 hμ ⟨rfl, by simp [uX11_restore]⟩
      · exact sX11_restore_9_1_92 hμ ⟨rfl, by simp [uX11_restore]⟩
theorem rn_c_lt {π : Nat → Nat} {n f : Nat} (hn : ∀ k, k < n → π k < n) (h : f < n + 3) : rn_c π f < n + 3 := by
  match f with
  | 0 => show 0 < n + 3; omega
  | 1 => show 1 < n + 3; omega
  | 2 => show 2 < n + 3; omega
  | k + 3 =>
    have := hn k (by omega)
    show π k + 3 < n + 3
    omega
theorem lz_rn {A : Nat → Prop} {D : va_G} {cy : Nat → ClassId} {ad am : Nat → Nat} {ao : Nat} {μ ν : fm_T} {o : Nat → Int64} {H : Heap} {π : Nat → Nat} {sh : Nat → fc_C} (hπ : ∀ k, π (π k) = k) (hn : ∀ k, k < μ.1 → π k < μ.1) (hs : ∀ k, k < μ.1 → (rn_m π μ).2.1 k = sh k) (hI : lz_I A D cy ad am ao μ ν o H) : lz_I A D cy (fun k => ad (π k)) am ao (cn_m sh (rn_m π μ)) ν o H := by
  obtain ⟨⟨a1, a2, a3⟩, hb, hc, e1, e2, e3⟩ := hI
  have hw : fc_w (fun k => ad (π k)) cy (cn_m sh (rn_m π μ)) = fc_w (fun k => ad (π k)) cy (rn_m π μ) := cn_w (μ := rn_m π μ) hs
  refine ⟨⟨?_, by rw [hw]; exact rn_P hπ hn a2, by rw [hw]; exact rn_D hπ hn a3⟩, hb, hc, fun i j hi hj => e1 (π i) j (hn i hi) hj, fun i hi => e2 (π i) (hn i hi), e3⟩
  intro k hk f hf
  have hk' : k < μ.1 := hk
  have e : (cn_m sh (rn_m π μ)).2.1 k = sh k := rfl
  rw [e, ← hs k hk'] at hf
  obtain ⟨g, hg, rfl⟩ := List.mem_map.mp hf
  exact rn_c_lt hn (a1 (π k) (hn k hk') g hg)
