noncomputable def kX11_house (μ : fm_T) : fm_T := fm_r (fm_r (fm_i (fm_i (uX2_readFrom μ) 1 2 0) 0 12 0) 8 2 76) 0 9 27
noncomputable def pX11_house (μ : fm_T) : Prop := pX2_readFrom μ ∧ (¬ gX2_readFrom μ = 0 → pX3_forgetAllButPlacesH (uX8_forgetAllH (uX5_forget_36H (kX11_house μ))))
noncomputable def gX11_house (μ : fm_T) : Int32 := if gX2_readFrom μ = 0 then ((-1) : Int32) - (fI (uX2_readFrom μ) 1 14) else fI (uX3_forgetAllButPlacesH (uX8_forgetAllH (uX5_forget_36H (kX11_house μ)))) 73 12
noncomputable def uX11_house (μ : fm_T) : fm_T := if gX2_readFrom μ = 0 then fm_i (fm_i (uX2_readFrom μ) 1 2 0) 0 12 (fI (uX2_readFrom μ) 1 13) else uX3_forgetAllButPlacesH (uX8_forgetAllH (uX5_forget_36H (kX11_house μ)))
theorem wX11_house {l : Launch} {r0 r1 : Nat} {μ : fm_T} (hμ : μ.2.1 = shC r0 r1) (hp : pX11_house μ) : fwp l sC mX11_house 6 0 0 0 0 0 (fl_ent [.ref 0] mX11_house.2.2.1) [] μ (fp_f (some (.int (gX11_house μ))) (uX11_house μ)) := by
  have hs : (fm_i (fm_i (uX2_readFrom μ) 1 2 0) 0 12 0).2.1 = shC r0 r1 := (fm_i_sh _ _ _ _).trans ((fm_i_sh _ _ _ _).trans ((hX2_readFrom μ).trans hμ))
  exact sX11_house_0 hμ ⟨hp.1, fun q => sX11_house_58 hs _ (sX11_house_74 (swH hs) _ ⟨hp.2 q, ⟨by simp only [gX11_house, if_neg q, kX11_house], by simp only [uX11_house, if_neg q, kX11_house]⟩⟩), fun q => ⟨by simp only [gX11_house, if_pos q], by simp only [uX11_house, if_pos q]⟩⟩
noncomputable def kX11_rule (μ : fm_T) : fm_T := fm_r (fm_r (fm_i (fm_i (uX5_readFrom μ) 1 2 0) 0 12 0) 8 3 88) 0 10 39
noncomputable def pX11_rule (μ : fm_T) : Prop := pX5_readFrom μ
noncomputable def gX11_rule (μ : fm_T) : Int32 := if gX5_readFrom μ = 0 then ((-1) : Int32) - (fI (uX5_readFrom μ) 1 14) else fI (kX11_rule μ) 85 4
noncomputable def uX11_rule (μ : fm_T) : fm_T := if gX5_readFrom μ = 0 then fm_i (fm_i (uX5_readFrom μ) 1 2 0) 0 12 (fI (uX5_readFrom μ) 1 13) else kX11_rule μ
theorem wX11_rule {l : Launch} {r0 r1 : Nat} {μ : fm_T} (hμ : μ.2.1 = shC r0 r1) (hp : pX11_rule μ) : fwp l sC mX11_rule (8 * fD + 2) 0 0 0 0 0 (fl_ent [.ref 0] mX11_rule.2.2.1) [] μ (fp_f (some (.int (gX11_rule μ))) (uX11_rule μ)) := by
  have hs : (fm_i (fm_i (uX5_readFrom μ) 1 2 0) 0 12 0).2.1 = shC r0 r1 := (fm_i_sh _ _ _ _).trans ((fm_i_sh _ _ _ _).trans ((hX5_readFrom μ).trans hμ))
  exact sX11_rule_0 hμ ⟨hp, fun q => sX11_rule_65 hs _ (sX11_rule_81 (swR hs) _ ⟨by simp only [gX11_rule, if_neg q, kX11_rule], by simp only [uX11_rule, if_neg q, kX11_rule]⟩), fun q => ⟨by simp only [gX11_rule, if_pos q], by simp only [uX11_rule, if_pos q]⟩⟩
def rn_c (π : Nat → Nat) : Nat → Nat
  | c + 3 => π c + 3
  | c => c
def rn_m (π : Nat → Nat) (μ : fm_T) : fm_T := (μ.1, fun k => ((μ.2.1 (π k)).1, (μ.2.1 (π k)).2.1, (μ.2.1 (π k)).2.2.map (rn_c π)), fun k => μ.2.2.1 (π k), fun k => μ.2.2.2 (π k))
theorem rn_f {π ad : Nat → Nat} (hπ : ∀ k, π (π k) = k) (x : Int32) (y : Int64) (f : Nat) : fc_f (fun k => ad (π k)) x y (rn_c π f) = fc_f ad x y f := by
  match f with
  | 0 => rfl
  | 1 => rfl
  | 2 => rfl
  | c + 3 => simp only [rn_c, fc_f, hπ]
theorem rn_o {π ad : Nat → Nat} (hπ : ∀ k, π (π k) = k) (f : Nat) : fc_o (fun k => ad (π k)) (rn_c π f) = fc_o ad f := by
  match f with
  | 0 => rfl
  | 1 => rfl
  | 2 => rfl
  | c + 3 => simp only [rn_c, fc_o, hπ]
theorem rn_e {π ad : Nat → Nat} {cy : Nat → ClassId} {μ : fm_T} (hπ : ∀ k, π (π k) = k) (k : Nat) : fc_e (fun k => ad (π k)) cy (rn_m π μ) k = fc_e ad cy μ (π k) := by
  have e : (rn_m π μ).2.1 k = ((μ.2.1 (π k)).1, (μ.2.1 (π k)).2.1, (μ.2.1 (π k)).2.2.map (rn_c π)) := rfl
  unfold fc_e
  rw [e]
  dsimp only
  split
  · congr 2
    apply List.ext_getElem?
    intro i
    rw [List.getElem?_mapIdx, List.getElem?_mapIdx, List.getElem?_map]
    cases (μ.2.1 (π k)).2.2[i]? with
    | none => rfl
    | some f => simp only [Option.map_some]; rw [rn_f hπ]; rfl
  · rfl
  · rfl
  · rfl
  · congr 7
    funext j
    rw [List.getD_eq_getElem?_getD, List.getD_eq_getElem?_getD, List.getElem?_map]
    cases (μ.2.1 (π k)).2.2[j]? with
    | none => rfl
    | some f => simp only [Option.map_some, Option.getD_some]; rw [rn_o hπ]
theorem rn_P {π ad : Nat → Nat} {cy : Nat → ClassId} {μ : fm_T} {D : va_G} {cl : List vw_C} {H : Heap} (hπ : ∀ k, π (π k) = k) (hn : ∀ k, k < μ.1 → π k < μ.1) (h : va_P D cl (fc_w ad cy μ) H) : va_P D cl (fc_w (fun k => ad (π k)) cy (rn_m π μ)) H := by
  intro k q hk
  obtain ⟨h1, rfl⟩ := fc_in hk
  rw [rn_e hπ]
  exact h (π k) _ (fc_at (hn k h1))
theorem rn_D {π ad : Nat → Nat} {cy : Nat → ClassId} {μ : fm_T} {A : Nat → Prop} (hπ : ∀ k, π (π k) = k) (hn : ∀ k, k < μ.1 → π k < μ.1) (h : va_D A (fc_w ad cy μ)) : va_D A (fc_w (fun k => ad (π k)) cy (rn_m π μ)) := by
  refine ⟨fun i j p q hi hj e => ?_, fun k q hk => ?_⟩
  · obtain ⟨h1, rfl⟩ := fc_in hi
    obtain ⟨h2, rfl⟩ := fc_in hj
    have := h.1 (π i) (π j) _ _ (fc_at (hn i h1)) (fc_at (hn j h2)) e
    rw [← hπ i, this, hπ j]
  · obtain ⟨h1, rfl⟩ := fc_in hk
    exact h.2 (π k) (ad (π k), fc_e ad cy μ (π k)) (fc_at (hn k h1))
