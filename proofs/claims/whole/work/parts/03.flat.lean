abbrev fc_C : Type := Nat × Nat × List Nat
abbrev fm_T : Type := Nat × (Nat → fc_C) × (Nat → Nat → Int32) × (Nat → Nat → Int64)
abbrev fy_T : Type := MethodName × ByteArray × Nat × Option FieldType
abbrev fs_T : Type := List (Nat × FieldType) × List (String × String × List Int32)
def fv_v (ad : Nat → Nat) : Value → Value
  | .ref k => .ref (ad k)
  | v => v
def fv_ok (n : Nat) : Value → Prop
  | .ref k => k < n ∨ 4000 ≤ k
  | _ => True
def fc_f (ad : Nat → Nat) (x : Int32) (y : Int64) : Nat → Value
  | 0 => .int x
  | 1 => .long y
  | 2 => .null
  | k + 3 => .ref (ad k)
def fc_p (x : Int32) (y : Int64) : Nat → Value
  | 0 => .int x
  | 1 => .long y
  | 2 => .null
  | k + 3 => .ref k
def fc_o (ad : Nat → Nat) : Nat → Option Nat
  | k + 3 => some (ad k)
  | _ => none
theorem fc_pv (ad : Nat → Nat) (x : Int32) (y : Int64) (f : Nat) : fv_v ad (fc_p x y f) = fc_f ad x y f := by
  match f with
  | 0 => rfl
  | 1 => rfl
  | 2 => rfl
  | k + 3 => rfl
def fc_e (ad : Nat → Nat) (cy : Nat → ClassId) (μ : fm_T) (k : Nat) : va_E :=
  match (μ.2.1 k).1 with
  | 0 => .inr ((μ.2.1 k).2.1, (μ.2.1 k).2.2.mapIdx (fun j f => fc_f ad (μ.2.2.1 k j) (μ.2.2.2 k j) f))
  | 1 => .inl (cy 0, (μ.2.1 k).2.1, .inl (μ.2.2.1 k))
  | 2 => .inl (cy 1, (μ.2.1 k).2.1, .inr (.inl (μ.2.2.2 k)))
  | 3 => .inl (cy 2, (μ.2.1 k).2.1, .inl (μ.2.2.1 k))
  | _ => .inl (cy 3, (μ.2.1 k).2.1, .inr (.inr (.inr (.inr (fun j => fc_o ad ((μ.2.1 k).2.2.getD j 2))))))
def fc_w (ad : Nat → Nat) (cy : Nat → ClassId) (μ : fm_T) : va_W := (List.range μ.1).map (fun k => (ad k, fc_e ad cy μ k))
theorem fc_at {ad : Nat → Nat} {cy : Nat → ClassId} {μ : fm_T} {k : Nat} (h : k < μ.1) : (fc_w ad cy μ)[k]? = some (ad k, fc_e ad cy μ k) := by
  simp [fc_w, h]
theorem fc_out {ad : Nat → Nat} {cy : Nat → ClassId} {μ : fm_T} {k : Nat} (h : μ.1 ≤ k) : (fc_w ad cy μ)[k]? = none := by
  simp [fc_w]; omega
theorem fc_in {ad : Nat → Nat} {cy : Nat → ClassId} {μ : fm_T} {k : Nat} {q : Nat × va_E} (h : (fc_w ad cy μ)[k]? = some q) : k < μ.1 ∧ q = (ad k, fc_e ad cy μ k) := by
  rcases Nat.lt_or_ge k μ.1 with h1 | h1
  · rw [fc_at h1] at h
    exact ⟨h1, (Option.some.inj h).symm⟩
  · rw [fc_out h1] at h
    cases h
theorem fc_set {ad : Nat → Nat} {cy : Nat → ClassId} {μ μ' : fm_T} {k : Nat} {x : va_E} (hk : k < μ.1) (hn : μ'.1 = μ.1) (he : fc_e ad cy μ' k = x) (ho : ∀ a, a ≠ k → fc_e ad cy μ' a = fc_e ad cy μ a) : (fc_w ad cy μ).set k (ad k, x) = fc_w ad cy μ' := by
  apply List.ext_getElem?
  intro i
  by_cases h : i = k
  · subst h
    rw [List.getElem?_set_self (by simp [fc_w]; exact hk), fc_at (by rw [hn]; exact hk), he]
  · rw [List.getElem?_set_ne (Ne.symm h)]
    rcases Nat.lt_or_ge i μ.1 with h1 | h1
    · rw [fc_at h1, fc_at (by rw [hn]; exact h1), ho i h]
    · rw [fc_out h1, fc_out (by rw [hn]; exact h1)]
def fm_ok (μ : fm_T) : Prop := ∀ k, k < μ.1 → ∀ f ∈ (μ.2.1 k).2.2, f < μ.1 + 3
theorem fc_f_ag {ad ad' : Nat → Nat} {n f : Nat} {x : Int32} {y : Int64} (h : ∀ k, k < n → ad' k = ad k) (hf : f < n + 3) : fc_f ad' x y f = fc_f ad x y f := by
  match f with
  | 0 => rfl
  | 1 => rfl
  | 2 => rfl
  | k + 3 => simp only [fc_f]; rw [h k (by omega)]
theorem fc_o_ag {ad ad' : Nat → Nat} {n f : Nat} (h : ∀ k, k < n → ad' k = ad k) (hf : f < n + 3) : fc_o ad' f = fc_o ad f := by
  match f with
  | 0 => rfl
  | 1 => rfl
  | 2 => rfl
  | k + 3 => simp only [fc_o]; rw [h k (by omega)]
theorem fc_e_ag {ad ad' : Nat → Nat} {cy : Nat → ClassId} {μ : fm_T} {k : Nat} (h : ∀ k, k < μ.1 → ad' k = ad k) (hok : fm_ok μ) (hk : k < μ.1) : fc_e ad' cy μ k = fc_e ad cy μ k := by
  have hf := hok k hk
  unfold fc_e
  split
  · congr 2
    apply List.ext_getElem?
    intro i
    rw [List.getElem?_mapIdx, List.getElem?_mapIdx]
    cases hi : (μ.2.1 k).2.2[i]? with
    | none => rfl
    | some f => simp only [Option.map_some]; rw [fc_f_ag h (hf f (List.mem_of_getElem? hi))]
  · rfl
  · rfl
  · rfl
  · congr 7
    funext j
    apply fc_o_ag h
    rw [List.getD_eq_getElem?_getD]
    cases hi : (μ.2.1 k).2.2[j]? with
    | none => simp
    | some f => simp only [Option.getD_some]; exact hf f (List.mem_of_getElem? hi)
theorem fc_w_ag {ad ad' : Nat → Nat} {cy : Nat → ClassId} {μ : fm_T} (h : ∀ k, k < μ.1 → ad' k = ad k) (hok : fm_ok μ) : fc_w ad' cy μ = fc_w ad cy μ := by
  apply List.map_congr_left
  intro k hk
  have hk := List.mem_range.mp hk
  rw [h k hk, fc_e_ag h hok hk]
theorem fv_ag {ad ad' : Nat → Nat} {n : Nat} {v : Value} (h : ∀ k, k < n ∨ 4000 ≤ k → ad' k = ad k) (hv : fv_ok n v) : fv_v ad' v = fv_v ad v := by
  cases v <;> first | rfl | (simp only [fv_v]; rw [h _ hv])
theorem fv_cat (ad : Nat → Nat) (v : Value) : (fv_v ad v).category = v.category := by cases v <;> rfl
def fs_ok (n : Nat) (st : List Value) : Prop := ∀ v ∈ st, fv_ok n v
theorem fs_t {n : Nat} {a : Value} {st : List Value} (h : fs_ok n (a :: st)) : fs_ok n st := fun v hv => h v (List.mem_cons_of_mem _ hv)
theorem fs_h {n : Nat} {a : Value} {st : List Value} (h : fs_ok n (a :: st)) : fv_ok n a := h a List.mem_cons_self
theorem fs_c {n : Nat} {a : Value} {st : List Value} (ha : fv_ok n a) (h : fs_ok n st) : fs_ok n (a :: st) := fun v hv => (List.mem_cons.mp hv).elim (fun e => by rw [e]; exact ha) (h v)
theorem fs_ag {ad ad' : Nat → Nat} {n : Nat} {st : List Value} (h : ∀ k, k < n ∨ 4000 ≤ k → ad' k = ad k) (hv : fs_ok n st) : st.map (fv_v ad') = st.map (fv_v ad) := List.map_congr_left fun v hm => fv_ag h (hv v hm)
theorem fv_mono {n n' : Nat} {v : Value} (h : n ≤ n') (hv : fv_ok n v) : fv_ok n' v := by
  cases v <;> first | exact hv | exact hv.elim (fun q => Or.inl (Nat.lt_of_lt_of_le q h)) Or.inr
theorem fs_mono {n n' : Nat} {st : List Value} (h : n ≤ n') (hv : fs_ok n st) : fs_ok n' st := fun v hm => fv_mono h (hv v hm)
def fl_has (ad : Nat → Nat) (ls : Array Slot) (nL : Nat) (loc : List (Option Value)) : Prop := ls.size = nL ∧ lv_wf ls ∧ ∀ (i : Nat) (v : Value), loc[i]? = some (some v) → ls[i]? = some (.val (fv_v ad v))
def fl_ok (n : Nat) (loc : List (Option Value)) : Prop := ∀ (i : Nat) (v : Value), loc[i]? = some (some v) → fv_ok n v
theorem fl_mono {n n' : Nat} {loc : List (Option Value)} (h : n ≤ n') (hv : fl_ok n loc) : fl_ok n' loc := fun i v hm => fv_mono h (hv i v hm)
theorem fl_ag {ad ad' : Nat → Nat} {n nL : Nat} {ls : Array Slot} {loc : List (Option Value)} (h : ∀ k, k < n ∨ 4000 ≤ k → ad' k = ad k) (hv : fl_ok n loc) (hl : fl_has ad ls nL loc) : fl_has ad' ls nL loc := ⟨hl.1, hl.2.1, fun i v hi => by rw [fv_ag h (hv i v hi)]; exact hl.2.2 i v hi⟩
def fl_ps (ad : Nat → Nat) : Nat → List (Option Value) → List (Nat × Value)
  | _, [] => []
  | i, none :: l => fl_ps ad (i + 1) l
  | i, some v :: l => (i, fv_v ad v) :: fl_ps ad (i + 1) l
theorem fl_ps_mem (ad : Nat → Nat) : ∀ (l : List (Option Value)) (i : Nat) (q : Nat × Value), q ∈ fl_ps ad i l ↔ ∃ (j : Nat) (v : Value), l[j]? = some (some v) ∧ q = (i + j, fv_v ad v)
  | [], i, q => by simp [fl_ps]
  | none :: l, i, q => by
    rw [fl_ps, fl_ps_mem ad l (i + 1) q]
    constructor
    · rintro ⟨j, v, h1, h2⟩
      exact ⟨j + 1, v, by simpa using h1, by rw [h2]; congr 1; omega⟩
    · rintro ⟨j, v, h1, h2⟩
      cases j with
      | zero => simp at h1
      | succ j => exact ⟨j, v, by simpa using h1, by rw [h2]; congr 1; omega⟩
  | some w :: l, i, q => by
    rw [fl_ps, List.mem_cons, fl_ps_mem ad l (i + 1) q]
    constructor
    · rintro (h | ⟨j, v, h1, h2⟩)
      · exact ⟨0, w, by simp, by rw [h]; congr 1⟩
      · exact ⟨j + 1, v, by simpa using h1, by rw [h2]; congr 1; omega⟩
    · rintro ⟨j, v, h1, h2⟩
      cases j with
      | zero =>
        simp at h1
        subst h1
        exact Or.inl (by rw [h2]; congr 1)
      | succ j => exact Or.inr ⟨j, v, by simpa using h1, by rw [h2]; congr 1; omega⟩
theorem fl_lv {ad : Nat → Nat} {ls : Array Slot} {nL : Nat} {loc : List (Option Value)} (h : fl_has ad ls nL loc) : lv_has ls nL (fl_ps ad 0 loc) := ⟨h.1, h.2.1, fun q hq => by
  obtain ⟨j, v, h1, h2⟩ := (fl_ps_mem ad loc 0 q).mp hq
  subst h2
  simpa using h.2.2 j v h1⟩
def fl_c : Option Value → Option Value
  | some (.long _) => none
  | some (.double _) => none
  | o => o
def fl_set : List (Option Value) → Nat → Value → List (Option Value)
  | [], _, _ => []
  | _ :: l, 0, v => some v :: l
  | o :: l, 1, v => fl_c o :: fl_set l 0 v
  | o :: l, i + 2, v => o :: fl_set l (i + 1) v
def fl_n : List (Option Value) → List (Option Value)
  | [] => []
  | _ :: l => none :: l
def fl_set2 : List (Option Value) → Nat → Value → List (Option Value)
  | [], _, _ => []
  | _ :: l, 0, v => some v :: fl_n l
  | o :: l, 1, v => fl_c o :: fl_set2 l 0 v
  | o :: l, i + 2, v => o :: fl_set2 l (i + 1) v
theorem fl_c_get {o : Option Value} {w : Value} (h : fl_c o = some w) : o = some w ∧ ¬ w.category = 2 := by
  cases o with
  | none => cases h
  | some v => cases v <;> first | (cases h; done) | (simp only [fl_c] at h; cases h; exact ⟨rfl, by simp [Value.category]⟩)
theorem fl_set_get : ∀ (loc : List (Option Value)) (i j : Nat) (v w : Value), (fl_set loc i v)[j]? = some (some w) → (j = i ∧ w = v) ∨ (j ≠ i ∧ loc[j]? = some (some w) ∧ ¬ (j + 1 = i ∧ w.category = 2))
  | [], i, j, v, w, h => by simp [fl_set] at h
  | o :: l, 0, j, v, w, h => by
    cases j with
    | zero => simp [fl_set] at h; exact Or.inl ⟨rfl, h.symm⟩
    | succ j => simp [fl_set] at h; exact Or.inr ⟨by omega, by simpa using h, by omega⟩
  | o :: l, 1, j, v, w, h => by
    cases j with
    | zero =>
      simp [fl_set] at h
      obtain ⟨h1, h2⟩ := fl_c_get h
      exact Or.inr ⟨by omega, by simpa using h1, fun q => h2 q.2⟩
    | succ j =>
      simp [fl_set] at h
      rcases fl_set_get l 0 j v w h with ⟨a, b⟩ | ⟨a, b, c⟩
      · exact Or.inl ⟨by omega, b⟩
      · exact Or.inr ⟨by omega, by simpa using b, by omega⟩
  | o :: l, i + 2, j, v, w, h => by
    cases j with
    | zero => simp [fl_set] at h; exact Or.inr ⟨by omega, by simpa using h, by omega⟩
    | succ j =>
      simp [fl_set] at h
      rcases fl_set_get l (i + 1) j v w h with ⟨a, b⟩ | ⟨a, b, c⟩
      · exact Or.inl ⟨by omega, b⟩
      · exact Or.inr ⟨by omega, by simpa using b, fun q => c ⟨by omega, q.2⟩⟩
theorem fl_set2_get : ∀ (loc : List (Option Value)) (i j : Nat) (v w : Value), (fl_set2 loc i v)[j]? = some (some w) → (j = i ∧ w = v) ∨ (j ≠ i ∧ j ≠ i + 1 ∧ loc[j]? = some (some w) ∧ ¬ (j + 1 = i ∧ w.category = 2))
  | [], i, j, v, w, h => by simp [fl_set2] at h
  | o :: l, 0, j, v, w, h => by
    cases j with
    | zero => simp [fl_set2] at h; exact Or.inl ⟨rfl, h.symm⟩
    | succ j =>
      simp [fl_set2] at h
      cases l with
      | nil => simp [fl_n] at h
      | cons a l =>
        cases j with
        | zero => simp [fl_n] at h
        | succ j => simp [fl_n] at h; exact Or.inr ⟨by omega, by omega, by simpa using h, by omega⟩
  | o :: l, 1, j, v, w, h => by
    cases j with
    | zero =>
      simp [fl_set2] at h
      obtain ⟨h1, h2⟩ := fl_c_get h
      exact Or.inr ⟨by omega, by omega, by simpa using h1, fun q => h2 q.2⟩
    | succ j =>
      simp [fl_set2] at h
      rcases fl_set2_get l 0 j v w h with ⟨a, b⟩ | ⟨a, b, c, d⟩
      · exact Or.inl ⟨by omega, b⟩
      · exact Or.inr ⟨by omega, by omega, by simpa using c, by omega⟩
  | o :: l, i + 2, j, v, w, h => by
    cases j with
    | zero => simp [fl_set2] at h; exact Or.inr ⟨by omega, by omega, by simpa using h, by omega⟩
    | succ j =>
      simp [fl_set2] at h
      rcases fl_set2_get l (i + 1) j v w h with ⟨a, b⟩ | ⟨a, b, c, d⟩
      · exact Or.inl ⟨by omega, b⟩
      · exact Or.inr ⟨by omega, by omega, by simpa using c, fun q => d ⟨by omega, q.2⟩⟩
theorem fl_st {ad : Nat → Nat} {ls' : Array Slot} {nL i : Nat} {v : Value} {loc loc' : List (Option Value)} (hs : fl_set loc i v = loc') (h : lv_has ls' nL ((i, fv_v ad v) :: (fl_ps ad 0 loc).filter (fun q => !(q.1 == i) && !(q.1 + 1 == i && q.2.category == 2)))) : fl_has ad ls' nL loc' := by
  subst hs
  refine ⟨h.1, h.2.1, fun j w hj => ?_⟩
  rcases fl_set_get loc i j v w hj with ⟨rfl, rfl⟩ | ⟨a, b, c⟩
  · exact h.2.2 _ List.mem_cons_self
  · refine h.2.2 (j, fv_v ad w) (List.mem_cons_of_mem _ (List.mem_filter.mpr ⟨(fl_ps_mem ad loc 0 _).mpr ⟨j, w, b, by simp⟩, ?_⟩))
    simp only [Bool.and_eq_true, Bool.not_eq_true', beq_eq_false_iff_ne, ne_eq, Bool.and_eq_false_iff]
    refine ⟨a, ?_⟩
    rw [fv_cat]
    by_cases q : j + 1 = i
    · exact Or.inr (fun z => c ⟨q, z⟩)
    · exact Or.inl q
theorem fl_st2 {ad : Nat → Nat} {ls' : Array Slot} {nL i : Nat} {v : Value} {loc loc' : List (Option Value)} (hs : fl_set2 loc i v = loc') (h : lv_has ls' nL ((i, fv_v ad v) :: (fl_ps ad 0 loc).filter (fun q => !(q.1 == i) && (!(q.1 == i + 1) && !(q.1 + 1 == i && q.2.category == 2))))) : fl_has ad ls' nL loc' := by
  subst hs
  refine ⟨h.1, h.2.1, fun j w hj => ?_⟩
  rcases fl_set2_get loc i j v w hj with ⟨rfl, rfl⟩ | ⟨a, a2, b, c⟩
  · exact h.2.2 _ List.mem_cons_self
  · refine h.2.2 (j, fv_v ad w) (List.mem_cons_of_mem _ (List.mem_filter.mpr ⟨(fl_ps_mem ad loc 0 _).mpr ⟨j, w, b, by simp⟩, ?_⟩))
    simp only [Bool.and_eq_true, Bool.not_eq_true', beq_eq_false_iff_ne, ne_eq, Bool.and_eq_false_iff]
    refine ⟨a, a2, ?_⟩
    rw [fv_cat]
    by_cases q : j + 1 = i
    · exact Or.inr (fun z => c ⟨q, z⟩)
    · exact Or.inl q
theorem fl_so {n i : Nat} {v : Value} {loc loc' : List (Option Value)} (hs : fl_set loc i v = loc') (hv : fv_ok n v) (h : fl_ok n loc) : fl_ok n loc' := by
  subst hs
  intro j w hj
  rcases fl_set_get loc i j v w hj with ⟨-, rfl⟩ | ⟨-, b, -⟩
  · exact hv
  · exact h j w b
theorem fl_so2 {n i : Nat} {v : Value} {loc loc' : List (Option Value)} (hs : fl_set2 loc i v = loc') (hv : fv_ok n v) (h : fl_ok n loc) : fl_ok n loc' := by
  subst hs
  intro j w hj
  rcases fl_set2_get loc i j v w hj with ⟨-, rfl⟩ | ⟨-, -, b, -⟩
  · exact hv
  · exact h j w b
def fl_en : List Value → List (Option Value)
  | [] => []
  | .long x :: l => some (.long x) :: none :: fl_en l
  | .double x :: l => some (.double x) :: none :: fl_en l
  | v :: l => some v :: fl_en l
def fl_ent (as : List Value) (n : Nat) : List (Option Value) := fl_en as ++ List.replicate (n - (fl_en as).length) none
theorem fl_en_get (ad : Nat → Nat) : ∀ (as : List Value) (b j : Nat) (v : Value), (fl_en as)[j]? = some (some v) → (b + j, fv_v ad v) ∈ lv_args b (as.map (fv_v ad)) ∧ v ∈ as
  | [], b, j, v, h => by simp [fl_en] at h
  | a :: l, b, j, v, h => by
    have h1 : ∀ (c : Nat), (∀ i, (fl_en l)[i]? = some (some v) → j = i + c → (b + j, fv_v ad v) ∈ lv_args (b + c) (l.map (fv_v ad)) ∧ v ∈ l) := by
      intro c i hi e
      have := fl_en_get ad l (b + c) i v hi
      rw [e, show b + (i + c) = b + c + i by omega]
      exact this
    have key1 : fl_en (a :: l) = some a :: fl_en l → a.category = 1 → (b + j, fv_v ad v) ∈ lv_args b ((a :: l).map (fv_v ad)) ∧ v ∈ a :: l := by
      intro e c
      rw [e] at h
      rw [List.map_cons, lv_args, fv_cat, if_neg (by omega)]
      cases j with
      | zero =>
        simp at h
        subst h
        exact ⟨List.mem_cons_self, List.mem_cons_self⟩
      | succ j =>
        simp at h
        have := h1 1 j h rfl
        exact ⟨List.mem_cons_of_mem _ this.1, List.mem_cons_of_mem _ this.2⟩
    have key2 : fl_en (a :: l) = some a :: none :: fl_en l → a.category = 2 → (b + j, fv_v ad v) ∈ lv_args b ((a :: l).map (fv_v ad)) ∧ v ∈ a :: l := by
      intro e c
      rw [e] at h
      rw [List.map_cons, lv_args, fv_cat, if_pos c]
      match j with
      | 0 =>
        simp at h
        subst h
        exact ⟨List.mem_cons_self, List.mem_cons_self⟩
      | 1 => simp at h
      | j + 2 =>
        simp at h
        have := h1 2 j h rfl
        exact ⟨List.mem_cons_of_mem _ this.1, List.mem_cons_of_mem _ this.2⟩
    cases a <;> first | exact key1 rfl rfl | exact key2 rfl rfl
theorem fl_ent_get (ad : Nat → Nat) {as : List Value} {n j : Nat} {v : Value} (h : (fl_ent as n)[j]? = some (some v)) : (j, fv_v ad v) ∈ lv_args 0 (as.map (fv_v ad)) ∧ v ∈ as := by
  unfold fl_ent at h
  rcases Nat.lt_or_ge j (fl_en as).length with q | q
  · rw [List.getElem?_append_left q] at h
    simpa using fl_en_get ad as 0 j v h
  · rw [List.getElem?_append_right q] at h
    have := List.eq_of_mem_replicate (List.mem_of_getElem? h)
    cases this
