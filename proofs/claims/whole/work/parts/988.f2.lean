def vb (v : Int64) (t : Nat) : Bool := v.toBitVec.getLsbD t
theorem sh63 : ∀ t, t < 64 → (nI t).toInt64 &&& 63 = lN t ∧ ((lN t).toBitVec.smod 64).toNat = t := by decide +kernel
theorem a1_64 (x : BitVec 64) : x &&& 1#64 = 0#64 ↔ x.getLsbD 0 = false := by
  constructor
  · intro h
    have := congrArg (fun y => BitVec.getLsbD y 0) h
    simpa using this
  · intro h
    apply BitVec.eq_of_getLsbD_eq
    intro i hi
    rw [BitVec.getLsbD_and]
    by_cases e : i = 0
    · subst e; rw [h]; simp
    · have : (1#64).getLsbD i = false := by
        rw [BitVec.getLsbD_one]
        simp [e]
      rw [this]
      simp
theorem vb_s (v : Int64) {t : Nat} (ht : t < 64) : lg_cmp ((v >>> ((nI t).toInt64 &&& 63)) &&& (1 : Int64)) 0 = 0 ↔ vb v t = false := by
  rw [lg_cmp_eq, (sh63 t ht).1]
  have e : ((v >>> lN t) &&& (1 : Int64)) = 0 ↔ ((v >>> lN t).toBitVec &&& 1#64) = 0#64 := by
    rw [← Int64.toBitVec_inj]
    rfl
  rw [e, a1_64]
  have : (v >>> lN t).toBitVec = v.toBitVec.sshiftRight' ((lN t).toBitVec.smod 64) := rfl
  rw [this, BitVec.sshiftRight', (sh63 t ht).2, BitVec.getLsbD_sshiftRight]
  unfold vb
  simp [ht]
theorem vb_o (v : Int64) {t u : Nat} (ht : t < 64) (hu : u < 64) : vb (v ||| ((1 : Int64) <<< ((nI t).toInt64 &&& 63))) u = (vb v u || decide (u = t)) := by
  rw [(sh63 t ht).1]
  unfold vb
  have e : (v ||| ((1 : Int64) <<< lN t)).toBitVec = v.toBitVec ||| ((1#64) <<< ((lN t).toBitVec.smod 64).toNat) := rfl
  rw [e, (sh63 t ht).2, BitVec.getLsbD_or, BitVec.getLsbD_shiftLeft, BitVec.getLsbD_one]
  congr 1
  by_cases q : u = t
  · subst q; simp [hu]
  · simp only [q, decide_false, hu, decide_true, Bool.true_and]
    by_cases w : u < t
    · simp [w]
    · have : ¬ u - t = 0 := by omega
      simp [this]
theorem vb_0 (t : Nat) : vb 0 t = false := by
  unfold vb
  show (0#64).getLsbD t = false
  simp
def owN (T : Nat) (co : Nat → Nat) (v : Int64) (y : Nat) : Bool := (List.range T).any (fun t => !(vb v t) && (co t == y))
theorem ow_iff {T : Nat} {co : Nat → Nat} {v : Int64} {y : Nat} : owN T co v y = true ↔ ∃ t, t < T ∧ vb v t = false ∧ co t = y := by
  unfold owN
  rw [List.any_eq_true]
  constructor
  · rintro ⟨t, h1, h2⟩
    simp at h1 h2
    exact ⟨t, h1, h2.1, h2.2⟩
  · rintro ⟨t, h1, h2, h3⟩
    exact ⟨t, by simpa using h1, by simp [h2, h3]⟩
def owC (k T : Nat) (co : Nat → Nat) (v : Int64) : Nat := sm (fun y => if owN T co v y then 1 else 0) k
theorem sm_mo {f g : Nat → Nat} : ∀ n, (∀ j, j < n → f j ≤ g j) → sm f n ≤ sm g n
  | 0, _ => Nat.le_refl _
  | n + 1, h => by
    have := sm_mo n (fun j hj => h j (by omega))
    have := h n (by omega)
    unfold sm
    omega
theorem sm_sl {f g : Nat → Nat} {a : Nat} : ∀ n, a < n → (∀ j, j < n → f j ≤ g j) → f a < g a → sm f n < sm g n
  | 0, h, _, _ => by omega
  | n + 1, h, h1, h2 => by
    unfold sm
    by_cases e : a = n
    · subst e
      have := sm_mo a (fun j hj => h1 j (by omega))
      omega
    · have := sm_sl n (by omega) (fun j hj => h1 j (by omega)) h2
      have := h1 n (by omega)
      omega
theorem ow_lt {k T y : Nat} {co : Nat → Nat} {v v' : Int64} (hy : y < k) (h1 : ∀ t, t < T → vb v' t = false → vb v t = false) (h2 : owN T co v y = true) (h3 : owN T co v' y = false) : owC k T co v' < owC k T co v := by
  unfold owC
  refine sm_sl (a := y) k hy (fun j hj => ?_) ?_
  · by_cases q : owN T co v' j = true
    · obtain ⟨t, t1, t2, t3⟩ := ow_iff.mp q
      have : owN T co v j = true := ow_iff.mpr ⟨t, t1, h1 t t1 t2, t3⟩
      rw [q, this]
      exact Nat.le_refl _
    · have : owN T co v' j = false := by simpa using q
      rw [this]
      exact Nat.zero_le _
  · rw [h2, h3]
    decide
theorem ow_b {k T x : Nat} {co : Nat → Nat} {v : Int64} (hx : x < k) (h : owN T co v x = false) : owC k T co v + 1 ≤ k := by
  have h1 : ∀ n, sm (fun _ => 1) n = n := fun n => by
    induction n with
    | zero => rfl
    | succ n ih => unfold sm; rw [ih]
  have := sm_sl (f := fun y => if owN T co v y then 1 else 0) (g := fun _ => 1) (a := x) k hx (fun j _ => by
    show (if owN T co v j = true then 1 else 0) ≤ 1
    split <;> omega) (by
    show (if owN T co v x = true then 1 else 0) < 1
    rw [h]
    decide)
  rw [h1] at this
  exact this
def FG (k T : Nat) (E : Nat → Nat → Bool) (μ : fm_T) : Prop := fI μ 51 6 = nI k ∧ fI μ 51 7 = nI T ∧ ∀ t, t < T → ∀ i, i < k → (fI μ 52 t >>> (nI i &&& 31)) &&& (1 : Int32) = if E i t then 1 else 0
def FO (T : Nat) (co : Nat → Nat) (μ : fm_T) : Prop := ∀ t, t < T → fI μ 55 t = stI (co t)
def FJ (k T : Nat) (E : Nat → Nat → Bool) (co : Nat → Nat) (W : Nat → Prop) (μ : fm_T) : Prop := ∀ t, t < T → W t → co t ≠ 9 → co t < k ∧ E (co t) t = true ∧ fI μ 54 (co t) = nI t
def fA (k j : Nat) : Prop := k = 54 ∨ k = 55
def fN (k j : Nat) : Prop := False
def fB (k j : Nat) : Prop := k = 51 ∧ j = 5
def wv (μ : fm_T) (t : Nat) : Prop := vb (fL μ 51 5) t = false
def Fai (k T : Nat) (E : Nat → Nat → Bool) (co : Nat → Nat) (x : Nat) (μ μ' : fm_T) : Prop := frL fN fB μ μ' ∧ (∀ t, t < T → wv μ' t → wv μ t) ∧ (∀ t, t < T → E x t = true → ¬ wv μ' t) ∧ ∀ t, t < T → ¬ wv μ' t → wv μ t → co t ≠ 9 ∧ ∀ t', t' < T → E (co t) t' = true → ¬ wv μ' t'
def Suc (k T : Nat) (E : Nat → Nat → Bool) (co : Nat → Nat) (x : Nat) (μ μ' : fm_T) : Prop := frL fA fB μ μ' ∧ ∃ co', FO T co' μ' ∧ FJ k T E co' (wv μ) μ' ∧ (∃ t, t < T ∧ wv μ t ∧ co' t = x) ∧ (∀ t, t < T → wv μ t → co t ≠ 9 → ∃ t', t' < T ∧ wv μ t' ∧ co' t' = co t) ∧ (∀ t, t < T → wv μ t → co' t ≠ 9 → co' t = x ∨ ∃ t', t' < T ∧ wv μ t' ∧ co t' = co' t) ∧ (∀ t, t < T → ¬ wv μ t → co' t = co t) ∧ ∀ i, i < k → i ≠ x → (∀ t, t < T → wv μ t → co t ≠ i) → fI μ' 54 i = fI μ 54 i
