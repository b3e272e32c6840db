theorem lgc_le (a b : Int64) : lg_cmp a b ≤ 0 ↔ ¬ b < a := by
  unfold lg_cmp
  by_cases h1 : b < a
  · rw [if_pos (show a > b from h1)]
    exact ⟨fun z => absurd z (by decide), fun z => absurd h1 z⟩
  · rw [if_neg (show ¬ a > b from h1)]
    refine ⟨fun _ => h1, fun _ => ?_⟩
    split
    · decide
    · decide
def stp (F : Nat → Int64) (x : Int32) (y : Int64) (s : Nat) : Int64 := if x < nI (pcn s) then y else (if (1280000000 - F s) < y then y else 1280000000 - F s)
theorem mo_lp {U : fm_T} {M : Nat} {F : Nat → Int64} (hM : M < 64) (c3 : fI U 57 3 = nI M) (hF : ∀ s, s ≤ M → fL U 58 s = F s) (x : Int32) : ∀ (c i n : Nat) (y : Int64), i + c = M + 1 → c < n → lX6_mostOut_h5 n U x y (nI i) = ((List.range' i c).filter (fun s => s &&& (63 - M) == 0)).foldl (stp F x) y ∧ qX6_mostOut_h5 n U x y (nI i) := by
  intro c
  induction c with
  | zero =>
    intro i n y h1 h2
    obtain ⟨n, rfl⟩ : ∃ m, n = m + 1 := ⟨n - 1, by omega⟩
    have e : nI M < nI i := (nI_ltI (by omega) (by omega)).mpr (by omega)
    simp only [lX6_mostOut_h5, qX6_mostOut_h5, c3, if_pos e]
    exact ⟨rfl, fun z => absurd e z⟩
  | succ c ih =>
    intro i n y h1 h2
    obtain ⟨n, rfl⟩ : ∃ m, n = m + 1 := ⟨n - 1, by omega⟩
    have e : ¬ nI M < nI i := fun z => by have := (nI_ltI (by omega) (by omega)).mp z; omega
    have sb := sb_64 M hM i (by omega)
    have bc := bc_c U (x := i) (by omega)
    have vi : vp_in (nI i) 64 := vp_in_nI (by omega) (by decide)
    simp only [lX6_mostOut_h5, qX6_mostOut_h5, c3, if_neg e, nI_1, bc, sb]
    rw [nI_clamp (by omega), hF i (by omega), List.range'_succ, List.filter_cons]
    by_cases a : (i &&& (63 - M) == 0) = true
    · rw [if_pos a, if_pos a, List.foldl_cons]
      by_cases b : x < nI (pcn i)
      · obtain ⟨i1, i2⟩ := ih (i + 1) n y (by omega) (by omega)
        rw [if_pos b, show stp F x y i = y from if_pos b]
        exact ⟨i1, fun _ => ⟨fun z => absurd a z, fun _ => ⟨fun _ => i2, fun z => absurd b z⟩⟩⟩
      · obtain ⟨i1, i2⟩ := ih (i + 1) n (if (1280000000 - F i) < y then y else 1280000000 - F i) (by omega) (by omega)
        rw [if_neg b, show stp F x y i = _ from if_neg b]
        exact ⟨i1, fun _ => ⟨fun z => absurd a z, fun _ => ⟨fun z => absurd z b, fun _ => ⟨vi, i2⟩⟩⟩⟩
    · obtain ⟨i1, i2⟩ := ih (i + 1) n y (by omega) (by omega)
      rw [if_neg a, if_neg a]
      exact ⟨i1, fun _ => ⟨fun _ => i2, fun z => absurd z a⟩⟩
theorem sh_2 : ∀ m, m ≤ 6 → ((1 : Int32) <<< (nI m &&& 31)) = nI (2 ^ m) ∧ 2 ^ m ≤ 64 := by decide +kernel
theorem ou_lp {V : fm_T} {M : Nat} {F : Nat → Int64} (hM : M < 64) (c46 : fI V 0 46 = nI (rk M 6)) (hf : ∀ t, t < 2 ^ rk M 6 → gX12_fails V (nI t) = F (pdp M t) ∧ pX12_fails V (nI t)) (x1 x x3 : Int32) : ∀ (c t n : Nat) (y : Int64), t + c = 2 ^ rk M 6 → c < n → lX12_out_h35 n V x1 x x3 y (nI t) = ((List.range' t c).map (pdp M)).foldl (stp F x) y ∧ qX12_out_h35 n V x1 x x3 y (nI t) := by
  obtain ⟨s1, s2⟩ := sh_2 (rk M 6) (rk_le M 6)
  intro c
  induction c with
  | zero =>
    intro t n y h1 h2
    obtain ⟨n, rfl⟩ : ∃ m, n = m + 1 := ⟨n - 1, by omega⟩
    have e : nI (2 ^ rk M 6) ≤ nI t := (nI_leI (by omega) (by omega)).mpr (by omega)
    simp only [lX12_out_h35, qX12_out_h35, c46, s1, if_pos e]
    exact ⟨rfl, fun z => absurd e z⟩
  | succ c ih =>
    intro t n y h1 h2
    obtain ⟨n, rfl⟩ : ∃ m, n = m + 1 := ⟨n - 1, by omega⟩
    have e : ¬ nI (2 ^ rk M 6) ≤ nI t := fun z => by have := (nI_leI (by omega) (by omega)).mp z; omega
    obtain ⟨f1, f2⟩ := hf t (by omega)
    obtain ⟨b1, b2⟩ := bt_m V (x := t) (by omega)
    have pc := (pd_pc M hM t (by omega)).1
    simp only [lX12_out_h35, qX12_out_h35, c46, s1, if_neg e, nI_1, f1, b1, lgc_le]
    rw [List.range'_succ, List.map_cons, List.foldl_cons]
    by_cases b : x < nI (pcn t)
    · obtain ⟨i1, i2⟩ := ih (t + 1) n y (by omega) (by omega)
      rw [if_pos b, show stp F x y (pdp M t) = y from if_pos (by rw [pc]; exact b)]
      exact ⟨i1, fun _ => ⟨f2, b2, fun _ => i2, fun z => absurd b z⟩⟩
    · rw [if_neg b, show stp F x y (pdp M t) = _ from if_neg (by rw [pc]; exact b)]
      by_cases d : y < 1280000000 - F (pdp M t)
      · obtain ⟨i1, i2⟩ := ih (t + 1) n (1280000000 - F (pdp M t)) (by omega) (by omega)
        rw [if_neg (not_not_intro d), if_neg (fun z => Int64.lt_irrefl (Int64.lt_trans z d))]
        exact ⟨i1, fun _ => ⟨f2, b2, fun z => absurd z b, fun _ => ⟨fun z => absurd d z, fun _ => i2⟩⟩⟩
      · obtain ⟨i1, i2⟩ := ih (t + 1) n y (by omega) (by omega)
        have e2 : (if (1280000000 - F (pdp M t)) < y then y else 1280000000 - F (pdp M t)) = y := by
          by_cases q : (1280000000 - F (pdp M t)) < y
          · rw [if_pos q]
          · rw [if_neg q]
            exact Int64.le_antisymm (Int64.not_lt.mp d) (Int64.not_lt.mp q)
        rw [if_pos d, e2]
        exact ⟨i1, fun _ => ⟨f2, b2, fun z => absurd z b, fun _ => ⟨fun _ => i2, fun z => absurd d z⟩⟩⟩
theorem fa_ok {M N : Nat} {V : fm_T} {B : Nat → Int64} {g : Nat → Nat → Int64} {P : Nat → Prop} (hM : M < 64) (h2 : N ≤ 6 ∧ fI V 0 46 = nI (rk M 6) ∧ fI V 2 0 = nI N ∧ ∀ x, x < N → (fI V 1 x).toInt64 = B x) (h3 : ∀ a, a < 6 → M.testBit a = true → fI V 24 (rk M a) = nI a ∧ P a) (h4 : ∀ x, x < N → ∀ a, a < 6 → M.testBit a = true → ((20 : Int32) - gX12_chanceOf V (nI a) (nI x)).toInt64 = g x a ∧ pX12_chanceOf V (nI a) (nI x)) {t : Nat} (ht : t < 2 ^ rk M 6) : gX12_fails V (nI t) = fsm B g (pdp M t) N ∧ pX12_fails V (nI t) :=
  fl_5 hM ht h2.1 rfl h2.2.1 h2.2.2.1 h2.2.2.2 (fun a ha hb => (h3 a ha hb).1) h4 (rk_inv M hM) N 0 fF (by omega) (fF_gt (by omega))
theorem ok_out : ob_out RR := by
  rintro μ ν x1 x2 ⟨σ, σ0, σ1, ρ, r0, r1, h⟩
  obtain ⟨U, V, ⟨u1, v1⟩, ⟨p1, p2⟩, ge, ⟨g2, g3⟩, hc⟩ := ts_ok h x1
  unfold pX11_out pX12_out gX11_out gX12_out uX11_out uX12_out
  rw [u1, v1, ge]
  simp only [isI (μ := U), ite_self]
  rcases hc with hc | ⟨hc, M, N, B, g, ⟨hM, c3, hF⟩, h2, h3, h4⟩
  · simp only [if_pos hc]
    exact ⟨⟨p1, fun z => absurd hc z⟩, ⟨p2, fun z => absurd hc z⟩, trivial, σ, σ0, σ1, _, r0, r1, g2⟩
  · have n1 : ¬ gX12_takesStain (fm_i ν 0 0 0) x1 = 0 := by rw [hc]; decide
    simp only [if_neg n1]
    obtain ⟨a1, a2⟩ := mo_lp (F := fun s => fsm B g s N) hM c3 hF x2 (M + 1) 0 fF 0 (by omega) (fF_gt (by omega))
    obtain ⟨s1, s2⟩ := sh_2 (rk M 6) (rk_le M 6)
    obtain ⟨b1, b2⟩ := ou_lp (F := fun s => fsm B g s N) hM h2.2.1 (fun t ht => fa_ok (P := fun a => a < σ 0 6) hM h2 h3 h4 ht) x1 x2 (gX12_takesStain (fm_i ν 0 0 0) x1) (2 ^ rk M 6) 0 fF 0 (by omega) (fF_gt (by omega))
    have e : ((List.range' 0 (M + 1)).filter (fun s => s &&& (63 - M) == 0)) = (List.range' 0 (2 ^ rk M 6)).map (pdp M) := by
      rw [← List.range_eq_range', ← List.range_eq_range']
      exact pd_list M hM
    rw [e, ← b1] at a1
    refine ⟨⟨p1, fun _ _ => a2⟩, ⟨p2, fun _ _ => b2⟩, ?_, σ, σ0, σ1, _, r0, r1, g2⟩
    unfold gX6_mostOut
    have a1 : lX6_mostOut_h5 fF U x2 0 0 = lX12_out_h35 fF V x1 x2 (gX12_takesStain (fm_i ν 0 0 0) x1) 0 0 := a1
    rw [a1]
