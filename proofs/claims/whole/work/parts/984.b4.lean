theorem to_ok {M N : Nat} {F c : Nat → Nat} {B : Nat → Int64} {g : Nat → Nat → Int64} (hM : M < 64) (hc : ∀ a, c a ≤ 99) (hB : ∀ a s, c a * F s ≤ 10000000000000) (hF : ∀ s, s ≤ M → s &&& (63 - M) = 0 → fsm B g s N = lN (F s)) : ∀ (e n t d y b : Nat) (V : fm_T), ctN (M - pdp M t) 9 = e → d + e = rk M 6 → e < n → t < 2 ^ rk M 6 → VQ M N B g c V → bst (fL V 0 44) b → y ≤ 10000000000000 * pdp M t → (∀ j, j < d → ∃ i, i < 6 ∧ fI V 22 j = nI i) → TR M F c d (M - pdp M t) y b V (guX12_tryOrder n 0 V (nI d) (nI t) (lN y)) ∧ puX12_tryOrder n 0 V (nI d) (nI t) (lN y) := by
  have r6 := rk_le M 6
  intro e
  induction e with
  | zero =>
    intro n t d y b V he hd hn ht hv hb hy hp
    obtain ⟨n, rfl⟩ : ∃ m, n = m + 1 := ⟨n - 1, by omega⟩
    have pdM := (pd_pc M hM t ht).2.1
    have R0 := (ct_64 (M - pdp M t) (by omega)).2 he
    obtain ⟨u1, u2⟩ := to_u (guX12_tryOrder n) (puX12_tryOrder n) (nI t) hb (d := d) (y := y) (m := rk M 6) (by omega) (by omega) r6 hv.1.2.1
    have dm : d = rk M 6 := by omega
    obtain ⟨k1, k2, k3⟩ := lf_lp (M := M) (N := N) (m := d) (B := B) (g := g) (c := c) (V := V) (guX12_tryOrder n) (puX12_tryOrder n) (by omega) hp (nI t) (lN y) d 0 fF (fm_l V 0 44 (lN y)) (by omega) (fF_gt (by omega)) ((frL.rf _ _ V).l ⟨rfl, rfl⟩) (fun i hi => by omega)
    rw [show nI 0 = 0 from rfl] at k1 k2 k3
    refine ⟨?_, u2 (fun _ _ => k1) (fun z => absurd dm z)⟩
    show TR M F c d (M - pdp M t) y b V (uX12_tryOrder (guX12_tryOrder n) V (nI d) (nI t) (lN y))
    rw [u1, R0]
    unfold TR
    rw [qW_0, Nat.add_zero]
    by_cases q : b < y
    · rw [if_pos q]
      exact ⟨frL.rf _ _ _, fun z => by omega, fun _ => ⟨rfl, fun _ => rfl⟩⟩
    · rw [if_neg q, if_pos dm]
      by_cases q2 : y < b
      · rw [if_pos q2]
        refine ⟨((frL.rf (tA d) tB V).l (k := 0) (j := 44) (v := lN y) ⟨rfl, rfl⟩).tr (k2.mo (fun k j z => Or.inl z) (fun _ _ z => z.elim)), fun _ => ⟨?_, fun j hj => ?_⟩, fun z => absurd q2 z⟩
        · rw [k2.2.2.1 0 44 id, fL_l, if_pos ⟨rfl, rfl⟩]
        · rw [if_pos (by omega)]; exact k3 j (by omega)
      · rw [if_neg q2]
        exact ⟨frL.rf _ _ _, fun z => absurd z q2, fun _ => ⟨rfl, fun _ => rfl⟩⟩
  | succ e ih =>
    intro n t d y b V he hd hn ht hv hb hy hp
    obtain ⟨n, rfl⟩ : ∃ m, n = m + 1 := ⟨n - 1, by omega⟩
    have pdM := (pd_pc M hM t ht).2.1
    have R0 : M - pdp M t ≠ 0 := fun z => by
      rw [z] at he
      have : ctN 0 9 = 0 := by decide
      omega
    obtain ⟨u1, u2⟩ := to_u (guX12_tryOrder n) (puX12_tryOrder n) (nI t) hb (d := d) (y := y) (m := rk M 6) (by omega) (by omega) r6 hv.1.2.1
    have dm : ¬ d = rk M 6 := by omega
    obtain ⟨a1, a2⟩ := fa_ok (P := fun a => fI V 2 (10 + 8 * a) = nI (c a)) hM hv.1 hv.2.1 hv.2.2 ht
    rw [hF (pdp M t) pdM (pd_R hM ht (show 0 < 6 by omega)).2.2] at a1
    obtain ⟨k1, k2⟩ := h9_lp (F := F) (guX12_tryOrder n) (puX12_tryOrder n) hM hc hB ht (by omega) hv hb hy hp (fun V1 a b1 ha rt uf hv1 hb1 hp1 => by
      obtain ⟨pM, pS, -⟩ := pd_R hM ht ha
      obtain ⟨-, -, pp⟩ := pM (pS rt)
      obtain ⟨p1, p2, p3⟩ := pp uf
      have cm := ct_m (M - pdp M t) (by omega) a (by omega) rt
      have pa := Nat.two_pow_pos a
      have cF := hB a (pdp M t)
      have := ih n (t + 2 ^ rk M a) (d + 1) (y + c a * F (pdp M t)) b1 V1 (by rw [p1, p3]; omega) (by omega) (by omega) p2 hv1 hb1 (by rw [p1]; omega) hp1
      rw [p1, p3] at this
      exact this) 6 0 fF V (by omega) (fF_gt (by omega)) ⟨frL.rf _ _ _, fun z => absurd rfl z.1, fun _ => ⟨rfl, fun _ => rfl⟩⟩
    rw [show nI (rk M 0) = 0 from rfl] at k1 k2
    refine ⟨?_, u2 (fun z => absurd z dm) (fun _ _ => ⟨a2, by rw [a1]; exact k1⟩)⟩
    show TR M F c d (M - pdp M t) y b V (uX12_tryOrder (guX12_tryOrder n) V (nI d) (nI t) (lN y))
    rw [u1, a1]
    by_cases q : b < y
    · rw [if_pos q]
      exact ⟨frL.rf _ _ _, fun z => by omega, fun _ => ⟨rfl, fun _ => rfl⟩⟩
    · rw [if_neg q, if_neg dm]
      obtain ⟨n1, n2⟩ := amN_n9 (v := qv M F c (M - pdp M t)) (R := M - pdp M t) (by omega) R0
      obtain ⟨f0, f1, f2⟩ := k2
      have n9 : amN (qv M F c (M - pdp M t)) (M - pdp M t) 6 ≠ 9 := by omega
      unfold TR
      rw [qW_s (by omega) R0]
      refine ⟨f0, fun z => ?_, fun z => f2 (fun w => z w.2)⟩
      obtain ⟨g1, g2⟩ := f1 ⟨n9, z⟩
      refine ⟨g1, fun j hj => ?_⟩
      rw [g2 j hj]
      by_cases j1 : j < d
      · rw [if_pos j1, if_pos j1]
      · rw [if_neg j1, if_neg j1]
        by_cases j2 : j = d
        · rw [if_pos j2, j2, Nat.sub_self]; rfl
        · rw [if_neg j2]
          obtain ⟨i, hi⟩ : ∃ i, j - d = i + 1 := ⟨j - d - 1, by omega⟩
          rw [hi, Nat.add_sub_cancel]
          rfl
def prN (g : Nat → Nat) (s : Nat) : Nat → Nat
  | 0 => 1
  | k + 1 => prN g s k * (if s.testBit k then g k else 20)
def fnN (B : Nat → Nat) (g : Nat → Nat → Nat) (s : Nat) : Nat → Nat
  | 0 => 0
  | x + 1 => fnN B g s x + B x * prN (g x) s 6
theorem prN_le {g : Nat → Nat} {s : Nat} (h : ∀ a, g a ≤ 20) : ∀ k, prN g s k ≤ 20 ^ k
  | 0 => Nat.le_refl _
  | k + 1 => by
    have ih := prN_le (s := s) h k
    unfold prN
    rw [Nat.pow_succ]
    refine Nat.mul_le_mul ih ?_
    split
    · exact h k
    · exact Nat.le_refl _
theorem prN_ok {g : Nat → Int64} {gn : Nat → Nat} {s : Nat} : ∀ k, (∀ a, a < k → s.testBit a = true → g a = lN (gn a)) → prS g s k = lN (prN gn s k)
  | 0, _ => rfl
  | k + 1, h => by
    have ih := prN_ok (g := g) (gn := gn) (s := s) k (fun a ha t => h a (by omega) t)
    unfold prS prN
    rw [ih]
    by_cases t : s.testBit k = true
    · rw [if_pos t, if_pos t, h k (by omega) t, lN_mul]
    · rw [if_neg t, if_neg t, show (20 : Int64) = lN 20 from rfl, lN_mul]
theorem fnN_le {B : Nat → Nat} {g : Nat → Nat → Nat} {s : Nat} (hB : ∀ x, B x ≤ 255) (h : ∀ x a, g x a ≤ 20) : ∀ N, fnN B g s N ≤ 16320000000 * N
  | 0 => Nat.le_refl _
  | N + 1 => by
    have ih := fnN_le (s := s) hB h N
    have p := prN_le (s := s) (h N) 6
    have := Nat.mul_le_mul (hB N) p
    unfold fnN
    have e : 255 * 20 ^ 6 = 16320000000 := by decide
    omega
theorem fnN_ok {B : Nat → Int64} {g : Nat → Nat → Int64} {Bn : Nat → Nat} {gn : Nat → Nat → Nat} {s : Nat} : ∀ N, (∀ x, x < N → B x = lN (Bn x)) → (∀ x, x < N → ∀ a, a < 6 → s.testBit a = true → g x a = lN (gn x a)) → fsm B g s N = lN (fnN Bn gn s N)
  | 0, _, _ => rfl
  | N + 1, h1, h2 => by
    have ih := fnN_ok (B := B) (g := g) (Bn := Bn) (gn := gn) (s := s) N (fun x hx => h1 x (by omega)) (fun x hx => h2 x (by omega))
    unfold fsm fnN
    rw [ih, h1 N (by omega), prN_ok (gn := gn N) 6 (h2 N (by omega)), lN_mul, lN_add]
