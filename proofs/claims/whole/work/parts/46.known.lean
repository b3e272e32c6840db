theorem lz_known {s : State} {args : Array Value} (hts : ∀ w ∈ lw_tbl, w.before args s = true) : ∃ (D : va_G) (cy : Nat → ClassId), va_K D vwCl (fx_t sC cy) s ∧ va_K D vwCl (fx_t sM cy) s := by
  have hk : ∀ k : Nat, ∃ z : ClassId × (Nat → Nat), ∀ q : vw_C, vwCl[k]? = some q → u_Kn s q.1 q.2.1 q.2.2 z.1 z.2 := by
    intro k
    match k with
    | 0 =>
      obtain ⟨c0, i0, h0⟩ := u_known (C := RX0) (T := TX0) (N := 6) (n := 6) hts (fun w h => lz_tl w (kcX0.2.1 w h)) (hts _ (lz_tl _ keX0))
      exact ⟨(c0, i0), fun q hq => by cases hq; exact h0⟩
    | 1 =>
      obtain ⟨c0, i0, h0⟩ := u_known (C := RX1) (T := TX1) (N := 9) (n := 9) hts (fun w h => lz_tl w (kcX1.2.1 w h)) (hts _ (lz_tl _ keX1))
      exact ⟨(c0, i0), fun q hq => by cases hq; exact h0⟩
    | 2 =>
      obtain ⟨c0, i0, h0⟩ := u_known (C := RX2) (T := TX2) (N := 13) (n := 13) hts (fun w h => lz_tl w (kcX2.2.1 w h)) (hts _ (lz_tl _ keX2))
      exact ⟨(c0, i0), fun q hq => by cases hq; exact h0⟩
    | 3 =>
      obtain ⟨c0, i0, h0⟩ := u_known (C := RX3) (T := TX3) (N := 9) (n := 9) hts (fun w h => lz_tl w (kcX3.2.1 w h)) (hts _ (lz_tl _ keX3))
      exact ⟨(c0, i0), fun q hq => by cases hq; exact h0⟩
    | 4 =>
      obtain ⟨c0, i0, h0⟩ := u_known (C := RX4) (T := TX4) (N := 10) (n := 10) hts (fun w h => lz_tl w (kcX4.2.1 w h)) (hts _ (lz_tl _ keX4))
      exact ⟨(c0, i0), fun q hq => by cases hq; exact h0⟩
    | 5 =>
      obtain ⟨c0, i0, h0⟩ := u_known (C := RX5) (T := TX5) (N := 5) (n := 5) hts (fun w h => lz_tl w (kcX5.2.1 w h)) (hts _ (lz_tl _ keX5))
      exact ⟨(c0, i0), fun q hq => by cases hq; exact h0⟩
    | 6 =>
      obtain ⟨c0, i0, h0⟩ := u_known (C := RX6) (T := TX6) (N := 5) (n := 5) hts (fun w h => lz_tl w (kcX6.2.1 w h)) (hts _ (lz_tl _ keX6))
      exact ⟨(c0, i0), fun q hq => by cases hq; exact h0⟩
    | 7 =>
      obtain ⟨c0, i0, h0⟩ := u_known (C := RX7) (T := TX7) (N := 15) (n := 15) hts (fun w h => lz_tl w (kcX7.2.1 w h)) (hts _ (lz_tl _ keX7))
      exact ⟨(c0, i0), fun q hq => by cases hq; exact h0⟩
    | 8 =>
      obtain ⟨c0, i0, h0⟩ := u_known (C := RX8) (T := TX8) (N := 8) (n := 8) hts (fun w h => lz_tl w (kcX8.2.1 w h)) (hts _ (lz_tl _ keX8))
      exact ⟨(c0, i0), fun q hq => by cases hq; exact h0⟩
    | 9 =>
      obtain ⟨c0, i0, h0⟩ := u_known (C := RX9) (T := TX9) (N := 6) (n := 6) hts (fun w h => lz_tl w (kcX9.2.1 w h)) (hts _ (lz_tl _ keX9))
      exact ⟨(c0, i0), fun q hq => by cases hq; exact h0⟩
    | 10 =>
      obtain ⟨c0, i0, h0⟩ := u_known (C := RX10) (T := TX10) (N := 5) (n := 5) hts (fun w h => lz_tl w (kcX10.2.1 w h)) (hts _ (lz_tl _ keX10))
      exact ⟨(c0, i0), fun q hq => by cases hq; exact h0⟩
    | 11 =>
      obtain ⟨c0, i0, h0⟩ := u_known (C := RX11) (T := TX11) (N := 13) (n := 13) hts (fun w h => lz_tl w (kcX11.2.1 w h)) (hts _ (lz_tl _ keX11))
      exact ⟨(c0, i0), fun q hq => by cases hq; exact h0⟩
    | 12 =>
      obtain ⟨c0, i0, h0⟩ := u_known (C := RX12) (T := TX12) (N := 65) (n := 65) hts (fun w h => lz_tl w (kcX12.2.1 w h)) (hts _ (lz_tl _ keX12))
      exact ⟨(c0, i0), fun q hq => by cases hq; exact h0⟩
    | k + 13 => exact ⟨(0, fun _ => 0), fun q hq => by simp [vwCl] at hq⟩
  have ha : ∀ ty : FieldType, (∀ C, ty ≠ .object C) → (Cond.arrayClass ty).before args s = true → ∃ cA : ClassId, ArrOfT s cA ty ∧ va_RA s cA ty := by
    intro ty hty h
    obtain ⟨cA, k, comp, h1, h2, h3⟩ := Cond.arrayClass_spec h
    refine ⟨cA, fun n z => ⟨fun k h => (by cases h), k, h2, comp, h3⟩, ?_⟩
    cases ty with
    | object C => exact absurd rfl (hty C)
    | _ => exact h1
  obtain ⟨cI, i1, i2⟩ := ha .int (fun C h => by cases h) (hts _ (lz_tl _ ka_int))
  obtain ⟨cJ, j1, j2⟩ := ha .long (fun C h => by cases h) (hts _ (lz_tl _ ka_long))
  obtain ⟨cZ, z1, z2⟩ := ha .boolean (fun C h => by cases h) (hts _ (lz_tl _ ka_boolean))
  obtain ⟨comp, cO, kO, o1, o2, o3, o4, o5⟩ := Cond.arrayOver_spec (n := "CoatWorks$Works") (hts (.arrayOver (.object "CoatWorks$Works")) (List.mem_of_getElem? (i := 456) (by decide +kernel)))
  refine ⟨(fun k => (Classical.choose (hk k)).1, fun k => (Classical.choose (hk k)).2), fun k => if k = 0 then cI else if k = 1 then cJ else if k = 2 then cZ else cO, ⟨fun k q hq => Classical.choose_spec (hk k) q hq, fun k q hq => ?_⟩, ⟨fun k q hq => Classical.choose_spec (hk k) q hq, fun k q hq => ?_⟩⟩
  · match k, hq with
    | 0, hq => cases hq; exact ⟨i1, i2⟩
    | 1, hq => cases hq; exact ⟨j1, j2⟩
    | 2, hq => cases hq; exact ⟨fun n z => ⟨fun k h => (by cases h), kO, o3, comp, o4⟩, ⟨kO, comp, o3, o4, o1, o5⟩⟩
    | k + 3, hq => simp [fx_t, sC] at hq
  · match k, hq with
    | 0, hq => cases hq; exact ⟨i1, i2⟩
    | 1, hq => cases hq; exact ⟨j1, j2⟩
    | 2, hq => cases hq; exact ⟨z1, z2⟩
    | k + 3, hq => simp [fx_t, sM] at hq
theorem lz_tof {args : Array Value} {s : State} {tm : Term} {xs : List Int32} {A : Nat → Prop} (hl : xs.length = 4) (hs : ∀ w ∈ flatC (Jvm.Cond.and given_1 narrow_1), w.before args s = true) (h1 : Cond.arrayOf tm .int ∈ flatC (Jvm.Cond.and given_1 narrow_1)) (h2 : Cond.eq (.length tm) (.int (Int32.ofNat 4)) ∈ flatC (Jvm.Cond.and given_1 narrow_1)) (h3 : ∀ j : Nat, j < 4 → Cond.eq (.elem tm (.int (Int32.ofNat j))) (.int (xs.getD j 0)) ∈ flatC (Jvm.Cond.and given_1 narrow_1)) (hA : ∀ a : Nat, a < s.heap.size → ¬ A a) : ∃ t : Nat, tm.eval args s none [] s = some (.ref t) ∧ va_T .int t xs.length (fun i => .int (xs.getD i 0)) A s s.heap := by
  rw [hl]
  exact va_Tof (f := fun j => .int (xs.getD j 0)) (A := A) (N := 4) (by decide) (hs _ h1) (va_eqt (hs _ h2)) (fun j hj => va_eqt (hs _ (h3 j hj))) hA
theorem lz_stat {s : State} {args : Array Value} {A : Nat → Prop} (hts : ∀ w ∈ lw_tbl, w.before args s = true) (hg : (Jvm.Cond.and given_1 narrow_1).before args s = true) (hA : ∀ a : Nat, a < s.heap.size → ¬ A a) : ∃ ad : Nat → Nat, fx_S sC A ad s s.heap ∧ fx_S sM A ad s s.heap := by
  have hs := flat_of_before _ hg
  obtain ⟨t0, e0, T0⟩ := lz_tof (tm := .static "CoatWorks$House" "MOST_OF_SORT" "[I") (xs := [6, 6, 8, 4]) (A := A) rfl hs (by decide +kernel) (by decide +kernel) (by decide +kernel) hA
  have Z0 := va_Zof (A := A) (hts (.laysStatic "CoatWorks$House" "MOST_OF_SORT" "[I") (fg_m3 (List.mem_of_getElem? (i := 145) (by decide +kernel)))) (hts _ (lz_tl _ kuX2)) e0 hA
  obtain ⟨t1, e1, T1⟩ := lz_tof (tm := .static "CoatWorks$House" "UNTOLD_SETTING" "[I") (xs := [2, 30, 20, 150]) (A := A) rfl hs (by decide +kernel) (by decide +kernel) (by decide +kernel) hA
  have Z1 := va_Zof (A := A) (hts (.laysStatic "CoatWorks$House" "UNTOLD_SETTING" "[I") (fg_m2 (List.mem_of_getElem? (i := 8) (by decide +kernel)))) (hts _ (lz_tl _ kuX2)) e1 hA
  obtain ⟨t2, e2, T2⟩ := lz_tof (tm := .static "CoatWorks$House" "LEAST_SETTING" "[I") (xs := [1, 1, 0, 100]) (A := A) rfl hs (by decide +kernel) (by decide +kernel) (by decide +kernel) hA
  have Z2 := va_Zof (A := A) (hts (.laysStatic "CoatWorks$House" "LEAST_SETTING" "[I") (fg_m3 (List.mem_of_getElem? (i := 190) (by decide +kernel)))) (hts _ (lz_tl _ kuX2)) e2 hA
  obtain ⟨t3, e3, T3⟩ := lz_tof (tm := .static "CoatWorks$House" "MOST_SETTING" "[I") (xs := [4, 99, 99, 300]) (A := A) rfl hs (by decide +kernel) (by decide +kernel) (by decide +kernel) hA
  have Z3 := va_Zof (A := A) (hts (.laysStatic "CoatWorks$House" "MOST_SETTING" "[I") (fg_m3 (List.mem_of_getElem? (i := 192) (by decide +kernel)))) (hts _ (lz_tl _ kuX2)) e3 hA
  obtain ⟨a1, -, -, -, s1, -⟩ := Cond.exactly_spec (args := args) (first := s) (o := none) (s := s) (idx := []) (t := .string "CoatWorks$Tape" 11) (cls := "java/lang/String") (hs _ (by decide +kernel))
  obtain ⟨a2, s2, -⟩ := va_Tof (f := fun j => .int (wb.getD j 0)) (A := A) (N := 136) (ty := .byte) (tm := stV) (by decide) (hs _ (by decide +kernel)) (va_eqt (hs _ (by decide +kernel))) (fun j hj => va_eqt (hs _ (List.mem_of_getElem? (wb_mem j hj)))) hA
  obtain ⟨a3, -, -, -, s3, -⟩ := Cond.exactly_spec (args := args) (first := s) (o := none) (s := s) (idx := []) (t := .string "CoatWorks" 166) (cls := "java/lang/String") (hs _ (by decide +kernel))
  obtain ⟨a4, -, -, -, s4, -⟩ := Cond.exactly_spec (args := args) (first := s) (o := none) (s := s) (idx := []) (t := .string "CoatWorks" 360) (cls := "java/lang/String") (hs _ (by decide +kernel))
  obtain ⟨v5, s5, r5⟩ := Cond.isRef_spec (args := args) (first := s) (o := none) (s := s) (idx := []) (t := .static "jdk/internal/util/Preconditions" "SIOOBE_FORMATTER" "Ljava/util/function/BiFunction;") (hs _ (by decide +kernel))
  obtain ⟨a5, h5⟩ : ∃ a5 : Nat, v5 = .null ∨ v5 = .ref a5 := by
    cases v5 with
    | null => exact ⟨0, Or.inl rfl⟩
    | ref a => exact ⟨a, Or.inr rfl⟩
    | _ => cases r5
  have hV : ∀ ad : Nat → Nat, ad 4010 = a1 → ad 4011 = a2 → ad 4012 = a3 → ad 4013 = a4 → ad 4014 = a5 → fx_V ad A s s.heap := by
    intro ad g1 g2 g3 g4 g5
    refine ⟨s, args, ⟨hts, hg, by rw [g1]; exact s1, by rw [g2]; exact s2, by rw [g3]; exact s3, by rw [g4]; exact s4, ?_⟩, State.WarmedH.refl s, fun a ha => ⟨hA a ha, rfl⟩⟩
    rw [g5]
    rcases h5 with h5 | h5
    · exact Or.inl (by rw [← h5]; exact s5)
    · exact Or.inr (by rw [← h5]; exact s5)
  refine ⟨fun k => if k = 4000 then t0 else if k = 4001 then t1 else if k = 4002 then t2 else if k = 4003 then t3 else if k = 4010 then a1 else if k = 4011 then a2 else if k = 4012 then a3 else if k = 4013 then a4 else a5, ⟨fun j q hq => ?_, hV _ rfl rfl rfl rfl rfl⟩, ⟨fun j q hq => by simp [sM] at hq, hV _ rfl rfl rfl rfl rfl⟩⟩
  match j, hq with
  | 0, hq => cases hq; exact ⟨Z0, T0⟩
  | 1, hq => cases hq; exact ⟨Z1, T1⟩
  | 2, hq => cases hq; exact ⟨Z2, T2⟩
  | 3, hq => cases hq; exact ⟨Z3, T3⟩
  | j + 4, hq => simp [sC] at hq
theorem lz_nest {s : State} {args : Array Value} (hts : ∀ w ∈ lw_tbl, w.before args s = true) : ∀ w ∈ fg_h, va_Nw w s := by
  intro w hw
  have h1 := List.mem_filter.mp hw
  have h2 : w.onTables = true := by
    have := h1.2
    cases w <;> first | rfl | (cases this; done)
  exact va_Nw.of h2 (hts w h1.1)
