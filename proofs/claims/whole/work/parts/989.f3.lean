section
variable {k T : Nat} {E : Nat → Nat → Bool} {co : Nat → Nat}
theorem fo_lp {x d : Nat} {μ : fm_T} (r : Nat → fm_T → Int32 → Int32 → Int32 × fm_T) (rp : Nat → fm_T → Int32 → Int32 → Prop) (hk : k ≤ 8) (hT : T ≤ 40) (hx : x < k) (hg : FG k T E μ) (ho : FO T co μ) (hj : FJ k T E co (wv μ) μ) (hn : ∀ t, t < T → wv μ t → co t ≠ x)
    (Hr : ∀ (μ1 : fm_T) (y τ : Nat), τ < T → y = co τ → co τ ≠ 9 → wv μ τ → ¬ wv μ1 τ → frL fN fB μ μ1 → (∀ t, t < T → wv μ1 t → wv μ t) → rp 0 μ1 (nI y) (nI (d + 1)) ∧ (((r 0 μ1 (nI y) (nI (d + 1))).1 = 0 ∧ Fai k T E co y μ1 (r 0 μ1 (nI y) (nI (d + 1))).2) ∨ ((r 0 μ1 (nI y) (nI (d + 1))).1 = 1 ∧ Suc k T E co y μ1 (r 0 μ1 (nI y) (nI (d + 1))).2))) :
    ∀ (c τ n : Nat) (μc : fm_T), τ + c = T → c < n → frL fN fB μ μc → (∀ t, t < T → wv μc t → wv μ t) → (∀ t, t < τ → E x t = true → ¬ wv μc t) → (∀ t, t < T → ¬ wv μc t → wv μ t → co t ≠ 9 ∧ ∀ t', t' < T → E (co t) t' = true → ¬ wv μc t') → qX1_findOwner_h24 r rp n μc (nI x) (nI d) (nI τ) ∧ ((lX1_findOwner_h24 r n μc (nI x) (nI d) (nI τ) = 0 ∧ Fai k T E co x μ (mX1_findOwner_h24 r n μc (nI x) (nI d) (nI τ))) ∨ (lX1_findOwner_h24 r n μc (nI x) (nI d) (nI τ) = 1 ∧ Suc k T E co x μ (mX1_findOwner_h24 r n μc (nI x) (nI d) (nI τ)))) := by
  intro c
  induction c with
  | zero =>
    intro τ n μc h1 h2 f0 f1 f2 f3
    obtain ⟨n, rfl⟩ : ∃ m, n = m + 1 := ⟨n - 1, by omega⟩
    obtain rfl : τ = T := by omega
    have e : nI τ ≤ nI τ := (nI_leI (by omega) (by omega)).mpr (by omega)
    have c7 : fI μc 51 7 = nI τ := (f0.2.2.2 51 7 id).trans hg.2.1
    simp only [lX1_findOwner_h24, mX1_findOwner_h24, qX1_findOwner_h24, c7, if_pos e]
    exact ⟨fun z => absurd e z, Or.inl ⟨trivial, f0, f1, f2, f3⟩⟩
  | succ c ih =>
    intro τ n μc h1 h2 f0 f1 f2 f3
    obtain ⟨n, rfl⟩ : ∃ m, n = m + 1 := ⟨n - 1, by omega⟩
    have e : ¬ nI T ≤ nI τ := fun z => by have := (nI_leI (by omega) (by omega)).mp z; omega
    have hτ : τ < 2 ^ 31 := by omega
    have hτT : τ < T := by omega
    have hx2 : x < 2 ^ 31 := by omega
    have c7 : fI μc 51 7 = nI T := (f0.2.2.2 51 7 id).trans hg.2.1
    have c52 : (fI μc 52 τ >>> (nI x &&& 31)) &&& (1 : Int32) = if E x τ then 1 else 0 := by rw [f0.2.2.2 52 τ id]; exact hg.2.2 τ hτT x hx
    have c55 : fI μc 55 τ = stI (co τ) := (f0.2.2.2 55 τ id).trans (ho τ hτT)
    have vt : vp_in (nI τ) 40 := vp_in_nI (by omega) (by decide)
    have vx : vp_in (nI x) 8 := vp_in_nI (by omega) (by decide)
    have vs := vb_s (fL μc 51 5) (t := τ) (by omega)
    simp only [lX1_findOwner_h24, mX1_findOwner_h24, qX1_findOwner_h24, c7, if_neg e, nI_clamp hτ, nI_clamp hx2, c52, vs, c55, nI_1]
    by_cases b : E x τ = true
    · have n1 : ¬ (1 : Int32) = 0 := by decide
      simp only [b, if_true, if_neg n1]
      by_cases v : vb (fL μc 51 5) τ = false
      · simp only [if_pos v]
        have wτ : wv μ τ := f1 τ hτT v
        have vo := fun u hu => vb_o (fL μc 51 5) (t := τ) (u := u) (by omega) hu
        generalize hV : fL μc 51 5 ||| ((1 : Int64) <<< ((nI τ).toInt64 &&& 63)) = V at vo
        have fm1 : frL fN fB μ (fm_l μc 51 5 V) := f0.l ⟨rfl, rfl⟩
        have w1 : ∀ t, t < T → (wv (fm_l μc 51 5 V) t ↔ wv μc t ∧ t ≠ τ) := fun t ht => by
          unfold wv
          rw [fL_l, if_pos ⟨rfl, rfl⟩, vo t (by omega)]
          simp
        by_cases q : co τ = 9
        · have q1 : stI (co τ) = -1 := by rw [q]; rfl
          simp only [if_pos q1]
          refine ⟨fun _ => ⟨vt, fun z => absurd z n1, fun _ => ⟨fun z => absurd v z, fun _ => ⟨vt, fun _ => ⟨vt, vx⟩, fun z => absurd q1 z⟩⟩⟩, Or.inr ⟨trivial, ?_⟩⟩
          have sx : stI x = nI x := by unfold stI; rw [if_neg (by omega)]
          refine ⟨((fm1.mo (fun _ _ z => z.elim) (fun _ _ z => z)).i (Or.inr rfl)).i (Or.inl rfl), fun t => if t = τ then x else co t, fun t ht => ?_, fun t ht hw hne => ?_, ⟨τ, hτT, wτ, by simp⟩, fun t ht hw hne => ?_, fun t ht hw hne => ?_, fun t ht hw => ?_, fun i hi hix hno => ?_⟩
          · rw [fI_i, if_neg (by omega), fI_i]
            by_cases et : t = τ
            · rw [if_pos ⟨rfl, et⟩]; simp only [et, if_true, sx]
            · rw [if_neg (by omega), fI_l, f0.2.2.2 55 t id, ho t ht]; simp only [if_neg et]
          · by_cases et : t = τ
            · subst et
              simp only [if_true]
              exact ⟨hx, b, by rw [fI_i, if_pos ⟨rfl, rfl⟩]⟩
            · simp only [if_neg et] at hne ⊢
              obtain ⟨j1, j2, j3⟩ := hj t ht hw hne
              have := hn t ht hw
              refine ⟨j1, j2, ?_⟩
              rw [fI_i, if_neg (by omega), fI_i, if_neg (by omega), fI_l, f0.2.2.2 54 _ id]
              exact j3
          · have et : t ≠ τ := fun z => hne (by rw [z, q])
            exact ⟨t, ht, hw, by simp only [if_neg et]⟩
          · by_cases et : t = τ
            · left; simp only [if_pos et]
            · right; exact ⟨t, ht, hw, by simp only [if_neg et]⟩
          · have et : t ≠ τ := fun z => hw (by rw [z]; exact wτ)
            simp only [if_neg et]
          · rw [fI_i, if_neg (by omega), fI_i, if_neg (by omega), fI_l, f0.2.2.2 54 _ id]
        · have q2 : stI (co τ) = nI (co τ) := by unfold stI; rw [if_neg q]
          obtain ⟨y1, y2, y3⟩ := hj τ hτT wτ q
          have q1 : ¬ nI (co τ) = -1 := nI_m1 (by omega)
          obtain ⟨g0, g1⟩ := Hr (fm_l μc 51 5 V) (co τ) τ hτT rfl q wτ (fun z => ((w1 τ hτT).mp z).2 rfl) fm1 (fun t ht z => f1 t ht ((w1 t ht).mp z).1)
          simp only [q2, if_neg q1]
          rcases g1 with ⟨z, g0', g2, g3, g4⟩ | ⟨z, g0', co', s1, s2, s3, s4, s5, s6, s7⟩
          · obtain ⟨k1, k2⟩ := ih (τ + 1) n (r 0 (fm_l μc 51 5 V) (nI (co τ)) (nI (d + 1))).2 (by omega) (by omega) (fm1.tr g0') (fun t ht w => f1 t ht ((w1 t ht).mp (g2 t ht w)).1) (fun t ht ex w => by
              have w' := (w1 t (by omega)).mp (g2 t (by omega) w)
              by_cases et : t = τ
              · exact w'.2 et
              · exact f2 t (by omega) ex w'.1) (fun t ht w hw => by
              by_cases wc : wv (fm_l μc 51 5 V) t
              · exact g4 t ht w wc
              · by_cases et : t = τ
                · subst et
                  exact ⟨q, g3⟩
                · have nw : ¬ wv μc t := fun z => wc ((w1 t ht).mpr ⟨z, et⟩)
                  obtain ⟨a1, a2⟩ := f3 t ht nw hw
                  exact ⟨a1, fun t' ht' ex w' => a2 t' ht' ex ((w1 t' ht').mp (g2 t' ht' w')).1⟩)
            simp only [z, if_true]
            exact ⟨fun _ => ⟨vt, fun z => absurd z n1, fun _ => ⟨fun z => absurd v z, fun _ => ⟨vt, fun z => absurd z q1, fun _ => ⟨vt, g0, fun _ => k1, fun z => absurd trivial z⟩⟩⟩⟩, k2⟩
          · simp only [z, if_neg n1]
            refine ⟨fun _ => ⟨vt, fun z => absurd z n1, fun _ => ⟨fun z => absurd v z, fun _ => ⟨vt, fun z => absurd z q1, fun _ => ⟨vt, g0, fun z => absurd z n1, fun _ => ⟨vt, vx⟩⟩⟩⟩⟩, Or.inr ⟨trivial, ?_⟩⟩
            have sx : stI x = nI x := by unfold stI; rw [if_neg (by omega)]
            have yx : co τ ≠ x := hn τ hτT wτ
            have inj : ∀ t t', t < T → t' < T → wv μ t → wv μ t' → co t ≠ 9 → co t = co t' → t = t' := fun t t' ht ht' w w' hne he => by
              have a1 := (hj t ht w hne).2.2
              have a2 := (hj t' ht' w' (by rw [← he]; exact hne)).2.2
              rw [← he, a1] at a2
              exact nI_inj (by omega) (by omega) a2
            generalize (r 0 (fm_l μc 51 5 V) (nI (co τ)) (nI (d + 1))).2 = μ2 at g0' s1 s2 s7
            have ww : ∀ t, t < T → wv (fm_l μc 51 5 V) t → wv μ t ∧ t ≠ τ := fun t ht z => ⟨f1 t ht ((w1 t ht).mp z).1, ((w1 t ht).mp z).2⟩
            have noX : ∀ t, t < T → wv (fm_l μc 51 5 V) t → co' t ≠ 9 → co' t ≠ x := fun t ht w hne he => by
              rcases s5 t ht w hne with p | ⟨t', p1, p2, p3⟩
              · exact yx (p.symm.trans he)
              · exact hn t' p1 (ww t' p1 p2).1 (p3.trans he)
            refine ⟨(((fm1.mo (fun _ _ z => z.elim) (fun _ _ z => z)).tr g0').i (Or.inr rfl)).i (Or.inl rfl), fun t => if t = τ then x else co' t, fun t ht => ?_, fun t ht hw hne => ?_, ⟨τ, hτT, wτ, by simp⟩, fun t ht hw hne => ?_, fun t ht hw hne => ?_, fun t ht hw => ?_, fun i hi hix hno => ?_⟩
            · rw [fI_i, if_neg (by omega), fI_i]
              by_cases et : t = τ
              · rw [if_pos ⟨rfl, et⟩]; simp only [et, if_true, sx]
              · rw [if_neg (by omega), s1 t ht]; simp only [if_neg et]
            · by_cases et : t = τ
              · subst et
                simp only [if_true]
                exact ⟨hx, b, by rw [fI_i, if_pos ⟨rfl, rfl⟩]⟩
              · simp only [if_neg et] at hne ⊢
                by_cases wc : wv (fm_l μc 51 5 V) t
                · obtain ⟨j1, j2, j3⟩ := s2 t ht wc hne
                  have := noX t ht wc hne
                  exact ⟨j1, j2, by rw [fI_i, if_neg (by omega), fI_i, if_neg (by omega)]; exact j3⟩
                · have ec := s6 t ht wc
                  rw [ec] at hne ⊢
                  obtain ⟨j1, j2, j3⟩ := hj t ht hw hne
                  have nx := hn t ht hw
                  have ny : co t ≠ co τ := fun z => et (inj t τ ht hτT hw wτ hne z)
                  have := s7 (co t) j1 ny (fun t' ht' w' he => by
                    have w'' := ww t' ht' w'
                    have := inj t t' ht ht' hw w''.1 hne he.symm
                    subst this
                    exact wc w')
                  refine ⟨j1, j2, ?_⟩
                  rw [fI_i, if_neg (by omega), fI_i, if_neg (by omega), this, fI_l, f0.2.2.2 54 _ id]
                  exact j3
            · by_cases et : t = τ
              · subst et
                obtain ⟨t', p1, p2, p3⟩ := s3
                have := ww t' p1 p2
                exact ⟨t', p1, this.1, by simp only [if_neg this.2]; exact p3⟩
              · by_cases wc : wv (fm_l μc 51 5 V) t
                · obtain ⟨t', p1, p2, p3⟩ := s4 t ht wc hne
                  have := ww t' p1 p2
                  exact ⟨t', p1, this.1, by simp only [if_neg this.2]; exact p3⟩
                · exact ⟨t, ht, hw, by simp only [if_neg et]; exact s6 t ht wc⟩
            · by_cases et : t = τ
              · left; simp only [if_pos et]
              · right
                simp only [if_neg et] at hne ⊢
                by_cases wc : wv (fm_l μc 51 5 V) t
                · rcases s5 t ht wc hne with p | ⟨t', p1, p2, p3⟩
                  · exact ⟨τ, hτT, wτ, p.symm⟩
                  · exact ⟨t', p1, (ww t' p1 p2).1, p3⟩
                · exact ⟨t, ht, hw, (s6 t ht wc).symm⟩
            · have et : t ≠ τ := fun z => hw (by rw [z]; exact wτ)
              simp only [if_neg et]
              exact s6 t ht (fun z => hw (ww t ht z).1)
            · have iy : i ≠ co τ := fun z => hno τ hτT wτ z.symm
              rw [fI_i, if_neg (by omega), fI_i, if_neg (by omega), s7 i hi iy (fun t' ht' w' => hno t' ht' (ww t' ht' w').1), fI_l, f0.2.2.2 54 _ id]
      · obtain ⟨k1, k2⟩ := ih (τ + 1) n μc (by omega) (by omega) f0 f1 (fun t ht ex w => by
          by_cases et : t = τ
          · subst et; exact v w
          · exact f2 t (by omega) ex w) f3
        simp only [if_neg v]
        exact ⟨fun _ => ⟨vt, fun z => absurd z n1, fun _ => ⟨fun _ => k1, fun z => absurd z v⟩⟩, k2⟩
    · have bf : E x τ = false := by simpa using b
      obtain ⟨k1, k2⟩ := ih (τ + 1) n μc (by omega) (by omega) f0 f1 (fun t ht ex w => by
        by_cases et : t = τ
        · subst et; exact b ex
        · exact f2 t (by omega) ex w) f3
      simp only [bf, Bool.false_eq_true, if_false, if_true]
      exact ⟨fun _ => ⟨vt, fun _ => k1, fun z => absurd trivial z⟩, k2⟩
theorem fo_ok (hk : k ≤ 8) (hT : T ≤ 40) : ∀ (n c d x : Nat) (μ : fm_T) (co : Nat → Nat), owC k T co (fL μ 51 5) ≤ c → c < n → d + 1 + c ≤ 8 → x < k → FG k T E μ → FO T co μ → FJ k T E co (wv μ) μ → (∀ t, t < T → wv μ t → co t ≠ x) → puX1_findOwner n 0 μ (nI x) (nI d) ∧ (((guX1_findOwner n 0 μ (nI x) (nI d)).1 = 0 ∧ Fai k T E co x μ (guX1_findOwner n 0 μ (nI x) (nI d)).2) ∨ ((guX1_findOwner n 0 μ (nI x) (nI d)).1 = 1 ∧ Suc k T E co x μ (guX1_findOwner n 0 μ (nI x) (nI d)).2))
  | 0, c, d, x, μ, co, _, h, _, _, _, _, _, _ => by omega
  | n + 1, c, d, x, μ, co, hc, hcn, hd, hx, hg, ho, hj, hn => by
    have e8 : ¬ (8 : Int32) ≤ nI d := fun z => by have := (nI_leI (a := 8) (by omega) (by omega)).mp z; omega
    have wi : ¬ gX11_within μ (nI x) 0 (nI k - 1) = 0 := wi_b (by omega) hx
    obtain ⟨k1, k2⟩ := fo_lp (guX1_findOwner n) (puX1_findOwner n) (d := d) hk hT hx hg ho hj hn (fun μ1 y τ hτ hy h9 hw hw1 f1 f2 => by
      obtain ⟨j1, j2, j3⟩ := hj τ hτ hw h9
      have lt := ow_lt (k := k) (T := T) (co := co) (v := fL μ 51 5) (v' := fL μ1 51 5) j1 f2 (ow_iff.mpr ⟨τ, hτ, hw, rfl⟩) (by
        cases hb : owN T co (fL μ1 51 5) (co τ)
        · rfl
        · obtain ⟨t, t1, t2, t3⟩ := ow_iff.mp hb
          exfalso
          have a2 := (hj t t1 (f2 t t1 t2) (by rw [t3]; exact h9)).2.2
          rw [t3, j3] at a2
          have := nI_inj (by omega) (by omega) a2
          subst this
          exact hw1 t2)
      rw [hy]
      exact fo_ok hk hT n (c - 1) (d + 1) (co τ) μ1 co (by omega) (by omega) (by omega) j1 ⟨(f1.2.2.2 51 6 id).trans hg.1, (f1.2.2.2 51 7 id).trans hg.2.1, fun t ht i hi => by rw [f1.2.2.2 52 t id]; exact hg.2.2 t ht i hi⟩ (fun t ht => (f1.2.2.2 55 t id).trans (ho t ht)) (fun t ht w hne => by
        have := hj t ht (f2 t ht w) hne
        exact ⟨this.1, this.2.1, (f1.2.2.2 54 _ id).trans this.2.2⟩) (fun t ht w he => by
        have a2 := (hj t ht (f2 t ht w) (by rw [he]; exact h9)).2.2
        rw [he, j3] at a2
        have := nI_inj (by omega) (by omega) a2
        subst this
        exact hw1 w)) T 0 fF μ (by omega) (fF_gt (by omega)) (frL.rf _ _ _) (fun t _ w => w) (fun t ht => by omega) (fun t _ w1 w2 => absurd w2 w1)
    rw [show nI 0 = 0 from rfl] at k1 k2
    simp only [guX1_findOwner, puX1_findOwner, gX1_findOwner, uX1_findOwner, pX1_findOwner, hg.1, if_neg e8, if_neg wi]
    exact ⟨fun _ _ => k1, k2⟩
end
