section
variable {b : Nat → Nat} {z l last : Nat} {K A V W P : Nat → Nat} {n2 wi : Nat} {nm : Nat → Nat}
theorem IQ_01 {so st : Nat} {gC gM : Int32} {μ μ' ν ν' : fm_T} (h : IQ b z l last K A V W P n2 so st wi gC μ μ' gM ν ν') : (gC = 0 ∨ gC = 1) ∧ (gM = 0 ∨ gM = 1) := by
  rcases h.2.2 with ⟨a, c, -⟩ | ⟨a, c, -⟩
  · exact ⟨Or.inl a, Or.inl c⟩
  · exact ⟨Or.inr a, Or.inr c⟩
theorem rd_5 {x : Int32} : (6 : Int32) = 6 ∧ ¬ (6 : Int32) = 5 ∧ ¬ (7 : Int32) = 6 ∧ ¬ (7 : Int32) = 5 ∧ ¬ (8 : Int32) = 6 ∧ ¬ (8 : Int32) = 5 ∧ ¬ (5 : Int32) = 6 := by decide
theorem lf_fc {n so st : Nat} {μ ν : fm_T} (lk : LK b z l last K A V W P n μ ν) (rl : RlN so st wi μ ν) (hso : 1 ≤ so) (hst : st + 2 ≤ 2 * so) {x p : Int32} (hx : (x = 15 ∧ p = 7) ∨ (x = 16 ∧ p = 8)) : pX5_addStep μ x 0 0 ∧ pX12_readPlain ν p ∧ IQ b z l last K A V W P n2 so st wi 1 μ (uX5_addStep μ x 0 0) (gX12_readPlain ν p) ν (uX12_readPlain ν p) := by
  have n6 : ¬ p = 6 := by rcases hx with ⟨-, h⟩ | ⟨-, h⟩ <;> rw [h] <;> decide
  have n5 : ¬ p = 5 := by rcases hx with ⟨-, h⟩ | ⟨-, h⟩ <;> rw [h] <;> decide
  have hs : st < 40 := by have := rl.2.2.2.2.2.1; omega
  have sp := sp_ok rl.1 rl.2.2.1 hs x 0 0 p 0 0 0
  have tg := lf_TG (n2 := n2) hs sp (Or.inr (Or.inr (Or.inr hx)))
  obtain ⟨q1, q2, q3⟩ := lff_ok lk rl hso hst sp tg
  unfold pX12_readPlain gX12_readPlain uX12_readPlain
  simp only [if_neg n6, if_neg n5]
  exact ⟨(as_ok rl.1 hs _ _ _).1, ⟨fun _ => ⟨fun _ => (ly_ok rl.2.2.1 hs _ _ _ _).1, fun q => absurd q n5⟩, fun q => absurd q n6⟩, q1, q2, Or.inr ⟨rfl, rfl, q3⟩⟩
theorem FQ_r {μ μ' ν ν' : fm_T} {A1 B1 A2 B2 : Nat → Nat → Prop} (h : FQ μ ν) (f1 : frL A1 B1 μ μ') (f2 : frL A2 B2 ν ν') (h1 : ∀ k j, A1 k j → ¬ (k = 1 ∧ (j = 13 ∨ j = 14))) (h2 : ∀ k j, A2 k j → ¬ (k = 0 ∧ (j = 10 ∨ j = 11))) : FQ μ' ν' := by
  unfold FQ
  rw [f1.2.2.2 1 13 (fun q => h1 _ _ q ⟨rfl, Or.inl rfl⟩), f1.2.2.2 1 14 (fun q => h1 _ _ q ⟨rfl, Or.inr rfl⟩), f2.2.2.2 0 10 (fun q => h2 _ _ q ⟨rfl, Or.inl rfl⟩), f2.2.2.2 0 11 (fun q => h2 _ _ q ⟨rfl, Or.inr rfl⟩)]
  exact h
theorem fAc_R {st k j : Nat} (h : fAc k j) : fRc st k j := by unfold fAc at h; unfold fRc; omega
theorem fGm_R {st k j : Nat} (h : fGm k j) : fRm st k j := by unfold fGm at h; unfold fRm; omega
theorem Rl_t {so st : Nat} {μ ν μ' ν' : fm_T} {B1 B2 : Nat → Nat → Prop} (rl : RlN so st wi μ ν) (f1 : frL fAc B1 μ μ') (f2 : frL fGm B2 ν ν') : RlN so st wi μ' ν' := by
  obtain ⟨r1, r2, r3, r4, r5, r6⟩ := rl
  exact ⟨by rw [f1.2.2.2 85 3 (by unfold fAc; omega)]; exact r1, by rw [f1.2.2.2 85 4 (by unfold fAc; omega)]; exact r2, by rw [f2.2.2.2 0 61 (by unfold fGm; omega)]; exact r3, by rw [f2.2.2.2 0 62 (by unfold fGm; omega)]; exact r4, by rw [f2.2.2.2 0 63 (by unfold fGm; omega)]; exact r5, r6⟩
theorem ad_fr {μ : fm_T} {st : Nat} (h : fI μ 85 3 = nI st) (hs : st < 40) (x y w : Int32) : frL (fun k j => (k = 85 ∧ j = 3) ∨ (86 ≤ k ∧ k ≤ 88 ∧ j = st)) fN μ (uX5_addStep μ x y w) := by
  rw [(as_ok h hs x y w).2]
  exact ((((frL.rf _ fN μ).i (by omega)).i (by omega)).i (by omega)).i (by omega)
theorem lf_st (lx : LXs b z l last K A V W P) {n so st : Nat} {μ ν : fm_T} (lk : LK b z l last K A V W P n μ ν) (rl : RlN so st wi μ ν) (hso : 1 ≤ so) (hst : st + 2 ≤ 2 * so) : pX5_readStands μ ∧ pX12_readPlain ν 6 ∧ IQ b z l last K A V W P n2 so st wi (gX5_readStands μ) μ (uX5_readStands μ) (gX12_readPlain ν 6) ν (uX12_readPlain ν 6) := by
  have n5 : ¬ (6 : Int32) = 5 := by decide
  have n1 : ¬ (1 : Int32) = 0 := by decide
  have hs : st < 40 := by have := rl.2.2.2.2.2.1; omega
  obtain ⟨t1, t2, t3, t4, t5⟩ := ptn lx lk (lo := 0) (hi := 5) (by omega) (by omega)
  rw [show nI 0 = 0 from rfl, show nI 5 = 5 from rfl] at t1 t2 t3 t4 t5
  have rl' := Rl_t rl t3 t4
  unfold pX5_readStands gX5_readStands uX5_readStands pX12_readPlain gX12_readPlain uX12_readPlain
  simp only [if_true, if_neg n5, ite_self]
  have pa := (as_ok rl'.1 hs 14 0 (gX7_takeNumber μ 0 5)).1
  rcases t5 with ⟨d1, d2, d3⟩ | ⟨k4, v1, v2, d1, d2, d3, lk'⟩
  · have af := ad_fr rl'.1 hs 14 0 (gX7_takeNumber μ 0 5)
    simp only [if_pos d1, if_pos d2]
    refine ⟨⟨t1, pa⟩, ⟨fun q => absurd trivial q, fun _ => ⟨t2, fun q => absurd d2 q⟩⟩, (t3.mo (fun _ _ q => fAc_R q) (fun _ _ q => q)).tr (af.mo (fun k j q => by unfold fRc; omega) (fun _ _ q => fN_e q)), t4.mo (fun _ _ q => fGm_R q) (fun _ _ q => q), Or.inl ⟨rfl, rfl, FQ_r d3 af (frL.rf (fun _ _ => False) fN _) (fun k j q => by omega) (fun _ _ q => q.elim)⟩⟩
  · have ne : ¬ gX7_takeNumber μ 0 5 = -1 := by rw [d1]; exact nI_m1 (by omega)
    have d2' : ¬ gX12_readNumber ν 0 5 = 0 := by rw [d2]; exact n1
    have sp := sp_ok rl'.1 rl'.2.2.1 hs 14 0 (nI (V n)) 6 (nI (V n)) 0 0
    have tg := lf_TG (n2 := n2) hs sp (Or.inr (Or.inr (Or.inl ⟨V n, rfl, rfl, v2, rfl, rfl⟩)))
    obtain ⟨q1, q2, q3⟩ := lff_ok lk' rl' hso hst sp tg
    simp only [if_neg ne, if_neg d2']
    rw [d1] at pa ⊢
    rw [d3]
    exact ⟨⟨t1, pa⟩, ⟨fun q => absurd trivial q, fun _ => ⟨t2, fun _ => ⟨fun _ => (ly_ok rl'.2.2.1 hs _ _ _ _).1, fun q => absurd q n5⟩⟩⟩, (t3.mo (fun _ _ q => fAc_R q) (fun _ _ q => q)).tr q1, (t4.mo (fun _ _ q => fGm_R q) (fun _ _ q => q)).tr q2, Or.inr ⟨rfl, rfl, q3⟩⟩
theorem lf_is (lx : LXs b z l last K A V W P) {n so st : Nat} {μ ν : fm_T} (lk : LK b z l last K A V W P n μ ν) (rl : RlN so st wi μ ν) (cn : CNe n2 nm μ ν) (hso : 1 ≤ so) (hst : st + 2 ≤ 2 * so) : pX5_readIs μ ∧ pX12_readPlain ν 5 ∧ IQ b z l last K A V W P n2 so st wi (gX5_readIs μ) μ (uX5_readIs μ) (gX12_readPlain ν 5) ν (uX12_readPlain ν 5) := by
  have n6 : ¬ (5 : Int32) = 6 := by decide
  have hs : st < 40 := by have := rl.2.2.2.2.2.1; omega
  obtain ⟨m1, m2, m3⟩ := pnm lx lk
  have tk := lk_t lx lk
  have fmo : ∀ {M}, frL fAc fN μ M → frL (fRc st) fA1l μ M := fun h => h.mo (fun _ _ q => fAc_R q) (fun _ _ q => fN_e q)
  have gmo : ∀ {M}, frL fGm fN ν M → frL (fRm st) fGl ν M := fun h => h.mo (fun _ _ q => fGm_R q) (fun _ _ q => fN_e q)
  unfold pX5_readIs gX5_readIs uX5_readIs pX12_readPlain gX12_readPlain uX12_readPlain
  simp only [if_neg n6, if_true, m3, gbad, gX7_fail]
  by_cases k3 : K n = 3
  · have a2 : ¬ gX12_isName ν = 0 := fun q => m1.mp q k3
    obtain ⟨vc, -, -⟩ := tk.2.2.2.1 k3
    have wl : W n < 2 ^ 40 := by
      have : ∀ m v, vcode m v → v < 32 ^ m := fun m => by
        induction m with
        | zero => intro v hv; rw [show v = 0 from hv]; decide
        | succ m ihn =>
          intro v hv
          rcases hv with hv | ⟨p1, p2, p3⟩
          · rw [hv]; exact Nat.pow_pos (by decide)
          · have := ihn _ p3
            rw [Nat.pow_succ]
            omega
      have := this 7 _ vc
      have e : (32 : Nat) ^ 7 < 2 ^ 40 := by decide
      omega
    have c12 : fL μ 1 12 = lN (W n) := lk.1.2.2.2.2.2.2.2.2 (Or.inr k3)
    have m12 : fL ν 0 12 = lN (conv 7 (W n)) := lk.2.1.2.2.2.2.2 (Or.inr k3)
    have h8 := cn.1
    obtain ⟨u1, u2⟩ := nc_c cn vc wl n2 0 fF (by omega) (fF_gt (by omega))
    rw [show nI 0 = 0 from rfl] at u1 u2
    simp only [if_pos k3, if_neg a2, c12]
    have gn : gX2_numberOf_24 μ 2 (lN (W n)) = lX2_numberOf_24_h3 fF μ 2 (lN (W n)) 0 := rfl
    have pn : pX2_numberOf_24 μ 2 (lN (W n)) := u1
    rcases u2 with ⟨x1, x2⟩ | ⟨j, j1, j2, j3, j4⟩
    · obtain ⟨w1, w2, w3⟩ := nc_m cn vc m12 5 n2 (Or.inr ⟨rfl, fun j hj => x2 j (Nat.zero_le _) hj⟩) n2 0 fF (by omega) (fF_gt (by omega))
      rw [if_pos (Nat.zero_le _), show nI 0 = 0 from rfl] at w1 w2 w3
      rw [if_neg (Nat.lt_irrefl _)] at w1 w2
      rw [gn, x1]
      simp only [if_true]
      rw [w1, w2]
      obtain ⟨f1, f2, f3⟩ := pfa lx lk 3 (fun q => by omega)
      exact ⟨⟨fun _ => ⟨pn, fun q => absurd trivial q, fun _ => Or.inl trivial⟩, fun q => absurd k3 q⟩, ⟨fun _ => ⟨fun q => absurd trivial q, fun _ => ⟨m2, fun _ => w3 (fun q => absurd q (Nat.lt_irrefl _)), fun _ => Or.inl trivial⟩⟩, fun q => absurd q n6⟩, fmo f1, gmo f2, Or.inl ⟨rfl, rfl, f3⟩⟩
    · obtain ⟨w1, w2, w3⟩ := nc_m cn vc m12 5 j (Or.inl ⟨j2, j3⟩) n2 0 fF (by omega) (fF_gt (by omega))
      rw [if_pos (Nat.zero_le _), show nI 0 = 0 from rfl] at w1 w2 w3
      rw [if_pos j2] at w1 w2
      have ne : ¬ nI j = -1 := nI_m1 (by omega)
      rw [gn, j4]
      simp only [if_neg ne]
      rw [w1, w2]
      have af := ad_fr rl.1 hs 13 0 (nI j)
      have lkA : LK b z l last K A V W P n (uX5_addStep μ 13 0 (nI j)) ν := LK_f lk af (frL.rf (fun _ _ => False) fN ν) (fun k j q => by omega) (fun k j q => by unfold fN at q; exact q.elim) (fun _ _ q => q.elim) (fun k j q => by unfold fN at q; exact q.elim)
      obtain ⟨b1, b2, b3, b4, b5⟩ := pad lx lkA (by omega) (by omega)
      have r3' : fI (uX12_go ν) 0 61 = nI st := by rw [b4.2.2.2 0 61 (by unfold fG; omega)]; exact rl.2.2.1
      have sp0 := sp_ok rl.1 r3' hs 13 0 (nI j) 5 (nI j) 0 0
      have b3' : frL fA1 fA1l (uX5_addStep μ 13 0 (nI j)) (uX7_advance (uX5_addStep μ 13 0 (nI j))) := b3
      have lyf : frL (fun k j => (k = 0 ∧ (j = 61 ∨ j = 64)) ∨ (k = 33 ∧ 4 * st ≤ j ∧ j ≤ 4 * st + 3)) fN (uX12_go ν) (fm_i (uX12_lays (uX12_go ν) 5 (nI j) 0 0) 0 64 (gX12_lays (uX12_go ν) 5 (nI j) 0 0)) := sp0.2.1
      have tg0 := lf_TG (n2 := n2) hs sp0 (Or.inr (Or.inl ⟨j, rfl, rfl, by omega, rfl, rfl⟩))
      have tg := TG_fr (st := st + 1) (st' := st + 1) (μ' := uX7_advance (uX5_addStep μ 13 0 (nI j))) tg0 (Nat.le_refl _) (Nat.le_refl _) (by omega) (fun k j h1 h2 h3 => b3.2.2.2 k j (by unfold fA1; omega)) (fun j hj => rfl)
      have lkB : LK b z l last K A V W P (n + 1) (uX7_advance (uX5_addStep μ 13 0 (nI j))) (fm_i (uX12_lays (uX12_go ν) 5 (nI j) 0 0) 0 64 (gX12_lays (uX12_go ν) 5 (nI j) 0 0)) := LK_f b5 (frL.rf (fun _ _ => False) fN _) lyf (fun _ _ q => q.elim) (fun k j q => by unfold fN at q; exact q.elim) (fun k j q => by omega) (fun k j q => by unfold fN at q; exact q.elim)
      obtain ⟨r1, r2, r3, r4, r5, r6, r7, r8⟩ := rl
      refine ⟨⟨fun _ => ⟨pn, fun _ => ⟨(as_ok r1 hs _ _ _).1, b1⟩, fun q => absurd q ne⟩, fun q => absurd k3 q⟩, ⟨fun _ => ⟨fun q => absurd trivial q, fun _ => ⟨m2, fun _ => w3 (fun _ => ⟨b2, (ly_ok r3' hs _ _ _ _).1⟩), fun _ => Or.inl trivial⟩⟩, fun q => absurd q n6⟩, (af.mo (fun k j q => by unfold fRc; omega) (fun _ _ q => fN_e q)).tr (b3.mo (fun _ _ q => fA1_R q) (fun _ _ q => q)), (b4.mo (fun _ _ q => fG_R q) (fun _ _ q => q)).tr (lyf.mo (fun k j q => by unfold fRm; omega) (fun _ _ q => fN_e q)), Or.inr ⟨rfl, rfl, n + 1, so, st + 1, lkB, ⟨by rw [b3.2.2.2 85 3 (by unfold fA1; omega)]; exact sp0.2.2.1, by rw [b3.2.2.2 85 4 (by unfold fA1; omega), af.2.2.2 85 4 (by omega)]; exact r2, sp0.2.2.2.2.2.2.1, by rw [lyf.2.2.2 0 62 (by omega), b4.2.2.2 0 62 (by unfold fG; omega)]; exact r4, by rw [lyf.2.2.2 0 63 (by omega), b4.2.2.2 0 63 (by unfold fG; omega)]; exact r5, r6, by omega, r8⟩, Nat.le_refl _, by omega, by omega, sp0.2.2.2.2.2.2.2.1, tg⟩⟩
  · have a2 : gX12_isName ν = 0 := m1.mpr k3
    simp only [if_neg k3, if_pos a2]
    obtain ⟨f1, f2, f3⟩ := pfa lx lk 1 (fun _ => rfl)
    exact ⟨⟨fun q => absurd q k3, fun _ => Or.inl trivial⟩, ⟨fun _ => ⟨fun q => absurd trivial q, fun _ => ⟨m2, fun q => absurd a2 q, fun _ => Or.inl trivial⟩⟩, fun q => absurd q n6⟩, fmo f1, gmo f2, Or.inl ⟨rfl, rfl, f3⟩⟩
end
