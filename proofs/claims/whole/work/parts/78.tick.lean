theorem tk_vals {c v y2 y3 y4 y5 y6 T p s zz : Nat} {z : Int32} (hzz : z = nI zz) (hz3 : z = 0 ↔ zz = 0) : ∃ f : Nat → Nat, (f 0 = c ∧ f 1 = v ∧ f 2 = y2 ∧ f 3 = y3 ∧ f 4 = y4 ∧ f 5 = y5 ∧ f 6 = T ∧ f 7 = y6 ∧ f 8 = (if zz = 0 then p else p * s / 100) ∧ f 9 = 0 ∧ f 10 = zz) ∧ (f 11 = 0 ∧ f 12 = 0 ∧ f 13 = 0) ∧ (∀ i, i < 14 → (if i = 8 then (if z = 0 then nI p else nI (p * s / 100)) else if i = 10 then z else if i = 7 then nI y6 else if i = 6 then nI T else if i = 5 then nI y5 else if i = 4 then nI y4 else if i = 3 then nI y3 else if i = 2 then nI y2 else if i = 1 then nI v else if i = 0 then nI c else 0) = nI (f i)) ∧ (∀ i, i < 11 → (if i = 10 then z else if i = 9 then 0 else if i = 8 then (if z = 0 then nI p else nI (p * s / 100)) else if i = 7 then nI y6 else if i = 6 then nI T else if i = 5 then nI y5 else if i = 4 then nI y4 else if i = 3 then nI y3 else if i = 2 then nI y2 else if i = 1 then nI v else if i = 0 then nI c else 0) = nI (f i)) := by
  have ez : (if z = 0 then nI p else nI (p * s / 100)) = nI (if zz = 0 then p else p * s / 100) := by
    by_cases q : zz = 0
    · rw [if_pos (hz3.mpr q), if_pos q]
    · rw [if_neg (fun y => q (hz3.mp y)), if_neg q]
  refine ⟨fun j => if j = 0 then c else if j = 1 then v else if j = 2 then y2 else if j = 3 then y3 else if j = 4 then y4 else if j = 5 then y5 else if j = 6 then T else if j = 7 then y6 else if j = 8 then (if zz = 0 then p else p * s / 100) else if j = 10 then zz else 0, ⟨rfl, rfl, rfl, rfl, rfl, rfl, rfl, rfl, rfl, rfl, rfl⟩, ⟨rfl, rfl, rfl⟩, fun j hj => ?_, fun j hj => ?_⟩
  · have : j = 0 ∨ j = 1 ∨ j = 2 ∨ j = 3 ∨ j = 4 ∨ j = 5 ∨ j = 6 ∨ j = 7 ∨ j = 8 ∨ j = 9 ∨ j = 10 ∨ j = 11 ∨ j = 12 ∨ j = 13 := by omega
    rcases this with rfl | rfl | rfl | rfl | rfl | rfl | rfl | rfl | rfl | rfl | rfl | rfl | rfl | rfl <;> first | rfl | exact ez | exact hzz
  · have : j = 0 ∨ j = 1 ∨ j = 2 ∨ j = 3 ∨ j = 4 ∨ j = 5 ∨ j = 6 ∨ j = 7 ∨ j = 8 ∨ j = 9 ∨ j = 10 := by omega
    rcases this with rfl | rfl | rfl | rfl | rfl | rfl | rfl | rfl | rfl | rfl | rfl <;> first | rfl | exact ez | exact hzz
def tkS (σ : sg_T) (f : Nat → Nat) : sg_T := fun r j => if r = 0 ∧ j = 0 then σ 0 0 + 1 else if r = 1 ∧ 14 * σ 0 0 ≤ j then f (j - 14 * σ 0 0) else σ r j
theorem mkU_ok {ν : fm_T} {S T n c v p s : Nat} {k x2 x3 x4 x5 x6 z cost : Int32} (hS : S < 40) (hn : n ≤ 8) (hc : c < n) (hp : p ≤ 999) (hs : s ≤ 300) (mS : fI ν 2 131 = nI S) (mT : fI ν 2 130 = nI T) (mp : fI ν 2 (61 + 4 * c) = nI p) (ms : fI ν 2 7 = nI s) (k1 : k / 3 = nI c) (k2 : k - k / 3 * 3 = nI v) (hz : (z = 0 ∧ cost = gX12_clothOf (mk7 ν k x2 x3 x4 x5 x6) (k / 3) 1) ∨ (z = 1 ∧ cost = (gX12_clothOf (mk7 ν k x2 x3 x4 x5 x6) (k / 3) 1 * fI (mk7 ν k x2 x3 x4 x5 x6) 2 7) / 100)) : ((vp_in (mkB ν + 0) 2560) ∧ ((vp_in (mkB ν + 1) 2560) ∧ ((vp_in (mkB ν + 2) 2560) ∧ ((vp_in (mkB ν + 3) 2560) ∧ ((vp_in (mkB ν + 4) 2560) ∧ ((vp_in (mkB ν + 5) 2560) ∧ ((vp_in (mkB ν + 6) 2560) ∧ ((vp_in (mkB ν + 7) 2560) ∧ ((pX12_clothOf (mk7 ν k x2 x3 x4 x5 x6) (k / 3) (1 : Int32)) ∧ ((vp_in (mkB ν + 8) 2560) ∧ ((vp_in (mkB ν + 9) 2560) ∧ ((vp_in (mkB ν + 10) 2560))))))))))))) ∧ smR ν (mk10 ν (mk7 ν k x2 x3 x4 x5 x6) cost z) S 11 (fun i => if i = 10 then z else if i = 9 then 0 else if i = 8 then (if z = 0 then nI p else nI (p * s / 100)) else if i = 7 then x6 else if i = 6 then nI T else if i = 5 then x5 else if i = 4 then x4 else if i = 3 then x3 else if i = 2 then x2 else if i = 1 then nI v else if i = 0 then nI c else 0) := by
  unfold mk10 mk7 mk5 at *
  rw [k2, k1] at hz ⊢
  have a : smR ν ν S 0 (fun _ => 0) := ⟨rfl, rfl, fun _ _ => rfl, fun _ _ _ => rfl, fun _ h => by omega⟩
  obtain ⟨b0, p0⟩ := smR_set (j := 0) (v := nI c) a hS mS (by omega) (by omega)
  have b0 : smR ν (fm_i ν 2 ((mkB ν + 0).toNatClampNeg) (nI c)) S 1 _ := b0
  have p0 : vp_in (mkB ν + 0) 2560 := p0
  generalize fm_i ν 2 ((mkB ν + 0).toNatClampNeg) (nI c) = m0 at b0 hz ⊢
  obtain ⟨b1, p1⟩ := smR_set (j := 1) (v := nI v) b0 hS mS (by omega) (by omega)
  have b1 : smR ν (fm_i m0 2 ((mkB ν + 1).toNatClampNeg) (nI v)) S 2 _ := b1
  have p1 : vp_in (mkB ν + 1) 2560 := p1
  generalize fm_i m0 2 ((mkB ν + 1).toNatClampNeg) (nI v) = m1 at b1 hz ⊢
  obtain ⟨b2, p2⟩ := smR_set (j := 2) (v := x2) b1 hS mS (by omega) (by omega)
  have b2 : smR ν (fm_i m1 2 ((mkB ν + 2).toNatClampNeg) x2) S 3 _ := b2
  have p2 : vp_in (mkB ν + 2) 2560 := p2
  generalize fm_i m1 2 ((mkB ν + 2).toNatClampNeg) x2 = m2 at b2 hz ⊢
  obtain ⟨b3, p3⟩ := smR_set (j := 3) (v := x3) b2 hS mS (by omega) (by omega)
  have b3 : smR ν (fm_i m2 2 ((mkB ν + 3).toNatClampNeg) x3) S 4 _ := b3
  have p3 : vp_in (mkB ν + 3) 2560 := p3
  generalize fm_i m2 2 ((mkB ν + 3).toNatClampNeg) x3 = m3 at b3 hz ⊢
  obtain ⟨b4, p4⟩ := smR_set (j := 4) (v := x4) b3 hS mS (by omega) (by omega)
  have b4 : smR ν (fm_i m3 2 ((mkB ν + 4).toNatClampNeg) x4) S 5 _ := b4
  have p4 : vp_in (mkB ν + 4) 2560 := p4
  generalize fm_i m3 2 ((mkB ν + 4).toNatClampNeg) x4 = m4 at b4 hz ⊢
  obtain ⟨b5, p5⟩ := smR_set (j := 5) (v := x5) b4 hS mS (by omega) (by omega)
  have b5 : smR ν (fm_i m4 2 ((mkB ν + 5).toNatClampNeg) x5) S 6 _ := b5
  have p5 : vp_in (mkB ν + 5) 2560 := p5
  generalize fm_i m4 2 ((mkB ν + 5).toNatClampNeg) x5 = m5 at b5 hz ⊢
  have t5 : gX12_today m5 = nI T := (b5.2.2.2.1 2 130 (by omega)).trans mT
  rw [t5] at hz ⊢
  obtain ⟨b6, p6⟩ := smR_set (j := 6) (v := nI T) b5 hS mS (by omega) (by omega)
  have b6 : smR ν (fm_i m5 2 ((mkB ν + 6).toNatClampNeg) (nI T)) S 7 _ := b6
  have p6 : vp_in (mkB ν + 6) 2560 := p6
  generalize fm_i m5 2 ((mkB ν + 6).toNatClampNeg) (nI T) = m6 at b6 hz ⊢
  obtain ⟨b7, p7⟩ := smR_set (j := 7) (v := x6) b6 hS mS (by omega) (by omega)
  have b7 : smR ν (fm_i m6 2 ((mkB ν + 7).toNatClampNeg) x6) S 8 _ := b7
  have p7 : vp_in (mkB ν + 7) 2560 := p7
  generalize fm_i m6 2 ((mkB ν + 7).toNatClampNeg) x6 = m7 at b7 hz ⊢
  have hps : p * s ≤ 999 * 300 := Nat.mul_le_mul hp hs
  have c1 : gX12_clothOf m7 (nI c) 1 = nI p ∧ pX12_clothOf m7 (nI c) 1 := by
    have e1 : (60 : Int32) + (4 : Int32) * nI c + 1 = nI (61 + 4 * c) := by
      simp only [li_n, nI_mul, nI_add]
      congr 1
      omega
    unfold gX12_clothOf pX12_clothOf
    rw [e1, nI_clamp (by omega)]
    exact ⟨(b7.2.2.2.1 2 _ (by omega)).trans mp, vp_in_nI (by omega) (by decide)⟩
  have c2 : fI m7 2 7 = nI s := (b7.2.2.2.1 2 7 (by omega)).trans ms
  have q4 : cost = if z = 0 then nI p else nI (p * s / 100) := by
    rcases hz with ⟨rfl, rfl⟩ | ⟨rfl, rfl⟩
    · exact c1.1
    · rw [c1.1, c2, nI_mul, show (100 : Int32) = nI 100 from rfl, nI_div (by omega) (by omega) (by omega)]
      rfl
  rw [q4]
  obtain ⟨b8, p8⟩ := smR_set (j := 8) (v := if z = 0 then nI p else nI (p * s / 100)) b7 hS mS (by omega) (by omega)
  have b8 : smR ν (fm_i m7 2 ((mkB ν + 8).toNatClampNeg) (if z = 0 then nI p else nI (p * s / 100))) S 9 _ := b8
  have p8 : vp_in (mkB ν + 8) 2560 := p8
  generalize fm_i m7 2 ((mkB ν + 8).toNatClampNeg) (if z = 0 then nI p else nI (p * s / 100)) = m8 at b8 ⊢
  obtain ⟨b9, p9⟩ := smR_set (j := 9) (v := 0) b8 hS mS (by omega) (by omega)
  have b9 : smR ν (fm_i m8 2 ((mkB ν + 9).toNatClampNeg) 0) S 10 _ := b9
  have p9 : vp_in (mkB ν + 9) 2560 := p9
  generalize fm_i m8 2 ((mkB ν + 9).toNatClampNeg) 0 = m9 at b9 ⊢
  obtain ⟨b10, p10⟩ := smR_set (j := 10) (v := z) b9 hS mS (by omega) (by omega)
  have b10 : smR ν (fm_i m9 2 ((mkB ν + 10).toNatClampNeg) z) S 11 _ := b10
  have p10 : vp_in (mkB ν + 10) 2560 := p10
  exact ⟨⟨p0, p1, p2, p3, p4, p5, p6, p7, c1.2, p8, p9, p10⟩, b10⟩
section
variable {σ σ0 σ1 ρ : sg_T} {r0 r1 : Nat} {μ ν : fm_T}
theorem tk_rs (g2 : RS σ σ0 σ1 ρ r0 r1 μ ν) (g3 : fI ν 0 21 = 1) (hS' : σ 0 0 < 40) {U M : fm_T} {f : Nat → Nat} {g h : Nat → Int32} (t2 : stR μ U (σ 0 0) 14 g) (u2 : smR ν M (σ 0 0) 11 h) (vf : ∀ j, j < 14 → g j = nI (f j)) (vm : ∀ j, j < 11 → h j = nI (f j)) (fB : f 0 < σ 0 7 ∧ f 1 ≤ 2 ∧ 1 ≤ f 2 ∧ f 2 ≤ 200 ∧ f 3 ≤ 9 ∧ f 4 ≤ 255 ∧ f 5 < 40 ∧ f 6 ≤ σ 0 3 ∧ f 6 ≤ f 7 ∧ f 7 ≤ 199 ∧ f 8 ≤ 2997 ∧ f 9 ≤ 99 ∧ f 10 ≤ 1) (f11 : f 11 = 0) (f12 : f 12 = 0) (f13 : f 13 = 0) : RR U (fm_i M 2 131 (nI (σ 0 0 + 1))) := by
  have w := RS_WR g2 g3
  obtain ⟨cS, mS, hS⟩ := wr_S w
  obtain ⟨U1, U2, U3, U4, U5, U6⟩ := t2
  obtain ⟨M1, M2, M3, M4, M6⟩ := u2
  have cf : ∀ j, j < 14 → fI U 10 (14 * σ 0 0 + j) = nI (f j) := fun j hj => (U6 j hj).trans (vf j hj)
  have mf : ∀ j, j < 11 → fI M 2 (160 + 12 * σ 0 0 + j) = nI (f j) := fun j hj => (M6 j hj).trans (vm j hj)
  refine ⟨tkS σ f, σ0, σ1, ρ, r0, r1, RS_w g2 ⟨U1, U2, fun a b q => U4 a b (by omega) (by omega), fun a b _ => U3 a b⟩ ⟨M1, M2, fun b => ?_, fun b => ?_, fun b => M3 7 b⟩ (XR_cg ⟨⟨U4 1 2 (by omega) (by omega), U4 51 8 (by omega) (by omega), U4 57 4 (by omega) (by omega), U4 0 11 (by omega) (by omega), U4 61 5 (by omega) (by omega), U4 66 5 (by omega) (by omega), U4 0 12 (by omega) (by omega)⟩, fun a b q => U4 a b (by omega) (by omega), fun b => U3 2 b⟩ ⟨⟨?_, ?_, ?_, ?_, ?_, ?_, ?_⟩, fun a b q => ?_⟩ g2.2.2.2.1) ?_ ?_⟩
  · rw [fI_i, if_neg (by omega)]; exact M4 4 b (by omega)
  · rw [fI_i, if_neg (by omega)]; exact M4 8 b (by omega)
  · rw [fI_i, if_neg (by omega)]; exact M4 0 2 (by omega)
  · rw [fI_i, if_neg (by omega)]; exact M4 0 39 (by omega)
  · rw [fI_i, if_neg (by omega)]; exact M4 0 45 (by omega)
  · rw [fI_i, if_neg (by omega)]; exact M4 0 48 (by omega)
  · rw [fI_i, if_neg (by omega)]; exact M4 0 54 (by omega)
  · rw [fI_i, if_neg (by omega)]; exact M4 0 59 (by omega)
  · rw [fI_i, if_neg (by omega)]; exact M4 0 10 (by omega)
  · rw [fI_i, if_neg (by omega)]; exact M4 a b (by omega)
  · rw [fI_i, if_neg (by omega)]; exact (M4 0 21 (by omega)).trans g3
  · have fn : ∀ j, tkS σ f 1 (14 * σ 0 0 + j) = f j := fun j => by
      show (if 1 = 0 ∧ 14 * σ 0 0 + j = 0 then σ 0 0 + 1 else if 1 = 1 ∧ 14 * σ 0 0 ≤ 14 * σ 0 0 + j then f (14 * σ 0 0 + j - 14 * σ 0 0) else σ 1 (14 * σ 0 0 + j)) = f j
      rw [if_neg (by omega), if_pos ⟨rfl, by omega⟩]
      congr 1
      omega
    have lf1 : fL U 25 = fL μ 25 := funext (fun b => U3 25 b)
    have lf2 : fL (fm_i M 2 131 (nI (σ 0 0 + 1))) 5 = fL ν 5 := funext (fun b => M3 5 b)
    rw [lf1, lf2]
    refine WR_ticket w (by omega) (fun q hq => ?_) ?_ (fun j hj => ?_) ?_ ?_ ?_ ?_ (fun r hr => ?_) (fun a b ha z1 z2 => U4 (8 + a) b (by omega) (by omega)) (fun j hj => ?_) U5 (fun j z1 z2 => ?_) (fun j hj => ?_) ?_
    · exact (if_neg (by omega)).trans (if_neg (by omega))
    · exact if_pos ⟨rfl, rfl⟩
    · exact (if_neg (by omega)).trans (if_neg (by omega))
    · rw [fn, fn, fn, fn, fn, fn, fn, fn, fn, fn, fn]
      exact fB
    · rw [fn]; exact f11
    · rw [fn]; exact f12
    · rw [fn]; exact f13
    · funext j
      exact (if_neg (by omega)).trans (if_neg (by omega))
    · rw [fn]; exact cf j hj
    · rw [fI_i, if_neg (by omega)]; exact M4 2 j (by omega)
    · rw [fn, fI_i, if_neg (by omega)]; exact mf j hj
    · rw [fI_i, if_pos ⟨rfl, rfl⟩]
theorem tk_main (g2 : RS σ σ0 σ1 ρ r0 r1 μ ν) (g3 : fI ν 0 21 = 1) {k x2 x3 x4 x5 x6 z cost : Int32} (hz : (z = 0 ∧ cost = gX12_clothOf (mk7 ν k x2 x3 x4 x5 x6) (k / 3) 1) ∨ (z = 1 ∧ cost = (gX12_clothOf (mk7 ν k x2 x3 x4 x5 x6) (k / 3) 1 * fI (mk7 ν k x2 x3 x4 x5 x6) 2 7) / 100)) : tkGp μ k x2 x3 x4 x5 x6 z ∧ mkGp ν k x2 x3 x4 x5 x6 (mk7 ν k x2 x3 x4 x5 x6) ∧ tkG μ k x2 x3 x4 x5 x6 (-1) (gX8_addEmpty μ) = mkG ν k x2 x3 x4 x5 x6 (-1) (gX12_tickets (mkE (mk10 ν (mk7 ν k x2 x3 x4 x5 x6) cost z)) - 1) ∧ RR (tkG μ k x2 x3 x4 x5 x6 μ (tkU μ k x2 x3 x4 x5 x6 z)) (mkG ν k x2 x3 x4 x5 x6 ν (mkE (mk10 ν (mk7 ν k x2 x3 x4 x5 x6) cost z))) := by
  have w := RS_WR g2 g3
  obtain ⟨cS, mS, hS⟩ := wr_S w
  obtain ⟨cT, mT, hT⟩ := wr_T w
  have cn := (n2_c w).2.2.1
  have mn : fI ν 2 2 = nI (σ 0 7) := (wr_hm w).1 2 (by decide)
  have hn := (wr_hw w).1.2.2.1
  have hse := (wr_hw w).2.1
  have cs := (se_c w).1.2.2.2
  have ms := (se_c w).2.2.2.2
  have G1 := tk_guard (z := z) (k := k) (x2 := x2) (x3 := x3) (x4 := x4) (x5 := x5) (x6 := x6) hS cS cT cn
  have G2 := mk_guard (μ := μ) (k := k) (x2 := x2) (x3 := x3) (x4 := x4) (x5 := x5) (x6 := x6) hS hn mS mT mn
  by_cases ok : tOK μ (σ 0 0) (σ 0 3) (σ 0 7) k x2 x3 x4 x5 x6
  · have ok' := ok
    obtain ⟨a1, ⟨a2, a3⟩, a4, a5, a6, a7, a8⟩ := ok
    have hk : ∃ i, i < 3 * σ 0 7 ∧ k = nI i := by
      obtain ⟨i, hi, rfl⟩ := nI_of a2
      rw [nI_ltI (by omega) (by omega)] at a3
      exact ⟨i, a3, rfl⟩
    obtain ⟨i, hi, rfl⟩ := hk
    have k1 : nI i / 3 = nI (i / 3) := by rw [show (3 : Int32) = nI 3 from rfl, nI_div (by omega) (by omega) (by omega)]
    have k2 : nI i - nI i / 3 * 3 = nI (i % 3) := by
      rw [k1, show (3 : Int32) = nI 3 from rfl, nI_mul, nI_sub (by omega)]
      congr 1
      omega
    have hc : i / 3 < σ 0 7 := by omega
    obtain ⟨y2, y2a, y2b, rfl⟩ := wi_of1 (n := 200) (by decide) a4
    obtain ⟨y3, y3a, rfl⟩ := wi_of (n := 9) (by decide) a5
    obtain ⟨y4, y4a, rfl⟩ := wi_of (n := 255) (by decide) a6
    obtain ⟨y5, y5a, rfl⟩ := wi_of (n := 39) (by decide) a7
    obtain ⟨y6, y6a, y6b, rfl⟩ := wi_of2 (a := σ 0 3) (n := 199) (by omega) (by decide) a8
    have bw := cl_w w hc
    have hz2 : z = 0 ∨ z = 1 := hz.elim (fun q => Or.inl q.1) (fun q => Or.inr q.1)
    obtain ⟨t1, t2⟩ := tkU_ok (x2 := nI y2) (x3 := nI y3) (x4 := nI y4) (x5 := nI y5) (x6 := nI y6) (z := z) (p := σ 17 (i / 3)) (s := σ 0 12) (by omega) hn hc bw.2.1 (by omega) cS cT cn (cl_c w hc).2.1 cs k1 k2 hz2
    obtain ⟨u1, u2⟩ := mkU_ok (x2 := nI y2) (x3 := nI y3) (x4 := nI y4) (x5 := nI y5) (x6 := nI y6) (z := z) (cost := cost) (p := σ 17 (i / 3)) (s := σ 0 12) (by omega) hn hc bw.2.1 (by omega) mS mT (cl_m w hc).2.1 ms k1 k2 hz
    rw [G1.1 ok', G1.1 ok', G2.1 ok', G2.1 ok']
    have aE := ae_ok (μ := μ) (S := σ 0 0) (by omega) cS
    have e131 : fI (mk10 ν (mk7 ν (nI i) (nI y2) (nI y3) (nI y4) (nI y5) (nI y6)) cost z) 2 131 = nI (σ 0 0) := (u2.2.2.2.1 2 131 (by omega)).trans mS
    generalize hM : mk10 ν (mk7 ν (nI i) (nI y2) (nI y3) (nI y4) (nI y5) (nI y6)) cost z = M at u2 e131 ⊢
    generalize hU : tkU μ (nI i) (nI y2) (nI y3) (nI y4) (nI y5) (nI y6) z = U at t2 ⊢
    refine ⟨G1.2.2 (fun _ => t1), G2.2.2 _ (fun _ => u1), ?_, ?_⟩
    · rw [aE.2.2]
      unfold mkE gX12_tickets
      rw [fI_i, if_pos ⟨rfl, rfl⟩, e131]
      exact (Int32.add_sub_cancel _ _).symm
    · unfold mkE
      rw [e131, nI_1]
      have hps : σ 17 (i / 3) * σ 0 12 ≤ 999 * 300 := Nat.mul_le_mul bw.2.1 hse.2.2.2.2.2.2
      obtain ⟨zz, hzz, hz1, hz3⟩ : ∃ zz : Nat, z = nI zz ∧ zz ≤ 1 ∧ (z = 0 ↔ zz = 0) := by
        rcases hz2 with rfl | rfl
        · exact ⟨0, rfl, by omega, by simp⟩
        · exact ⟨1, rfl, by omega, ⟨fun q => absurd q (by decide), fun q => by omega⟩⟩
      obtain ⟨f, ⟨f0, f1, f2, f3, f4, f5, f6, f7, f8, f9, f10⟩, ⟨f11, f12, f13⟩, vf, vm⟩ := tk_vals (c := i / 3) (v := i % 3) (y2 := y2) (y3 := y3) (y4 := y4) (y5 := y5) (y6 := y6) (T := σ 0 3) (p := σ 17 (i / 3)) (s := σ 0 12) hzz hz3
      have fb : f 8 ≤ 2997 := by
        rw [f8]
        split
        · omega
        · omega
      refine tk_rs g2 g3 (by omega) t2 u2 vf vm ?_ f11 f12 f13
      rw [f0, f1, f2, f3, f4, f5, f6, f7, f9, f10]
      exact ⟨hc, by omega, y2a, y2b, y3a, y4a, by omega, Nat.le_refl _, y6a, y6b, fb, by omega, hz1⟩
  · rw [G1.2.1 ok, G1.2.1 ok, G2.2.1 ok, G2.2.1 ok]
    exact ⟨G1.2.2 (fun q => absurd q ok), G2.2.2 _ (fun q => absurd q ok), rfl, σ, σ0, σ1, ρ, r0, r1, g2⟩
end
theorem ok_ticket : ob_ticket RR := by
  rintro μ ν x1 x2 x3 x4 x5 x6 ⟨σ, σ0, σ1, ρ, r0, r1, h⟩
  obtain ⟨g1, g2, g3⟩ := lay0 h
  rw [tk_p, mk_p, tk_g, mk_g, tk_u, mk_u]
  generalize hν : uX12_lay (fm_i ν 0 0 0) = ν1 at g2 g3
  by_cases h1 : x1 < 100
  · simp only [if_pos h1]
    obtain ⟨a1, a2, a3, a4⟩ := tk_main (k := x1) (x2 := x2) (x3 := x3) (x4 := x4) (x5 := x5) (x6 := x6) (z := 0) g2 g3 (Or.inl ⟨rfl, rfl⟩)
    exact ⟨⟨fun _ => a1, fun z => absurd h1 z⟩, ⟨g1, fun _ => a2, fun z => absurd h1 z⟩, a3, a4⟩
  · simp only [if_neg h1]
    obtain ⟨a1, a2, a3, a4⟩ := tk_main (k := x1 - 100) (x2 := x2) (x3 := x3) (x4 := x4) (x5 := x5) (x6 := x6) (z := 1) g2 g3 (Or.inr ⟨rfl, rfl⟩)
    exact ⟨⟨fun z => absurd z h1, fun _ => a1⟩, ⟨g1, fun z => absurd z h1, fun _ => a2⟩, a3, a4⟩
