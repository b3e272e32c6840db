section FR4
variable {l : Launch} {S : fs_T} {M : fy_T} {d mc ms cells slots pc : Nat} {loc : List (Option Value)} {st : List Value} {μ : fm_T} {P : Option Value → fm_T → Prop}
theorem fw_aald {k n t0 j cd : Nat} {C : String} {fs : List Nat} {i : Int32} {v : Value} (hd : decode M.2.1 pc = .ok (.aaload, 1)) (ht0 : S.1[t0]? = some (3, .object C)) (hk : k < 4000) (hs : μ.2.1 k = (4, n, fs)) (hi : vp_in i n) (hj : i.toNatClampNeg = j) (hc : fs.getD j 2 = cd + 2) (hm : fs.getD j 2 ∈ fs) (hvv : fc_p 0 0 (cd + 2) = v) (kk : fwp l S M d mc ms cells slots (pc + 1) loc (v :: st) μ P) : fwp l S M d mc ms cells slots pc loc (.int i :: .ref k :: st) μ P := by
  subst hj
  subst hvv
  intro p e R s m args below meth c D cy A ad0 n0 K H locs ls ad h1 h2 h3 h4 h5 h6 h7 h8 h9
  have hk := fv_lt (fs_h (fs_t h4)) hk
  have hok : fv_ok μ.1 (fc_p 0 0 (cd + 2)) := by
    have h := h3 k hk (fs.getD i.toNatClampNeg 2) (by rw [hs]; exact hm)
    rw [hc] at h
    match cd, h with
    | 0, _ => trivial
    | q + 1, h =>
      show q < μ.1 ∨ 4000 ≤ q
      omega
  refine va_aldq K.1 K.2.1 K.2.2.2.2.2.2.2.2.2.1 h6 k t0 (by rw [fc_at hk, fc_eq4 hs]) (by rw [fx_t, List.getElem?_map, ht0]; rfl) hi hd ?_
  have e1 : va_rf (fc_o ad (fs.getD i.toNatClampNeg 2)) = fv_v ad (fc_p 0 0 (cd + 2)) := by
    rw [hc]
    match cd with
    | 0 => rfl
    | q + 1 => rfl
  rw [e1]
  exact kk p e R s m args below meth c D cy A ad0 n0 K H locs ls ad h1 h2 h3 (fs_c hok (fs_t (fs_t h4))) h5 h6 h7 h8 h9
end FR4
