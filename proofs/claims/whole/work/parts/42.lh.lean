theorem lz_r89 {μ : fm_T} {r0 r1 : Nat} (h : lz_r μ r0 r1) : 89 ≤ μ.1 := by
  rcases h.2 with h | h | h | h | h <;> omega
theorem lz_r153 {μ : fm_T} {r0 r1 : Nat} (h : lz_r μ r0 r1) : μ.1 ≤ 153 := by
  rcases h.2 with h | h | h | h | h <;> omega
theorem rn_rrH {μ : fm_T} {r0 r1 : Nat} (h : lz_r μ r0 r1) : rn_c rnH r0 = r0 ∧ rn_c rnH r1 = r1 := by
  rcases h.2 with ⟨-, rfl, rfl⟩ | ⟨-, rfl, rfl⟩ | ⟨-, rfl, rfl⟩ | ⟨-, rfl, rfl⟩ | ⟨-, rfl, rfl⟩ <;> decide
theorem rn_rrR {μ : fm_T} {r0 r1 : Nat} (h : lz_r μ r0 r1) : rn_c rnR r0 = r0 ∧ rn_c rnR r1 = r1 := by
  rcases h.2 with ⟨-, rfl, rfl⟩ | ⟨-, rfl, rfl⟩ | ⟨-, rfl, rfl⟩ | ⟨-, rfl, rfl⟩ | ⟨-, rfl, rfl⟩ <;> decide
theorem sh_house {μ : fm_T} {r0 r1 : Nat} (hμ : μ.2.1 = shC r0 r1) (h : ¬ gX2_readFrom μ = 0) : (uX11_house μ).2.1 = shH r0 r1 := by
  rw [uX11_house, if_neg h, hX3_forgetAllButPlacesH, hX8_forgetAllH, hX5_forget_36H, kX11_house]
  exact swH ((fm_i_sh _ _ _ _).trans ((fm_i_sh _ _ _ _).trans ((hX2_readFrom μ).trans hμ)))
theorem sh_rule {μ : fm_T} {r0 r1 : Nat} (hμ : μ.2.1 = shC r0 r1) (h : ¬ gX5_readFrom μ = 0) : (uX11_rule μ).2.1 = shR r0 r1 := by
  rw [uX11_rule, if_neg h, kX11_rule]
  exact swR ((fm_i_sh _ _ _ _).trans ((fm_i_sh _ _ _ _).trans ((hX5_readFrom μ).trans hμ)))
theorem lg_cmp_self (x : Int64) : lg_cmp x x = 0 := by
  exact (lg_cmp_eq x x).mpr rfl
theorem ao_at (ao : Nat) (cy : Nat → ClassId) (o : Nat → Int64) : (lo_w cy ao o)[0]? = some (ao, .inl (cy 1, 1, .inr (.inl o))) := rfl
def lz_K (p : Program) (l : Launch) (e : Env) (s : State) (m : MethodId) (below : List Frame) (meth : Method) (c : Code) (b : Nat) (D : va_G) (cy : Nat → ClassId) (ad0 : Nat → Nat) (ao : Nat) (x4 : Int32) (RR : fm_T → fm_T → Prop) (cells slots : Nat) : Prop := ∀ (ls : Array Slot) (ad am : Nat → Nat) (μ ν : fm_T) (o : Nat → Int64) (H : Heap) (locs : List Loc), lv_has ls 7 [(0, .ref b), (1, .ref (ad 0)), (2, .ref (am 0)), (3, .ref ao), (4, .int x4)] → (∀ k, 4000 ≤ k → ad k = ad0 k) → (∀ k, 4000 ≤ k → am k = ad0 k) → RR μ ν → lz_I (fun q => s.heap.size ≤ q) D cy ad am ao μ ν o H → va_S (fun q => s.heap.size ≤ q) s.heap H locs → W p l e room_1 s m #[Value.ref b] below meth c H locs cells slots (lw_Z below #[Value.ref b] s) (F0 m 1521 ls [])
def fk_L (own : String) (idx : Nat) (y : MethodName) (cc : ByteArray) (cnt : Nat) (hh : List (Nat × Nat × Nat × Nat)) (n : Nat) : Prop := Cond.methodLink own idx y ∈ fg_l ∧ Cond.static y ∈ fg_l ∧ Cond.initialized y.cls ∈ fg_l ∧ Cond.codeWith y cc cnt (some .int) hh ∈ fg_l ∧ (y.cls ≠ "java/lang/invoke/MethodHandle" ∧ y.cls ≠ "java/lang/invoke/VarHandle" ∧ (parseMethodDescriptor y.desc).map (fun d => d.parameters.length) = some n) ∧ cnt ≤ 5
theorem kL_about : fk_L RL 51 yL_about cL_about 5 [(0, 10, 13, 13)] 4 := ⟨fg_c6 13 (by decide +kernel) (by decide +kernel), fg_c6 14 (by decide +kernel) (by decide +kernel), fg_c1 0 (by decide +kernel) (by decide +kernel), fg_c6 15 rfl rfl, by decide +kernel, by decide⟩
theorem kL_lost : fk_L RL 170 yL_lost cL_lost 4 [(0, 9, 12, 13)] 3 := ⟨fg_c6 86 (by decide +kernel) (by decide +kernel), fg_c6 87 (by decide +kernel) (by decide +kernel), fg_c1 0 (by decide +kernel) (by decide +kernel), fg_c6 88 rfl rfl, by decide +kernel, by decide⟩
section LZL
variable {p : Program} {l : Launch} {e : Env} {s : State} {m : MethodId} {below : List Frame} {meth : Method} {c : Code} {H : Heap} {locs : List Loc} {cells slots : Nat} {Q : State → Prop}
variable {idx n q cnt b L : Nat} {xs : Nat → Int32} {D : va_G} {cy : Nat → ClassId} {ad am ad0 : Nat → Nat} {ao : Nat} {o : Nat → Int64} {μ ν : fm_T} {ls : Array Slot} {st0 as : List Value} {y : MethodName} {cc : ByteArray} {hh : List (Nat × Nat × Nat × Nat)} {post : Int32 → (Nat → Int64) → Prop}
theorem lz_callL (C0 : lz_C p s m meth c b L xs D cy ad0) (ha : ∀ k, 4000 ≤ k → ad k = ad0 k) (a1 : fm_ok μ) (a2 : va_P D vwCl (fc_w ad cy μ) H) (a3 : va_D (fun q => s.heap.size ≤ q) (fc_w ad cy μ)) (c1 : va_P D vwCl (lo_w cy ao o) H) (c2 : s.heap.size ≤ ao) (e2 : ∀ i, i < μ.1 → ad i ≠ ao) (b2 : va_P D vwCl (fc_w am cy ν) H) (b3 : va_D (fun q => s.heap.size ≤ q) (fc_w am cy ν)) (e1 : ∀ i j, i < μ.1 → j < ν.1 → ad i ≠ am j) (e3 : ∀ j, j < ν.1 → am j ≠ ao) (hS : va_S (fun q => s.heap.size ≤ q) s.heap H locs)
    (hd : decode cL_law q = .ok (.invokestatic idx, 3)) (hV : fk_L RL idx y cc cnt hh n) (hn : as.length = n) (hst : st0 = as.reverse) (hsz : ls.size = 7) (hcs : cells + 1 ≤ 601024 ∧ slots + 6 ≤ 7293034)
    (hmet : Met l y (Cond.codeWith y cc cnt (some .int) hh :: fg_l) (fx_R 7 1 6) (va_Pc as (lb_P D cy ad μ ao o H.size)) (lb_Q post D cy ad μ ao (lb_A cy ad μ ao o H.size)) 1 6 (lb_A cy ad μ ao o H.size))
    (kk : ∀ (k' : Int32) (oo : Nat → Int64) (H' : Heap) (locs' : List Loc), post k' oo → (fm_ok ν → lz_I (fun q => s.heap.size ≤ q) D cy ad am ao μ ν oo H') → va_S (fun q => s.heap.size ≤ q) s.heap H' locs' → W p l e room_1 s m #[Value.ref b] below meth c H' locs' (cells + 1) (slots + 6) Q (F0 m (q + 3) ls [.int k'])) :
    W p l e room_1 s m #[Value.ref b] below meth c H locs cells slots Q (F0 m q ls st0) := by
  subst hst
  obtain ⟨hx, hbb, hr, hml, hown, hts, hX, hbl, hlocks, hgv⟩ := C0.1
  have CF : CallFix p m c cL_law 7 s #[Value.ref b] lw_tbl RL := ⟨hx, hbb, hml, hown, hts⟩
  have hFc := gw_free (A := fun q => s.heap.size ≤ q) (s := s) (fun _ h => h) a3 hS
  have hFl : ∀ z, lb_A cy ad μ ao o H.size z → s.heap.size ≤ z := by
    rintro z (⟨k, x, hk⟩ | hz)
    · rcases Nat.lt_or_ge k (fc_w ad cy μ).length with g | g
      · rw [List.getElem?_append_left g] at hk
        exact a3.2 k _ hk
      · rw [List.getElem?_append_right g] at hk
        have := lo_at hk
        rw [show z = ao from congrArg Prod.fst this]
        exact c2
    · exact Nat.le_trans hS.1 hz
  have hPS : PreS s H (va_Pc as (lb_P D cy ad μ ao o H.size)) as := ⟨lb_blind, fun U hU hW => ⟨rfl, gw_pre C0.2.1 C0.2.2.2.1 (C0.2.2.2.2.1.ag ha) a2 a3 hS hFc U hU hW, by rw [hU]; exact c1, e2⟩⟩
  have hr : va_Run p l e room_1 s m #[Value.ref b] below meth c H locs cells slots 1 6 (F0 m q ls as.reverse) [] (lb_Q post D cy ad μ ao (lb_A cy ad μ ao o H.size) as.toArray) (lb_A cy ad μ ao o H.size) := vx_runSW (As := as) CF hmet (vx_cwSW n hts (fun w hw => by
      rcases List.mem_append.mp hw with g | g
      · have h : w ∈ fg_l := by
          rcases List.mem_cons.mp g with g | g
          · rw [g]; exact hV.1
          rcases List.mem_cons.mp g with g | g
          · rw [g]; exact hV.2.1
          rw [List.mem_singleton.mp g]; exact hV.2.2.1
        exact ⟨lz_tl _ h, fg_good h⟩
      · have h1 : w ∈ fg_l := (List.mem_cons.mp g).elim (fun e => by rw [e]; exact hV.2.2.2.1) id
        exact ⟨lz_tl _ h1, fg_good h1⟩) rfl rfl rfl hV.2.2.2.2.1 ⟨by decide, by have := hV.2.2.2.2.2; show 8 + (cnt + 11) + 64 * 7 ≤ 84000; omega⟩) hPS rfl hn hsz (by rw [List.append_nil]) (lv_room (Nat.le_of_ble_eq_true rfl)) hd hcs
  intro T hT X
  obtain ⟨v, st₀, t, T', L', q0, X', hL', z1, z2, ⟨k', oo, w1, w2, w3, w4, w5, w6⟩, go⟩ := hr T hT X
  have hv : v = some (.int k') := by injection w1
  subst hv
  rw [q0] at w5 w6
  have hS1 : va_S (fun q => s.heap.size ≤ q) s.heap T'.heap (locs ++ L') := by
    refine ⟨Nat.le_trans hS.1 (by rw [z1]; exact w5), fun z g1 g2 => ?_, fun z hz => ?_⟩
    · rw [z1, w6 z (Nat.lt_of_lt_of_le g1 hS.1) (fun y => g2 (hFl z y))]
      exact hS.2.1 z g1 g2
    · rcases List.mem_append.mp hz with g | g
      · exact hS.2.2 z g
      · exact hFl _ (hL' z g)
  have kM : ∀ (k : Nat) (z : Nat × va_E), (fc_w am cy ν)[k]? = some z → t.heap[z.1]? = H[z.1]? := fun k z hk => by
    obtain ⟨y1, rfl⟩ := fc_in hk
    have hlt : am k < H.size := (b2 k _ hk).lt
    refine w6 _ hlt ?_
    rintro (⟨j, x, hj⟩ | hz)
    · rcases Nat.lt_or_ge j (fc_w ad cy μ).length with g | g
      · rw [List.getElem?_append_left g] at hj
        obtain ⟨y2, y3⟩ := fc_in hj
        exact e1 j k y2 y1 (congrArg Prod.fst y3).symm
      · rw [List.getElem?_append_right g] at hj
        have := lo_at hj
        exact e3 k y1 (congrArg Prod.fst this)
    · omega
  obtain ⟨t2, b4, b5⟩ := kk k' oo T'.heap (locs ++ L') w2 (fun b1 => ⟨⟨a1, by rw [z1]; exact w3, a3⟩, ⟨b1, by rw [z1]; exact b2.kept kM, b3⟩, ⟨by rw [z1]; exact w4, c2⟩, e1, e2, e3⟩) hS1 T' rfl X'
  exact ⟨t2, go t2 b4, b5⟩
end LZL
