def lz_I (A : Nat → Prop) (D : va_G) (cy : Nat → ClassId) (ad am : Nat → Nat) (ao : Nat) (μ ν : fm_T) (o : Nat → Int64) (H : Heap) : Prop := (fm_ok μ ∧ va_P D vwCl (fc_w ad cy μ) H ∧ va_D A (fc_w ad cy μ)) ∧ (fm_ok ν ∧ va_P D vwCl (fc_w am cy ν) H ∧ va_D A (fc_w am cy ν)) ∧ (va_P D vwCl (lo_w cy ao o) H ∧ A ao) ∧ (∀ i j, i < μ.1 → j < ν.1 → ad i ≠ am j) ∧ (∀ i, i < μ.1 → ad i ≠ ao) ∧ ∀ j, j < ν.1 → am j ≠ ao
def lz_C (p : Program) (s : State) (m : MethodId) (meth : Method) (c : Code) (b L : Nat) (xs : Nat → Int32) (D : va_G) (cy : Nat → ClassId) (ad0 : Nat → Nat) : Prop := lw_At p s m meth c b L xs ∧ va_K D vwCl (fx_t sC cy) s ∧ va_K D vwCl (fx_t sM cy) s ∧ (∀ w ∈ fg_h, va_Nw w s) ∧ fx_S sC (fun q => s.heap.size ≤ q) ad0 s s.heap ∧ fx_S sM (fun q => s.heap.size ≤ q) ad0 s s.heap
theorem lz_far {D : va_G} {cl : List vw_C} {ws : va_W} {H : Heap} {cy : Nat → ClassId} {ad : Nat → Nat} {μ : fm_T} {k a : Nat} {x : va_E} (hP : va_P D cl ws H) (hk : ws[k]? = some (a, x)) (hap : ∀ i, i < μ.1 → ad i ≠ a) : a < H.size ∧ ¬ va_A (fc_w ad cy μ) H.size a := by
  have h1 : a < H.size := (hP k _ hk).lt
  exact ⟨h1, lb_no hap h1⟩
theorem lz_apn {A : Nat → Prop} {cy : Nat → ClassId} {ad ad' : Nat → Nat} {μ μ' : fm_T} {sz a : Nat} (hD : va_D (va_A (fc_w ad cy μ) sz) (fc_w ad' cy μ')) (hap : ∀ i, i < μ.1 → ad i ≠ a) (hl : a < sz) : ∀ i, i < μ'.1 → ad' i ≠ a := by
  intro i hi e
  have h := hD.2 i _ (fc_at hi)
  rw [show (ad' i, fc_e ad' cy μ' i).1 = a from e] at h
  exact lb_no hap hl h
section LZ
variable {p : Program} {l : Launch} {e : Env} {s : State} {m : MethodId} {args : Array Value} {below : List Frame} {meth : Method} {c : Code} {H : Heap} {locs : List Loc} {cells slots : Nat} {Q : State → Prop}
variable {M2 : fy_T} {d2 mc2 ms2 idx n pc b L : Nat} {xs : Nat → Int32} {D : va_G} {cy : Nat → ClassId} {ad am ad0 : Nat → Nat} {ao : Nat} {o : Nat → Int64} {μ ν : fm_T} {P2 : Option Value → fm_T → Prop} {ls : Array Slot} {st0 rest as : List Value}
theorem lz_tl : ∀ w ∈ fg_l, w ∈ lw_tbl := fun w h => (List.mem_filter.mp h).1
theorem lz_callC (C0 : lz_C p s m meth c b L xs D cy ad0) (hag : ∀ k, 4000 ≤ k → ad k = ad0 k) (hI : lz_I (fun q => s.heap.size ≤ q) D cy ad am ao μ ν o H) (hS : va_S (fun q => s.heap.size ≤ q) s.heap H locs)
    (hd : decode cL_law pc = .ok (.invokevirtual idx, 3)) (hV : fk_V RL idx M2) (hM : fk_M M2 n) (hd2 : d2 ≤ 1000) (hC : M2.1.cls = RX11) {r0 r1 : Nat} (hμ : μ.2.1 = shC r0 r1) (hb : 0 < μ.1) (hst : st0 = as.reverse ++ .ref (ad 0) :: rest) (has : as.map (fv_v ad) = as) (hn : as.length = n) (hoa : fs_ok μ.1 as) (hcat : (rest.map fun v => v.category).sum ≤ 8) (hl : (lg_sl (.ref 0 :: as)).length ≤ M2.2.2.1) (hsz : ls.size = 7) (hcs : cells + mc2 ≤ 601024 ∧ slots + ms2 ≤ 7293034)
    (callee : fwp l sC M2 d2 mc2 ms2 0 0 0 (fl_ent (.ref 0 :: as) M2.2.2.1) [] μ P2)
    (kk : ∀ (v : Option Value) (μ' : fm_T) (ad' : Nat → Nat) (H' : Heap) (locs' : List Loc), P2 v μ' → μ.1 ≤ μ'.1 → (∀ k, k < μ.1 ∨ 4000 ≤ k → ad' k = ad k) → lz_I (fun q => s.heap.size ≤ q) D cy ad' am ao μ' ν o H' → va_S (fun q => s.heap.size ≤ q) s.heap H' locs' → W p l e room_1 s m #[Value.ref b] below meth c H' locs' (cells + mc2) (slots + ms2) Q (F0 m (pc + 3) ls ((v.map (fv_v ad')).toList ++ rest))) :
    W p l e room_1 s m #[Value.ref b] below meth c H locs cells slots Q (F0 m pc ls st0) := by
  obtain ⟨⟨a1, a2, a3⟩, ⟨b1, b2, b3⟩, ⟨c1, c2⟩, e1, e2, e3⟩ := hI
  obtain ⟨hx, hbb, hr, hml, hown, hts, hX, hbl, hlocks, hgv⟩ := C0.1
  have CF : CallFix p m c cL_law 7 s #[Value.ref b] lw_tbl RL := ⟨hx, hbb, hml, hown, hts⟩
  refine gw_callV (b := 0) (as := as) (rest := rest) (ci := 11) (S := sC) (A := fun q => s.heap.size ≤ q) CF lz_tl C0.2.1 C0.2.2.2.1 (C0.2.2.2.2.1.ag hag) (fun _ h => h) a1 a2 a3 hS hd hV hM (d2 := d2) ⟨?_, ?_⟩ rfl hC hb (hC_0 hμ) (by rw [has]; exact hst) hn hoa hcat hl hsz (mc2 := mc2) (ms2 := ms2) hcs callee ?_
  · show d2 + 1 ≤ 2048
    omega
  · show 59 + 64 * d2 ≤ 84000
    omega
  intro v μ' ad' H' locs' g1 g2 g3 g4 g5 g6 g7 g8 g9
  have kM : ∀ (k : Nat) (q : Nat × va_E), (fc_w am cy ν)[k]? = some q → H'[q.1]? = H[q.1]? := fun k q hk => by
    obtain ⟨z1, rfl⟩ := fc_in hk
    have h := lz_far (cy := cy) (ad := ad) (μ := μ) b2 hk (fun i hi => e1 i k hi z1)
    exact g8 _ h.1 h.2
  have kO : ∀ (k : Nat) (q : Nat × va_E), (lo_w cy ao o)[k]? = some q → H'[q.1]? = H[q.1]? := fun k q hk => by
    have z := lo_at hk
    subst z
    have h := lz_far (cy := cy) (ad := ad) (μ := μ) c1 hk e2
    exact g8 _ h.1 h.2
  refine kk v μ' ad' H' locs' g1 g2 g3 ⟨⟨g4, g5, g6.weaken (fun k q _ h => gw_free (A := fun q => s.heap.size ≤ q) (fun _ h => h) a3 hS q.1 h)⟩, ⟨b1, b2.kept kM, b3⟩, ⟨c1.kept kO, c2⟩, fun i j hi hj => ?_, ?_, e3⟩ g9
  · exact lz_apn (A := fun _ => True) g6 (fun i hi => e1 i j hi hj) (b2 j _ (fc_at hj)).lt i hi
  · exact lz_apn (A := fun _ => True) g6 e2 (c1 0 _ rfl).lt
theorem lz_callM (C0 : lz_C p s m meth c b L xs D cy ad0) (hag : ∀ k, 4000 ≤ k → am k = ad0 k) (hI : lz_I (fun q => s.heap.size ≤ q) D cy ad am ao μ ν o H) (hS : va_S (fun q => s.heap.size ≤ q) s.heap H locs)
    (hd : decode cL_law pc = .ok (.invokevirtual idx, 3)) (hV : fk_V RL idx M2) (hM : fk_M M2 n) (hd2 : d2 ≤ 1000) (hC : M2.1.cls = RX12) (hν : ν.2.1 = shM) (hb : 0 < ν.1) (hst : st0 = as.reverse ++ .ref (am 0) :: rest) (has : as.map (fv_v am) = as) (hn : as.length = n) (hoa : fs_ok ν.1 as) (hcat : (rest.map fun v => v.category).sum ≤ 8) (hl : (lg_sl (.ref 0 :: as)).length ≤ M2.2.2.1) (hsz : ls.size = 7) (hcs : cells + mc2 ≤ 601024 ∧ slots + ms2 ≤ 7293034)
    (callee : fwp l sM M2 d2 mc2 ms2 0 0 0 (fl_ent (.ref 0 :: as) M2.2.2.1) [] ν P2)
    (kk : ∀ (v : Option Value) (ν' : fm_T) (am' : Nat → Nat) (H' : Heap) (locs' : List Loc), P2 v ν' → ν.1 ≤ ν'.1 → (∀ k, k < ν.1 ∨ 4000 ≤ k → am' k = am k) → lz_I (fun q => s.heap.size ≤ q) D cy ad am' ao μ ν' o H' → va_S (fun q => s.heap.size ≤ q) s.heap H' locs' → W p l e room_1 s m #[Value.ref b] below meth c H' locs' (cells + mc2) (slots + ms2) Q (F0 m (pc + 3) ls ((v.map (fv_v am')).toList ++ rest))) :
    W p l e room_1 s m #[Value.ref b] below meth c H locs cells slots Q (F0 m pc ls st0) := by
  obtain ⟨⟨a1, a2, a3⟩, ⟨b1, b2, b3⟩, ⟨c1, c2⟩, e1, e2, e3⟩ := hI
  obtain ⟨hx, hbb, hr, hml, hown, hts, hX, hbl, hlocks, hgv⟩ := C0.1
  have CF : CallFix p m c cL_law 7 s #[Value.ref b] lw_tbl RL := ⟨hx, hbb, hml, hown, hts⟩
  refine gw_callV (b := 0) (as := as) (rest := rest) (ci := 12) (S := sM) (A := fun q => s.heap.size ≤ q) CF lz_tl C0.2.2.1 C0.2.2.2.1 (C0.2.2.2.2.2.ag hag) (fun _ h => h) b1 b2 b3 hS hd hV hM (d2 := d2) ⟨?_, ?_⟩ rfl hC hb (hM_0 hν) (by rw [has]; exact hst) hn hoa hcat hl hsz (mc2 := mc2) (ms2 := ms2) hcs callee ?_
  · show d2 + 1 ≤ 2048
    omega
  · show 59 + 64 * d2 ≤ 84000
    omega
  intro v ν' am' H' locs' g1 g2 g3 g4 g5 g6 g7 g8 g9
  have kM : ∀ (k : Nat) (q : Nat × va_E), (fc_w ad cy μ)[k]? = some q → H'[q.1]? = H[q.1]? := fun k q hk => by
    obtain ⟨z1, rfl⟩ := fc_in hk
    have h := lz_far (cy := cy) (ad := am) (μ := ν) a2 hk (fun i hi => Ne.symm (e1 k i z1 hi))
    exact g8 _ h.1 h.2
  have kO : ∀ (k : Nat) (q : Nat × va_E), (lo_w cy ao o)[k]? = some q → H'[q.1]? = H[q.1]? := fun k q hk => by
    have z := lo_at hk
    subst z
    have h := lz_far (cy := cy) (ad := am) (μ := ν) c1 hk e3
    exact g8 _ h.1 h.2
  refine kk v ν' am' H' locs' g1 g2 g3 ⟨⟨a1, a2.kept kM, a3⟩, ⟨g4, g5, g6.weaken (fun k q _ h => gw_free (A := fun q => s.heap.size ≤ q) (fun _ h => h) b3 hS q.1 h)⟩, ⟨c1.kept kO, c2⟩, fun i j hi hj => ?_, e2, ?_⟩ g9
  · exact Ne.symm (lz_apn (A := fun _ => True) g6 (fun j hj => Ne.symm (e1 i j hi hj)) (a2 i _ (fc_at hi)).lt j hj)
  · exact lz_apn (A := fun _ => True) g6 e3 (c1 0 _ rfl).lt
end LZ
