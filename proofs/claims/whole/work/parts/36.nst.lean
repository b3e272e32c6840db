theorem nse_ot : ∀ w ∈ Cond.classLink "CoatWorks" 164 nse :: Cond.initialized nse :: nse_w.filter vx_no, vx_ot w = true := by decide +kernel
theorem nse_gd : ∀ w ∈ nse_w.filter vx_no, goodWord w = true ∨ w = .castable nse nse ∨ w = .declares (Bundle.initS nrt) ∨ w = .declares (Bundle.initS nex) ∨ w = .declares (Bundle.initS Bundle.tN) := by decide +kernel
theorem nse_in : ∀ w ∈ nse_w.filter vx_no, w ∈ tables_1_1 ∨ w ∈ tables_1_6 ∨ w ∈ lw_tbl := by decide +kernel
section NSW
variable {p : Program} {l : Launch} {e : Env} {R : Room} {s : State} {m : MethodId} {args : Array Value} {below : List Frame} {meth : Method} {c : Code} {H : Heap} {locs : List Loc} {cells slots : Nat}
variable {mc ms : Nat} {free : Addr → Prop} {ls : Array Slot} {rest : List Value} {Qc : Array Value → State → Outcome → State → Prop} {XC : String → State → State → Prop} {cc : ByteArray} {pc k is sa : Nat} {text : String} {A : Nat → Prop}
theorem nse_throw (hexec : p.tables.exec = Jvm.exec) (hb : c.code = cc) (hl : l.stackTraces = false) (hown : s.vm.findClass "CoatWorks" = some m.cls)
    (hk : (Cond.classLink "CoatWorks" 164 nse).before args s = true) (hini : (Cond.initialized nse).before args s = true) (hstr : vk_R "CoatWorks" is text sa s) (hat : ∀ w ∈ nse_w.filter vx_no, w.before args s = true)
    (hU : vx_Zq Bundle.tN "UNASSIGNED_STACK" Bundle.steD A s s.heap) (hN : vx_Zq Bundle.tN "SUPPRESSED_SENTINEL" Bundle.listD A s s.heap) (hS : va_S A s.heap H locs) (hsize : ls.size = c.maxLocals)
    (d0 : decode cc pc = .ok (.new 164, 3)) (d3 : decode cc (pc + 3) = .ok (.dup, 1)) (d4 : (k = 6 ∧ decode cc (pc + 4) = .ok (.ldc is, 2)) ∨ (k = 7 ∧ decode cc (pc + 4) = .ok (.ldc_w is, 3))) (d6 : decode cc (pc + k) = .ok (.invokespecial 168, 3)) (d9 : decode cc (pc + k + 3) = .ok (.athrow, 1))
    (hout : ∀ x ∈ c.exceptionTable.toList, covers x (pc + k + 3) = false)
    (hRframes : 2 + 3 < R.frames) (hRlocals : (rest.map fun v => v.category).sum + (13 * (2 + 1) + 43) ≤ R.locals) (hRcells : cells + 1 ≤ R.cells) (hRslots : slots + 6 ≤ R.slots) (hlocks : meth.locks = false)
    (hx : ∀ t : State, s.vm.Alike t.vm → H.size ≤ t.heap.size → (∀ q : Nat, q < H.size → t.heap[q]? = H[q]?) → XC nse s t)
    (hf : ∀ z ∈ locs, free z.base) (hc : cells + 1 ≤ mc) (hs : slots + 6 ≤ ms) :
    W p l e R s m args below meth c H locs cells slots (vx_MQ below Qc XC args s mc ms free) (F0 m pc ls rest) := by
  intro T hT X
  have htr : e.platform.stackTraces = false := (show e.platform.stackTraces = l.stackTraces by rw [X.admits.platform]).trans hl
  have Y := vx_rebase X (R' := { frames := R.frames, locals := R.locals, cells := 1, slots := 6 }) (Nat.le_refl _) (Nat.le_refl _) hRcells hRslots
  obtain ⟨s', hA⟩ : ∃ z, z = (T.setVm s.vm).setFrames (.invoking m args :: below) := ⟨_, rfl⟩
  rw [← hA] at Y
  have hvm : s'.vm = s.vm := by rw [hA]; rfl
  have hhp : s'.heap = H := by rw [hA]; exact hT
  have hW0 : s.WarmedH s'.vm := by rw [hvm]; exact State.WarmedH.refl s
  have hat' : ∀ w ∈ nse_w.filter vx_no, w.before args s' = true := fun w hw => vx_ot_at hW0 hvm.symm (nse_ot w (List.mem_cons_of_mem _ (List.mem_cons_of_mem _ hw))) (hat w hw)
  have hk' : (Cond.classLink "CoatWorks" 164 nse).before args s' = true := vx_ot_at hW0 hvm.symm (nse_ot _ List.mem_cons_self) hk
  have hini' : (Cond.initialized nse).before args s' = true := vx_ot_at hW0 hvm.symm (nse_ot _ (List.mem_cons_of_mem _ List.mem_cons_self)) hini
  have hU' : vx_Zq Bundle.tN "UNASSIGNED_STACK" Bundle.steD A s' s'.heap := by rw [hhp]; exact vx_Zq.moved hW0.alike (hU.kept hS.2.1)
  have hN' : vx_Zq Bundle.tN "SUPPRESSED_SENTINEL" Bundle.listD A s' s'.heap := by rw [hhp]; exact vx_Zq.moved hW0.alike (hN.kept hS.2.1)
  have h : ∀ w ∈ nse_w, w.before args s' = true := vx_own hat' (vx_isRefq hU'.1) (vx_isRefq hN'.1) hU'.2.word hN'.2.word
  have hown' : s'.vm.findClass "CoatWorks" = some m.cls := by rw [hvm]; exact hown
  have hins : (Cond.instantiable nse 6).before args s' = true := h _ (by simp [nse_w, nse_t])
  obtain ⟨vm₁, cX, kX, hfX, hkX, -, -, X₁, st1⟩ := Y.newCold hexec (own := "CoatWorks") (C := nse) (index := 164) (n := 6) hown' hk' hins hini'
    (g := F0 m pc ls rest) rfl (by rw [hb]; exact d0) (Nat.le_refl _) (Nat.le_refl _)
  generalize hT1 : (T.setVm vm₁).pushCell { cls := cX, slots := kX.instanceTypes.map defaultValue, vm := .none } = T1 at X₁ st1
  have hcat : (Value.ref T.heap.size).category = 1 := rfl
  have hcellA : T1.heap[T.heap.size]? = some (freshCell cX kX) := by rw [← hT1]; exact State.heap_pushCell_size _ _
  have d3' : decode c.code (pc + 3) = .ok (.dup, 1) := by rw [hb]; exact d3
  have hstr' : vk_R "CoatWorks" is text sa s' := vk_R.warm hW0 hstr
  obtain ⟨U, hsteps, hrun, hend, hW, hsame, ce, hce, hO1, hO2⟩ := nse_ctor X₁ hexec htr hown' h (fun x hx => nomatch hx) hfX hkX hcellA (by rw [hhp, hT]; exact Nat.le_refl _) (msg := .ref sa) rfl
    (g := { method := m, pc := pc + k, locals := ls, stack := .ref sa :: .ref T.heap.size :: .ref T.heap.size :: rest, locked := none }) rfl hsize rfl rfl (rest := rest) rfl
    (by rw [hb]; exact d6) (by rw [hb]; exact d9) hout hRframes (by simp only [List.map_cons, List.sum_cons, hcat]; omega) hlocks
  obtain ⟨f1, f2⟩ := vx_frame hsame
  rw [hhp] at f1 f2
  have hWs : s.WarmedH U.vm := State.WarmedH.trans hW0 hW
  have hcl : s.vm.findClass nse = some ce.cls := by
    rw [hvm] at hO2
    exact hO2
  have hall : s.sameButNew ({ U with vm := s.vm } : State) locs mc ms := by
    subst hA
    obtain ⟨e1, e2⟩ := hsame
    rw [State.setFrames_setFrames] at e1
    have h2 : (T.setVm s.vm).sameButNew ({ U with vm := s.vm } : State) [] (0 + 1) (0 + 6) := ⟨e1, e2⟩
    have h3 := X.same.trans h2
    rw [List.append_nil] at h3
    exact h3.mono hc hs
  refine ⟨U, ?_, .threw T.heap.size, hrun, hend, Or.inr ⟨T.heap.size, rfl, nse, ce, locs, hx U hWs.alike f1 (fun q hq => f2 q hq (fun z hz => nomatch hz)), hce, hO1, hcl, hWs, hall, hf⟩⟩
  refine st1 _ ?_
  show Steps p.tables e below (T1.setTop { method := m, pc := pc + 3, locals := ls, stack := .ref T.heap.size :: rest, locked := none }) _
  jvm_step X₁.here [X₁.here.top, hexec, d3', Value.category]
  rcases d4 with ⟨rfl, d4⟩ | ⟨rfl, d4⟩
  · have d4' : decode c.code (pc + 4) = .ok (.ldc is, 2) := by rw [hb]; exact d4
    exact X₁.ldcString hexec (own := "CoatWorks") (text := text) (index := is) (a := sa) hown' hstr'.1 hstr'.2
      (g := { method := m, pc := pc + 4, locals := ls, stack := .ref T.heap.size :: .ref T.heap.size :: rest, locked := none }) rfl d4' _ hsteps
  · have d4' : decode c.code (pc + 4) = .ok (.ldc_w is, 3) := by rw [hb]; exact d4
    exact X₁.ldcStringW hexec (own := "CoatWorks") (text := text) (index := is) (a := sa) hown' hstr'.1 hstr'.2
      (g := { method := m, pc := pc + 4, locals := ls, stack := .ref T.heap.size :: .ref T.heap.size :: rest, locked := none }) rfl d4' _ hsteps
end NSW
def txA : String := "no such ticket, or nothing of it by that number"
def txB : String := "no such day in the book"
def fx_nq (ad : Nat → Nat) (A : Nat → Prop) (s : State) : Prop := (∀ args, (∀ w ∈ nse_w.filter vx_no, w.before args s = true) ∧ (Cond.classLink "CoatWorks" 164 nse).before args s = true ∧ (Cond.initialized nse).before args s = true) ∧ vx_Zq Bundle.tN "UNASSIGNED_STACK" Bundle.steD A s s.heap ∧ vx_Zq Bundle.tN "SUPPRESSED_SENTINEL" Bundle.listD A s s.heap ∧ vk_R "CoatWorks" 166 txA (ad 4012) s ∧ vk_R "CoatWorks" 360 txB (ad 4013) s
theorem fx_nse {ad : Nat → Nat} {A : Nat → Prop} {s : State} (h : fx_V ad A s s.heap) : fx_nq ad A s := by
  obtain ⟨s0, a0, ⟨hw, hp, -, -, e1, e2, -⟩, hW, hag⟩ := h
  have hs := flat_of_before _ hp
  have hA : ∀ a : Nat, a < s0.heap.size → ¬ A a := fun a ha => (hag a ha).1
  have hkp : ∀ a : Nat, a < s0.heap.size → ¬ A a → s.heap[a]? = s0.heap[a]? := fun a ha _ => (hag a ha).2
  have iU : (Cond.isRef (.static Bundle.tN "UNASSIGNED_STACK" Bundle.steD)).before a0 s0 = true := hs _ (by decide +kernel)
  have iS : (Cond.isRef (.static Bundle.tN "SUPPRESSED_SENTINEL" Bundle.listD)).before a0 s0 = true := hs _ (by decide +kernel)
  have lU : (Cond.laysStatic Bundle.tN "UNASSIGNED_STACK" Bundle.steD).before a0 s0 = true := hw _ (fg_m6 (List.mem_of_getElem? (i := 48) (by decide +kernel)))
  have lS : (Cond.laysStatic Bundle.tN "SUPPRESSED_SENTINEL" Bundle.listD).before a0 s0 = true := hw _ (fg_m6 (List.mem_of_getElem? (i := 50) (by decide +kernel)))
  have iT : (Cond.initialized Bundle.tN).before a0 s0 = true := hw _ (fg_m1 (List.mem_of_getElem? (i := 21) (by decide +kernel)))
  have sA : (Cond.stringRef "CoatWorks" 166 txA).before a0 s0 = true := hw _ (fg_m6 (List.mem_of_getElem? (i := 60) (by decide +kernel)))
  have sB : (Cond.stringRef "CoatWorks" 360 txB).before a0 s0 = true := hw _ (fg_m6 (List.mem_of_getElem? (i := 93) (by decide +kernel)))
  refine ⟨fun args => ⟨fun w hw' => ?_, ?_, ?_⟩, vx_Zq.moved hW.alike ((vx_Zqof lU iT iU hA).kept hkp), vx_Zq.moved hW.alike ((vx_Zqof lS iT iS hA).kept hkp), vk_R.warm hW (vk_R.of (A := a0) sA e1), vk_R.warm hW (vk_R.of (A := a0) sB e2)⟩
  · have h0 : w.before a0 s0 = true := by
      rcases nse_in w hw' with g | g | g
      · exact hw _ (fg_m1 g)
      · exact hw _ (fg_m6 g)
      · exact hw _ g
    rcases nse_gd w hw' with g | g | g | g | g
    · exact word_at hW (good_of_word g) h0
    · subst g
      exact va_Nw.use rfl (va_Nw.warmC hW (va_Nw.of rfl h0))
    · subst g
      exact va_Nw.use rfl (va_Nw.warmD hW (va_Nw.of rfl h0))
    · subst g
      exact va_Nw.use rfl (va_Nw.warmD hW (va_Nw.of rfl h0))
    · subst g
      exact va_Nw.use rfl (va_Nw.warmD hW (va_Nw.of rfl h0))
  · exact word_at hW (good_of_word (by decide +kernel)) (hw (Cond.classLink "CoatWorks" 164 nse) (fg_m6 (List.mem_of_getElem? (i := 21) (by decide +kernel))))
  · exact word_at hW (good_of_word (by decide +kernel)) (hw (Cond.initialized nse) (fg_m1 (List.mem_of_getElem? (i := 24) (by decide +kernel))))
