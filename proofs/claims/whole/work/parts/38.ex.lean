/-! Every method's contract, out of the picture's run. -/
theorem cT_d {w : Cond} {q : Nat} (h : lw_tbl[q]? = some w) (hc : isCast w = true) : w ∈ cTb := List.mem_filter.mpr ⟨List.mem_of_getElem? h, hc⟩
theorem badW_ok {s : State} {args : Array Value} (h : ∀ w ∈ cTb, va_Nw w s) {j : Nat} (hj : j < 3) : ∀ w ∈ badW (excN j), w.before args s = true := by
  intro w hw
  have hm : w ∈ cTb := by
    simp only [badW, List.mem_cons, List.not_mem_nil, or_false] at hw
    rcases hw with rfl | rfl | rfl | rfl
    · exact wca j hj
    · exact cT_d bw_d0 rfl
    · exact cT_d bw_d1 rfl
    · exact cT_d bw_d2 rfl
  simp only [badW, List.mem_cons, List.not_mem_nil, or_false] at hw
  rcases hw with rfl | rfl | rfl | rfl <;> exact va_Nw.use rfl (h _ hm)
section T1
variable {p : Program} {l : Launch} {e : Env} {R : Room} {s : State} {m : MethodId} {args : Array Value} {below : List Frame} {meth : Method} {c : Code}
  {D : va_G} {cT : Nat → ClassId} {ad : Nat → Nat → Nat} {A : Nat → Prop} {L : Nat} {xs : Nat → Int32} {mi : MI} {M : Mem} {O : Int64} {T : Tmp} {t : Nat} {H : Heap} {locs : List Loc} {c1 s1 mc ms : Nat} {lr : Array Slot} {pc : Nat}
  {Qc : Array Value → State → Outcome → State → Prop} {XC : String → State → State → Prop} {free : Addr → Prop}
/-- throw new NoSuchElementException(text): its constructor's link is 13 -/
theorem throw13 (C : CX p s m args c D cT ad L xs A mi) (hl : l.stackTraces = false) (hwd : WDp D cT ad A s.heap t M O T H locs) (hsz : lr.size = c.maxLocals) (h6 : mi_cls mi = 6)
    (d0 : decode (mi_b mi) pc = .ok (.new 313, 3)) (d3 : decode (mi_b mi) (pc + 3) = .ok (.dup, 1)) (d4 : decode (mi_b mi) (pc + 4) = .ok (.ldc_w 315, 3)) (d7 : decode (mi_b mi) (pc + 7) = .ok (.invokespecial 317, 3)) (d10 : decode (mi_b mi) (pc + 10) = .ok (.athrow, 1))
    (hout : ∀ x ∈ c.exceptionTable.toList, covers x (pc + 10) = false) (hRf : 6 ≤ R.frames) (hRl : 90 ≤ R.locals) (hRc : c1 + 1 ≤ R.cells) (hRs : s1 + 6 ≤ R.slots) (hlocks : meth.locks = false)
    (hx : ∀ t : State, s.vm.Alike t.vm → H.size ≤ t.heap.size → (∀ q : Nat, q < H.size → t.heap[q]? = H[q]?) → XC (excN 1) s t) (hf : ∀ z ∈ locs, free z.base) (hc : c1 + 1 ≤ mc) (hs : s1 + 6 ≤ ms) :
    W p l e R s m args below meth c H locs c1 s1 (vx_MQ below Qc XC args s mc ms free) (F0 m pc lr []) := by
  obtain ⟨hexec, hb, hml, hown0, hts, hK, hF, hA, hAA, hDD, hcl0⟩ := C
  have hown : s.vm.findClass RX6 = some m.cls := by rw [h6] at hown0; exact hown0
  have hin : ∀ w ∈ lw_tbl, goodWord w = true → w.before args s = true := fun w h1 h2 => hts w (List.mem_cons_of_mem _ (List.mem_filter.mpr ⟨h1, h2⟩))
  have hg : ∀ w ∈ gTb, w.before args s = true := fun w h => hts w (List.mem_cons_of_mem _ h)
  obtain ⟨sa, hstr⟩ := hF.2.2.2.2.2.2.2.2.2.2.2.1
  have hat : ∀ w ∈ (at13 RX6 317 ns13).filter vx_no, w.before args s = true := vx_hat (fun w hw => hin w (th_13 w hw) (List.mem_filter.mp hw).2) tb_13 (badW_ok hF.2.2.2.2.2.2.2.1 (j := 1) (by omega))
  have hU := hF.2.2.2.2.1
  have hN := hF.2.2.2.2.2.1
  have hS := hwd.2.2
  intro T0 hT X
  have htr : e.platform.stackTraces = false := (show e.platform.stackTraces = l.stackTraces by rw [X.admits.platform]).trans hl
  have Y := vx_rebase X (R' := { frames := R.frames, locals := R.locals, cells := 1, slots := 6 }) (Nat.le_refl _) (Nat.le_refl _) hRc hRs
  obtain ⟨s', hA9⟩ : ∃ z, z = (T0.setVm s.vm).setFrames (.invoking m args :: below) := ⟨_, rfl⟩
  rw [← hA9] at Y
  have hvm : s'.vm = s.vm := by rw [hA9]; rfl
  have hhp : s'.heap = H := by rw [hA9]; exact hT
  have hW0 : s.WarmedH s'.vm := by rw [hvm]; exact State.WarmedH.refl s
  have hat' : ∀ w ∈ (at13 RX6 317 ns13).filter vx_no, w.before args s' = true := fun w hw => vx_ot_at hW0 hvm.symm (to_13 w (List.mem_cons_of_mem _ (List.mem_cons_of_mem _ hw))) (hat w hw)
  have hk' : (Cond.classLink RX6 313 ns13).before args s' = true := vx_ot_at hW0 hvm.symm (to_13 _ List.mem_cons_self) (hg _ wcl_6_313)
  have hini' : (Cond.initialized ns13).before args s' = true := vx_ot_at hW0 hvm.symm (to_13 _ (List.mem_cons_of_mem _ List.mem_cons_self)) (hg _ win_x1)
  have hU' : vx_Zq Bundle.tN "UNASSIGNED_STACK" Bundle.steD A s' s'.heap := by rw [hhp]; exact vx_Zq.moved hW0.alike (hU.kept hS.2.1)
  have hN' : vx_Zq Bundle.tN "SUPPRESSED_SENTINEL" Bundle.listD A s' s'.heap := by rw [hhp]; exact vx_Zq.moved hW0.alike (hN.kept hS.2.1)
  have h : ∀ w ∈ at13 RX6 317 ns13, w.before args s' = true := vx_own hat' (vx_isRefq hU'.1) (vx_isRefq hN'.1) hU'.2.word hN'.2.word
  have hown' : s'.vm.findClass RX6 = some m.cls := by rw [hvm]; exact hown
  have hins : (Cond.instantiable ns13 6).before args s' = true := h _ (by simp [at13])
  obtain ⟨vm₁, cX, kX, hfX, hkX, -, -, X₁, st1⟩ := Y.newCold hexec (own := RX6) (C := ns13) (index := 313) (n := 6) hown' hk' hins hini'
    (g := F0 m pc lr []) rfl (by rw [hb]; exact d0) (Nat.le_refl _) (Nat.le_refl _)
  generalize hT1 : (T0.setVm vm₁).pushCell { cls := cX, slots := kX.instanceTypes.map defaultValue, vm := .none } = T1 at X₁ st1
  have hcellA : T1.heap[T0.heap.size]? = some (freshCell cX kX) := by rw [← hT1]; exact State.heap_pushCell_size _ _
  have d3' : decode c.code (pc + 3) = .ok (.dup, 1) := by rw [hb]; exact d3
  have d4' : decode c.code (pc + 4) = .ok (.ldc_w 315, 3) := by rw [hb]; exact d4
  have hstr' : vk_R RX6 315 "no such house, source, work or air" sa s' := vk_R.warm hW0 hstr
  obtain ⟨U, hsteps, hrun, hend, hW, hsame, ce, hce, hcc, hcv⟩ := ct13 X₁ hexec htr (own := RX6) (cls := ns13) (ic := 317) hown' (by decide +kernel) h (fun x hx => nomatch hx) hfX hkX hcellA (by rw [hhp, hT]; exact Nat.le_refl _) (msg := .ref sa) rfl
    (g := { method := m, pc := pc + 7, locals := lr, stack := .ref sa :: .ref T0.heap.size :: .ref T0.heap.size :: [], locked := none }) rfl hsz rfl rfl (rest := []) rfl
    (by rw [hb]; exact d7) (by rw [hb]; exact d10) hout (by show 5 < R.frames; omega) (by show 2 * 0 + 1 + 81 ≤ R.locals; omega) hlocks
  obtain ⟨f1, f2⟩ := vx_frame hsame
  rw [hhp] at f1 f2
  have hWs : s.WarmedH U.vm := State.WarmedH.trans hW0 hW
  have hcl : s.vm.findClass ns13 = some ce.cls := by
    rw [hcc, ← hvm]
    exact hfX
  have hall : s.sameButNew ({ U with vm := s.vm } : State) locs mc ms := by
    subst hA9
    obtain ⟨e1, e2⟩ := hsame
    rw [State.setFrames_setFrames] at e1
    have h2 : (T0.setVm s.vm).sameButNew ({ U with vm := s.vm } : State) [] (0 + 1) (0 + 6) := ⟨e1, e2⟩
    have h3 := X.same.trans h2
    rw [List.append_nil] at h3
    exact h3.mono hc hs
  refine ⟨U, ?_, .threw T0.heap.size, hrun, hend, Or.inr ⟨T0.heap.size, rfl, ns13, ce, locs, hx U hWs.alike f1 (fun q hq => f2 q hq (fun z hz => nomatch hz)), hce, hcv, hcl, hWs, hall, hf⟩⟩
  refine st1 _ ?_
  show Steps p.tables e below (T1.setTop { method := m, pc := pc + 3, locals := lr, stack := .ref T0.heap.size :: [], locked := none }) _
  jvm_step X₁.here [X₁.here.top, hexec, d3', Value.category]
  exact X₁.ldcStringW hexec (own := RX6) (text := "no such house, source, work or air") (index := 315) (a := sa) hown' hstr'.1 hstr'.2
    (g := { method := m, pc := pc + 4, locals := lr, stack := .ref T0.heap.size :: .ref T0.heap.size :: [], locked := none }) rfl d4' _ hsteps
theorem throw_ok (C : CX p s m args c D cT ad L xs A mi) (hM : MOKT mi) (hl : l.stackTraces = false) (hwd : WDp D cT ad A s.heap t M O T H locs) (hsz : lr.size = mi_L mi) {n X : Nat} (hlk : List.lookup pc (mi_tab mi) = some (.new n, 3)) (hlX : List.lookup n (cps (mi_cls mi)).2.2.2 = some X)
    (hTab : c.exceptionTable.toList = tableOf (mi_hh mi)) (hRf : mi_fr mi ≤ R.frames) (hRl : mi_lw mi ≤ R.locals) (hRc : c1 + 1 ≤ R.cells) (hRs : s1 + 6 ≤ R.slots) (hlocks : meth.locks = false)
    (hx : ∀ t : State, s.vm.Alike t.vm → H.size ≤ t.heap.size → (∀ q : Nat, q < H.size → t.heap[q]? = H[q]?) → XC (excN X) s t) (hf : ∀ z ∈ locs, free z.base) (hc : c1 + 1 ≤ mc) (hs : s1 + 6 ≤ ms) :
    W p l e R s m args below meth c H locs c1 s1 (vx_MQ below Qc XC args s mc ms free) (F0 m pc lr []) := by
  have C' := C
  obtain ⟨ex, hb, hml, hown, hts, hK, hF, hA, hAA, hDD, hcl⟩ := C
  have htb : tB mi pc n = true := List.all_eq_true.mp hM.2.1 _ (lookup_mem hlk)
  unfold tB at htb
  rw [hlX] at htb
  simp only [Bool.and_eq_true, decide_eq_true_eq, List.isEmpty_iff] at htb
  obtain ⟨⟨⟨⟨⟨⟨⟨h6, hX3⟩, hnh⟩, hfr⟩, hlw⟩, l3⟩, l10⟩, hX⟩ := htb
  have hout : ∀ x ∈ c.exceptionTable.toList, covers x (pc + 10) = false := by
    rw [hTab, hnh]
    intro x hx
    cases hx
  have hsz' : lr.size = c.maxLocals := by rw [hml, hsz]
  have d0 := (eOK_dec hM.1 hlk).1
  have d3 := (eOK_dec hM.1 l3).1
  have d10 := (eOK_dec hM.1 l10).1
  have hin : ∀ w ∈ lw_tbl, goodWord w = true → w.before args s = true := fun w h1 h2 => hts w (List.mem_cons_of_mem _ (List.mem_filter.mpr ⟨h1, h2⟩))
  have hg : ∀ w ∈ gTb, w.before args s = true := fun w h => hts w (List.mem_cons_of_mem _ h)
  have hown6 : s.vm.findClass RX6 = some m.cls := by rw [h6] at hown; exact hown
  match X, hX3, hX with
  | 0, _, hX =>
    simp only [Bool.and_eq_true, decide_eq_true_eq] at hX
    obtain ⟨⟨rfl, l4⟩, l7⟩ := hX
    obtain ⟨sa, hsa⟩ := hF.2.2.2.2.2.2.2.2.2.2.1
    exact vx_throwSW ex hb hl hown6 (by decide +kernel) (by decide +kernel) (hg _ wcl_6_306) (hg _ win_x0) hsa
      (vx_hat (fun w hw => hin w (th_x0 w hw) (List.mem_filter.mp hw).2) tb_x0 (badW_ok hF.2.2.2.2.2.2.2.1 (j := 0) (by omega))) to_x0 hF.2.2.2.2.1 hF.2.2.2.2.2.1 hwd.2.2 hsz' d0 d3 (eOK_dec hM.1 l4).1 (eOK_dec hM.1 l7).1 d10 hout
      (by show 2 + 3 < _; omega) (by show 0 + (13 * (2 + 1) + 43) ≤ _; omega) hRc hRs hlocks hx hf hc hs
  | 1, _, hX =>
    simp only [Bool.and_eq_true, decide_eq_true_eq] at hX
    obtain ⟨⟨rfl, l4⟩, l7⟩ := hX
    exact throw13 C' hl hwd hsz' h6 d0 d3 (eOK_dec hM.1 l4).1 (eOK_dec hM.1 l7).1 d10 hout (by omega) (by omega) hRc hRs hlocks hx hf hc hs
  | 2, _, hX =>
    simp only [Bool.and_eq_true, decide_eq_true_eq] at hX
    obtain ⟨⟨rfl, l4⟩, l7⟩ := hX
    obtain ⟨sa, hsa⟩ := hF.2.2.2.2.2.2.2.2.2.2.2.2.1
    exact vx_throwSW ex hb hl hown6 (by decide +kernel) (by decide +kernel) (hg _ wcl_6_318) (hg _ win_x2) hsa
      (vx_hat (fun w hw => hin w (th_x2 w hw) (List.mem_filter.mp hw).2) tb_x2 (badW_ok hF.2.2.2.2.2.2.2.1 (j := 2) (by omega))) to_x2 hF.2.2.2.2.1 hF.2.2.2.2.2.1 hwd.2.2 hsz' d0 d3 (eOK_dec hM.1 l4).1 (eOK_dec hM.1 l7).1 d10 hout
      (by show 2 + 3 < _; omega) (by show 0 + (13 * (2 + 1) + 43) ≤ _; omega) hRc hRs hlocks hx hf hc hs
end T1
