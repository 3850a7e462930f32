/-! Every method's contract, out of the picture's run. -/
theorem cT_d {w : Cond} {q : Nat} (h : lw_tbl[q]? = some w) (hc : isCast w = true) : w ∈ cTb := List.mem_filter.mpr ⟨List.mem_of_getElem? h, hc⟩
theorem badW_ok {s : State} {args : Array Value} (h : ∀ w ∈ cTb, va_Nw w s) {j : Nat} (hj : j < 3) : ∀ w ∈ badW (excN j), w.before args s = true := by
  intro w hw
  have hm : w ∈ cTb := by
    simp only [badW, List.mem_cons, List.not_mem_nil, or_false] at hw
    rcases hw with rfl | rfl | rfl | rfl
    · exact wca j hj
    · exact cT_d bw_d0 rfl
    · exact cT_d bw_d1 rfl
    · exact cT_d bw_d2 rfl
  simp only [badW, List.mem_cons, List.not_mem_nil, or_false] at hw
  rcases hw with rfl | rfl | rfl | rfl <;> exact va_Nw.use rfl (h _ hm)
section T1
variable {p : Program} {l : Launch} {e : Env} {R : Room} {s : State} {m : MethodId} {args : Array Value} {below : List Frame} {meth : Method} {c : Code}
  {D : va_G} {cT : Nat → ClassId} {ad : Nat → Nat → Nat} {A : Nat → Prop} {L : Nat} {xs : Nat → Int32} {mi : MI} {M : Mem} {O : Int64} {T : Tmp} {t : Nat} {H : Heap} {locs : List Loc} {c1 s1 mc ms : Nat} {lr : Array Slot} {pc : Nat}
  {Qc : Array Value → State → Outcome → State → Prop} {XC : String → State → State → Prop} {free : Addr → Prop}
/-- throw new NoSuchElementException(text): its constructor's link is 13 -/
theorem throw13 (C : CX p s m args c D cT ad L xs A mi) (hl : l.stackTraces = false) (hwd : WDp D cT ad A s.heap t M O T H locs) (hsz : lr.size = c.maxLocals) (h6 : mi_cls mi = 6)
    (d0 : decode (mi_b mi) pc = .ok (.new 313, 3)) (d3 : decode (mi_b mi) (pc + 3) = .ok (.dup, 1)) (d4 : decode (mi_b mi) (pc + 4) = .ok (.ldc_w 315, 3)) (d7 : decode (mi_b mi) (pc + 7) = .ok (.invokespecial 317, 3)) (d10 : decode (mi_b mi) (pc + 10) = .ok (.athrow, 1))
    (hout : ∀ x ∈ c.exceptionTable.toList, covers x (pc + 10) = false) (hRf : 6 ≤ R.frames) (hRl : 90 ≤ R.locals) (hRc : c1 + 1 ≤ R.cells) (hRs : s1 + 6 ≤ R.slots) (hlocks : meth.locks = false)
    (hx : ∀ t : State, s.vm.Alike t.vm → H.size ≤ t.heap.size → (∀ q : Nat, q < H.size → t.heap[q]? = H[q]?) → XC (excN 1) s t) (hf : ∀ z ∈ locs, free z.base) (hc : c1 + 1 ≤ mc) (hs : s1 + 6 ≤ ms) :
    W p l e R s m args below meth c H locs c1 s1 (vx_MQ below Qc XC args s mc ms free) (F0 m pc lr []) := by
  sorry
theorem throw_ok (C : CX p s m args c D cT ad L xs A mi) (hM : MOKT mi) (hl : l.stackTraces = false) (hwd : WDp D cT ad A s.heap t M O T H locs) (hsz : lr.size = mi_L mi) {n X : Nat} (hlk : List.lookup pc (mi_tab mi) = some (.new n, 3)) (hlX : List.lookup n (cps (mi_cls mi)).2.2.2 = some X)
    (hTab : c.exceptionTable.toList = tableOf (mi_hh mi)) (hRf : mi_fr mi ≤ R.frames) (hRl : mi_lw mi ≤ R.locals) (hRc : c1 + 1 ≤ R.cells) (hRs : s1 + 6 ≤ R.slots) (hlocks : meth.locks = false)
    (hx : ∀ t : State, s.vm.Alike t.vm → H.size ≤ t.heap.size → (∀ q : Nat, q < H.size → t.heap[q]? = H[q]?) → XC (excN X) s t) (hf : ∀ z ∈ locs, free z.base) (hc : c1 + 1 ≤ mc) (hs : s1 + 6 ≤ ms) :
    W p l e R s m args below meth c H locs c1 s1 (vx_MQ below Qc XC args s mc ms free) (F0 m pc lr []) := by
  have C' := C
  obtain ⟨ex, hb, hml, hown, hts, hK, hF, hA, hAA, hDD, hcl⟩ := C
  have htb : tB mi pc n = true := List.all_eq_true.mp hM.2.1 _ (lookup_mem hlk)
  unfold tB at htb
  rw [hlX] at htb
  simp only [Bool.and_eq_true, decide_eq_true_eq, List.isEmpty_iff] at htb
  obtain ⟨⟨⟨⟨⟨⟨⟨h6, hX3⟩, hnh⟩, hfr⟩, hlw⟩, l3⟩, l10⟩, hX⟩ := htb
  have hout : ∀ x ∈ c.exceptionTable.toList, covers x (pc + 10) = false := by
    rw [hTab, hnh]
    intro x hx
    cases hx
  have hsz' : lr.size = c.maxLocals := by rw [hml, hsz]
  have d0 := (eOK_dec hM.1 hlk).1
  have d3 := (eOK_dec hM.1 l3).1
  have d10 := (eOK_dec hM.1 l10).1
  have hin : ∀ w ∈ lw_tbl, goodWord w = true → w.before args s = true := fun w h1 h2 => hts w (List.mem_cons_of_mem _ (List.mem_filter.mpr ⟨h1, h2⟩))
  have hg : ∀ w ∈ gTb, w.before args s = true := fun w h => hts w (List.mem_cons_of_mem _ h)
  have hown6 : s.vm.findClass RX6 = some m.cls := by rw [h6] at hown; exact hown
  match X, hX3, hX with
  | 0, _, hX =>
    simp only [Bool.and_eq_true, decide_eq_true_eq] at hX
    obtain ⟨⟨rfl, l4⟩, l7⟩ := hX
    obtain ⟨sa, hsa⟩ := hF.2.2.2.2.2.2.2.2.2.2.1
    exact vx_throwSW ex hb hl hown6 (by decide +kernel) (by decide +kernel) (hg _ wcl_6_306) (hg _ win_x0) hsa
      (vx_hat (fun w hw => hin w (th_x0 w hw) (List.mem_filter.mp hw).2) tb_x0 (badW_ok hF.2.2.2.2.2.2.2.1 (j := 0) (by omega))) to_x0 hF.2.2.2.2.1 hF.2.2.2.2.2.1 hwd.2.2 hsz' d0 d3 (eOK_dec hM.1 l4).1 (eOK_dec hM.1 l7).1 d10 hout
      (by show 2 + 3 < _; omega) (by show 0 + (13 * (2 + 1) + 43) ≤ _; omega) hRc hRs hlocks hx hf hc hs
  | 1, _, hX =>
    simp only [Bool.and_eq_true, decide_eq_true_eq] at hX
    obtain ⟨⟨rfl, l4⟩, l7⟩ := hX
    exact throw13 C' hl hwd hsz' h6 d0 d3 (eOK_dec hM.1 l4).1 (eOK_dec hM.1 l7).1 d10 hout (by omega) (by omega) hRc hRs hlocks hx hf hc hs
  | 2, _, hX =>
    simp only [Bool.and_eq_true, decide_eq_true_eq] at hX
    obtain ⟨⟨rfl, l4⟩, l7⟩ := hX
    obtain ⟨sa, hsa⟩ := hF.2.2.2.2.2.2.2.2.2.2.2.2.1
    exact vx_throwSW ex hb hl hown6 (by decide +kernel) (by decide +kernel) (hg _ wcl_6_318) (hg _ win_x2) hsa
      (vx_hat (fun w hw => hin w (th_x2 w hw) (List.mem_filter.mp hw).2) tb_x2 (badW_ok hF.2.2.2.2.2.2.2.1 (j := 2) (by omega))) to_x2 hF.2.2.2.2.1 hF.2.2.2.2.2.1 hwd.2.2 hsz' d0 d3 (eOK_dec hM.1 l4).1 (eOK_dec hM.1 l7).1 d10 hout
      (by show 2 + 3 < _; omega) (by show 0 + (13 * (2 + 1) + 43) ≤ _; omega) hRc hRs hlocks hx hf hc hs
end T1
