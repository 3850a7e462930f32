/-! Calls over such a world; java.util.Arrays.fill. -/
theorem Bw.last {D : va_G} {b : Nat} {es0 : List va_E} {e0 : va_E} {H : Heap} (h : Bw D b (es0 ++ [e0]) H) : Bw D (b + es0.length) [e0] H := by
  refine ⟨by rw [h.1, List.length_append]; simp only [List.length_cons, List.length_nil]; omega, fun k x hx => ?_⟩
  have h0 : k < 1 := (List.getElem?_eq_some_iff.mp hx).1
  rw [show k = 0 by omega] at hx ⊢
  cases hx
  exact h.2 es0.length e0 (by rw [List.getElem?_append_right (Nat.le_refl _), Nat.sub_self]; rfl)
theorem Bw.cong {D : va_G} {b k n : Nat} {es : List va_E} {H : Heap} {cA : ClassId} {f g : Nat → Int32} (h : Bw D b es H) (hk : es[k]? = some (.inl (cA, n, .inl f))) (hfg : ∀ j, j < n → f j = g j) : Bw D b (es.set k (.inl (cA, n, .inl g))) H := by
  refine h.set hk ?_ rfl (fun _ _ => rfl)
  show H[b + k]? = some (vp_cell _ _)
  rw [vp_cell_i, ← arrV_cong cA n _ _ (fun j hj => congrArg Value.int (hfg j hj)), ← vp_cell_i]
  exact h.2 k _ hk
theorem goodC {w0 w1 : Cond} (h : w1 ∈ gTb) : GoodIn (w0 :: gTb) (w1 :: gTb) := by
  intro w hw
  have hg : w ∈ gTb := by
    rcases List.mem_cons.mp hw with rfl | q
    · exact h
    · exact q
  exact ⟨List.mem_cons_of_mem _ hg, good_of_word (List.mem_filter.mp hg).2⟩
theorem goodW {w0 w : Cond} (h : w ∈ gTb) : w ∈ w0 :: gTb ∧ ((w.onTables && w.keeps) = true ∨ ∃ ty, w = .arrayClass ty) := ⟨List.mem_cons_of_mem _ h, good_of_word (List.mem_filter.mp h).2⟩
abbrev KC (l : Launch) (y : MethodName) (bytes : ByteArray) (maxL fr lw mc ms : Nat) (e0 : va_E) (es' : (Nat → ClassId) → Nat → List va_E) : Prop := ∀ (D : va_G) (cT : Nat → ClassId) (b : Nat), Met l y (.code y bytes maxL none :: gTb) { frames := fr, cells := mc, slots := ms, locals := lw } (BP D cT b [e0]) (BQ D b (es' cT b)) mc ms (fun q => b ≤ q)
abbrev KV (l : Launch) (y : MethodName) (bytes : ByteArray) (maxL fr lw : Nat) (es1 es2 : (Nat → ClassId) → Nat → List va_E) : Prop := ∀ (D : va_G) (cT : Nat → ClassId) (b : Nat), Met l y (.code y bytes maxL none :: gTb) { frames := fr, cells := 0, slots := 0, locals := lw } (BP D cT b (es1 cT b)) (BQ D b (es2 cT b)) 0 0 (fun q => b ≤ q)
section B3
variable {p : Program} {l : Launch} {e : Env} {R : Room} {s : State} {m : MethodId} {args : Array Value} {below : List Frame} {meth : Method} {c : Code} {H H0 : Heap} {locs : List Loc} {cells slots : Nat} {Q : State → Prop}
  {cc : ByteArray} {pc nL : Nat} {ls : Array Slot} {rest : List Value} {D : va_G} {cT : Nat → ClassId} {b : Nat} {es es0 : List va_E} {w0 : Cond} {own : String} {index : Nat} {y : MethodName} {bytes : ByteArray} {maxL fr lw mc ms : Nat} {e0 : va_E} {es' es2 : (Nat → ClassId) → Nat → List va_E}
theorem bw_ctorN (hx : p.tables.exec = Jvm.exec) (hb : c.code = cc) (hml : c.maxLocals = nL) (hown : s.vm.findClass own = some m.cls) (hts1 : ∀ w ∈ w0 :: gTb, w.before args s = true) (hK : va_K D vwCl (tysT cT) s) (hZ : BZ s) (hM : KC l y bytes maxL fr lw mc ms e0 es') (hcd : Cond.code y bytes maxL none ∈ gTb) (hni : Cond.methodLinkNest own index y "NightSounds" ∈ nTb) (hini : Cond.initialized y.cls ∈ gTb) (him : Cond.instanceMethod y ∈ gTb) (hy : y.name = "<init>")
    (hd : y.cls ≠ "java/lang/invoke/MethodHandle" ∧ y.cls ≠ "java/lang/invoke/VarHandle" ∧ (parseMethodDescriptor y.desc).map (fun d => d.parameters.length) = some 0) (hR : fr + 1 ≤ R.frames ∧ 8 + (maxL + 11) + lw ≤ R.locals) (hsz : ls.size = nL) (hroom : (rest.map fun v => v.category).sum ≤ 8) (hcs : cells + mc ≤ R.cells ∧ slots + ms ≤ R.slots) (hdg : decode cc pc = .ok (.invokespecial index, 3))
    (hB : Bw D b (es0 ++ [e0]) H) (hS : va_S (fun q => b ≤ q) H0 H locs)
    (kk : ∀ (H1 : Heap) (locs1 : List Loc), Bw D b (es0 ++ es' cT (b + es0.length)) H1 → va_S (fun q => b ≤ q) H0 H1 locs1 → W p l e R s m args below meth c H1 locs1 (cells + mc) (slots + ms) Q (F0 m (pc + 3) ls rest)) :
    W p l e R s m args below meth c H locs cells slots Q (F0 m pc ls (.ref (b + es0.length) :: rest)) := by
  have hts : ∀ w ∈ gTb, w.before args s = true := fun w h => hts1 w (List.mem_cons_of_mem _ h)
  have hr := va_runIN (e := e) (below := below) (meth := meth) (R := R) (locs := locs) (cells := cells) (slots := slots) (As := []) (rest := rest) (g := F0 m pc ls (.ref (b + es0.length) :: rest)) (S := ⟨hx, hb, hml, hown, hts1⟩) (hM D cT (b + es0.length)) ⟨va_cnB (R := R) 0 hts1 (goodC hcd) rfl rfl rfl (hZ.1 _ hni) (hts _ hini) hd hR, hy, hts _ him⟩ (BP.pre hB.last hK hZ) rfl rfl hsz rfl (lv_room hroom) hdg hcs
  exact bw_after hr hB hS kk
theorem bw_ctorL (hx : p.tables.exec = Jvm.exec) (hb : c.code = cc) (hml : c.maxLocals = nL) (hown : s.vm.findClass own = some m.cls) (hts1 : ∀ w ∈ w0 :: gTb, w.before args s = true) (hK : va_K D vwCl (tysT cT) s) (hZ : BZ s) (hM : KC l y bytes maxL fr lw mc ms e0 es') (hcd : Cond.code y bytes maxL none ∈ gTb) (hli : Cond.methodLink own index y ∈ gTb) (hini : Cond.initialized y.cls ∈ gTb) (him : Cond.instanceMethod y ∈ gTb) (hy : y.name = "<init>")
    (hd : y.cls ≠ "java/lang/invoke/MethodHandle" ∧ y.cls ≠ "java/lang/invoke/VarHandle" ∧ (parseMethodDescriptor y.desc).map (fun d => d.parameters.length) = some 0) (hR : fr + 1 ≤ R.frames ∧ 8 + (maxL + 11) + lw ≤ R.locals) (hsz : ls.size = nL) (hroom : (rest.map fun v => v.category).sum ≤ 8) (hcs : cells + mc ≤ R.cells ∧ slots + ms ≤ R.slots) (hdg : decode cc pc = .ok (.invokespecial index, 3))
    (hB : Bw D b (es0 ++ [e0]) H) (hS : va_S (fun q => b ≤ q) H0 H locs)
    (kk : ∀ (H1 : Heap) (locs1 : List Loc), Bw D b (es0 ++ es' cT (b + es0.length)) H1 → va_S (fun q => b ≤ q) H0 H1 locs1 → W p l e R s m args below meth c H1 locs1 (cells + mc) (slots + ms) Q (F0 m (pc + 3) ls rest)) :
    W p l e R s m args below meth c H locs cells slots Q (F0 m pc ls (.ref (b + es0.length) :: rest)) := by
  have hts : ∀ w ∈ gTb, w.before args s = true := fun w h => hts1 w (List.mem_cons_of_mem _ h)
  have hr := va_runI (e := e) (below := below) (meth := meth) (R := R) (locs := locs) (cells := cells) (slots := slots) (As := []) (rest := rest) (g := F0 m pc ls (.ref (b + es0.length) :: rest)) (S := ⟨hx, hb, hml, hown, hts1⟩) (hM D cT (b + es0.length)) (cwI (R := R) 0 hts1 (goodC hcd) rfl rfl rfl (hts _ hini) (hts _ hli) (hts _ him) hy hd hR) (BP.pre hB.last hK hZ) rfl rfl hsz rfl (lv_room hroom) hdg hcs
  exact bw_after hr hB hS kk
theorem bw_virt {ci : Nat} {r : vw_C} {fs : List Value} (hx : p.tables.exec = Jvm.exec) (hb : c.code = cc) (hml : c.maxLocals = nL) (hown : s.vm.findClass own = some m.cls) (hts1 : ∀ w ∈ w0 :: gTb, w.before args s = true) (hK : va_K D vwCl (tysT cT) s) (hZ : BZ s) (hM : KV l y bytes maxL fr lw es' es2) (hcd : Cond.code y bytes maxL none ∈ gTb) (hli : Cond.methodLink own index y ∈ gTb) (hini : Cond.initialized y.cls ∈ gTb) (him : Cond.instanceMethod y ∈ gTb) (hse : Cond.selects y.cls y y ∈ gTb)
    (hd : y.cls ≠ "java/lang/invoke/MethodHandle" ∧ y.cls ≠ "java/lang/invoke/VarHandle" ∧ (parseMethodDescriptor y.desc).map (fun d => d.parameters.length) = some 0) (hR : fr + 1 ≤ R.frames ∧ 8 + (maxL + 11) + lw ≤ R.locals) (hsz : ls.size = nL) (hroom : (rest.map fun v => v.category).sum ≤ 8) (hcs : cells + 0 ≤ R.cells ∧ slots + 0 ≤ R.slots) (hdg : decode cc pc = .ok (.invokevirtual index, 3))
    (hB : Bw D b (es' cT b) H) (he : (es' cT b)[0]? = some (.inr (ci, fs))) (hc : vwCl[ci]? = some r) (hrc : r.1 = y.cls) (hS : va_S (fun q => b ≤ q) H0 H locs)
    (kk : ∀ (H1 : Heap) (locs1 : List Loc), Bw D b (es2 cT b) H1 → va_S (fun q => b ≤ q) H0 H1 locs1 → W p l e R s m args below meth c H1 locs1 (cells + 0) (slots + 0) Q (F0 m (pc + 3) ls rest)) :
    W p l e R s m args below meth c H locs cells slots Q (F0 m pc ls (.ref b :: rest)) := by
  have hrecv := va_recv hK hB.P hc (addW_get he)
  rw [hrc] at hrecv
  have hp : PreV s H y.cls b (BP D cT b (es' cT b)) [] := ⟨BP.blind, hrecv, fun U hU hW => ⟨rfl, by rw [hU]; exact hB, va_K.moved hW.alike hK, hZ.warm hW⟩⟩
  have cw := cwV (R := R) (mc := 0) (ms := 0) (rm := { frames := fr, cells := 0, slots := 0, locals := lw }) (own := own) (index := index) (C := y.cls) (y := y) 0 hts1 (ws := Cond.code y bytes maxL none :: gTb) (ws' := gTb)
    (by
      intro w hw'
      rcases List.mem_append.mp hw' with q | q
      · simp only [List.mem_cons, List.not_mem_nil, or_false] at q
        rcases q with rfl | rfl | rfl | rfl
        · exact goodW hli
        · exact goodW him
        · exact goodW hse
        · exact goodW hini
      · exact goodC hcd w q) rfl rfl rfl ⟨rfl, hd⟩ hR
  have hr := va_runV (e := e) (below := below) (meth := meth) (R := R) (locs := locs) (cells := cells) (slots := slots) (rest := rest) (g := F0 m pc ls (.ref b :: rest)) (S := ⟨hx, hb, hml, hown, hts1⟩) (hM D cT b) cw hp rfl rfl hsz rfl (lv_room hroom) hdg hcs
  exact bw_same hr hS kk
end B3
/-! Arrays.fill over one row of such a world -/
theorem d_fill_0 : decode cJ7_fill_53178 0 = .ok (.iconst 0, 1) := by decide +kernel
theorem d_fill_1 : decode cJ7_fill_53178 1 = .ok (.istore_n 2, 1) := by decide +kernel
theorem d_fill_2 : decode cJ7_fill_53178 2 = .ok (.aload_n 0, 1) := by decide +kernel
theorem d_fill_3 : decode cJ7_fill_53178 3 = .ok (.arraylength, 1) := by decide +kernel
theorem d_fill_4 : decode cJ7_fill_53178 4 = .ok (.istore_n 3, 1) := by decide +kernel
theorem d_fill_5 : decode cJ7_fill_53178 5 = .ok (.iload_n 2, 1) := by decide +kernel
theorem d_fill_6 : decode cJ7_fill_53178 6 = .ok (.iload_n 3, 1) := by decide +kernel
theorem d_fill_7 : decode cJ7_fill_53178 7 = .ok (.if_icmp .ge 13, 3) := by decide +kernel
theorem d_fill_10 : decode cJ7_fill_53178 10 = .ok (.aload_n 0, 1) := by decide +kernel
theorem d_fill_11 : decode cJ7_fill_53178 11 = .ok (.iload_n 2, 1) := by decide +kernel
theorem d_fill_12 : decode cJ7_fill_53178 12 = .ok (.iload_n 1, 1) := by decide +kernel
theorem d_fill_13 : decode cJ7_fill_53178 13 = .ok (.iastore, 1) := by decide +kernel
theorem d_fill_14 : decode cJ7_fill_53178 14 = .ok (.iinc 2 1, 3) := by decide +kernel
theorem d_fill_17 : decode cJ7_fill_53178 17 = .ok (.goto (-12), 3) := by decide +kernel
theorem d_fill_20 : decode cJ7_fill_53178 20 = .ok (.return_, 1) := by decide +kernel
def fillF (v : Int32) (f : Nat → Int32) (i : Nat) : Nat → Int32 := fun j => if j < i then v else f j
theorem fillF_s (v : Int32) (f : Nat → Int32) (i : Nat) : upd (fillF v f i) i v = fillF v f (i + 1) := by
  funext j
  unfold upd fillF
  by_cases h : j = i
  · rw [if_pos h, if_pos (by omega)]
  · rw [if_neg h]
    by_cases h2 : j < i
    · rw [if_pos h2, if_pos (by omega)]
    · rw [if_neg h2, if_neg (by omega)]
def FP (D : va_G) (cT : Nat → ClassId) (b k : Nat) (v : Int32) (es : List va_E) : Array Value → State → Prop := va_Pc [.ref (b + k), .int v] (fun U => Bw D b es U.heap ∧ va_K D vwCl (tysT cT) U)
theorem FP.blind {D : va_G} {cT : Nat → ClassId} {b k : Nat} {v : Int32} {es : List va_E} : FrameBlind (FP D cT b k v es) := by
  intro a U g mk h
  obtain ⟨h1, h2, h3⟩ := h
  exact ⟨h1, h2, va_K.moved (u := U) (U := U.calling g mk a) (Vm.Alike.refl U.vm) h3⟩
set_option maxHeartbeats 4000000 in
theorem k_fill (l : Launch) (D : va_G) (cT : Nat → ClassId) (b k n : Nat) (v : Int32) (f : Nat → Int32) (es : List va_E) (hk : es[k]? = some (.inl (cT 0, n, .inl f))) (hn : n < 2147483648) :
    Met l yJ7_fill_53178 (.code yJ7_fill_53178 cJ7_fill_53178 4 none :: gTb) { frames := 0, cells := 0, slots := 0, locals := 0 } (FP D cT b k v es) (BQ D b (es.set k (.inl (cT 0, n, .inl (fun _ => v))))) 0 0 (fun q => b ≤ q) := by
  refine Met.ofW (cc := cJ7_fill_53178) (maxL := 4) (ret := none) (by decide) rfl ?_
  intro p e s m args below meth c s₁ B hml hv
  obtain ⟨rfl, hB, hK⟩ := hv
  have hx := B.exec
  have hb := B.bytes
  have hr := B.returns
  have hlocks := B.notSynchronized
  have hS : va_S (fun q => b ≤ q) s.heap s.heap [] := va_S.rf
  have hl := lv_entry ([.ref (b + k), .int v]) (n := 4) (Nat.le_of_ble_eq_true rfl)
  rw [lg_entry_eq]
  generalize (lg_sl ([.ref (b + k), .int v]) ++ List.replicate (4 - (lg_sl ([.ref (b + k), .int v])).length) Slot.unset).toArray = ls at hl ⊢
  have hl : lv_has ls 4 [(0, .ref (b + k)), (1, .int v)] := hl
  have loop : ∀ d i (H : Heap) (locs : List Loc) (ls : Array Slot), i + d = n → lv_has ls 4 [(2, .int (nI i)), (3, .int (nI n)), (0, .ref (b + k)), (1, .int v)] → Bw D b (es.set k (.inl (cT 0, n, .inl (fillF v f i)))) H → va_S (fun q => b ≤ q) s.heap H locs →
      W p l e (headSpec (.code yJ7_fill_53178 cJ7_fill_53178 4 none :: gTb) { frames := 0, cells := 0, slots := 0, locals := 0 }).room s m [Value.ref (b + k), .int v].toArray below meth c H locs 0 0 (MQ below (BQ D b (es.set k (.inl (cT 0, n, .inl (fun _ => v))))) [Value.ref (b + k), .int v].toArray s 0 0 (fun q => b ≤ q)) (F0 m 5 ls []) := by
    intro d
    induction d with
    | zero =>
      intro i H locs ls hi hl hB hS
      refine lv_iload_n hx hb d_fill_5 rfl (lv_at hl 0 rfl) ?_
      refine lv_iload_n hx hb d_fill_6 rfl (lv_at hl 1 rfl) ?_
      refine lv_icmp_ge hx hb d_fill_7 (tgt := 20) rfl (fun _ => ?_) (fun h => absurd ((hl_le hn (by omega)).mpr (by omega)) h)
      have hl0 : k < es.length := (List.getElem?_eq_some_iff.mp hk).1
      have hB2 := hB.cong (k := k) (n := n) (f := fillF v f i) (g := fun _ => v) (cA := cT 0) (List.getElem?_set_self hl0) (fun j hj => if_pos (by omega))
      rw [List.set_set] at hB2
      exact W.vret hx hb hr (fun t ht hW => ⟨⟨(), rfl, trivial, by show Bw _ _ _ t.heap; rw [ht]; exact hB2⟩, hS.F ht⟩) hS.2.2 d_fill_20
    | succ d ih =>
      intro i H locs ls hi hl hB hS
      have hl0 : k < es.length := (List.getElem?_eq_some_iff.mp hk).1
      refine lv_iload_n hx hb d_fill_5 rfl (lv_at hl 0 rfl) ?_
      refine lv_iload_n hx hb d_fill_6 rfl (lv_at hl 1 rfl) ?_
      refine lv_icmp_ge hx hb d_fill_7 (tgt := 20) rfl (fun h => absurd ((hl_le hn (by omega)).mp h) (by omega)) (fun _ => ?_)
      refine lv_aload_n hx hb d_fill_10 rfl (lv_at hl 2 rfl) ?_
      refine lv_iload_n hx hb d_fill_11 rfl (lv_at hl 0 rfl) ?_
      refine lv_iload_n hx hb d_fill_12 rfl (lv_at hl 3 rfl) ?_
      refine bw_iast (q0 := k) (t0 := 0) (n := n) (cA := cT 0) (f := fillF v f i) hx hb hK hB hS (List.getElem?_set_self hl0) rfl (by
        rintro (h | h)
        · exact absurd ((zlt_0 (by omega)).mp h) (by omega)
        · rw [hl_cl (by omega)] at h; omega) d_fill_13 (fun H locs hB hS => ?_)
      rw [hl_cl (by omega), fillF_s, List.set_set] at hB
      refine lv_iinc hx hb d_fill_14 hl (k := 0) rfl (v := nI (i + 1)) (zadd_1 i) (by decide) rfl (fun ls hl => ?_)
      refine lv_goto hx hb d_fill_17 (tgt := 5) rfl ?_
      exact ih (i + 1) H locs ls (by omega) hl hB hS
  refine lv_iconst (v := 0) hx hb d_fill_0 (by decide) ?_
  refine lv_istore_n hx hb d_fill_1 rfl hl (by decide) rfl (fun ls hl => ?_)
  have hl : lv_has ls 4 [(2, .int 0), (0, .ref (b + k)), (1, .int v)] := hl
  refine lv_aload_n hx hb d_fill_2 rfl (lv_at hl 1 rfl) ?_
  refine bw_alen (q0 := k) (t0 := 0) (cA := cT 0) (x := (n, .inl f)) (v := nI n) hx hb hK hB hk rfl rfl d_fill_3 ?_
  refine lv_istore_n hx hb d_fill_4 rfl hl (by decide) rfl (fun ls hl => ?_)
  have hl : lv_has ls 4 [(3, .int (nI n)), (2, .int 0), (0, .ref (b + k)), (1, .int v)] := hl
  have hB0 := hB.cong (k := k) (n := n) (f := f) (g := fillF v f 0) (cA := cT 0) hk (fun j hj => (if_neg (by omega)).symm)
  exact loop n 0 _ _ ls (by omega) (lv_sub hl [1, 0, 2, 3] rfl) hB0 hS
section B4
variable {p : Program} {l : Launch} {e : Env} {R : Room} {s : State} {m : MethodId} {args : Array Value} {below : List Frame} {meth : Method} {c : Code} {H H0 : Heap} {locs : List Loc} {cells slots : Nat} {Q : State → Prop}
  {cc : ByteArray} {pc nL : Nat} {ls : Array Slot} {rest : List Value} {D : va_G} {cT : Nat → ClassId} {b : Nat} {es : List va_E} {w0 : Cond} {own : String} {index : Nat}
theorem bw_fill (k n : Nat) {v : Int32} (f : Nat → Int32) (hx : p.tables.exec = Jvm.exec) (hb : c.code = cc) (hml : c.maxLocals = nL) (hown : s.vm.findClass own = some m.cls) (hts1 : ∀ w ∈ w0 :: gTb, w.before args s = true) (hK : va_K D vwCl (tysT cT) s) (hli : Cond.methodLink own index yJ7_fill_53178 ∈ gTb) (hR : 1 ≤ R.frames ∧ 23 ≤ R.locals) (hsz : ls.size = nL) (hroom : (rest.map fun v => v.category).sum ≤ 8) (hcs : cells + 0 ≤ R.cells ∧ slots + 0 ≤ R.slots) (hdg : decode cc pc = .ok (.invokestatic index, 3))
    (hB : Bw D b es H) (hk : es[k]? = some (.inl (cT 0, n, .inl f))) (hn : n < 2147483648) (hS : va_S (fun q => b ≤ q) H0 H locs)
    (kk : ∀ (H1 : Heap) (locs1 : List Loc), Bw D b (es.set k (.inl (cT 0, n, .inl (fun _ => v)))) H1 → va_S (fun q => b ≤ q) H0 H1 locs1 → W p l e R s m args below meth c H1 locs1 (cells + 0) (slots + 0) Q (F0 m (pc + 3) ls rest)) :
    W p l e R s m args below meth c H locs cells slots Q (F0 m pc ls (.int v :: .ref (b + k) :: rest)) := by
  have hts : ∀ w ∈ gTb, w.before args s = true := fun w h => hts1 w (List.mem_cons_of_mem _ h)
  have hp : PreS s H (FP D cT b k v es) [.ref (b + k), .int v] := ⟨FP.blind, fun U hU hW => ⟨rfl, by rw [hU]; exact hB, va_K.moved hW.alike hK⟩⟩
  have hr := va_runS (e := e) (below := below) (meth := meth) (R := R) (locs := locs) (cells := cells) (slots := slots) (As := [.ref (b + k), .int v]) (rest := rest) (g := F0 m pc ls (.int v :: .ref (b + k) :: rest)) (S := ⟨hx, hb, hml, hown, hts1⟩) (k_fill l D cT b k n v f es hk hn) ⟨callB_of (R := R) 2 hts1 (goodC hcd_J7_fill_53178) rfl rfl rfl (hts _ hin_9) (hts _ hli) (by decide +kernel) ⟨hR.1, hR.2⟩, hts _ hst_J7_fill_53178⟩ hp rfl rfl hsz rfl (lv_room hroom) hdg hcs
  exact bw_same hr hS kk
end B4
