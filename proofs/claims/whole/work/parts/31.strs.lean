/-! Texts: String.length and String.charAt of a text of one byte a sign. -/
theorem d_len_0 : decode cJ0_length_8abf5 0 = .ok (.aload_n 0, 1) := by decide +kernel
theorem d_len_1 : decode cJ0_length_8abf5 1 = .ok (.getfield 9, 3) := by decide +kernel
theorem d_len_4 : decode cJ0_length_8abf5 4 = .ok (.arraylength, 1) := by decide +kernel
theorem d_len_5 : decode cJ0_length_8abf5 5 = .ok (.aload_n 0, 1) := by decide +kernel
theorem d_len_6 : decode cJ0_length_8abf5 6 = .ok (.invokevirtual 335, 3) := by decide +kernel
theorem d_len_9 : decode cJ0_length_8abf5 9 = .ok (.ishr, 1) := by decide +kernel
theorem d_len_10 : decode cJ0_length_8abf5 10 = .ok (.ireturn, 1) := by decide +kernel
theorem d_cod_0 : decode cJ0_coder_7d493 0 = .ok (.getstatic 38, 3) := by decide +kernel
theorem d_cod_3 : decode cJ0_coder_7d493 3 = .ok (.ifCond .eq 10, 3) := by decide +kernel
theorem d_cod_6 : decode cJ0_coder_7d493 6 = .ok (.aload_n 0, 1) := by decide +kernel
theorem d_cod_7 : decode cJ0_coder_7d493 7 = .ok (.getfield 15, 3) := by decide +kernel
theorem d_cod_10 : decode cJ0_coder_7d493 10 = .ok (.goto 4, 3) := by decide +kernel
theorem d_cod_14 : decode cJ0_coder_7d493 14 = .ok (.ireturn, 1) := by decide +kernel
theorem d_lat_0 : decode cJ0_isLatin1_aae02 0 = .ok (.getstatic 38, 3) := by decide +kernel
theorem d_lat_3 : decode cJ0_isLatin1_aae02 3 = .ok (.ifCond .eq 14, 3) := by decide +kernel
theorem d_lat_6 : decode cJ0_isLatin1_aae02 6 = .ok (.aload_n 0, 1) := by decide +kernel
theorem d_lat_7 : decode cJ0_isLatin1_aae02 7 = .ok (.getfield 15, 3) := by decide +kernel
theorem d_lat_10 : decode cJ0_isLatin1_aae02 10 = .ok (.ifCond .ne 7, 3) := by decide +kernel
theorem d_lat_13 : decode cJ0_isLatin1_aae02 13 = .ok (.iconst 1, 1) := by decide +kernel
theorem d_lat_14 : decode cJ0_isLatin1_aae02 14 = .ok (.goto 4, 3) := by decide +kernel
theorem d_lat_18 : decode cJ0_isLatin1_aae02 18 = .ok (.ireturn, 1) := by decide +kernel
theorem d_cha_0 : decode cJ0_charAt_5068e 0 = .ok (.aload_n 0, 1) := by decide +kernel
theorem d_cha_1 : decode cJ0_charAt_5068e 1 = .ok (.invokevirtual 492, 3) := by decide +kernel
theorem d_cha_4 : decode cJ0_charAt_5068e 4 = .ok (.ifCond .eq 12, 3) := by decide +kernel
theorem d_cha_7 : decode cJ0_charAt_5068e 7 = .ok (.aload_n 0, 1) := by decide +kernel
theorem d_cha_8 : decode cJ0_charAt_5068e 8 = .ok (.getfield 9, 3) := by decide +kernel
theorem d_cha_11 : decode cJ0_charAt_5068e 11 = .ok (.iload_n 1, 1) := by decide +kernel
theorem d_cha_12 : decode cJ0_charAt_5068e 12 = .ok (.invokestatic 495, 3) := by decide +kernel
theorem d_cha_15 : decode cJ0_charAt_5068e 15 = .ok (.ireturn, 1) := by decide +kernel
theorem d_la_0 : decode cJ1_charAt_3b067 0 = .ok (.iload_n 1, 1) := by decide +kernel
theorem d_la_1 : decode cJ1_charAt_3b067 1 = .ok (.aload_n 0, 1) := by decide +kernel
theorem d_la_2 : decode cJ1_charAt_3b067 2 = .ok (.arraylength, 1) := by decide +kernel
theorem d_la_3 : decode cJ1_charAt_3b067 3 = .ok (.invokestatic 9, 3) := by decide +kernel
theorem d_la_6 : decode cJ1_charAt_3b067 6 = .ok (.aload_n 0, 1) := by decide +kernel
theorem d_la_7 : decode cJ1_charAt_3b067 7 = .ok (.iload_n 1, 1) := by decide +kernel
theorem d_la_8 : decode cJ1_charAt_3b067 8 = .ok (.baload, 1) := by decide +kernel
theorem d_la_9 : decode cJ1_charAt_3b067 9 = .ok (.sipush 255, 3) := by decide +kernel
theorem d_la_12 : decode cJ1_charAt_3b067 12 = .ok (.iand, 1) := by decide +kernel
theorem d_la_13 : decode cJ1_charAt_3b067 13 = .ok (.i2c, 1) := by decide +kernel
theorem d_la_14 : decode cJ1_charAt_3b067 14 = .ok (.ireturn, 1) := by decide +kernel
theorem d_ci_0 : decode cJ0_checkIndex_df160 0 = .ok (.iload_n 0, 1) := by decide +kernel
theorem d_ci_1 : decode cJ0_checkIndex_df160 1 = .ok (.iload_n 1, 1) := by decide +kernel
theorem d_ci_2 : decode cJ0_checkIndex_df160 2 = .ok (.getstatic 1053, 3) := by decide +kernel
theorem d_ci_5 : decode cJ0_checkIndex_df160 5 = .ok (.invokestatic 1059, 3) := by decide +kernel
theorem d_ci_8 : decode cJ0_checkIndex_df160 8 = .ok (.pop, 1) := by decide +kernel
theorem d_ci_9 : decode cJ0_checkIndex_df160 9 = .ok (.return_, 1) := by decide +kernel
theorem d_pr_0 : decode cJ3_checkIndex_8e157 0 = .ok (.iload_n 0, 1) := by decide +kernel
theorem d_pr_1 : decode cJ3_checkIndex_8e157 1 = .ok (.ifCond .lt 8, 3) := by decide +kernel
theorem d_pr_4 : decode cJ3_checkIndex_8e157 4 = .ok (.iload_n 0, 1) := by decide +kernel
theorem d_pr_5 : decode cJ3_checkIndex_8e157 5 = .ok (.iload_n 1, 1) := by decide +kernel
theorem d_pr_6 : decode cJ3_checkIndex_8e157 6 = .ok (.if_icmp .lt 10, 3) := by decide +kernel
theorem d_pr_16 : decode cJ3_checkIndex_8e157 16 = .ok (.iload_n 0, 1) := by decide +kernel
theorem d_pr_17 : decode cJ3_checkIndex_8e157 17 = .ok (.ireturn, 1) := by decide +kernel
/-! words -/
theorem ws_iS : Cond.initialized RJ0 ∈ gTb := gmem 135 (by decide +kernel) (by decide +kernel)
theorem ws_iL : Cond.initialized RJ1 ∈ gTb := gmem 136 (by decide +kernel) (by decide +kernel)
theorem ws_iP : Cond.initialized RJ3 ∈ gTb := gmem 137 (by decide +kernel) (by decide +kernel)
theorem ws_len_i : Cond.instanceMethod yJ0_length_8abf5 ∈ gTb := gmem 625 (by decide +kernel) (by decide +kernel)
theorem ws_len_s : Cond.selects RJ0 yJ0_length_8abf5 yJ0_length_8abf5 ∈ gTb := gmem 626 (by decide +kernel) (by decide +kernel)
theorem ws_len_c : Cond.code yJ0_length_8abf5 cJ0_length_8abf5 1 (some .int) ∈ gTb := gmem 627 (by decide +kernel) (by decide +kernel)
theorem ws_cod_l : Cond.methodLink RJ0 335 yJ0_coder_7d493 ∈ gTb := gmem 628 (by decide +kernel) (by decide +kernel)
theorem ws_cod_i : Cond.instanceMethod yJ0_coder_7d493 ∈ gTb := gmem 629 (by decide +kernel) (by decide +kernel)
theorem ws_cod_s : Cond.selects RJ0 yJ0_coder_7d493 yJ0_coder_7d493 ∈ gTb := gmem 630 (by decide +kernel) (by decide +kernel)
theorem ws_cod_c : Cond.code yJ0_coder_7d493 cJ0_coder_7d493 1 (some .byte) ∈ gTb := gmem 631 (by decide +kernel) (by decide +kernel)
theorem ws_cs : Cond.fieldLink RJ0 38 RJ0 "COMPACT_STRINGS" "Z" ∈ gTb := gmem 632 (by decide +kernel) (by decide +kernel)
theorem ws_cha_i : Cond.instanceMethod yJ0_charAt_5068e ∈ gTb := gmem 635 (by decide +kernel) (by decide +kernel)
theorem ws_cha_s : Cond.selects RJ0 yJ0_charAt_5068e yJ0_charAt_5068e ∈ gTb := gmem 636 (by decide +kernel) (by decide +kernel)
theorem ws_cha_c : Cond.code yJ0_charAt_5068e cJ0_charAt_5068e 2 (some .char) ∈ gTb := gmem 637 (by decide +kernel) (by decide +kernel)
theorem ws_lat_l : Cond.methodLink RJ0 492 yJ0_isLatin1_aae02 ∈ gTb := gmem 638 (by decide +kernel) (by decide +kernel)
theorem ws_lat_i : Cond.instanceMethod yJ0_isLatin1_aae02 ∈ gTb := gmem 639 (by decide +kernel) (by decide +kernel)
theorem ws_lat_s : Cond.selects RJ0 yJ0_isLatin1_aae02 yJ0_isLatin1_aae02 ∈ gTb := gmem 640 (by decide +kernel) (by decide +kernel)
theorem ws_lat_c : Cond.code yJ0_isLatin1_aae02 cJ0_isLatin1_aae02 1 (some .boolean) ∈ gTb := gmem 641 (by decide +kernel) (by decide +kernel)
theorem ws_la_l : Cond.methodLink RJ0 495 yJ1_charAt_3b067 ∈ gTb := gmem 642 (by decide +kernel) (by decide +kernel)
theorem ws_la_s : Cond.static yJ1_charAt_3b067 ∈ gTb := gmem 643 (by decide +kernel) (by decide +kernel)
theorem ws_la_c : Cond.code yJ1_charAt_3b067 cJ1_charAt_3b067 2 (some .char) ∈ gTb := gmem 644 (by decide +kernel) (by decide +kernel)
theorem ws_ci_l : Cond.methodLink RJ1 9 yJ0_checkIndex_df160 ∈ gTb := gmem 645 (by decide +kernel) (by decide +kernel)
theorem ws_ci_s : Cond.static yJ0_checkIndex_df160 ∈ gTb := gmem 646 (by decide +kernel) (by decide +kernel)
theorem ws_ci_c : Cond.code yJ0_checkIndex_df160 cJ0_checkIndex_df160 2 none ∈ gTb := gmem 647 (by decide +kernel) (by decide +kernel)
theorem ws_fm : Cond.fieldLink RJ0 1053 "jdk/internal/util/Preconditions" "SIOOBE_FORMATTER" "Ljava/util/function/BiFunction;" ∈ gTb := gmem 648 (by decide +kernel) (by decide +kernel)
theorem ws_pr_l : Cond.methodLink RJ0 1059 yJ3_checkIndex_8e157 ∈ gTb := gmem 650 (by decide +kernel) (by decide +kernel)
theorem ws_pr_s : Cond.static yJ3_checkIndex_8e157 ∈ gTb := gmem 651 (by decide +kernel) (by decide +kernel)
theorem ws_pr_c : Cond.code yJ3_checkIndex_8e157 cJ3_checkIndex_8e157 3 (some .int) ∈ gTb := gmem 652 (by decide +kernel) (by decide +kernel)
theorem ws_val : Cond.fieldLink RJ0 9 RJ0 "value" "[B" ∈ gTb := gmem 1677 (by decide +kernel) (by decide +kernel)
theorem ws_cdr : Cond.fieldLink RJ0 15 RJ0 "coder" "B" ∈ gTb := gmem 1678 (by decide +kernel) (by decide +kernel)
theorem goodS {w0 w1 : Cond} (h : w1 ∈ gTb) : GoodIn (w0 :: gTb) (w1 :: gTb) := by
  intro w hw
  have hg : w ∈ gTb := by
    rcases List.mem_cons.mp hw with rfl | q
    · exact h
    · exact q
  exact ⟨List.mem_cons_of_mem _ hg, good_of_word (List.mem_filter.mp hg).2⟩
theorem goodT {w0 w : Cond} (h : w ∈ gTb) : w ∈ w0 :: gTb ∧ ((w.onTables && w.keeps) = true ∨ ∃ ty, w = .arrayClass ty) := ⟨List.mem_cons_of_mem _ h, good_of_word (List.mem_filter.mp h).2⟩
/-- a text as it lies in the heap -/
def sA (A : Nat → Prop) (a q n : Nat) (f : Nat → Int32) (U : State) (H : Heap) : Prop := va_O "java/lang/String" a A U H ∧ va_OF "java/lang/String" "coder" "B" (.int 0) a A U H ∧ va_OF "java/lang/String" "value" "[B" (.ref q) a A U H ∧ va_T .byte q n (fun j => .int (f j)) A U H ∧ strF A U H
abbrev noA : Nat → Prop := fun _ => False
theorem sA.at {A : Nat → Prop} {a q n : Nat} {f : Nat → Int32} {s U : State} {H : Heap} {locs : List Loc} (h : sA A a q n f s s.heap) (hS : va_S A s.heap H locs) (hU : U.heap = H) (hW : s.WarmedH U.vm) : sA noA a q n f U U.heap := by
  obtain ⟨h1, h2, h3, h4, h5, h6⟩ := h
  rw [hU]
  exact ⟨va_O.moved hW.alike ((h1.kept hS.2.1).narrow fun _ z => z.elim), va_OF.moved hW.alike ((h2.kept hS.2.1).narrow fun _ z => z.elim), va_OF.moved hW.alike ((h3.kept hS.2.1).narrow fun _ z => z.elim), va_T.moved hW.alike ((h4.kept hS.2.1).narrow fun _ z => z.elim), va_Z.moved hW.alike ((h5.kept hS.2.1).narrow fun _ z => z.elim), va_Zq.moved hW.alike ((h6.kept hS.2.1).narrow fun _ z => z.elim)⟩
def SP (as : List Value) (a q n : Nat) (f : Nat → Int32) : Array Value → State → Prop := va_Pc as (fun U => sA noA a q n f U U.heap)
theorem SP.blind {as : List Value} {a q n : Nat} {f : Nat → Int32} : FrameBlind (SP as a q n f) := by
  intro x U g mk h
  obtain ⟨h1, h2⟩ := h
  exact ⟨h1, h2.at (s := U) (U := U.calling g mk x) (locs := []) va_S.rf rfl (State.WarmedH.refl U)⟩
def SQ (v : Option Value) : Array Value → State → Outcome → State → Prop := fun _ st o t => o = .returned v ∧ True ∧ va_F noA st t
section T1
variable {p : Program} {l : Launch} {e : Env} {R : Room} {s : State} {m : MethodId} {args : Array Value} {below : List Frame} {meth : Method} {c : Code} {H H0 : Heap} {locs : List Loc} {cells slots : Nat} {Q : State → Prop}
  {cc : ByteArray} {pc nL : Nat} {lr : Array Slot} {rest : List Value} {A : Nat → Prop} {w0 : Cond} {own : String} {index : Nat} {y : MethodName} {bytes : ByteArray} {maxL fr lw k : Nat} {ret : Option FieldType} {v : Option Value} {a q n : Nat} {f : Nat → Int32} {As : List Value}
theorem sq_call {ar : Array Value} {st0 : List Value} (hr : va_Run p l e R s m args below meth c H locs cells slots 0 0 (F0 m pc lr st0) rest (SQ v ar) noA) (hS : va_S A s.heap H locs)
    (kk : ∀ (H1 : Heap) (locs1 : List Loc), H.size ≤ H1.size → (∀ x : Nat, x < H.size → H1[x]? = H[x]?) → va_S A s.heap H1 locs1 → W p l e R s m args below meth c H1 locs1 (cells + 0) (slots + 0) Q (F0 m (pc + 3) lr (v.toList ++ rest))) : W p l e R s m args below meth c H locs cells slots Q (F0 m pc lr st0) :=
  callRet (Pw := fun _ => True) hr hS (fun x _ h => h.elim) (fun x h => h.elim) (fun H1 locs1 _ h1 h2 h3 => kk H1 locs1 h1 (fun x hx => h2 x hx (fun z => z)) h3)
theorem s_virt (hx : p.tables.exec = Jvm.exec) (hb : c.code = cc) (hml : c.maxLocals = nL) (hown : s.vm.findClass own = some m.cls) (hts1 : ∀ w ∈ w0 :: gTb, w.before args s = true) (hA : sA A a q n f s s.heap) (hM : Met l y (.code y bytes maxL ret :: gTb) { frames := fr, cells := 0, slots := 0, locals := lw } (SP (.ref a :: As) a q n f) (SQ v) 0 0 noA) (hcd : Cond.code y bytes maxL ret ∈ gTb) (hli : Cond.methodLink own index y ∈ gTb) (him : Cond.instanceMethod y ∈ gTb) (hse : Cond.selects RJ0 y y ∈ gTb) (hcls : y.cls = RJ0)
    (hd : (parseMethodDescriptor y.desc).map (fun d => d.parameters.length) = some As.length) (hR : fr + 1 ≤ R.frames ∧ 8 + (maxL + 11) + lw ≤ R.locals) (hsz : lr.size = nL) (hroom : (rest.map fun v => v.category).sum ≤ 8) (hcs : cells + 0 ≤ R.cells ∧ slots + 0 ≤ R.slots) (hdg : decode cc pc = .ok (.invokevirtual index, 3)) (hS : va_S A s.heap H locs)
    (kk : ∀ (H1 : Heap) (locs1 : List Loc), H.size ≤ H1.size → (∀ x : Nat, x < H.size → H1[x]? = H[x]?) → va_S A s.heap H1 locs1 → W p l e R s m args below meth c H1 locs1 (cells + 0) (slots + 0) Q (F0 m (pc + 3) lr (v.toList ++ rest))) : W p l e R s m args below meth c H locs cells slots Q (F0 m pc lr (As.reverse ++ .ref a :: rest)) := by
  have hts : ∀ w ∈ gTb, w.before args s = true := fun w h => hts1 w (List.mem_cons_of_mem _ h)
  obtain ⟨cell, r1, r2, r3, -⟩ := hA.1.kept hS.2.1
  have hp : PreV s H RJ0 a (SP (.ref a :: As) a q n f) As := ⟨SP.blind, ⟨cell, r1, r2, r3⟩, fun U hU hW => ⟨rfl, hA.at hS hU hW⟩⟩
  have cw := cwV (R := R) (mc := 0) (ms := 0) (rm := { frames := fr, cells := 0, slots := 0, locals := lw }) (own := own) (index := index) (C := RJ0) (y := y) As.length hts1 (ws := Cond.code y bytes maxL ret :: gTb) (ws' := gTb)
    (by
      intro w hw'
      rcases List.mem_append.mp hw' with z | z
      · simp only [List.mem_cons, List.not_mem_nil, or_false] at z
        rcases z with rfl | rfl | rfl | rfl
        · exact goodT hli
        · exact goodT him
        · exact goodT hse
        · exact goodT ws_iS
      · exact goodS hcd w z) rfl rfl rfl ⟨hcls, by rw [hcls]; decide, by rw [hcls]; decide, hd⟩ hR
  have hr := va_runV (e := e) (below := below) (meth := meth) (R := R) (locs := locs) (cells := cells) (slots := slots) (rest := rest) (g := F0 m pc lr (As.reverse ++ .ref a :: rest)) (S := ⟨hx, hb, hml, hown, hts1⟩) hM cw hp rfl rfl hsz rfl (lv_room hroom) hdg hcs
  exact sq_call hr hS kk
theorem s_stat {Pc : Array Value → State → Prop} (hx : p.tables.exec = Jvm.exec) (hb : c.code = cc) (hml : c.maxLocals = nL) (hown : s.vm.findClass own = some m.cls) (hts1 : ∀ w ∈ w0 :: gTb, w.before args s = true) (hM : Met l y (.code y bytes maxL ret :: gTb) { frames := fr, cells := 0, slots := 0, locals := lw } Pc (SQ v) 0 0 noA) (hp : PreS s H Pc As) (hcd : Cond.code y bytes maxL ret ∈ gTb) (hli : Cond.methodLink own index y ∈ gTb) (hst : Cond.static y ∈ gTb) (hini : Cond.initialized y.cls ∈ gTb)
    (hd : y.cls ≠ "java/lang/invoke/MethodHandle" ∧ y.cls ≠ "java/lang/invoke/VarHandle" ∧ (parseMethodDescriptor y.desc).map (fun d => d.parameters.length) = some As.length) (hR : fr + 1 ≤ R.frames ∧ 8 + (maxL + 11) + lw ≤ R.locals) (hsz : lr.size = nL) (hroom : (rest.map fun v => v.category).sum ≤ 8) (hcs : cells + 0 ≤ R.cells ∧ slots + 0 ≤ R.slots) (hdg : decode cc pc = .ok (.invokestatic index, 3)) (hS : va_S A s.heap H locs)
    (kk : ∀ (H1 : Heap) (locs1 : List Loc), H.size ≤ H1.size → (∀ x : Nat, x < H.size → H1[x]? = H[x]?) → va_S A s.heap H1 locs1 → W p l e R s m args below meth c H1 locs1 (cells + 0) (slots + 0) Q (F0 m (pc + 3) lr (v.toList ++ rest))) : W p l e R s m args below meth c H locs cells slots Q (F0 m pc lr (As.reverse ++ rest)) := by
  have hts : ∀ w ∈ gTb, w.before args s = true := fun w h => hts1 w (List.mem_cons_of_mem _ h)
  have hr := va_runS (e := e) (below := below) (meth := meth) (R := R) (locs := locs) (cells := cells) (slots := slots) (As := As) (rest := rest) (g := F0 m pc lr (As.reverse ++ rest)) (S := ⟨hx, hb, hml, hown, hts1⟩) hM ⟨callB_of (R := R) As.length hts1 (goodS hcd) rfl rfl rfl (hts _ hini) (hts _ hli) hd hR, hts _ hst⟩ hp rfl rfl hsz rfl (lv_room hroom) hdg hcs
  exact sq_call hr hS kk
end T1
theorem pd_pr : yJ3_checkIndex_8e157.cls ≠ "java/lang/invoke/MethodHandle" ∧ yJ3_checkIndex_8e157.cls ≠ "java/lang/invoke/VarHandle" ∧ (parseMethodDescriptor yJ3_checkIndex_8e157.desc).map (fun d => d.parameters.length) = some 3 := by decide +kernel
theorem pd_ci : yJ0_checkIndex_df160.cls ≠ "java/lang/invoke/MethodHandle" ∧ yJ0_checkIndex_df160.cls ≠ "java/lang/invoke/VarHandle" ∧ (parseMethodDescriptor yJ0_checkIndex_df160.desc).map (fun d => d.parameters.length) = some 2 := by decide +kernel
theorem pd_la : yJ1_charAt_3b067.cls ≠ "java/lang/invoke/MethodHandle" ∧ yJ1_charAt_3b067.cls ≠ "java/lang/invoke/VarHandle" ∧ (parseMethodDescriptor yJ1_charAt_3b067.desc).map (fun d => d.parameters.length) = some 2 := by decide +kernel
theorem pd_cha : (parseMethodDescriptor yJ0_charAt_5068e.desc).map (fun d => d.parameters.length) = some 1 := by decide +kernel
theorem shr0 (x : Int32) : x >>> ((0 : Int32) &&& 31) = x := by
  have h : ((0 : Int32) &&& 31) = 0 := rfl
  rw [h]
  first | exact Int32.shiftRight_zero | simp
set_option maxHeartbeats 2000000 in
theorem k_coder (l : Launch) (a q n : Nat) (f : Nat → Int32) : Met l yJ0_coder_7d493 (.code yJ0_coder_7d493 cJ0_coder_7d493 1 (some .byte) :: gTb) { frames := 0, cells := 0, slots := 0, locals := 0 } (SP [.ref a] a q n f) (SQ (some (.int 0))) 0 0 noA := by
  refine Met.ofW (cc := cJ0_coder_7d493) (maxL := 1) (ret := some .byte) (by decide) rfl ?_
  intro p e s m args below meth c s₁ B hml hv
  obtain ⟨rfl, hO, hC, hV, hT, hZ, hQ⟩ := hv
  have hx := B.exec
  have hb := B.bytes
  have hr := B.returns
  have hts1 := atoms_spec (ws := Cond.code yJ0_coder_7d493 cJ0_coder_7d493 1 (some .byte) :: gTb) B.pre
  have hts : ∀ w ∈ gTb, w.before [Value.ref a].toArray s = true := fun w h => hts1 w (List.mem_cons_of_mem _ h)
  have hown : s.vm.findClass RJ0 = some m.cls := findClass_of_methodNamed B.named
  have hlocks := B.notSynchronized
  have hS : va_S noA s.heap s.heap [] := va_S.rf
  have hl := lv_entry ([.ref a]) (n := 1) (Nat.le_of_ble_eq_true rfl)
  rw [lg_entry_eq]
  generalize (lg_sl ([.ref a]) ++ List.replicate (1 - (lg_sl ([.ref a])).length) Slot.unset).toArray = ls at hl ⊢
  have hl : lv_has ls 1 [(0, .ref a)] := hl
  refine va_gets hx hb hZ hS hown (hts _ ws_cs) (fun x h => h) d_cod_0 ?_
  refine lv_if_eq hx hb d_cod_3 (tgt := 13) rfl (fun h => absurd h (by decide)) (fun _ => ?_)
  refine lv_aload_n hx hb d_cod_6 rfl (lv_at hl 0 rfl) ?_
  refine vk_getf hx hb hC hS hown (hts _ ws_cdr) (fun x h => h) d_cod_7 ?_
  refine lv_goto hx hb d_cod_10 (tgt := 14) rfl ?_
  exact W.zret (v := 0) (ty := .byte) hx hb hr rfl (fun t ht hW => ⟨rfl, trivial, hS.F ht⟩) hS.2.2 d_cod_14
set_option maxHeartbeats 2000000 in
theorem k_latin (l : Launch) (a q n : Nat) (f : Nat → Int32) : Met l yJ0_isLatin1_aae02 (.code yJ0_isLatin1_aae02 cJ0_isLatin1_aae02 1 (some .boolean) :: gTb) { frames := 0, cells := 0, slots := 0, locals := 0 } (SP [.ref a] a q n f) (SQ (some (.int 1))) 0 0 noA := by
  refine Met.ofW (cc := cJ0_isLatin1_aae02) (maxL := 1) (ret := some .boolean) (by decide) rfl ?_
  intro p e s m args below meth c s₁ B hml hv
  obtain ⟨rfl, hO, hC, hV, hT, hZ, hQ⟩ := hv
  have hx := B.exec
  have hb := B.bytes
  have hr := B.returns
  have hts1 := atoms_spec (ws := Cond.code yJ0_isLatin1_aae02 cJ0_isLatin1_aae02 1 (some .boolean) :: gTb) B.pre
  have hts : ∀ w ∈ gTb, w.before [Value.ref a].toArray s = true := fun w h => hts1 w (List.mem_cons_of_mem _ h)
  have hown : s.vm.findClass RJ0 = some m.cls := findClass_of_methodNamed B.named
  have hlocks := B.notSynchronized
  have hS : va_S noA s.heap s.heap [] := va_S.rf
  have hl := lv_entry ([.ref a]) (n := 1) (Nat.le_of_ble_eq_true rfl)
  rw [lg_entry_eq]
  generalize (lg_sl ([.ref a]) ++ List.replicate (1 - (lg_sl ([.ref a])).length) Slot.unset).toArray = ls at hl ⊢
  have hl : lv_has ls 1 [(0, .ref a)] := hl
  refine va_gets hx hb hZ hS hown (hts _ ws_cs) (fun x h => h) d_lat_0 ?_
  refine lv_if_eq hx hb d_lat_3 (tgt := 17) rfl (fun h => absurd h (by decide)) (fun _ => ?_)
  refine lv_aload_n hx hb d_lat_6 rfl (lv_at hl 0 rfl) ?_
  refine vk_getf hx hb hC hS hown (hts _ ws_cdr) (fun x h => h) d_lat_7 ?_
  refine lv_if_ne hx hb d_lat_10 (tgt := 17) rfl (fun h => absurd rfl h) (fun _ => ?_)
  refine lv_iconst (v := 1) hx hb d_lat_13 (by decide) ?_
  refine lv_goto hx hb d_lat_14 (tgt := 18) rfl ?_
  exact W.zret (v := 1) (ty := .boolean) hx hb hr rfl (fun t ht hW => ⟨rfl, trivial, hS.F ht⟩) hS.2.2 d_lat_18
set_option maxHeartbeats 2000000 in
theorem k_length (l : Launch) (a q n : Nat) (f : Nat → Int32) : Met l yJ0_length_8abf5 (.code yJ0_length_8abf5 cJ0_length_8abf5 1 (some .int) :: gTb) { frames := 1, cells := 0, slots := 0, locals := 20 } (SP [.ref a] a q n f) (SQ (some (.int (Int32.ofNat n)))) 0 0 noA := by
  refine Met.ofW (cc := cJ0_length_8abf5) (maxL := 1) (ret := some .int) (by decide) rfl ?_
  intro p e s m args below meth c s₁ B hml hv
  obtain ⟨rfl, hA⟩ := hv
  have hx := B.exec
  have hb := B.bytes
  have hr := B.returns
  have hts1 := atoms_spec (ws := Cond.code yJ0_length_8abf5 cJ0_length_8abf5 1 (some .int) :: gTb) B.pre
  have hts : ∀ w ∈ gTb, w.before [Value.ref a].toArray s = true := fun w h => hts1 w (List.mem_cons_of_mem _ h)
  have hown : s.vm.findClass RJ0 = some m.cls := findClass_of_methodNamed B.named
  have hlocks := B.notSynchronized
  have hS : va_S noA s.heap s.heap [] := va_S.rf
  have hl := lv_entry ([.ref a]) (n := 1) (Nat.le_of_ble_eq_true rfl)
  rw [lg_entry_eq]
  generalize (lg_sl ([.ref a]) ++ List.replicate (1 - (lg_sl ([.ref a])).length) Slot.unset).toArray = ls at hl ⊢
  have hl : lv_has ls 1 [(0, .ref a)] := hl
  refine lv_aload_n hx hb d_len_0 rfl (lv_at hl 0 rfl) ?_
  refine vk_getf hx hb hA.2.2.1 hS hown (hts _ ws_val) (fun x h => h) d_len_1 ?_
  refine va_tlen hx hb hA.2.2.2.1 hS (v := Int32.ofNat n) rfl d_len_4 ?_
  refine lv_aload_n hx hb d_len_5 rfl (lv_at hl 0 rfl) ?_
  refine s_virt (As := []) (rest := [.int (Int32.ofNat n)]) (nL := 1) hx hb hml hown hts1 hA (k_coder l a q n f) ws_cod_c ws_cod_l ws_cod_i ws_cod_s rfl (by decide +kernel) ⟨Nat.le_of_ble_eq_true rfl, Nat.le_of_ble_eq_true rfl⟩ hl.1 (Nat.le_of_ble_eq_true rfl) ⟨Nat.le_of_ble_eq_true rfl, Nat.le_of_ble_eq_true rfl⟩ d_len_6 hS (fun H1 locs1 _ _ hS => ?_)
  refine W.eq (g2 := F0 m 9 ls [.int 0, .int (Int32.ofNat n)]) rfl ?_
  refine lv_ishr hx hb d_len_9 ?_
  rw [shr0]
  exact W.iret (v := Int32.ofNat n) hx hb hr (fun t ht hW => ⟨rfl, trivial, hS.F ht⟩) hS.2.2 d_len_10
set_option maxHeartbeats 2000000 in
theorem k_pre (l : Launch) (j nn : Int32) (v3 : Value) (h3 : v3 = .null ∨ ∃ t, v3 = .ref t) (hj0 : ¬ j < 0) (hj1 : j < nn) : Met l yJ3_checkIndex_8e157 (.code yJ3_checkIndex_8e157 cJ3_checkIndex_8e157 3 (some .int) :: gTb) { frames := 0, cells := 0, slots := 0, locals := 0 } (va_Pc [.int j, .int nn, v3] (fun _ => True)) (SQ (some (.int j))) 0 0 noA := by
  rcases h3 with rfl | ⟨t3, rfl⟩
  all_goals
    refine Met.ofW (cc := cJ3_checkIndex_8e157) (maxL := 3) (ret := some .int) (by decide) rfl ?_
    intro p e s m args below meth c s₁ B hml hv
    obtain ⟨rfl, -⟩ := hv
    have hx := B.exec
    have hb := B.bytes
    have hr := B.returns
    have hlocks := B.notSynchronized
    have hS : va_S noA s.heap s.heap [] := va_S.rf
  · have hl := lv_entry ([.int j, .int nn, .null]) (n := 3) (Nat.le_of_ble_eq_true rfl)
    rw [lg_entry_eq]
    generalize (lg_sl ([.int j, .int nn, .null]) ++ List.replicate (3 - (lg_sl ([.int j, .int nn, .null])).length) Slot.unset).toArray = ls at hl ⊢
    have hl : lv_has ls 3 [(0, .int j), (1, .int nn), (2, .null)] := hl
    refine lv_iload_n hx hb d_pr_0 rfl (lv_at hl 0 rfl) ?_
    refine lv_if_lt hx hb d_pr_1 (tgt := 9) rfl (fun h => absurd h hj0) (fun _ => ?_)
    refine lv_iload_n hx hb d_pr_4 rfl (lv_at hl 0 rfl) ?_
    refine lv_iload_n hx hb d_pr_5 rfl (lv_at hl 1 rfl) ?_
    refine lv_icmp_lt hx hb d_pr_6 (tgt := 16) rfl (fun _ => ?_) (fun h => absurd hj1 h)
    refine lv_iload_n hx hb d_pr_16 rfl (lv_at hl 0 rfl) ?_
    exact W.iret (v := j) hx hb hr (fun t ht hW => ⟨rfl, trivial, hS.F ht⟩) hS.2.2 d_pr_17
  · have hl := lv_entry ([.int j, .int nn, .ref t3]) (n := 3) (Nat.le_of_ble_eq_true rfl)
    rw [lg_entry_eq]
    generalize (lg_sl ([.int j, .int nn, .ref t3]) ++ List.replicate (3 - (lg_sl ([.int j, .int nn, .ref t3])).length) Slot.unset).toArray = ls at hl ⊢
    have hl : lv_has ls 3 [(0, .int j), (1, .int nn), (2, .ref t3)] := hl
    refine lv_iload_n hx hb d_pr_0 rfl (lv_at hl 0 rfl) ?_
    refine lv_if_lt hx hb d_pr_1 (tgt := 9) rfl (fun h => absurd h hj0) (fun _ => ?_)
    refine lv_iload_n hx hb d_pr_4 rfl (lv_at hl 0 rfl) ?_
    refine lv_iload_n hx hb d_pr_5 rfl (lv_at hl 1 rfl) ?_
    refine lv_icmp_lt hx hb d_pr_6 (tgt := 16) rfl (fun _ => ?_) (fun h => absurd hj1 h)
    refine lv_iload_n hx hb d_pr_16 rfl (lv_at hl 0 rfl) ?_
    exact W.iret (v := j) hx hb hr (fun t ht hW => ⟨rfl, trivial, hS.F ht⟩) hS.2.2 d_pr_17
theorem pcT_blind {as : List Value} : FrameBlind (va_Pc as (fun _ => True)) := fun _ _ _ _ h => h
set_option maxHeartbeats 2000000 in
theorem k_chk (l : Launch) (j nn : Int32) (hj0 : ¬ j < 0) (hj1 : j < nn) : Met l yJ0_checkIndex_df160 (.code yJ0_checkIndex_df160 cJ0_checkIndex_df160 2 none :: gTb) { frames := 1, cells := 0, slots := 0, locals := 22 } (va_Pc [.int j, .int nn] (fun U => va_Zq "jdk/internal/util/Preconditions" "SIOOBE_FORMATTER" "Ljava/util/function/BiFunction;" noA U U.heap)) (SQ none) 0 0 noA := by
  refine Met.ofW (cc := cJ0_checkIndex_df160) (maxL := 2) (ret := none) (by decide) rfl ?_
  intro p e s m args below meth c s₁ B hml hv
  obtain ⟨rfl, hQ⟩ := hv
  have hx := B.exec
  have hb := B.bytes
  have hr := B.returns
  have hts1 := atoms_spec (ws := Cond.code yJ0_checkIndex_df160 cJ0_checkIndex_df160 2 none :: gTb) B.pre
  have hts : ∀ w ∈ gTb, w.before [Value.int j, .int nn].toArray s = true := fun w h => hts1 w (List.mem_cons_of_mem _ h)
  have hown : s.vm.findClass RJ0 = some m.cls := findClass_of_methodNamed B.named
  have hlocks := B.notSynchronized
  have hS : va_S noA s.heap s.heap [] := va_S.rf
  have hl := lv_entry ([.int j, .int nn]) (n := 2) (Nat.le_of_ble_eq_true rfl)
  rw [lg_entry_eq]
  generalize (lg_sl ([.int j, .int nn]) ++ List.replicate (2 - (lg_sl ([.int j, .int nn])).length) Slot.unset).toArray = ls at hl ⊢
  have hl : lv_has ls 2 [(0, .int j), (1, .int nn)] := hl
  refine lv_iload_n hx hb d_ci_0 rfl (lv_at hl 0 rfl) ?_
  refine lv_iload_n hx hb d_ci_1 rfl (lv_at hl 1 rfl) ?_
  have key : ∀ v3 : Value, (v3 = .null ∨ ∃ t, v3 = .ref t) → W p l e (headSpec (Cond.code yJ0_checkIndex_df160 cJ0_checkIndex_df160 2 none :: gTb) { frames := 1, cells := 0, slots := 0, locals := 22 }).room s m [Value.int j, .int nn].toArray below meth c s.heap [] 0 0 (MQ below (SQ none) [Value.int j, .int nn].toArray s 0 0 noA) (F0 m 5 ls [v3, .int nn, .int j]) := by
    intro v3 h3
    refine s_stat (As := [.int j, .int nn, v3]) (rest := []) (nL := 2) hx hb hml hown hts1 (k_pre l j nn v3 h3 hj0 hj1) ⟨pcT_blind, fun U hU hW => ⟨rfl, trivial⟩⟩ ws_pr_c ws_pr_l ws_pr_s ws_iP pd_pr ⟨Nat.le_of_ble_eq_true rfl, Nat.le_of_ble_eq_true rfl⟩ hl.1 (Nat.le_of_ble_eq_true rfl) ⟨Nat.le_of_ble_eq_true rfl, Nat.le_of_ble_eq_true rfl⟩ d_ci_5 hS (fun H1 locs1 _ _ hS => ?_)
    refine W.eq (g2 := F0 m 8 ls [.int j]) rfl ?_
    refine lv_pop hx hb d_ci_8 rfl ?_
    exact W.vret hx hb hr (fun t ht hW => ⟨rfl, trivial, hS.F ht⟩) hS.2.2 d_ci_9
  rcases hQ with hQ | ⟨t3, hQ⟩
  · refine va_gets hx hb hQ hS hown (hts _ ws_fm) (fun x h => h) d_ci_2 ?_
    exact key .null (Or.inl rfl)
  · refine va_gets hx hb hQ hS hown (hts _ ws_fm) (fun x h => h) d_ci_2 ?_
    exact key (.ref t3) (Or.inr ⟨t3, rfl⟩)
set_option maxHeartbeats 2000000 in
theorem k_la (l : Launch) (a q n : Nat) (f : Nat → Int32) (j v : Int32) (hj0 : ¬ j < 0) (hj1 : j < Int32.ofNat n) (hj2 : j.toNatClampNeg < n) (hv : ((f j.toNatClampNeg &&& 255).toUInt32 % 65536).toInt32 = v) (hn : narrow .char (.int v) = .int v) : Met l yJ1_charAt_3b067 (.code yJ1_charAt_3b067 cJ1_charAt_3b067 2 (some .char) :: gTb) { frames := 2, cells := 0, slots := 0, locals := 43 } (SP [.ref q, .int j] a q n f) (SQ (some (.int v))) 0 0 noA := by
  refine Met.ofW (cc := cJ1_charAt_3b067) (maxL := 2) (ret := some .char) (by decide) rfl ?_
  intro p e s m args below meth c s₁ B hml hz
  obtain ⟨rfl, hA⟩ := hz
  have hx := B.exec
  have hb := B.bytes
  have hr := B.returns
  have hts1 := atoms_spec (ws := Cond.code yJ1_charAt_3b067 cJ1_charAt_3b067 2 (some .char) :: gTb) B.pre
  have hts : ∀ w ∈ gTb, w.before [Value.ref q, .int j].toArray s = true := fun w h => hts1 w (List.mem_cons_of_mem _ h)
  have hown : s.vm.findClass RJ1 = some m.cls := findClass_of_methodNamed B.named
  have hlocks := B.notSynchronized
  have hS : va_S noA s.heap s.heap [] := va_S.rf
  have hl := lv_entry ([.ref q, .int j]) (n := 2) (Nat.le_of_ble_eq_true rfl)
  rw [lg_entry_eq]
  generalize (lg_sl ([.ref q, .int j]) ++ List.replicate (2 - (lg_sl ([.ref q, .int j])).length) Slot.unset).toArray = ls at hl ⊢
  have hl : lv_has ls 2 [(0, .ref q), (1, .int j)] := hl
  refine lv_iload_n hx hb d_la_0 rfl (lv_at hl 1 rfl) ?_
  refine lv_aload_n hx hb d_la_1 rfl (lv_at hl 0 rfl) ?_
  refine va_tlen hx hb hA.2.2.2.1 hS (v := Int32.ofNat n) rfl d_la_2 ?_
  refine s_stat (As := [.int j, .int (Int32.ofNat n)]) (rest := []) (nL := 2) hx hb hml hown hts1 (k_chk l j (Int32.ofNat n) hj0 hj1) ⟨fun x U g mk h => ⟨h.1, va_Zq.moved (u := U) (U := U.calling g mk x) (Vm.Alike.refl U.vm) h.2⟩, fun U hU hW => ⟨rfl, (hA.at hS hU hW).2.2.2.2.2⟩⟩ ws_ci_c ws_ci_l ws_ci_s ws_iS pd_ci ⟨Nat.le_of_ble_eq_true rfl, Nat.le_of_ble_eq_true rfl⟩ hl.1 (Nat.le_of_ble_eq_true rfl) ⟨Nat.le_of_ble_eq_true rfl, Nat.le_of_ble_eq_true rfl⟩ d_la_3 hS (fun H1 locs1 _ _ hS => ?_)
  refine W.eq (g2 := F0 m 6 ls []) rfl ?_
  refine lv_aload_n hx hb d_la_6 rfl (lv_at hl 0 rfl) ?_
  refine lv_iload_n hx hb d_la_7 rfl (lv_at hl 1 rfl) ?_
  refine va_tb hx hb hA.2.2.2.1 hS (i := j) (v := .int (f j.toNatClampNeg)) (by rintro (h | h); exact hj0 h; omega) rfl d_la_8 ?_
  refine lv_sipush (v := 255) hx hb d_la_9 (by decide) ?_
  refine lv_iand hx hb d_la_12 ?_
  refine lv_i2c hx hb d_la_13 hv ?_
  exact W.zret (v := v) (ty := .char) hx hb hr hn (fun t ht hW => ⟨rfl, trivial, hS.F ht⟩) hS.2.2 d_la_14
set_option maxHeartbeats 2000000 in
theorem k_charAt (l : Launch) (a q n : Nat) (f : Nat → Int32) (j v : Int32) (hj0 : ¬ j < 0) (hj1 : j < Int32.ofNat n) (hj2 : j.toNatClampNeg < n) (hv : ((f j.toNatClampNeg &&& 255).toUInt32 % 65536).toInt32 = v) (hn : narrow .char (.int v) = .int v) : Met l yJ0_charAt_5068e (.code yJ0_charAt_5068e cJ0_charAt_5068e 2 (some .char) :: gTb) { frames := 3, cells := 0, slots := 0, locals := 64 } (SP [.ref a, .int j] a q n f) (SQ (some (.int v))) 0 0 noA := by
  refine Met.ofW (cc := cJ0_charAt_5068e) (maxL := 2) (ret := some .char) (by decide) rfl ?_
  intro p e s m args below meth c s₁ B hml hz
  obtain ⟨rfl, hA⟩ := hz
  have hx := B.exec
  have hb := B.bytes
  have hr := B.returns
  have hts1 := atoms_spec (ws := Cond.code yJ0_charAt_5068e cJ0_charAt_5068e 2 (some .char) :: gTb) B.pre
  have hts : ∀ w ∈ gTb, w.before [Value.ref a, .int j].toArray s = true := fun w h => hts1 w (List.mem_cons_of_mem _ h)
  have hown : s.vm.findClass RJ0 = some m.cls := findClass_of_methodNamed B.named
  have hlocks := B.notSynchronized
  have hS : va_S noA s.heap s.heap [] := va_S.rf
  have hl := lv_entry ([.ref a, .int j]) (n := 2) (Nat.le_of_ble_eq_true rfl)
  rw [lg_entry_eq]
  generalize (lg_sl ([.ref a, .int j]) ++ List.replicate (2 - (lg_sl ([.ref a, .int j])).length) Slot.unset).toArray = ls at hl ⊢
  have hl : lv_has ls 2 [(0, .ref a), (1, .int j)] := hl
  refine lv_aload_n hx hb d_cha_0 rfl (lv_at hl 0 rfl) ?_
  refine s_virt (As := []) (rest := []) (nL := 2) hx hb hml hown hts1 hA (k_latin l a q n f) ws_lat_c ws_lat_l ws_lat_i ws_lat_s rfl (by decide +kernel) ⟨Nat.le_of_ble_eq_true rfl, Nat.le_of_ble_eq_true rfl⟩ hl.1 (Nat.le_of_ble_eq_true rfl) ⟨Nat.le_of_ble_eq_true rfl, Nat.le_of_ble_eq_true rfl⟩ d_cha_1 hS (fun H1 locs1 _ _ hS => ?_)
  refine W.eq (g2 := F0 m 4 ls [.int 1]) rfl ?_
  refine lv_if_eq hx hb d_cha_4 (tgt := 16) rfl (fun h => absurd h (by decide)) (fun _ => ?_)
  refine lv_aload_n hx hb d_cha_7 rfl (lv_at hl 0 rfl) ?_
  refine vk_getf hx hb hA.2.2.1 hS hown (hts _ ws_val) (fun x h => h) d_cha_8 ?_
  refine lv_iload_n hx hb d_cha_11 rfl (lv_at hl 1 rfl) ?_
  refine s_stat (As := [.ref q, .int j]) (rest := []) (nL := 2) hx hb hml hown hts1 (k_la l a q n f j v hj0 hj1 hj2 hv hn) ⟨SP.blind, fun U hU hW => ⟨rfl, hA.at hS hU hW⟩⟩ ws_la_c ws_la_l ws_la_s ws_iL pd_la ⟨Nat.le_of_ble_eq_true rfl, Nat.le_of_ble_eq_true rfl⟩ hl.1 (Nat.le_of_ble_eq_true rfl) ⟨Nat.le_of_ble_eq_true rfl, Nat.le_of_ble_eq_true rfl⟩ d_cha_12 hS (fun H1 locs1 _ _ hS => ?_)
  refine W.eq (g2 := F0 m 15 ls [.int v]) rfl ?_
  exact W.zret (v := v) (ty := .char) hx hb hr hn (fun t ht hW => ⟨rfl, trivial, hS.F ht⟩) hS.2.2 d_cha_15
