/-! The law's beginning, and its end. The words lw_.. are those of kit/laws/SKELETON.whole. -/
theorem d_law_0 : decode code 0 = .ok (.new 8, 3) := by decide +kernel
theorem d_law_3 : decode code 3 = .ok (.dup, 1) := by decide +kernel
theorem d_law_4 : decode code 4 = .ok (.invokespecial 108, 3) := by decide +kernel
theorem d_law_7 : decode code 7 = .ok (.astore_n 1, 1) := by decide +kernel
theorem d_law_8 : decode code 8 = .ok (.new 109, 3) := by decide +kernel
theorem d_law_11 : decode code 11 = .ok (.dup, 1) := by decide +kernel
theorem d_law_12 : decode code 12 = .ok (.invokespecial 111, 3) := by decide +kernel
theorem d_law_15 : decode code 15 = .ok (.astore_n 2, 1) := by decide +kernel
theorem d_law_16 : decode code 16 = .ok (.iconst 1, 1) := by decide +kernel
theorem d_law_17 : decode code 17 = .ok (.newarray .long, 2) := by decide +kernel
theorem d_law_19 : decode code 19 = .ok (.astore_n 3, 1) := by decide +kernel
theorem d_law_20 : decode code 20 = .ok (.iconst 0, 1) := by decide +kernel
theorem d_law_21 : decode code 21 = .ok (.istore 4, 2) := by decide +kernel
theorem wk_L_8 : Cond.classLink (clsN 8) 8 RX6 ∈ gTb := gmem 142 (by decide +kernel) (by decide +kernel)
theorem wm_L_108 : Cond.methodLink (clsN 8) 108 yX6_init ∈ gTb := gmem 144 (by decide +kernel) (by decide +kernel)
theorem wk_L_109 : Cond.classLink (clsN 8) 109 RX7 ∈ gTb := gmem 1175 (by decide +kernel) (by decide +kernel)
theorem wm_L_111 : Cond.methodLink (clsN 8) 111 yX7_init ∈ gTb := gmem 1177 (by decide +kernel) (by decide +kernel)
theorem mo_law : MOKT mi_L_law := ⟨tb_L_law, by decide +kernel, by decide +kernel⟩
def R_law : String := "NightSoundsLaw"
def lw_P (b : Addr) (xs : List Int32) (args : Array Value) (s : State) : Prop := args = #[.ref b] ∧ s.IntsAt b xs ∧ xs.length ≤ 3072 ∧ (Jvm.Cond.and given_1 narrow_1).before args s = true
def lw_Q (_ : Array Value) (s : State) (o : Outcome) (t : State) : Prop := o = .returned (some (.int 1)) ∧ Framed s o t [] 601024 7293033
def lw_Z (below : List Frame) (a : Array Value) (s : State) : State → Prop := fun t => ∃ o, t.status = .running ∧ Ended t below o ∧ lw_Q a s o t
/-- the law's own end, with 1 on the stack, nothing written that was there before, its room as the claim has it -/
theorem lw_ret {p : Program} {l : Launch} {e : Env} {s : State} {m : MethodId} {below : List Frame} {meth : Method} {c : Code} {b : Nat} (hx : p.tables.exec = Jvm.exec) (hb : c.code = code) (hr : meth.sig.returnType = ret) (hlocks : meth.locks = false) {pc : Nat} {H : Heap} {ls : Array Slot} (hdg : decode code pc = .ok (.ireturn, 1)) : W p l e room_1 s m #[Value.ref b] below meth c H [] 601024 7293033 (lw_Z below #[Value.ref b] s) (F0 m pc ls [.int 1]) := by
  intro T hT X
  obtain ⟨fs, hret, hrun, hended, hW, hframe⟩ := X.leave (v := some (.int 1)) (hlocks := hlocks) (fun h => by rw [hr] at h; cases h)
  have hmeth' : T.vm.method? m = some meth := X.method'
  refine ⟨T.setFrames fs, ?_, .returned (some (.int 1)), hrun, hended, rfl, ⟨_, rfl⟩, hW, hframe⟩
  jvm_step X.here [X.here.top, hx, hb, hdg, hmeth', hr, ret, narrow_b1]
  (try refine ⟨rfl, ?_⟩); (try refine ⟨rfl, ?_⟩)
  first | (intro acts; rw [hret _ acts rfl rfl rfl]) | rw [hret _ _ rfl rfl rfl]
  exact Steps.refl _
/-- what holds at the law's entry: the machine, the code, the tables' words (any of lw_tbl by 'hts w (by decide +kernel)'), the script of L ints xs at the cell b, what the Statement gives of the start (any of its parts by flat_of_before) -/
def lw_At (p : Program) (s : State) (m : MethodId) (meth : Method) (c : Code) (b L : Nat) (xs : Nat → Int32) : Prop :=
  p.tables.exec = Jvm.exec ∧ c.code = code ∧ meth.sig.returnType = ret ∧ c.maxLocals = 8 ∧ s.vm.findClass R_law = some m.cls ∧ (∀ w ∈ lw_tbl, w.before #[Value.ref b] s = true) ∧ va_X b L xs s s.heap ∧ b < s.heap.size ∧ meth.locks = false ∧ (Jvm.Cond.and given_1 narrow_1).before #[Value.ref b] s = true
/-- .. and the law's own code word, and that it has no handlers -/
def lw_A2 (p : Program) (s : State) (m : MethodId) (meth : Method) (c : Code) (b L : Nat) (xs : Nat → Int32) : Prop := lw_At p s m meth c b L xs ∧ (Jvm.Cond.code x code maxLocals ret).before #[Value.ref b] s = true ∧ ∀ z ∈ c.exceptionTable.toList, False
set_option maxHeartbeats 4000000 in
theorem law_ends {p : Program} {l : Launch} {e : Env} {s : State} {m : MethodId} {below : List Frame} {meth : Method} {c : Code} {b : Nat} {D : va_G} {cT : Nat → ClassId} {ad : Nat → Nat → Nat} {M2 : Mem} {O2 : Int64} {c2 s2 : Nat} (hx : p.tables.exec = Jvm.exec) (hb : c.code = code) (hr : meth.sig.returnType = ret) (hlocks : meth.locks = false) (h1 : c2 ≤ 601024) (h2 : s2 ≤ 7293033) :
    Ends p l e room_1 s m #[Value.ref b] below meth c (lw_Z below #[Value.ref b] s) D cT ad (fun q => s.heap.size ≤ q) mi_L_law (.inl (some (.inl 1)), M2, O2, c2, s2) := by
  refine ⟨?_, ?_, ?_, ?_, ?_, ?_⟩
  · intro pc lr H locs t M O T c1 s1 z hd he hty hwd
    cases he
    refine va_forget (fun q hq => hwd.2.2.2.2 q hq) ?_
    refine W.widen (k := 601024) (n := 7293033) h1 h2 ?_
    exact lw_ret hx hb hr hlocks hd
  · intro pc lr H locs t M O T c1 s1 z hd he
    cases he
  · intro pc lr H locs t M O c1 s1 g i hd he
    cases he
  · intro pc lr H locs t M O T c1 s1 hd he
    cases he
  · intro pc lr H locs t M O T c1 s1 X n h1 h2 he
    cases he
  · intro pc lr rst H locs t M O T c1 s1 X ce q9 he
    cases he
theorem law_wf : wfL none [some (.inr (.inr (91, 0))), some (.inr (.inr (0, 0))), some (.inr (.inr (40, 0))), some (.inr (.inr (83, 0))), some (.inl (nI 0)), none, none, none] := by
  intro i v h
  match i, h with
  | 0, h => cases h; exact Or.inr (Or.inr ⟨Or.inl rfl, rfl⟩)
  | 1, h => cases h; exact Or.inl (show 0 < 1 by decide)
  | 2, h => cases h; exact Or.inl (show 0 < 1 by decide)
  | 3, h => cases h; exact Or.inl (show 0 < 1 by decide)
  | 4, h => cases h; exact trivial
  | 5, h => cases h
  | 6, h => cases h
  | 7, h => cases h
  | i + 8, h => cases h
set_option maxHeartbeats 16000000 in
set_option maxRecDepth 100000 in
/-- from the entry, for every script of at most 3072 ints, the law comes to its end with true -/
theorem whole_start {p : Program} {e : Env} {s : State} {m : MethodId} {below : List Frame} {meth : Method} {c : Code} (l : Launch) (hlt : l.stackTraces = false) {b L : Nat} {xs : Nat → Int32} (hL : L ≤ 3072) (C0 : lw_A2 p s m meth c b L xs) : W p l e room_1 s m #[Value.ref b] below meth c s.heap [] 0 0 (lw_Z below #[Value.ref b] s) (entryFrame m ([Value.ref b] : List Value).toArray 8) := by
  obtain ⟨⟨hx, hb, hr, hml, hown, hts, hX, hbl, hlocks, hgv⟩, hcw, htab⟩ := C0
  obtain ⟨D, cT, hK⟩ := start_K hts
  have hZ := start_Z hts
  obtain ⟨ge, s3, s4, hF⟩ := start_F hts hgv s.heap.size hX hbl
  have hgt : ∀ w ∈ gTb, w.before #[Value.ref b] s = true := fun w h => hts w (gTb_in h)
  have hts1 : ∀ w ∈ cdW mi_L_law :: gTb, w.before #[Value.ref b] s = true := fun w h => (List.mem_cons.mp h).elim (fun e => by rw [e]; exact hcw) (hgt w)
  have hown : s.vm.findClass (clsN 8) = some m.cls := hown
  have hS : va_S (fun q => s.heap.size ≤ q) s.heap s.heap [] := va_S.rf
  have hB : Bw D s.heap.size [] s.heap := ⟨rfl, fun k e h => by cases h⟩
  have cJ : s.vm.findClass ("[" ++ (newarray.typeOf .long).toString) = some (cT 2) := (hK.2 2 (cT 2, .long) rfl).2
  have hl := lv_entry ([.ref b]) (n := 8) (Nat.le_of_ble_eq_true rfl)
  rw [lg_entry_eq]
  generalize (lg_sl ([.ref b]) ++ List.replicate (8 - (lg_sl ([.ref b])).length) Slot.unset).toArray = ls at hl ⊢
  have hl : lv_has ls 8 [(0, .ref b)] := hl
  refine bw_new (own := clsN 8) (C := RX6) (T := TX6) (N := 15) (ci := 6) (index := 8) (fs := [.null, .null, .null, .null, .null, .null, .int 0, .null, .null, .int 0, .null, .null, .int 0, .int 0, .null]) hx hb hgt cj_X6 tyX6 tyX6_ok hown (hgt _ wk_L_8) (hgt _ wn_X6) (hgt _ hin_6) hK hB hS rfl nf_X6 (Nat.le_of_ble_eq_true rfl) (Nat.le_of_ble_eq_true rfl) d_law_0 (fun H hB hS => ?_)
  refine W.widen (k := 1) (n := 15) (Nat.le_of_ble_eq_true rfl) (Nat.le_of_ble_eq_true rfl) ?_
  refine W.eq (g2 := F0 m 3 ls [.ref s.heap.size]) rfl ?_
  refine lv_dup hx hb d_law_3 rfl ?_
  refine bw_ctorL (own := clsN 8) (b := s.heap.size) (es0 := []) (index := 108) (nL := 8) hx hb hml hown hts1 hK hZ (k_X6 l) wc_X6 wm_L_108 hin_6 wi_X6 rfl (by decide +kernel) ⟨(Nat.le_of_ble_eq_true rfl), (Nat.le_of_ble_eq_true rfl)⟩ hl.1 (Nat.le_of_ble_eq_true rfl) ⟨(Nat.le_of_ble_eq_true rfl), (Nat.le_of_ble_eq_true rfl)⟩ d_law_4 hB hS (fun H locs hB hS => ?_)
  have hB : Bw D s.heap.size (es_X6_init cT s.heap.size) H := hB
  refine W.widen (k := 137) (n := 3932) (Nat.le_of_ble_eq_true rfl) (Nat.le_of_ble_eq_true rfl) ?_
  refine W.eq (g2 := F0 m 7 ls [.ref s.heap.size]) rfl ?_
  refine lv_astore_n hx hb d_law_7 rfl hl (by decide) rfl (fun ls hl => ?_)
  have hl : lv_has ls 8 [(1, .ref s.heap.size), (0, .ref b)] := hl
  refine bw_new (own := clsN 8) (C := RX7) (T := TX7) (N := 48) (ci := 7) (index := 109) (fs := [.int 0, .int 0, .int 0, .int 0, .int 0, .int 0, .int 0, .int 0, .null, .null, .null, .null, .null, .null, .null, .null, .null, .null, .null, .null, .null, .null, .null, .null, .null, .null, .int 0, .null, .null, .int 0, .int 0, .int 0, .int 0, .null, .null, .null, .null, .null, .null, .null, .null, .null, .null, .null, .null, .null, .int 0, .int 0]) hx hb hgt cj_X7 tyX7 tyX7_ok hown (hgt _ wk_L_109) (hgt _ wn_X7) (hgt _ hin_7) hK hB hS rfl nf_X7 (Nat.le_of_ble_eq_true rfl) (Nat.le_of_ble_eq_true rfl) d_law_8 (fun H hB hS => ?_)
  refine W.widen (k := 138) (n := 3980) (Nat.le_of_ble_eq_true rfl) (Nat.le_of_ble_eq_true rfl) ?_
  refine W.eq (g2 := F0 m 11 ls [.ref (s.heap.size + 137)]) rfl ?_
  refine lv_dup hx hb d_law_11 rfl ?_
  refine bw_ctorL (own := clsN 8) (b := s.heap.size) (es0 := es_X6_init cT s.heap.size) (index := 111) (nL := 8) hx hb hml hown hts1 hK hZ (k_X7 l) wc_X7 wm_L_111 hin_7 wi_X7 rfl (by decide +kernel) ⟨(Nat.le_of_ble_eq_true rfl), (Nat.le_of_ble_eq_true rfl)⟩ hl.1 (Nat.le_of_ble_eq_true rfl) ⟨(Nat.le_of_ble_eq_true rfl), (Nat.le_of_ble_eq_true rfl)⟩ d_law_12 hB hS (fun H locs hB hS => ?_)
  have hB : Bw D s.heap.size (es_X6_init cT s.heap.size ++ es_X7_init cT (s.heap.size + 137)) H := hB
  refine W.widen (k := 230) (n := 6119) (Nat.le_of_ble_eq_true rfl) (Nat.le_of_ble_eq_true rfl) ?_
  refine W.eq (g2 := F0 m 15 ls [.ref (s.heap.size + 137)]) rfl ?_
  refine lv_astore_n hx hb d_law_15 rfl hl (by decide) rfl (fun ls hl => ?_)
  have hl : lv_has ls 8 [(2, .ref (s.heap.size + 137)), (1, .ref s.heap.size), (0, .ref b)] := hl
  refine lv_iconst (v := 1) hx hb d_law_16 (by decide) ?_
  refine bw_newa (atype := .long) (cA0 := cT 2) (a0 := (1, .inr (.inl (fun _ => 0)))) (N' := 1) hx hb (hgt _ wa_long) cJ (fun cA => rfl) hB hS (by decide) (by decide) (by decide) (Nat.le_of_ble_eq_true rfl) (Nat.le_of_ble_eq_true rfl) d_law_17 (fun H hB hS => ?_)
  have hB : Bw D s.heap.size (esZ cT s.heap.size) H := hB
  refine W.widen (k := 231) (n := 6120) (Nat.le_of_ble_eq_true rfl) (Nat.le_of_ble_eq_true rfl) ?_
  refine W.eq (g2 := F0 m 19 ls [.ref (s.heap.size + 230)]) rfl ?_
  refine lv_astore_n hx hb d_law_19 rfl hl (by decide) rfl (fun ls hl => ?_)
  have hl : lv_has ls 8 [(3, .ref (s.heap.size + 230)), (2, .ref (s.heap.size + 137)), (1, .ref s.heap.size), (0, .ref b)] := hl
  refine lv_iconst (v := 0) hx hb d_law_20 (by decide) ?_
  refine lv_istore hx hb d_law_21 hl (by decide) rfl (fun ls hl => ?_)
  have hl : lv_has ls 8 [(4, .int 0), (3, .ref (s.heap.size + 230)), (2, .ref (s.heap.size + 137)), (1, .ref s.heap.size), (0, .ref b)] := hl
  obtain ⟨M2, O2, c2, s2, hrun, hc2, hs2⟩ := law_run L xs hL 512 0 M0 0 231 6120 none none none INV0 (by omega) (by omega)
  have C : CX p s m #[Value.ref b] c D cT (adF s.heap.size b ge s3 s4) L xs (fun q => s.heap.size ≤ q) mi_L_law := ⟨hx, hb, hml, hown, hts1, hK, hF, fun q h => h, fun g i hi => by rw [adF_lt (cnt_lt hi)]; exact Nat.le_add_right _ _, w_DD cT s.heap.size b ge s3 s4, by decide⟩
  have hT0 : c.exceptionTable.toList = tableOf (mi_hh mi_L_law) := by
    cases q : c.exceptionTable.toList with
    | nil => rfl
    | cons z r => exact (htab z (by rw [q]; exact List.mem_cons_self)).elim
  have G := run_ok (E := EX L xs 14) (R := room_1) (l := l) (e := e) (below := below) (meth := meth) (Q := lw_Z below #[Value.ref b] s) C mo_law hT0 (ex_ok hlt all_ok 14) (fun y mi h => (all_ok y mi h).1) (Nat.le_of_ble_eq_true rfl) (Nat.le_of_ble_eq_true rfl) ⟨by show c2 ≤ 601024; omega, by show s2 ≤ 7293033; omega⟩ (law_ends hx hb hr hlocks (by omega) (by omega)) 513 23 _ M0 0 none 231 6120 hrun
  exact G 0 ls H locs ⟨rfl, lv_sub hl [4, 3, 2, 1, 0] rfl⟩ law_wf (fun v hv => by cases hv) ⟨w_P hB 0, w_D cT s.heap.size b ge s3 s4 0 M0 0, hS⟩
