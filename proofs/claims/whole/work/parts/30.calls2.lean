/-! A call with a picture: one row for each kind. -/
def MOK (mi : MI) : Prop := cdW mi ∈ gTb ∧ Cond.initialized (clsN (mi_cls mi)) ∈ gTb ∧ (mi_y mi).cls = clsN (mi_cls mi) ∧ plainName (mi_y mi).cls = true ∧ mi_cls mi < 10 ∧ ((mi_y mi).cls ≠ "java/lang/invoke/MethodHandle" ∧ (mi_y mi).cls ≠ "java/lang/invoke/VarHandle")
theorem no90_ne {v : AV} {g i : Nat} (h : no90 v = true) (e : v = .inr (.inr (g, i))) : g ≠ 90 := by
  subst e
  simpa [no90] using h
theorem wfV.down {T : Tmp} {v : AV} (h : wfV T v) (hn : no90 v = true) : wfV none v := by
  rcases v with x | x | ⟨g, i⟩
  · trivial
  · trivial
  · rcases h with h | ⟨h, -⟩ | h
    · exact Or.inl h
    · exact absurd h (no90_ne hn rfl)
    · exact Or.inr (Or.inr h)
theorem wfV.any {T : Tmp} {v : AV} (h : wfV none v) : wfV T v := by
  cases T with
  | none => exact h
  | some f => exact h.up
section C3
variable {p : Program} {l : Launch} {e : Env} {R : Room} {s : State} {m : MethodId} {args : Array Value} {below : List Frame} {meth : Method} {c : Code} {H : Heap} {locs : List Loc} {c1 s1 : Nat} {Q : State → Prop} {lr : Array Slot} {pc n : Nat}
  {D : va_G} {cT : Nat → ClassId} {ad : Nat → Nat → Nat} {A : Nat → Prop} {t nL L : Nat} {xs : Nat → Int32} {mi mi' : MI} {M M' : Mem} {O O' : Int64} {T : Tmp} {as rest : List AV} {y mc ms kd na : Nat} {v : Option AV} {X : Nat}
/-- what a call needs of its surroundings -/
def CX (p : Program) (s : State) (m : MethodId) (args : Array Value) (c : Code) (D : va_G) (cT : Nat → ClassId) (ad : Nat → Nat → Nat) (L : Nat) (xs : Nat → Int32) (A : Nat → Prop) (mi : MI) : Prop :=
  p.tables.exec = Jvm.exec ∧ c.code = mi_b mi ∧ c.maxLocals = mi_L mi ∧ s.vm.findClass (clsN (mi_cls mi)) = some m.cls ∧ (∀ w ∈ cdW mi :: gTb, w.before args s = true) ∧ va_K D vwCl (tysT cT) s ∧ sFx ad L xs A s s.heap ∧ (∀ q, s.heap.size ≤ q → A q) ∧ (∀ g i, i < cnt g → A (ad g i)) ∧ DD cT ad ∧ mi_cls mi < 10
theorem pre_at (C : CX p s m args c D cT ad L xs A mi) (hwd : WDp D cT ad A s.heap t M O T H locs) (U : State) (hU : U.heap = H) (hW : s.WarmedH U.vm) : PcB D cT ad L xs H.size M O U := by
  obtain ⟨hx, hb, hml, hown, hts, hK, hF, hA, hAA, hDD, hcl⟩ := C
  refine ⟨by rw [hU], ?_, va_K.moved hW.alike hK, ?_⟩
  · rw [hU]
    intro k q hk
    refine hwd.1 k q ?_
    unfold wsA at hk ⊢
    rw [show wsT cT 0 none = [] from rfl, List.append_nil] at hk
    rw [List.getElem?_append_left (List.getElem?_eq_some_iff.mp hk).1]
    exact hk
  · rw [hU]
    refine sFx.narrow (A := A) (sFx.warm hW (hF.kept hwd.2.2.1 hwd.2.2.2.1)) ?_
    rintro q (⟨g, i, hi, rfl⟩ | h)
    · exact hAA g i hi
    · exact hA q (Nat.le_trans hwd.2.2.1 h)
theorem sub_A (C : CX p s m args c D cT ad L xs A mi) (hwd : WDp D cT ad A s.heap t M O T H locs) : ∀ q, APre ad H.size q → A q := by
  obtain ⟨hx, hb, hml, hown, hts, hK, hF, hA, hAA, hDD, hcl⟩ := C
  rintro q (⟨g, i, hi, rfl⟩ | h)
  · exact hAA g i hi
  · exact hA q (Nat.le_trans hwd.2.2.1 h)
theorem cat_sum (st : List AV) : ((st.map (vrel ad t)).map fun v => v.category).sum = (st.map acat).sum := by
  rw [List.map_map]
  congr 1
  exact List.map_congr_left fun v _ => vrel_cat ad t v
theorem map_0 (h : ∀ v ∈ as, wfV none v) : as.map (vrel ad t) = as.map (vrel ad 0) := List.map_congr_left fun v hv => vrel_t (h v hv)
theorem cdW_nil (h : mi_hh mi = []) : cdW mi = .code (mi_y mi) (mi_b mi) (mi_L mi) (mi_ret mi) := by unfold cdW; rw [h]
/-- a virtual call that returns, of the own class or of a nest mate -/
theorem runVN (C : CX p s m args c D cT ad L xs A mi) (hwd : WDp D cT ad A s.heap t M O T H locs) (hM : Met l (mi_y mi') (cdW mi' :: gTb) (rmOf mi' mc ms) (PcR D cT ad L xs H.size as M O) (QcR D cT ad H.size v M' O') mc ms (APre ad H.size))
    (ho : MOK mi') (hh : mi_hh mi' = []) (hc : cOK (mi_cls mi) (n, kd, y, na)) (hg : getM y = some mi') (hy : y < 900) (hkd : kd < 2) {g i ci : Nat} {fs : List (Option (Nat × Option Nat))} {as' : List AV} (has : as = .inr (.inr (g, i)) :: as') (hsh : shape g = .inl (ci, fs)) (hci : ci = mi_cls mi') (hgi : i < cnt g) (hci8 : ci < 8)
    (hna : na = as.length) (hw : ∀ v ∈ as, wfV none v) (hst : lr.size = mi_L mi) (hrest : (rest.map acat).sum ≤ 8) (hd : decode (mi_b mi) pc = .ok (.invokevirtual n, 3)) (hRf : mi_fr mi' + 1 ≤ R.frames) (hRl : 8 + (mi_L mi' + 11) + mi_lw mi' ≤ R.locals) (hRc : c1 + mc ≤ R.cells ∧ s1 + ms ≤ R.slots) :
    va_Run p l e R s m args below meth c H locs c1 s1 mc ms (F0 m pc lr ((as.reverse ++ rest).map (vrel ad t))) (rest.map (vrel ad t)) (QcR D cT ad H.size v M' O' (as.map (vrel ad 0)).toArray) (APre ad H.size) := by
  have C' := C
  obtain ⟨hx, hb, hml, hown, hts, hK, hF, hA, hAA, hDD, hcl⟩ := C
  obtain ⟨mi2, hg2, hpar, -, hlink⟩ := hc hy
  cases Option.some.inj (hg2.symm.trans hg)
  obtain ⟨o1, o2, o3, o4, o5, o6⟩ := ho
  subst has
  have hb0 : vrel ad t (.inr (.inr (g, i))) = .ref (ad g i) := vrel_n (cnt_lt hgi)
  have hb00 : vrel ad 0 (.inr (.inr (g, i))) = .ref (ad g i) := vrel_n (cnt_lt hgi)
  have hmap : as'.map (vrel ad t) = as'.map (vrel ad 0) := map_0 fun v hv => hw v (List.mem_cons_of_mem _ hv)
  have hstk : (((.inr (.inr (g, i)) :: as' : List AV).reverse ++ rest).map (vrel ad t)) = (as'.map (vrel ad 0)).reverse ++ .ref (ad g i) :: rest.map (vrel ad t) := by
    rw [List.reverse_cons, List.append_assoc, List.map_append, List.map_reverse, hmap]
    show _ ++ (vrel ad t (.inr (.inr (g, i))) :: rest.map (vrel ad t)) = _
    rw [hb0]
  have hargs : ((.inr (.inr (g, i)) :: as' : List AV).map (vrel ad 0)) = .ref (ad g i) :: as'.map (vrel ad 0) := by
    rw [List.map_cons, hb00]
  rw [hstk, hargs]
  obtain ⟨q0, -, he⟩ := ws_at (cT := cT) (ad := ad) (t := t) (M := M) (O := O) (T := T) hgi
  have hwc : wcell cT ad M O g i = .inr (ci, fs.mapIdx (fun k f => fval ad M g i k f)) := by unfold wcell; rw [hsh]
  rw [hwc] at he
  obtain ⟨rr, hrr, hrn⟩ : ∃ rr, vwCl[ci]? = some rr ∧ rr.1 = clsN ci := by
    match ci, hci8 with
    | 0, _ => exact ⟨_, rfl, rfl⟩
    | 1, _ => exact ⟨_, rfl, rfl⟩
    | 2, _ => exact ⟨_, rfl, rfl⟩
    | 3, _ => exact ⟨_, rfl, rfl⟩
    | 4, _ => exact ⟨_, rfl, rfl⟩
    | 5, _ => exact ⟨_, rfl, rfl⟩
    | 6, _ => exact ⟨_, rfl, rfl⟩
    | 7, _ => exact ⟨_, rfl, rfl⟩
  have hrecv := va_recv hK hwd.1 hrr he
  rw [hrn, hci] at hrecv
  have hp : PreV s H (clsN (mi_cls mi')) (ad g i) (PcR D cT ad L xs H.size (.inr (.inr (g, i)) :: as') M O) (as'.map (vrel ad 0)) :=
    ⟨PcR.blind, hrecv, fun U hU hW => ⟨by rw [hargs], pre_at C' hwd U hU hW⟩⟩
  have hn' : (as'.map (vrel ad 0)).length = as'.length := List.length_map ..
  have hparn : (parseMethodDescriptor (mi_y mi').desc).map (fun d => d.parameters.length) = some as'.length := by
    have hpar' : (parseMethodDescriptor (mi_y mi').desc).map (fun d => d.parameters.length + (if kd < 2 then 1 else 0)) = some na := hpar
    rw [if_pos hkd] at hpar'
    cases hq : parseMethodDescriptor (mi_y mi').desc with
    | none => rw [hq] at hpar'; cases hpar'
    | some dsc =>
      rw [hq] at hpar'
      have h1 : dsc.parameters.length + 1 = na := Option.some.inj hpar'
      show some dsc.parameters.length = some as'.length
      rw [hna] at h1
      congr 1
      simpa using h1
  have hcode : cdW mi' :: gTb = Cond.code (mi_y mi') (mi_b mi') (mi_L mi') (mi_ret mi') :: gTb := by rw [cdW_nil hh]
  have hroom : 2 * (F0 m pc lr ((as'.map (vrel ad 0)).reverse ++ .ref (ad g i) :: rest.map (vrel ad t))).monitorRoom + ((rest.map (vrel ad t)).map fun v => v.category).sum ≤ 8 := by
    show 2 * 0 + _ ≤ 8
    rw [cat_sum]
    omega
  match kd, hkd, hlink with
  | 0, _, hlink =>
    obtain ⟨k1, k2, k3⟩ := hlink
    have cw := cwV (R := R) (mc := mc) (ms := ms) (rm := rmOf mi' mc ms) (own := clsN (mi_cls mi)) (index := n) (C := clsN (mi_cls mi')) (y := mi_y mi') as'.length hts (ws := cdW mi' :: gTb) (ws' := gTb)
      (by
        intro w hw'
        rcases List.mem_append.mp hw' with q | q
        · simp only [List.mem_cons, List.not_mem_nil, or_false] at q
          rcases q with rfl | rfl | rfl | rfl
          · exact goodG1 k1
          · exact goodG1 k2
          · exact goodG1 k3
          · exact goodG1 o2
        · exact goodGI o1 w q) hcode rfl rfl ⟨o3, o6.1, o6.2, hparn⟩ ⟨hRf, hRl⟩
    exact va_runV ⟨hx, hb, hml, hown, hts⟩ hM cw hp rfl hn' hst rfl hroom hd hRc
  | 1, _, hlink =>
    obtain ⟨k1, k2, k3⟩ := hlink
    have hini : (Cond.initialized (mi_y mi').cls).before args s = true := by rw [o3]; exact hts _ (List.mem_cons_of_mem _ o2)
    have cw := va_cnB (R := R) (mc := mc) (ms := ms) (rm := rmOf mi' mc ms) (own := clsN (mi_cls mi)) (host := "NightSounds") (index := n) (y := mi_y mi') as'.length hts (ws := cdW mi' :: gTb) (ws' := gTb) (goodGI o1) hcode rfl rfl (hF.2.2.2.2.2.2.1 _ k1) hini ⟨o6.1, o6.2, hparn⟩ ⟨hRf, hRl⟩
    exact va_runVN ⟨hx, hb, hml, hown, hts⟩ hM ⟨cw, hts _ (List.mem_cons_of_mem _ k2), hts _ (List.mem_cons_of_mem _ k3)⟩ hp rfl hn' hst rfl hroom hd hRc
  | k + 2, h, _ => omega
end C3
