/-! Every method's contract, out of the picture's run: ends, entry, the depth. -/
section T2
variable {p : Program} {l : Launch} {e : Env} {R : Room} {s : State} {m : MethodId} {args : Array Value} {below : List Frame} {meth : Method} {c : Code}
  {D : va_G} {cT : Nat → ClassId} {ad : Nat → Nat → Nat} {A : Nat → Prop} {L : Nat} {xs : Nat → Int32} {mi : MI} {M : Mem} {O : Int64} {T : Tmp} {t : Nat} {H : Heap} {locs : List Loc} {c1 s1 mc ms : Nat}
theorem drop_T (hwd : WDp D cT ad A s.heap t M O T H locs) : va_P D vwCl (wsA cT ad 0 M O none) H := by
  intro k q hk
  refine hwd.1 k q ?_
  unfold wsA at hk ⊢
  rw [show wsT cT 0 none = [] from rfl, List.append_nil] at hk
  rw [List.getElem?_append_left (List.getElem?_eq_some_iff.mp hk).1]
  exact hk
theorem ends_norm (C : CX p s m args c D cT ad L xs (APre ad s.heap.size) mi) (hr0 : meth.sig.returnType = mi_ret mi) (hlocks : meth.locks = false) {v : Option AV} :
    Ends p l e R s m args below meth c (vx_MQ below (QcR D cT ad s.heap.size v M O) (fun _ _ _ => False) args s mc ms (APre ad s.heap.size)) D cT ad (APre ad s.heap.size) mi (.inl v, M, O, mc, ms) := by
  obtain ⟨ex, hb, hml, hown, hts, hK, hF, hA, hAA, hDD, hcl⟩ := C
  refine ⟨?_, ?_, ?_, ?_, ?_, ?_⟩
  · intro pc lr H locs t M1 O1 T c1 s1 x hd hr hret hwd
    cases hr
    refine vx_ret ?_
    rcases hret with h | ⟨h, h01⟩
    · exact W.iret ex hb (by rw [hr0]; exact h) (fun t' ht hW => ⟨rfl, ⟨fun w hw => by cases hw; trivial, by rw [ht]; exact drop_T hwd⟩, hwd.2.2.F ht⟩) hwd.2.2.2.2 hd hlocks
    · exact W.zret (ty := .boolean) ex hb (by rw [hr0]; exact h) (by rcases h01 with rfl | rfl <;> rfl) (fun t' ht hW => ⟨rfl, ⟨fun w hw => by cases hw; trivial, by rw [ht]; exact drop_T hwd⟩, hwd.2.2.F ht⟩) hwd.2.2.2.2 hd hlocks
  · intro pc lr H locs t M1 O1 T c1 s1 x hd hr hret hwd
    cases hr
    refine vx_ret ?_
    exact W.lret ex hb (by rw [hr0]; exact hret) (fun t' ht hW => ⟨rfl, ⟨fun w hw => by cases hw; trivial, by rw [ht]; exact drop_T hwd⟩, hwd.2.2.F ht⟩) hwd.2.2.2.2 hd hlocks
  · intro pc lr H locs t M1 O1 c1 s1 g i hd hr hret hok hwd
    cases hr
    refine vx_ret ?_
    exact W.aret (rt := .array .int) ex hb (by rw [hr0]; exact hret) (Or.inr ⟨_, rfl⟩) (Or.inr ⟨_, rfl⟩) (fun t' ht hW => ⟨by show Outcome.returned (some (vrel ad t (.inr (.inr (g, i))))) = Outcome.returned (some (vrel ad 0 (.inr (.inr (g, i))))); rw [vrel_t (q := 0) (show wfV none (.inr (.inr (g, i))) from hok)], ⟨fun w hw => by cases hw; exact hok, by rw [ht]; exact drop_T hwd⟩, hwd.2.2.F ht⟩) hwd.2.2.2.2 hd hlocks
  · intro pc lr H locs t M1 O1 T c1 s1 hd hr hret hwd
    cases hr
    refine vx_ret ?_
    exact W.vret ex hb (by rw [hr0]; exact hret) (fun t' ht hW => ⟨rfl, ⟨(fun w hw => nomatch hw), by rw [ht]; exact drop_T hwd⟩, hwd.2.2.F ht⟩) hwd.2.2.2.2 hd hlocks
  · intro pc lr H locs t M1 O1 T c1 s1 X n h1 h2 hr
    cases hr
  · intro pc lr rst H locs t M1 O1 T c1 s1 X ce q9 hr
    cases hr
theorem ends_thr (C : CX p s m args c D cT ad L xs (APre ad s.heap.size) mi) (hM : MOKT mi) (hl : l.stackTraces = false) (hh : mi_hh mi = []) (hTab : c.exceptionTable.toList = tableOf (mi_hh mi)) (hlocks : meth.locks = false) (hRf : mi_fr mi ≤ R.frames) (hRl : mi_lw mi ≤ R.locals) (hRc : mc ≤ R.cells) (hRs : ms ≤ R.slots) {X : Nat} :
    Ends p l e R s m args below meth c (vx_MQ below (fun _ _ _ _ => False) (XcR D cT ad s.heap.size X M O) args s mc ms (APre ad s.heap.size)) D cT ad (APre ad s.heap.size) mi (.inr X, M, O, mc, ms) := by
  have hout : ∀ pc, ∀ x ∈ c.exceptionTable.toList, covers x pc = false := by
    intro pc x hx
    rw [hTab, hh] at hx
    cases hx
  refine ⟨?_, ?_, ?_, ?_, ?_, ?_⟩
  · intro pc lr H locs t M1 O1 T c1 s1 x hd hr
    cases hr
  · intro pc lr H locs t M1 O1 T c1 s1 x hd hr
    cases hr
  · intro pc lr H locs t M1 O1 c1 s1 g i hd hr
    cases hr
  · intro pc lr H locs t M1 O1 T c1 s1 hd hr
    cases hr
  · intro pc lr H locs t M1 O1 T c1 s1 X1 n h1 h2 hr hsz hwd
    cases hr
    refine throw_ok C hM hl hwd hsz h1 h2 hTab hRf hRl hRc hRs hlocks (fun t' hal hz hq => ?_) hwd.2.2.2.2 (Nat.le_refl _) (Nat.le_refl _)
    refine ⟨⟨rfl, ?_⟩, ⟨Nat.le_trans hwd.2.2.1 hz, fun q h3 h4 => ?_⟩⟩
    · have hP := drop_T hwd
      exact hP.kept fun k q hk => hq q.1 (vx_lt hP hk)
    · rw [hq q (Nat.lt_of_lt_of_le h3 hwd.2.2.1)]
      exact hwd.2.2.2.1 q h3 h4
  · intro pc lr rst H locs t M1 O1 T c1 s1 X1 ce q9 hr hce hcv hcls hwd
    cases hr
    exact vx_out (hout pc) hlocks hce hcv hcls (fun t' ht hal => ⟨⟨rfl, by rw [ht]; exact drop_T hwd⟩, hwd.2.2.F ht⟩) hwd.2.2.2.2 (Nat.le_refl _) (Nat.le_refl _)
end T2
theorem sl_1 {vs : List Value} (h : ∀ v ∈ vs, v.category = 1) : (lg_sl vs).length = vs.length := by
  induction vs with
  | nil => rfl
  | cons a b ih =>
    have ha := h a List.mem_cons_self
    have hb := ih fun v hv => h v (List.mem_cons_of_mem _ hv)
    unfold lg_sl at hb ⊢
    rw [List.flatMap_cons, List.length_append, hb, if_neg (by omega)]
    simp
    omega
theorem args_1 {vs : List Value} (h : ∀ v ∈ vs, v.category = 1) : ∀ (i : Nat) (k : Nat) (v : Value), vs[k]? = some v → (i + k, v) ∈ lv_args i vs := by
  induction vs with
  | nil => intro i k v hv; cases hv
  | cons a b ih =>
    intro i k v hv
    have ha := h a List.mem_cons_self
    show (i + k, v) ∈ (i, a) :: lv_args (if a.category = 2 then i + 2 else i + 1) b
    rw [if_neg (by omega)]
    cases k with
    | zero =>
      cases hv
      exact List.mem_cons_self
    | succ k =>
      have := ih (fun v hv => h v (List.mem_cons_of_mem _ hv)) (i + 1) k v hv
      rw [show i + (k + 1) = i + 1 + k by omega]
      exact List.mem_cons_of_mem _ this
theorem ent_LR {ad : Nat → Nat → Nat} {mi : MI} {as : List AV} (h1 : ∀ v ∈ as, acat v = 1) (hL : as.length ≤ mi_L mi) {lr : Array Slot} (h : lv_has lr (mi_L mi) (lv_args 0 (as.map (vrel ad 0)))) : LR ad 0 (mi_L mi) (entL mi as) lr := by
  refine ⟨by unfold entL; rw [List.length_append, List.length_map, List.length_replicate]; omega, h.1, h.2.1, fun q hq => h.2.2 q ?_⟩
  obtain ⟨v, hv, he⟩ := mem_lvl.mp hq
  have hv2 : as[q.1]? = some v := by
    unfold entL at hv
    rcases Nat.lt_or_ge q.1 as.length with z | z
    · rw [List.getElem?_append_left (by rw [List.length_map]; exact z), List.getElem?_map] at hv
      cases hq2 : as[q.1]? with
      | none => rw [hq2] at hv; cases hv
      | some w => rw [hq2] at hv; cases hv; rfl
    · rw [List.getElem?_append_right (by rw [List.length_map]; exact z), List.getElem?_replicate] at hv
      split at hv <;> cases hv
  have hc : ∀ w ∈ as.map (vrel ad 0), w.category = 1 := by
    intro w hw
    obtain ⟨u, hu, rfl⟩ := List.mem_map.mp hw
    rw [vrel_cat]
    exact h1 u hu
  have := args_1 hc 0 q.1 (vrel ad 0 v) (by rw [List.getElem?_map, hv2]; rfl)
  rw [Nat.zero_add] at this
  rw [show q = (q.1, vrel ad 0 v) from Prod.ext rfl he]
  exact this
theorem ent_wf {mi : MI} {as : List AV} (h : wfS none as) : wfL none (entL mi as) := by
  intro i v hv
  unfold entL at hv
  rcases Nat.lt_or_ge i as.length with z | z
  · rw [List.getElem?_append_left (by rw [List.length_map]; exact z), List.getElem?_map] at hv
    cases hq2 : as[i]? with
    | none => rw [hq2] at hv; cases hv
    | some w => rw [hq2] at hv; cases hv; exact h _ (List.mem_of_getElem? hq2)
  · rw [List.getElem?_append_right (by rw [List.length_map]; exact z), List.getElem?_replicate] at hv
    split at hv <;> cases hv
theorem met_of_vx {l : Launch} {y : MethodName} {ws : List Cond} {rm : Room} {Pc : Array Value → State → Prop} {Qc : Array Value → State → Outcome → State → Prop} {mc ms : Nat} {free : Addr → Prop} (h : vx_Met l y ws rm Pc Qc (fun _ _ _ => False) mc ms free) : Met l y ws rm Pc Qc mc ms free := by
  intro p e h1 h2 h3 s m args below h4 h5 h6 h7
  obtain ⟨n, o, a1, a2, a3, hQ⟩ := h p e h1 h2 h3 s m args below h4 h5 h6 h7
  refine ⟨n, o, a1, a2, a3, ?_⟩
  rcases hQ with q | ⟨q, -, E, ce, L, hx, -⟩
  · exact q
  · exact hx.elim
/-- a body, by its run -/
theorem body_ok {l : Launch} {L : Nat} {xs : Nat → Int32} {mi : MI} {E : CallT} (hl : l.stackTraces = false) (hMO : ∀ y mi', getN y = some mi' → MOK mi') (ho : MOK mi) (hM : MOKT mi) (hE : EOK l L xs E) {as : List AV} {M : Mem} {O : Int64} {rc : Out} (h1 : ∀ v ∈ as, acat v = 1) (hL : as.length ≤ mi_L mi)
    (hrun : runM shape cps tkT clsY L xs E mi 1000000 0 (entL mi as) M O none 0 0 = some rc) {D : va_G} {cT : Nat → ClassId} {ad : Nat → Nat → Nat} {sz : Nat} (hDD : DD cT ad) (hwas : wfS none as)
    {p : Program} {e : Env} {s : State} {m : MethodId} {args : Array Value} {below : List Frame} {meth : Method} {c : Code} {s₁ : State} (B : BodyLoose p l (mi_y mi) (headSpec (cdW mi :: gTb) (rmOf mi rc.2.2.2.1 rc.2.2.2.2)) (mi_b mi) (mi_L mi) (mi_ret mi) e s m args below meth c s₁) (hml : c.maxLocals = mi_L mi)
    (hTab : c.exceptionTable.toList = tableOf (mi_hh mi)) (hP : PcR D cT ad L xs sz as M O args s) :
    (∀ v M' O' mc ms, rc = (.inl v, M', O', mc, ms) → W p l e (rmOf mi mc ms) s m args below meth c s.heap [] 0 0 (vx_MQ below (QcR D cT ad sz v M' O') (fun _ _ _ => False) args s mc ms (APre ad sz)) (entryFrame m args (mi_L mi))) ∧
    (mi_hh mi = [] → ∀ X M' O' mc ms, rc = (.inr X, M', O', mc, ms) → W p l e (rmOf mi mc ms) s m args below meth c s.heap [] 0 0 (vx_MQ below (fun _ _ _ _ => False) (XcR D cT ad sz X M' O') args s mc ms (APre ad sz)) (entryFrame m args (mi_L mi))) := by
  obtain ⟨rfl, hsz, hP0, hK, hF⟩ := hP
  subst hsz
  obtain ⟨o1, o2, o3, o4, o5, o6⟩ := ho
  have hts := atoms_spec (ws := cdW mi :: gTb) B.pre
  have hown : s.vm.findClass (clsN (mi_cls mi)) = some m.cls := by rw [← o3]; exact findClass_of_methodNamed B.named
  have C : CX p s m (as.map (vrel ad 0)).toArray c D cT ad L xs (APre ad s.heap.size) mi := ⟨B.exec, B.bytes, hml, hown, hts, hK, hF, fun q h => Or.inr h, fun g i hi => Or.inl ⟨g, i, hi, rfl⟩, hDD, o5⟩
  have hwd : WDp D cT ad (APre ad s.heap.size) s.heap 0 M O none s.heap [] := ⟨hP0, hDD.at 0 M O s.heap.size, va_S.rf⟩
  have hc : ∀ w ∈ as.map (vrel ad 0), w.category = 1 := by
    intro w hw
    obtain ⟨u, hu, rfl⟩ := List.mem_map.mp hw
    rw [vrel_cat]
    exact h1 u hu
  have hlen : (lg_sl (as.map (vrel ad 0))).length ≤ mi_L mi := by rw [sl_1 hc, List.length_map]; exact hL
  have hlv := lv_entry (as.map (vrel ad 0)) (n := mi_L mi) hlen
  rw [lg_entry_eq]
  generalize (lg_sl (as.map (vrel ad 0)) ++ List.replicate (mi_L mi - (lg_sl (as.map (vrel ad 0))).length) Slot.unset).toArray = lr at hlv ⊢
  have hLR := ent_LR h1 hL hlv
  refine ⟨fun v M' O' mc ms hrc => ?_, fun hh X M' O' mc ms hrc => ?_⟩
  · subst hrc
    exact run_ok (R := rmOf mi mc ms) C hM hTab hE hMO (Nat.le_refl _) (Nat.le_refl _) ⟨Nat.le_refl _, Nat.le_refl _⟩ (ends_norm C B.returns B.notSynchronized) _ _ _ _ _ _ _ _ hrun 0 lr s.heap [] hLR (ent_wf hwas) (fun v hv => by cases hv) hwd
  · subst hrc
    exact run_ok (R := rmOf mi mc ms) C hM hTab hE hMO (Nat.le_refl _) (Nat.le_refl _) ⟨Nat.le_refl _, Nat.le_refl _⟩ (ends_thr C hM hl hh hTab B.notSynchronized (Nat.le_refl _) (Nat.le_refl _) (Nat.le_refl _) (Nat.le_refl _)) _ _ _ _ _ _ _ _ hrun 0 lr s.heap [] hLR (ent_wf hwas) (fun v hv => by cases hv) hwd
theorem ck_of_run {l : Launch} {L : Nat} {xs : Nat → Int32} {mi : MI} {E : CallT} (hl : l.stackTraces = false) (hMO : ∀ y mi', getN y = some mi' → MOK mi' ∧ MOKT mi') (hE : EOK l L xs E) {y : Nat} (hg : getN y = some mi) {as : List AV} {M : Mem} {O : Int64} {rc : Out} (h1 : ∀ v ∈ as, acat v = 1) (hL : as.length ≤ mi_L mi)
    (hrun : runM shape cps tkT clsY L xs E mi 1000000 0 (entL mi as) M O none 0 0 = some rc) : CK l L xs y as M O rc := by
  intro mi2 hg2 D cT ad sz hDD hwas
  cases Option.some.inj (hg2.symm.trans hg)
  obtain ⟨ho, hM⟩ := hMO y mi hg
  have hMO1 : ∀ y mi', getN y = some mi' → MOK mi' := fun y mi' h => (hMO y mi' h).1
  by_cases hh : mi_hh mi = []
  · have hcode : cdW mi :: gTb = Cond.code (mi_y mi) (mi_b mi) (mi_L mi) (mi_ret mi) :: gTb := by rw [cdW_nil hh]
    have K := fun (p : Program) (e : Env) (s : State) (m : MethodId) (args : Array Value) (below : List Frame) (meth : Method) (c : Code) (s₁ : State) (B : BodyLoose p l (mi_y mi) (headSpec (cdW mi :: gTb) (rmOf mi rc.2.2.2.1 rc.2.2.2.2)) (mi_b mi) (mi_L mi) (mi_ret mi) e s m args below meth c s₁) (hml : c.maxLocals = mi_L mi) (ht : ∀ x ∈ c.exceptionTable.toList, False) (hP : PcR D cT ad L xs sz as M O args s) =>
      body_ok hl hMO1 ho hM hE h1 hL hrun hDD hwas B hml (by rw [hh]; cases q : c.exceptionTable.toList with | nil => rfl | cons a b => exact (ht a (by rw [q]; exact List.mem_cons_self)).elim) hP
    obtain ⟨o, M', O', mc, ms⟩ := rc
    cases o with
    | inl v => exact met_of_vx (vx_ofW ho.2.2.2.1 hcode fun p e s m args below meth c s₁ B hml ht hP => (K p e s m args below meth c s₁ B hml ht hP).1 _ _ _ _ _ rfl)
    | inr X => exact fun _ => vx_ofW ho.2.2.2.1 hcode fun p e s m args below meth c s₁ B hml ht hP => (K p e s m args below meth c s₁ B hml ht hP).2 hh _ _ _ _ _ rfl
  · have hcode : cdW mi :: gTb = Cond.codeWith (mi_y mi) (mi_b mi) (mi_L mi) (mi_ret mi) (mi_hh mi) :: gTb := by rw [cdW_cons rfl hh]
    have K := fun (p : Program) (e : Env) (s : State) (m : MethodId) (args : Array Value) (below : List Frame) (meth : Method) (c : Code) (s₁ : State) (B : BodyLoose p l (mi_y mi) (headSpec (cdW mi :: gTb) (rmOf mi rc.2.2.2.1 rc.2.2.2.2)) (mi_b mi) (mi_L mi) (mi_ret mi) e s m args below meth c s₁) (hml : c.maxLocals = mi_L mi) (hP : PcR D cT ad L xs sz as M O args s) =>
      body_ok hl hMO1 ho hM hE h1 hL hrun hDD hwas B hml (vx_table (x := mi_y mi) B (atoms_spec (ws := cdW mi :: gTb) B.pre _ (by rw [hcode]; exact List.mem_cons_self))) hP
    obtain ⟨o, M', O', mc, ms⟩ := rc
    cases o with
    | inl v => exact met_of_vx (vx_ofWH ho.2.2.2.1 hcode fun p e s m args below meth c s₁ B hml hP => (K p e s m args below meth c s₁ B hml hP).1 _ _ _ _ _ rfl)
    | inr X => exact fun q => absurd q hh
/-- THE EXECUTOR IS SOUND, at every depth -/
theorem ex_ok {l : Launch} {L : Nat} {xs : Nat → Int32} (hl : l.stackTraces = false) (hMO : ∀ y mi', getN y = some mi' → MOK mi' ∧ MOKT mi') : ∀ d, EOK l L xs (EX L xs d) := by
  intro d
  induction d with
  | zero => intro y as M O rc h; cases h
  | succ d ih =>
    intro y as M O rc h
    have h : (bif Nat.ble 900 y then intr shape strs y as M O else (match getN y with
      | none => none
      | some mi => bif as.all (fun v => Nat.beq (acat v) 1) && Nat.ble as.length (mi_L mi) then runM shape cps tkT clsY L xs (EX L xs d) mi 1000000 0 (entL mi as) M O none 0 0 else none)) = some rc := h
    rcases Nat.lt_or_ge y 900 with hy | hy
    · rw [ble_f hy] at h
      simp only [cond_false] at h
      split at h
      · cases h
      · rename_i mi hg
        cases hb : (as.all (fun v => Nat.beq (acat v) 1) && Nat.ble as.length (mi_L mi)) with
        | false => rw [hb] at h; cases h
        | true =>
          rw [hb] at h
          simp only [cond_true] at h
          simp only [Bool.and_eq_true, Nat.ble_eq, List.all_eq_true, Nat.beq_eq] at hb
          have hE3 : ∀ y as M O o, EX L xs d y as M O = some o → ∀ X, o.1 = .inr X → X < 3 := fun y as M O o ho => (ih y as M O o ho).2.2
          exact ⟨fun q => absurd q (by omega), fun _ => ⟨⟨mi, hg⟩, ck_of_run hl hMO ih hg hb.1 hb.2 h⟩, (run_po (hMO y mi hg).1.2.2.2.2.1 hE3 _ _ _ _ _ _ _ _ h).2.2⟩
    · rw [ble_t hy] at h
      simp only [cond_true] at h
      obtain ⟨v, M', O', rfl⟩ := intr_norm h
      exact ⟨fun _ => h, fun q => absurd q (by omega), fun X hX => by cases hX⟩
