section S5
variable {p : Program} {l : Launch} {e : Env} {R : Room} {s : State} {m : MethodId} {args : Array Value} {below : List Frame} {meth : Method} {c : Code} {Q : State → Prop} {cc : ByteArray}
  {D : va_G} {cT : Nat → ClassId} {ad : Nat → Nat → Nat} {A : Nat → Prop} {cls nL pc L : Nat} {xs : Nat → Int32} {k : RecT} {r : Out} {ls : Lcs} {st : List AV} {M : Mem} {O : Int64} {T : Tmp} {c1 s1 : Nat}
set_option maxHeartbeats 4000000 in
theorem sH_lastore  (hx : p.tables.exec = Jvm.exec) (hb : c.code = cc) (hown : s.vm.findClass (clsN cls) = some m.cls) (hcl : cls < 10) (hts : ∀ w ∈ gTb, w.before args s = true) (hn : ∀ w ∈ nTb, w.before args s = true) (hK : va_K D vwCl (tysT cT) s)
    (hai : (Cond.arrayClass .int).before args s = true)
    (hX : va_X (ad 91 0) L xs s s.heap) (hbl : ad 91 0 < s.heap.size) (hbA : ¬ A (ad 91 0)) (hG : va_T .int (ad 92 0) 4 (fun j => .int (geats j)) A s s.heap) (hA : ∀ q, s.heap.size ≤ q → A q)
    (hk : ∀ pc ls st M O T c1 s1, k pc ls st M O T c1 s1 = some r → Good (WG p l e R s m args below meth c Q) m (WDp D cT ad A s.heap) ad nL pc ls st M O T c1 s1)
    (hmo : ∀ pc ls st M O T c1 s1, k pc ls st M O T c1 s1 = some r → c1 ≤ R.cells ∧ s1 ≤ R.slots)
    (hd : decode cc pc = .ok (.lastore, ilen (.lastore))) (h : stepH shape L xs (cps cls) (.lastore) k pc ls st M O T c1 s1 = some r) : Good (WG p l e R s m args below meth c Q) m (WDp D cT ad A s.heap) ad nL pc ls st M O T c1 s1 := by
  intro t lr H locs hl hwl hws hwd
  simp only [stepH] at h
  split at h
  · rename_i x j g i st'
    split at h
    · rename_i n0 hsh
      split at h
      · rename_i hj
        subst hj
        obtain ⟨-, -, h83, hn1⟩ := shp_arr hsh
        have hn1 := hn1 rfl
        have h83 := h83.mp rfl
        subst hn1
        have hi := okR_arr hws.tl.tl.hd hsh (by rintro rfl; cases hsh) (by rintro rfl; cases hsh) (by rintro rfl; cases hsh)
        simp only [WG, List.map_cons]
        rw [vrel_n (cnt_lt hi)]
        obtain ⟨q0, hq, he⟩ := ws_at (cT := cT) (ad := ad) (t := t) (M := M) (O := O) (T := T) hi
        have hw := wc_l (cT := cT) (ad := ad) (M := M) (O := O) (i := i) hsh
        rw [hw] at he
        refine va_last hx hb hK hwd.1 hwd.2.1 hwd.2.2 q0 2 he rfl (vp_in_iff.mpr (by decide)) hd (fun H1 locs1 h1 h2 h3 => ?_)
        have hi0 : i = 0 := by subst h83; have : i < 1 := hi; omega
        have hset : (wsA cT ad t M O T).set q0 (ad g i, .inl (cT 2, 1, .inr (.inl (fun _ => x)))) = wsA cT ad t M x T := by
          refine ws_setP hq (fun g' i' hlt hne => ?_) (by rw [wc_l hsh])
          unfold wcell
          split
          · rfl
          · rename_i hsh'
            obtain ⟨-, -, h83', -⟩ := shp_arr hsh'
            have h83' := h83'.mp rfl
            subst h83'
            have hlt' : i' < 1 := hlt
            exact absurd (by rw [h83, hi0, show i' = 0 by omega]) hne
          · rfl
          · rfl
        have hP1 : va_P D vwCl (wsA cT ad t M x T) H1 := by
          rw [← hset]
          intro kq q hq2
          by_cases e : q0 = kq
          · subst e
            rw [List.getElem?_set_self (by exact (List.getElem?_eq_some_iff.mp he).1)] at hq2
            cases hq2
            have hv := h1 q0 _ (by rw [List.getElem?_set_self (by exact (List.getElem?_eq_some_iff.mp he).1)])
            show H1[ad g i]? = some (vp_cell (cT 2) (1, .inr (.inl (fun _ => x))))
            rw [show H1[ad g i]? = some (vp_cell (cT 2) (1, .inr (.inl (vp_updL (fun _ => O) (0 : Int32).toNatClampNeg x)))) from hv]
            congr 1
          · refine h1 kq q ?_
            rw [List.getElem?_set_ne e] at hq2 ⊢
            exact hq2
        exact hk _ _ _ _ _ _ _ _ h t lr H1 locs1 hl hwl hws.tl.tl.tl ⟨hP1, va_D_fst hwd.2.1 (ws_fst _ _ _ _ _ _ _ _), h3⟩
      · cases h
    · cases h
  · cases h
set_option maxHeartbeats 4000000 in
theorem sH_newarray {aty : ArrayType} (hx : p.tables.exec = Jvm.exec) (hb : c.code = cc) (hown : s.vm.findClass (clsN cls) = some m.cls) (hcl : cls < 10) (hts : ∀ w ∈ gTb, w.before args s = true) (hn : ∀ w ∈ nTb, w.before args s = true) (hK : va_K D vwCl (tysT cT) s)
    (hai : (Cond.arrayClass .int).before args s = true)
    (hX : va_X (ad 91 0) L xs s s.heap) (hbl : ad 91 0 < s.heap.size) (hbA : ¬ A (ad 91 0)) (hG : va_T .int (ad 92 0) 4 (fun j => .int (geats j)) A s s.heap) (hA : ∀ q, s.heap.size ≤ q → A q)
    (hk : ∀ pc ls st M O T c1 s1, k pc ls st M O T c1 s1 = some r → Good (WG p l e R s m args below meth c Q) m (WDp D cT ad A s.heap) ad nL pc ls st M O T c1 s1)
    (hmo : ∀ pc ls st M O T c1 s1, k pc ls st M O T c1 s1 = some r → c1 ≤ R.cells ∧ s1 ≤ R.slots)
    (hd : decode cc pc = .ok (.newarray aty, ilen (.newarray aty))) (h : stepH shape L xs (cps cls) (.newarray aty) k pc ls st M O T c1 s1 = some r) : Good (WG p l e R s m args below meth c Q) m (WDp D cT ad A s.heap) ad nL pc ls st M O T c1 s1 := by
  intro t lr H locs hl hwl hws hwd
  cases aty
  all_goals first
    | exact nomatch (show (none : Res) = some r from h)
    | skip
  simp only [stepH] at h
  split at h
  · rename_i n st'
    split at h
    · rename_i hn8
      subst hn8
      have hR := hmo _ _ _ _ _ _ _ _ h
      simp only [WG, List.map_cons]
      refine va_newa (atype := .int) (ty := .int) (N' := 8) (a0 := (8, .inl (fun _ => 0))) hx hb hai rfl hK hwd.1 hwd.2.1 hwd.2.2 hA (fun cA => rfl) (by decide) rfl (by decide) hR.1 hR.2 hd (fun q cA H1 hK1 h1 h2 h3 => ?_)
      have hcA : cA = cT 0 := by
        have e1 : s.vm.findClass ("[" ++ FieldType.int.toString) = some cA := (hK1.2 6 (cA, .int) rfl).2
        have e2 : s.vm.findClass ("[" ++ FieldType.int.toString) = some (cT 0) := (hK.2 0 (cT 0, .int) rfl).2
        exact Option.some.inj (e1.symm.trans e2)
      subst hcA
      have hws' : wsA cT ad t M O none ++ [(q, .inl (cT 0, 8, .inl (fun _ => 0)))] = wsA cT ad q M O (some fun _ => 0) := by
        unfold wsA
        show (wsP cT ad M O ++ []) ++ _ = _
        rw [List.append_nil]
        rfl
      rw [hws'] at h1 h2
      have K := hk _ _ _ _ _ _ _ _ h q lr H1 locs (hl.to_t hwl) (fun a b ab => (hwl a b ab).up) (wfS.cons (v := .inr (.inr (90, 0))) (Or.inr (Or.inl ⟨rfl, rfl, rfl⟩)) (fun a ab => (hws.tl a ab).up)) ⟨h1, h2, h3⟩
      simp only [WG, List.map_cons] at K
      rw [map_t (t := t) (q := q) hws.tl]
      exact K
    · cases h
  · cases h
set_option maxHeartbeats 4000000 in
theorem sH_idiv  (hx : p.tables.exec = Jvm.exec) (hb : c.code = cc) (hown : s.vm.findClass (clsN cls) = some m.cls) (hcl : cls < 10) (hts : ∀ w ∈ gTb, w.before args s = true) (hn : ∀ w ∈ nTb, w.before args s = true) (hK : va_K D vwCl (tysT cT) s)
    (hai : (Cond.arrayClass .int).before args s = true)
    (hX : va_X (ad 91 0) L xs s s.heap) (hbl : ad 91 0 < s.heap.size) (hbA : ¬ A (ad 91 0)) (hG : va_T .int (ad 92 0) 4 (fun j => .int (geats j)) A s s.heap) (hA : ∀ q, s.heap.size ≤ q → A q)
    (hk : ∀ pc ls st M O T c1 s1, k pc ls st M O T c1 s1 = some r → Good (WG p l e R s m args below meth c Q) m (WDp D cT ad A s.heap) ad nL pc ls st M O T c1 s1)
    (hmo : ∀ pc ls st M O T c1 s1, k pc ls st M O T c1 s1 = some r → c1 ≤ R.cells ∧ s1 ≤ R.slots)
    (hd : decode cc pc = .ok (.idiv, ilen (.idiv))) (h : stepH shape L xs (cps cls) (.idiv) k pc ls st M O T c1 s1 = some r) : Good (WG p l e R s m args below meth c Q) m (WDp D cT ad A s.heap) ad nL pc ls st M O T c1 s1 := by
  intro t lr H locs hl hwl hws hwd
  simp only [stepH] at h
  split at h
  · split at h
    · cases h
    · rename_i hne
      exact lv_idiv hx hb hd hne (hk _ _ _ _ _ _ _ _ h t lr H locs hl hwl (wfS.cons (v := .inl _) trivial hws.tl.tl) hwd)
  · cases h
set_option maxHeartbeats 4000000 in
theorem sH_irem  (hx : p.tables.exec = Jvm.exec) (hb : c.code = cc) (hown : s.vm.findClass (clsN cls) = some m.cls) (hcl : cls < 10) (hts : ∀ w ∈ gTb, w.before args s = true) (hn : ∀ w ∈ nTb, w.before args s = true) (hK : va_K D vwCl (tysT cT) s)
    (hai : (Cond.arrayClass .int).before args s = true)
    (hX : va_X (ad 91 0) L xs s s.heap) (hbl : ad 91 0 < s.heap.size) (hbA : ¬ A (ad 91 0)) (hG : va_T .int (ad 92 0) 4 (fun j => .int (geats j)) A s s.heap) (hA : ∀ q, s.heap.size ≤ q → A q)
    (hk : ∀ pc ls st M O T c1 s1, k pc ls st M O T c1 s1 = some r → Good (WG p l e R s m args below meth c Q) m (WDp D cT ad A s.heap) ad nL pc ls st M O T c1 s1)
    (hmo : ∀ pc ls st M O T c1 s1, k pc ls st M O T c1 s1 = some r → c1 ≤ R.cells ∧ s1 ≤ R.slots)
    (hd : decode cc pc = .ok (.irem, ilen (.irem))) (h : stepH shape L xs (cps cls) (.irem) k pc ls st M O T c1 s1 = some r) : Good (WG p l e R s m args below meth c Q) m (WDp D cT ad A s.heap) ad nL pc ls st M O T c1 s1 := by
  intro t lr H locs hl hwl hws hwd
  simp only [stepH] at h
  split at h
  · split at h
    · cases h
    · rename_i hne
      exact lv_irem hx hb hd hne (hk _ _ _ _ _ _ _ _ h t lr H locs hl hwl (wfS.cons (v := .inl _) trivial hws.tl.tl) hwd)
  · cases h
set_option maxHeartbeats 4000000 in
theorem stepH_ok (hx : p.tables.exec = Jvm.exec) (hb : c.code = cc) (hown : s.vm.findClass (clsN cls) = some m.cls) (hcl : cls < 10) (hts : ∀ w ∈ gTb, w.before args s = true) (hn : ∀ w ∈ nTb, w.before args s = true) (hK : va_K D vwCl (tysT cT) s)
    (hai : (Cond.arrayClass .int).before args s = true)
    (hX : va_X (ad 91 0) L xs s s.heap) (hbl : ad 91 0 < s.heap.size) (hbA : ¬ A (ad 91 0)) (hG : va_T .int (ad 92 0) 4 (fun j => .int (geats j)) A s s.heap) (hA : ∀ q, s.heap.size ≤ q → A q)
    (hk : ∀ pc ls st M O T c1 s1, k pc ls st M O T c1 s1 = some r → Good (WG p l e R s m args below meth c Q) m (WDp D cT ad A s.heap) ad nL pc ls st M O T c1 s1)
    (hmo : ∀ pc ls st M O T c1 s1, k pc ls st M O T c1 s1 = some r → c1 ≤ R.cells ∧ s1 ≤ R.slots)
    {i : Instr} (hfam : fam i = 1) (hd : decode cc pc = .ok (i, ilen i)) (h : stepH shape L xs (cps cls) i k pc ls st M O T c1 s1 = some r) : Good (WG p l e R s m args below meth c Q) m (WDp D cT ad A s.heap) ad nL pc ls st M O T c1 s1 := by
  cases i
  all_goals first
    | exact absurd (show (0 : Nat) = 1 from hfam) (by decide)
    | exact absurd (show (2 : Nat) = 1 from hfam) (by decide)
    | exact absurd (show (3 : Nat) = 1 from hfam) (by decide)
    | exact absurd (show (4 : Nat) = 1 from hfam) (by decide)
    | skip
  case getfield n => exact sH_getfield hx hb hown hcl hts hn hK hai hX hbl hbA hG hA hk hmo hd h
  case putfield n => exact sH_putfield hx hb hown hcl hts hn hK hai hX hbl hbA hG hA hk hmo hd h
  case arraylength => exact sH_arraylength hx hb hown hcl hts hn hK hai hX hbl hbA hG hA hk hmo hd h
  case iaload => exact sH_iaload hx hb hown hcl hts hn hK hai hX hbl hbA hG hA hk hmo hd h
  case baload => exact sH_baload hx hb hown hcl hts hn hK hai hX hbl hbA hG hA hk hmo hd h
  case aaload => exact sH_aaload hx hb hown hcl hts hn hK hai hX hbl hbA hG hA hk hmo hd h
  case laload => exact sH_laload hx hb hown hcl hts hn hK hai hX hbl hbA hG hA hk hmo hd h
  case iastore => exact sH_iastore hx hb hown hcl hts hn hK hai hX hbl hbA hG hA hk hmo hd h
  case bastore => exact sH_bastore hx hb hown hcl hts hn hK hai hX hbl hbA hG hA hk hmo hd h
  case lastore => exact sH_lastore hx hb hown hcl hts hn hK hai hX hbl hbA hG hA hk hmo hd h
  case newarray aty => exact sH_newarray hx hb hown hcl hts hn hK hai hX hbl hbA hG hA hk hmo hd h
  case idiv => exact sH_idiv hx hb hown hcl hts hn hK hai hX hbl hbA hG hA hk hmo hd h
  case irem => exact sH_irem hx hb hown hcl hts hn hK hai hX hbl hbA hG hA hk hmo hd h
end S5
