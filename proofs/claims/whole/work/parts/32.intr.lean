/-! The JDK's single steps. -/
theorem cps_I {cls : Nat} (h : cls < 10) : ∀ q ∈ (cps cls).2.1, iOK cls q := by
  match cls, h with
  | 0, _ => exact cls_I_0
  | 1, _ => exact cls_I_1
  | 2, _ => exact cls_I_2
  | 3, _ => exact cls_I_3
  | 4, _ => exact cls_I_4
  | 5, _ => exact cls_I_5
  | 6, _ => exact cls_I_6
  | 7, _ => exact cls_I_7
  | 8, _ => exact cls_I_8
  | 9, _ => exact cls_I_9
theorem i32_nlt {x : Int32} (h : 0 ≤ x.toInt) : ¬ x < 0 := by
  intro q
  have := Int32.lt_iff_toInt_lt.mp q
  have h0 : (0 : Int32).toInt = 0 := rfl
  omega
theorem st_93 : ∀ k, k < 56 → ((str_93.getD k 0 &&& 255).toUInt32 % 65536).toInt32 = str_93.getD k 0 ∧ narrow .char (.int (str_93.getD k 0)) = .int (str_93.getD k 0) := by decide +kernel
theorem st_94 : ∀ k, k < 23 → ((str_94.getD k 0 &&& 255).toUInt32 % 65536).toInt32 = str_94.getD k 0 ∧ narrow .char (.int (str_94.getD k 0)) = .int (str_94.getD k 0) := by decide +kernel
theorem strs_two {g : Nat} {tx : List Int32} (hg : strs g = some tx) : (g = 93 ∧ tx = str_93) ∨ (g = 94 ∧ tx = str_94) := by
  unfold strs at hg
  split at hg
  · cases hg; exact Or.inl ⟨rfl, rfl⟩
  · cases hg; exact Or.inr ⟨rfl, rfl⟩
  · cases hg
section C5
variable {p : Program} {l : Launch} {e : Env} {R : Room} {s : State} {m : MethodId} {args : Array Value} {below : List Frame} {meth : Method} {c : Code} {H : Heap} {locs : List Loc} {c1 s1 : Nat} {Q : State → Prop} {lr : Array Slot} {pc n : Nat}
  {D : va_G} {cT : Nat → ClassId} {ad : Nat → Nat → Nat} {A : Nat → Prop} {t nL L : Nat} {xs : Nat → Int32} {mi mi' : MI} {M M' : Mem} {O O' : Int64} {T : Tmp} {as rest : List AV} {y mc ms kd na : Nat} {v : Option AV} {X : Nat}
/-- a text's length -/
theorem str_len (C : CX p s m args c D cT ad L xs A mi) (hwd : WDp D cT ad A s.heap t M O T H locs) (hl : Cond.methodLink (clsN (mi_cls mi)) n yJ0_length_8abf5 ∈ gTb) {g : Nat} {tx : List Int32} (hg : strs g = some tx) (hst : lr.size = mi_L mi) (hrest : (rest.map acat).sum ≤ 8) (hRf : 4 ≤ R.frames) (hRl : 120 ≤ R.locals) (hcs : c1 ≤ R.cells ∧ s1 ≤ R.slots)
    (hd : decode (mi_b mi) pc = .ok (.invokevirtual n, 3))
    (kk : ∀ H1 locs1, WDp D cT ad A s.heap t M O T H1 locs1 → W p l e R s m args below meth c H1 locs1 c1 s1 Q (F0 m (pc + 3) lr (.int (Int32.ofNat tx.length) :: rest.map (vrel ad t)))) :
    W p l e R s m args below meth c H locs c1 s1 Q (F0 m pc lr (.ref (ad g 0) :: rest.map (vrel ad t))) := by
  have C' := C
  obtain ⟨hx, hb, hml, hown, hts, hK, hF, hA, hAA, hDD, hcl⟩ := C
  obtain ⟨adV, hV, hs1, hs2⟩ := hF.2.2.2.1
  rcases strs_two hg with ⟨rfl, rfl⟩ | ⟨rfl, rfl⟩
  · have hT : sA A (ad 93 0) (adV 0) 56 (fun j => str_93.getD j 0) s s.heap := ⟨(hV.1 0 (by decide)).1, (hV.1 0 (by decide)).2.1, (hV.1 0 (by decide)).2.2.1, (hV.1 0 (by decide)).2.2.2, hs1, hs2⟩
    refine s_virt (As := []) (rest := rest.map (vrel ad t)) (nL := mi_L mi) hx hb hml hown hts hT (k_length l _ _ _ _) ws_len_c hl ws_len_i ws_len_s rfl (by decide +kernel) ⟨by omega, by omega⟩ hst (by rw [cat_sum]; exact hrest) hcs hd hwd.2.2 (fun H1 locs1 hz hk hS1 => ?_)
    exact kk H1 locs1 ⟨hwd.1.kept (fun k q hq => hk _ ((hwd.1 k q hq).lt)), hwd.2.1, hS1⟩
  · have hT : sA A (ad 94 0) (adV 1) 23 (fun j => str_94.getD j 0) s s.heap := ⟨(hV.1 1 (by decide)).1, (hV.1 1 (by decide)).2.1, (hV.1 1 (by decide)).2.2.1, (hV.1 1 (by decide)).2.2.2, hs1, hs2⟩
    refine s_virt (As := []) (rest := rest.map (vrel ad t)) (nL := mi_L mi) hx hb hml hown hts hT (k_length l _ _ _ _) ws_len_c hl ws_len_i ws_len_s rfl (by decide +kernel) ⟨by omega, by omega⟩ hst (by rw [cat_sum]; exact hrest) hcs hd hwd.2.2 (fun H1 locs1 hz hk hS1 => ?_)
    exact kk H1 locs1 ⟨hwd.1.kept (fun k q hq => hk _ ((hwd.1 k q hq).lt)), hwd.2.1, hS1⟩
/-- a text's sign at a place -/
theorem str_at (C : CX p s m args c D cT ad L xs A mi) (hwd : WDp D cT ad A s.heap t M O T H locs) (hl : Cond.methodLink (clsN (mi_cls mi)) n yJ0_charAt_5068e ∈ gTb) {g : Nat} {tx : List Int32} (hg : strs g = some tx) {j : Int32} (hj : 0 ≤ j.toInt ∧ j.toInt < (tx.length : Int)) (hst : lr.size = mi_L mi) (hrest : (rest.map acat).sum ≤ 8) (hRf : 4 ≤ R.frames) (hRl : 120 ≤ R.locals) (hcs : c1 ≤ R.cells ∧ s1 ≤ R.slots)
    (hd : decode (mi_b mi) pc = .ok (.invokevirtual n, 3))
    (kk : ∀ H1 locs1, WDp D cT ad A s.heap t M O T H1 locs1 → W p l e R s m args below meth c H1 locs1 c1 s1 Q (F0 m (pc + 3) lr (.int (tx.getD j.toNatClampNeg 0) :: rest.map (vrel ad t)))) :
    W p l e R s m args below meth c H locs c1 s1 Q (F0 m pc lr (.int j :: .ref (ad g 0) :: rest.map (vrel ad t))) := by
  obtain ⟨hx, hb, hml, hown, hts, hK, hF, hA, hAA, hDD, hcl⟩ := C
  obtain ⟨adV, hV, hs1, hs2⟩ := hF.2.2.2.1
  rcases strs_two hg with ⟨rfl, rfl⟩ | ⟨rfl, rfl⟩
  · have hT : sA A (ad 93 0) (adV 0) 56 (fun j => str_93.getD j 0) s s.heap := ⟨(hV.1 0 (by decide)).1, (hV.1 0 (by decide)).2.1, (hV.1 0 (by decide)).2.2.1, (hV.1 0 (by decide)).2.2.2, hs1, hs2⟩
    have hj2 : j.toInt < 56 := hj.2
    have hjn : j.toNatClampNeg < 56 := by
      show j.toInt.toNat < 56
      omega
    have hj1 : j < Int32.ofNat 56 := Int32.lt_iff_toInt_lt.mpr hj2
    refine s_virt (As := [.int j]) (rest := rest.map (vrel ad t)) (nL := mi_L mi) hx hb hml hown hts hT (k_charAt l _ _ _ _ j (str_93.getD j.toNatClampNeg 0) (i32_nlt hj.1) hj1 hjn (st_93 _ hjn).1 (st_93 _ hjn).2) ws_cha_c hl ws_cha_i ws_cha_s rfl pd_cha ⟨by omega, by omega⟩ hst (by rw [cat_sum]; exact hrest) hcs hd hwd.2.2 (fun H1 locs1 hz hk hS1 => ?_)
    exact kk H1 locs1 ⟨hwd.1.kept (fun k q hq => hk _ ((hwd.1 k q hq).lt)), hwd.2.1, hS1⟩
  · have hT : sA A (ad 94 0) (adV 1) 23 (fun j => str_94.getD j 0) s s.heap := ⟨(hV.1 1 (by decide)).1, (hV.1 1 (by decide)).2.1, (hV.1 1 (by decide)).2.2.1, (hV.1 1 (by decide)).2.2.2, hs1, hs2⟩
    have hj2 : j.toInt < 23 := hj.2
    have hjn : j.toNatClampNeg < 23 := by
      show j.toInt.toNat < 23
      omega
    have hj1 : j < Int32.ofNat 23 := Int32.lt_iff_toInt_lt.mpr hj2
    refine s_virt (As := [.int j]) (rest := rest.map (vrel ad t)) (nL := mi_L mi) hx hb hml hown hts hT (k_charAt l _ _ _ _ j (str_94.getD j.toNatClampNeg 0) (i32_nlt hj.1) hj1 hjn (st_94 _ hjn).1 (st_94 _ hjn).2) ws_cha_c hl ws_cha_i ws_cha_s rfl pd_cha ⟨by omega, by omega⟩ hst (by rw [cat_sum]; exact hrest) hcs hd hwd.2.2 (fun H1 locs1 hz hk hS1 => ?_)
    exact kk H1 locs1 ⟨hwd.1.kept (fun k q hq => hk _ ((hwd.1 k q hq).lt)), hwd.2.1, hS1⟩
theorem vrel_s {g i : Nat} {tx : List Int32} (hg : strs g = some tx) (h : wfV none (.inr (.inr (g, i)))) : vrel ad t (.inr (.inr (g, i))) = .ref (ad g 0) := by
  have h9 : g = 93 ∨ g = 94 := by
    unfold strs at hg
    split at hg
    · exact Or.inl rfl
    · exact Or.inr rfl
    · cases hg
  have hi : i = 0 := by
    rcases h with h | ⟨-, -, h⟩ | ⟨-, h⟩
    · have := cnt_lt h
      omega
    · cases h
    · exact h
  subst hi
  show Value.ref (if g = 90 then t else ad g 0) = _
  rw [if_neg (by omega)]
set_option maxHeartbeats 2000000 in
theorem intr_ok (C : CX p s m args c D cT ad L xs A mi) (hwd : WDp D cT ad A s.heap t M O T H locs) (hio : iOK (mi_cls mi) (n, kd, y, na)) (h900 : 900 ≤ y) {rc : Out} (hi : intr shape strs y as M O = some rc) (hw : ∀ v ∈ as, wfV none v) (hst : lr.size = mi_L mi) (hrest : (rest.map acat).sum ≤ 8) (hRf : 4 ≤ R.frames) (hRl : 120 ≤ R.locals) (hcs : c1 ≤ R.cells ∧ s1 ≤ R.slots)
    (hd : (kd < 2 ∧ decode (mi_b mi) pc = .ok (.invokevirtual n, 3)) ∨ (2 ≤ kd ∧ decode (mi_b mi) pc = .ok (.invokestatic n, 3)))
    (kk : ∀ v M' O' H1 locs1, rc = (.inl v, M', O', 0, 0) → wfO v → WDp D cT ad A s.heap t M' O' T H1 locs1 → W p l e R s m args below meth c H1 locs1 c1 s1 Q (F0 m (pc + 3) lr ((v.map (vrel ad t)).toList ++ rest.map (vrel ad t)))) :
    W p l e R s m args below meth c H locs c1 s1 Q (F0 m pc lr ((as.reverse ++ rest).map (vrel ad t))) := by
  have C' := C
  obtain ⟨hx, hb, hml, hown, hts, hK, hF, hA, hAA, hDD, hcl⟩ := C
  have hml' : c.maxLocals = lr.size := by rw [hml, hst]
  replace hio := hio h900
  have hin : ∀ w ∈ gTb, w.before args s = true := fun w h => hts w (List.mem_cons_of_mem _ h)
  have hloc : ∀ k : Nat, k ≤ 112 → ((rest.map (vrel ad t)).map fun v => v.category).sum + k ≤ R.locals := fun k hk => by rw [cat_sum]; omega
  unfold intr at hi
  split at hi
  · rename_i g i
    obtain ⟨k0, -, k2⟩ := hio
    split at hi
    · rename_i tx htx
      cases hi
      have hdv : decode (mi_b mi) pc = .ok (.invokevirtual n, 3) := by
        rcases hd with q | q
        · exact q.2
        · exact absurd q.1 (by have : kd = 0 := k0; omega)
      show W p l e R s m args below meth c H locs c1 s1 Q (F0 m pc lr (vrel ad t (.inr (.inr (g, i))) :: rest.map (vrel ad t)))
      rw [vrel_s htx (hw _ List.mem_cons_self)]
      exact str_len C' hwd k2 htx hst hrest hRf hRl hcs hdv (fun H1 locs1 h1 => kk (some (.inl _)) _ _ H1 locs1 rfl (fun w hw => by cases hw; trivial) h1)
    · cases hi
  · rename_i g i j
    obtain ⟨k0, -, k2⟩ := hio
    split at hi
    · rename_i tx htx
      split at hi
      · rename_i hj
        cases hi
        have hdv : decode (mi_b mi) pc = .ok (.invokevirtual n, 3) := by
          rcases hd with q | q
          · exact q.2
          · exact absurd q.1 (by have : kd = 0 := k0; omega)
        show W p l e R s m args below meth c H locs c1 s1 Q (F0 m pc lr (.int j :: vrel ad t (.inr (.inr (g, i))) :: rest.map (vrel ad t)))
        rw [vrel_s htx (hw _ List.mem_cons_self)]
        exact str_at C' hwd k2 htx hj hst hrest hRf hRl hcs hdv (fun H1 locs1 h1 => kk (some (.inl _)) _ _ H1 locs1 rfl (fun w hw => by cases hw; trivial) h1)
      · cases hi
    · cases hi
  · rename_i g i sp g' i' dp nn
    obtain ⟨k0, -, k2⟩ := hio
    split at hi
    · rename_i n0 n1 hsh hsh'
      cases hlt : Nat.blt g 90 && Nat.blt g' 90 with
      | false => rw [hlt] at hi; cases hi
      | true =>
        rw [hlt] at hi
        simp only [cond_true] at hi
        simp only [Bool.and_eq_true, Nat.blt_eq] at hlt
        split at hi
        · rename_i hc
          cases hi
          have hds : decode (mi_b mi) pc = .ok (.invokestatic n, 3) := by
            rcases hd with q | q
            · exact absurd q.1 (by have : kd = 2 := k0; omega)
            · exact q.2
          have hi1 : i < cnt g := okR_arr (T := none) (hw (.inr (.inr (g, i))) (by simp)) hsh (by omega) (by omega) (by omega)
          have hi2 : i' < cnt g' := okR_arr (T := none) (hw (.inr (.inr (g', i'))) (by simp)) hsh' (by omega) (by omega) (by omega)
          show W p l e R s m args below meth c H locs c1 s1 Q (F0 m pc lr (.int nn :: .int dp :: vrel ad t (.inr (.inr (g', i'))) :: .int sp :: vrel ad t (.inr (.inr (g, i))) :: rest.map (vrel ad t)))
          rw [vrel_n (cnt_lt hi1), vrel_n (cnt_lt hi2)]
          obtain ⟨q0, -, he0⟩ := ws_at (cT := cT) (ad := ad) (t := t) (M := M) (O := O) (T := T) hi1
          obtain ⟨q1, hq1, he1⟩ := ws_at (cT := cT) (ad := ad) (t := t) (M := M) (O := O) (T := T) hi2
          rw [wc_i hsh] at he0
          rw [wc_i hsh'] at he1
          have ht1 : ∀ z : Int32, z.toNatClampNeg = z.toInt.toNat := fun z => rfl
          refine va_copyi hx hb hml' hown (hin _ k2) (hin _ wnt_cpy) (hin _ wst_cpy) (hin _ win_sys) hK hwd.1 hwd.2.1 hwd.2.2 q0 q1 0 0 he0 he1 rfl rfl rfl (i32_nlt hc.1) (i32_nlt hc.2.1) (i32_nlt hc.2.2.1) (by rw [ht1, ht1]; omega) (by rw [ht1, ht1]; omega) (fun _ _ => rfl) (by omega) (hloc _ (by decide)) hds (fun H1 locs1 h1 h2 h3 => ?_)
          have hw' : wcell cT ad (mrow M g' i' (va_cpy (M g i) (M g' i') sp.toNatClampNeg dp.toNatClampNeg nn.toNatClampNeg)) O g' i' = .inl (cT 0, n1, .inl (va_cpy (M g i) (M g' i') sp.toNatClampNeg dp.toNatClampNeg nn.toNatClampNeg)) := by
            rw [wc_i hsh', mrow_eq]
          rw [ws_set (M' := mrow M g' i' (va_cpy (M g i) (M g' i') sp.toNatClampNeg dp.toNatClampNeg nn.toNatClampNeg)) (O' := O) hq1 (fun g' i' h => wcell_cong (mrow_ne h)) hw'.symm] at h1 h2
          exact kk none _ _ H1 locs1 rfl (fun w hw => by cases hw) ⟨h1, h2, h3⟩
        · cases hi
    · cases hi
  · rename_i x y'
    obtain ⟨k0, -, k2⟩ := hio
    cases hi
    have hds : decode (mi_b mi) pc = .ok (.invokestatic n, 3) := by
      rcases hd with q | q
      · exact absurd q.1 (by have : kd = 2 := k0; omega)
      · exact q.2
    exact va_mmax hx hb hml' hown (hin _ k2) (hin _ wst_max) (hin _ win_math) (hin _ wcd_max) (by omega) (hloc 13 (by decide)) hcs.1 hcs.2 hds (kk (some (.inl _)) _ _ H locs rfl (fun w hw => by cases hw; trivial) hwd)
  · rename_i x y'
    obtain ⟨k0, -, k2⟩ := hio
    cases hi
    have hds : decode (mi_b mi) pc = .ok (.invokestatic n, 3) := by
      rcases hd with q | q
      · exact absurd q.1 (by have : kd = 2 := k0; omega)
      · exact q.2
    exact va_mmin hx hb hml' hown (hin _ k2) (hin _ wst_min) (hin _ win_math) (hin _ wcd_min) (by omega) (hloc 13 (by decide)) hcs.1 hcs.2 hds (kk (some (.inl _)) _ _ H locs rfl (fun w hw => by cases hw; trivial) hwd)
  · rename_i x
    obtain ⟨k0, -, k2⟩ := hio
    cases hi
    have hds : decode (mi_b mi) pc = .ok (.invokestatic n, 3) := by
      rcases hd with q | q
      · exact absurd q.1 (by have : kd = 2 := k0; omega)
      · exact q.2
    exact va_mabs hx hb hml' hown (hin _ k2) (hin _ wst_abs) (hin _ win_math) (hin _ wcd_abs) (by omega) (hloc _ (by decide)) hcs.1 hcs.2 hds (kk (some (.inl _)) _ _ H locs rfl (fun w hw => by cases hw; trivial) hwd)
  · cases hi
end C5
