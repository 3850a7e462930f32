/-! Static calls; calls that throw. -/
section C4
variable {p : Program} {l : Launch} {e : Env} {R : Room} {s : State} {m : MethodId} {args : Array Value} {below : List Frame} {meth : Method} {c : Code} {H : Heap} {locs : List Loc} {c1 s1 : Nat} {Q : State → Prop} {lr : Array Slot} {pc n : Nat}
  {D : va_G} {cT : Nat → ClassId} {ad : Nat → Nat → Nat} {A : Nat → Prop} {t nL L : Nat} {xs : Nat → Int32} {mi mi' : MI} {M M' : Mem} {O O' : Int64} {T : Tmp} {as rest : List AV} {y mc ms kd na : Nat} {v : Option AV} {X : Nat}
theorem cdW_cons {hh : List (Nat × Nat × Nat × Nat)} (h : mi_hh mi = hh) (hne : hh ≠ []) : cdW mi = .codeWith (mi_y mi) (mi_b mi) (mi_L mi) (mi_ret mi) hh := by
  unfold cdW
  rw [h]
  cases hh with
  | nil => exact absurd rfl hne
  | cons a b => rfl
/-- a static call that returns -/
theorem runSN (C : CX p s m args c D cT ad L xs A mi) (hwd : WDp D cT ad A s.heap t M O T H locs) (hM : Met l (mi_y mi') (cdW mi' :: gTb) (rmOf mi' mc ms) (PcR D cT ad L xs H.size as M O) (QcR D cT ad H.size v M' O') mc ms (APre ad H.size))
    (ho : MOK mi') (hc : cOK (mi_cls mi) (n, kd, y, na)) (hg : getM y = some mi') (hy : y < 900) (hkd : 2 ≤ kd) (hkh : mi_hh mi' ≠ [] → kd = 2)
    (hna : na = as.length) (hw : ∀ v ∈ as, wfV none v) (hst : lr.size = mi_L mi) (hrest : (rest.map acat).sum ≤ 8) (hd : decode (mi_b mi) pc = .ok (.invokestatic n, 3)) (hRf : mi_fr mi' + 1 ≤ R.frames) (hRl : 8 + (mi_L mi' + 11) + mi_lw mi' ≤ R.locals) (hRc : c1 + mc ≤ R.cells ∧ s1 + ms ≤ R.slots) :
    va_Run p l e R s m args below meth c H locs c1 s1 mc ms (F0 m pc lr ((as.reverse ++ rest).map (vrel ad t))) (rest.map (vrel ad t)) (QcR D cT ad H.size v M' O' (as.map (vrel ad 0)).toArray) (APre ad H.size) := by
  have C' := C
  obtain ⟨hx, hb, hml, hown, hts, hK, hF, hA, hAA, hDD, hcl⟩ := C
  obtain ⟨mi2, hg2, hpar, hk4, hlink⟩ := hc hy
  cases Option.some.inj (hg2.symm.trans hg)
  obtain ⟨o1, o2, o3, o4, o5, o6⟩ := ho
  have hmap : as.map (vrel ad t) = as.map (vrel ad 0) := map_0 hw
  have hstk : ((as.reverse ++ rest).map (vrel ad t)) = (as.map (vrel ad 0)).reverse ++ rest.map (vrel ad t) := by
    rw [List.map_append, List.map_reverse, hmap]
  rw [hstk]
  have hp : PreS s H (PcR D cT ad L xs H.size as M O) (as.map (vrel ad 0)) := ⟨PcR.blind, fun U hU hW => ⟨rfl, pre_at C' hwd U hU hW⟩⟩
  have hn' : (as.map (vrel ad 0)).length = as.length := List.length_map ..
  have hparn : (parseMethodDescriptor (mi_y mi').desc).map (fun d => d.parameters.length) = some as.length := by
    have hpar' : (parseMethodDescriptor (mi_y mi').desc).map (fun d => d.parameters.length + (if kd < 2 then 1 else 0)) = some na := hpar
    rw [if_neg (by omega)] at hpar'
    rw [← hna]
    exact hpar'
  have hroom : 2 * (F0 m pc lr ((as.map (vrel ad 0)).reverse ++ rest.map (vrel ad t))).monitorRoom + ((rest.map (vrel ad t)).map fun v => v.category).sum ≤ 8 := by
    show 2 * 0 + _ ≤ 8
    rw [cat_sum]
    omega
  have hini : (Cond.initialized (mi_y mi').cls).before args s = true := by rw [o3]; exact hts _ (List.mem_cons_of_mem _ o2)
  have hini' : Cond.initialized (mi_y mi').cls ∈ gTb := by rw [o3]; exact o2
  match kd, hkd, hk4, hkh, hlink with
  | 2, _, _, _, hlink =>
    obtain ⟨k1, k2⟩ := hlink
    by_cases hh : mi_hh mi' = []
    · have hcode : cdW mi' :: gTb = Cond.code (mi_y mi') (mi_b mi') (mi_L mi') (mi_ret mi') :: gTb := by rw [cdW_nil hh]
      have cw := callB_of (R := R) (mc := mc) (ms := ms) (rm := rmOf mi' mc ms) (own := clsN (mi_cls mi)) (index := n) (y := mi_y mi') as.length hts (ws := cdW mi' :: gTb) (ws' := gTb) (goodGI o1) hcode rfl rfl hini (hts _ (List.mem_cons_of_mem _ k1)) ⟨o6.1, o6.2, hparn⟩ ⟨hRf, hRl⟩
      exact va_runS ⟨hx, hb, hml, hown, hts⟩ hM ⟨cw, hts _ (List.mem_cons_of_mem _ k2)⟩ hp rfl hn' hst rfl hroom hd hRc
    · have hcode : cdW mi' :: gTb = Cond.codeWith (mi_y mi') (mi_b mi') (mi_L mi') (mi_ret mi') (mi_hh mi') :: gTb := by rw [cdW_cons rfl hh]
      have cw := vx_cwSW (R := R) (mc := mc) (ms := ms) (rm := rmOf mi' mc ms) (own := clsN (mi_cls mi)) (index := n) (y := mi_y mi') as.length hts (ws := cdW mi' :: gTb) (ws' := gTb)
        (by
          intro w hw'
          rcases List.mem_append.mp hw' with q | q
          · simp only [List.mem_cons, List.not_mem_nil, or_false] at q
            rcases q with rfl | rfl | rfl
            · exact goodG1 k1
            · exact goodG1 k2
            · exact goodG1 hini'
          · exact goodGI o1 w q) hcode rfl rfl ⟨o6.1, o6.2, hparn⟩ ⟨hRf, hRl⟩
      exact vx_runSW ⟨hx, hb, hml, hown, hts⟩ hM cw hp rfl hn' hst rfl hroom hd hRc
  | 3, _, _, hkh, hlink =>
    obtain ⟨k1, k2⟩ := hlink
    have hh : mi_hh mi' = [] := by
      by_cases q : mi_hh mi' = []
      · exact q
      · exact absurd (hkh q) (by decide)
    have hcode : cdW mi' :: gTb = Cond.code (mi_y mi') (mi_b mi') (mi_L mi') (mi_ret mi') :: gTb := by rw [cdW_nil hh]
    have cw := va_cnB (R := R) (mc := mc) (ms := ms) (rm := rmOf mi' mc ms) (own := clsN (mi_cls mi)) (host := "NightSounds") (index := n) (y := mi_y mi') as.length hts (ws := cdW mi' :: gTb) (ws' := gTb) (goodGI o1) hcode rfl rfl (hF.2.2.2.2.2.2.1 _ k1) hini ⟨o6.1, o6.2, hparn⟩ ⟨hRf, hRl⟩
    exact va_runSN ⟨hx, hb, hml, hown, hts⟩ hM ⟨cw, hts _ (List.mem_cons_of_mem _ k2), trivial⟩ hp rfl hn' hst rfl hroom hd hRc
  | 0, h, _, _, _ => omega
  | 1, h, _, _, _ => omega
  | k + 4, _, h, _, _ => exact absurd h (by show ¬ k + 4 < 4; omega)
/-- a virtual call of the own kind that throws -/
theorem runVX (C : CX p s m args c D cT ad L xs A mi) (hwd : WDp D cT ad A s.heap t M O T H locs) (hM : vx_Met l (mi_y mi') (cdW mi' :: gTb) (rmOf mi' mc ms) (PcR D cT ad L xs H.size as M O) (fun _ _ _ _ => False) (XcR D cT ad H.size X M' O') mc ms (APre ad H.size))
    (ho : MOK mi') (hh : mi_hh mi' = []) (hc : cOK (mi_cls mi) (n, 0, y, na)) (hg : getM y = some mi') (hy : y < 900) {g i ci : Nat} {fs : List (Option (Nat × Option Nat))} {as' : List AV} (has : as = .inr (.inr (g, i)) :: as') (hsh : shape g = .inl (ci, fs)) (hci : ci = mi_cls mi') (hgi : i < cnt g) (hci8 : ci < 8)
    (hna : na = as.length) (hw : ∀ v ∈ as, wfV none v) (hst : lr.size = mi_L mi) (hrest : (rest.map acat).sum ≤ 8) (hd : decode (mi_b mi) pc = .ok (.invokevirtual n, 3)) (hRf : mi_fr mi' + 1 ≤ R.frames) (hRl : 8 + (mi_L mi' + 11) + mi_lw mi' ≤ R.locals) (hRc : c1 + mc ≤ R.cells ∧ s1 + ms ≤ R.slots) :
    vx_Run p l e R s m args below meth c H locs c1 s1 mc ms (F0 m pc lr ((as.reverse ++ rest).map (vrel ad t))) (rest.map (vrel ad t)) (fun _ _ _ => False) (XcR D cT ad H.size X M' O') (APre ad H.size) := by
  have C' := C
  obtain ⟨hx, hb, hml, hown, hts, hK, hF, hA, hAA, hDD, hcl⟩ := C
  obtain ⟨mi2, hg2, hpar, -, hlink⟩ := hc hy
  cases Option.some.inj (hg2.symm.trans hg)
  obtain ⟨o1, o2, o3, o4, o5, o6⟩ := ho
  subst has
  have hb0 : vrel ad t (.inr (.inr (g, i))) = .ref (ad g i) := vrel_n (cnt_lt hgi)
  have hb00 : vrel ad 0 (.inr (.inr (g, i))) = .ref (ad g i) := vrel_n (cnt_lt hgi)
  have hmap : as'.map (vrel ad t) = as'.map (vrel ad 0) := map_0 fun v hv => hw v (List.mem_cons_of_mem _ hv)
  have hstk : (((.inr (.inr (g, i)) :: as' : List AV).reverse ++ rest).map (vrel ad t)) = (as'.map (vrel ad 0)).reverse ++ .ref (ad g i) :: rest.map (vrel ad t) := by
    rw [List.reverse_cons, List.append_assoc, List.map_append, List.map_reverse, hmap]
    show _ ++ (vrel ad t (.inr (.inr (g, i))) :: rest.map (vrel ad t)) = _
    rw [hb0]
  have hargs : ((.inr (.inr (g, i)) :: as' : List AV).map (vrel ad 0)) = .ref (ad g i) :: as'.map (vrel ad 0) := by
    rw [List.map_cons, hb00]
  rw [hstk]
  obtain ⟨q0, -, he⟩ := ws_at (cT := cT) (ad := ad) (t := t) (M := M) (O := O) (T := T) hgi
  have hwc : wcell cT ad M O g i = .inr (ci, fs.mapIdx (fun k f => fval ad M g i k f)) := by unfold wcell; rw [hsh]
  rw [hwc] at he
  obtain ⟨rr, hrr, hrn⟩ : ∃ rr, vwCl[ci]? = some rr ∧ rr.1 = clsN ci := by
    match ci, hci8 with
    | 0, _ => exact ⟨_, rfl, rfl⟩
    | 1, _ => exact ⟨_, rfl, rfl⟩
    | 2, _ => exact ⟨_, rfl, rfl⟩
    | 3, _ => exact ⟨_, rfl, rfl⟩
    | 4, _ => exact ⟨_, rfl, rfl⟩
    | 5, _ => exact ⟨_, rfl, rfl⟩
    | 6, _ => exact ⟨_, rfl, rfl⟩
    | 7, _ => exact ⟨_, rfl, rfl⟩
  have hrecv := va_recv hK hwd.1 hrr he
  rw [hrn, hci] at hrecv
  have hp : PreV s H (clsN (mi_cls mi')) (ad g i) (PcR D cT ad L xs H.size (.inr (.inr (g, i)) :: as') M O) (as'.map (vrel ad 0)) :=
    ⟨PcR.blind, hrecv, fun U hU hW => ⟨by rw [hargs], pre_at C' hwd U hU hW⟩⟩
  have hn' : (as'.map (vrel ad 0)).length = as'.length := List.length_map ..
  have hparn : (parseMethodDescriptor (mi_y mi').desc).map (fun d => d.parameters.length) = some as'.length := by
    have hpar' : (parseMethodDescriptor (mi_y mi').desc).map (fun d => d.parameters.length + (if 0 < 2 then 1 else 0)) = some na := hpar
    rw [if_pos (by decide)] at hpar'
    cases hq : parseMethodDescriptor (mi_y mi').desc with
    | none => rw [hq] at hpar'; cases hpar'
    | some dsc =>
      rw [hq] at hpar'
      have h1 : dsc.parameters.length + 1 = na := Option.some.inj hpar'
      show some dsc.parameters.length = some as'.length
      rw [hna] at h1
      congr 1
      simpa using h1
  have hcode : cdW mi' :: gTb = Cond.code (mi_y mi') (mi_b mi') (mi_L mi') (mi_ret mi') :: gTb := by rw [cdW_nil hh]
  have hroom : 2 * (F0 m pc lr ((as'.map (vrel ad 0)).reverse ++ .ref (ad g i) :: rest.map (vrel ad t))).monitorRoom + ((rest.map (vrel ad t)).map fun v => v.category).sum ≤ 8 := by
    show 2 * 0 + _ ≤ 8
    rw [cat_sum]
    omega
  obtain ⟨k1, k2, k3⟩ := hlink
  have cw := cwV (R := R) (mc := mc) (ms := ms) (rm := rmOf mi' mc ms) (own := clsN (mi_cls mi)) (index := n) (C := clsN (mi_cls mi')) (y := mi_y mi') as'.length hts (ws := cdW mi' :: gTb) (ws' := gTb)
    (by
      intro w hw'
      rcases List.mem_append.mp hw' with q | q
      · simp only [List.mem_cons, List.not_mem_nil, or_false] at q
        rcases q with rfl | rfl | rfl | rfl
        · exact goodG1 k1
        · exact goodG1 k2
        · exact goodG1 k3
        · exact goodG1 o2
      · exact goodGI o1 w q) hcode rfl rfl ⟨o3, o6.1, o6.2, hparn⟩ ⟨hRf, hRl⟩
  exact vx_runV ⟨hx, hb, hml, hown, hts⟩ hM cw hp rfl hn' hst rfl hroom hd hRc
end C4
