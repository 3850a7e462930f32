/-! Heap reads and writes, all together. -/
def geats (j : Nat) : Int32 := match j with
  | 0 => 3
  | 1 => 6
  | 2 => 0
  | _ => 9
theorem fld_int {g ci f : Nat} {fs : List (Option (Nat × Option Nat))} {kd : Option (Nat × Option Nat)} (hi : g < 95) (hsh : shape g = .inl (ci, fs)) (hf : fs[f]? = some kd) (r : vw_C) (hr : vwCl[ci]? = some r) : match kd with
    | none => parseFieldDescriptor (r.2.1 f).2.2.1 = some .int ∧ (r.2.1 f).2.2.2 = false
    | some (_, none) => parseFieldDescriptor (r.2.1 f).2.2.1 = some (.object RX1) ∧ (r.2.1 f).2.2.2 = false
    | _ => True := by
  have h := fldB_lt g hi
  unfold fldB at h
  rw [hsh] at h
  simp only at h
  rw [hr] at h
  simp only at h
  have h2 := List.all_eq_true.mp h f (List.mem_range.mpr (List.getElem?_eq_some_iff.mp hf).1)
  rw [hf] at h2
  rcases kd with - | ⟨g', - | o⟩
  · simpa using h2
  · simpa using h2
  · trivial
theorem nI4 {j : Nat} (h : j < 1000) : (Int32.ofNat j).toNatClampNeg = j := nI_clamp (by omega)
section S5
variable {p : Program} {l : Launch} {e : Env} {R : Room} {s : State} {m : MethodId} {args : Array Value} {below : List Frame} {meth : Method} {c : Code} {Q : State → Prop} {cc : ByteArray}
  {D : va_G} {cT : Nat → ClassId} {ad : Nat → Nat → Nat} {A : Nat → Prop} {cls nL pc L : Nat} {xs : Nat → Int32} {k : RecT} {r : Out} {ls : Lcs} {st : List AV} {M : Mem} {O : Int64} {T : Tmp} {c1 s1 : Nat}
theorem okR_n {g i : Nat} (h : okR T g i) (h1 : g ≠ 90) (h2 : g ≠ 91) (h3 : g ≠ 92) (h4 : ∀ fs, shape g ≠ .inl (99, fs)) : i < cnt g := by
  rcases h with h | ⟨h, -⟩ | ⟨h, -⟩
  · exact h
  · exact absurd h h1
  · rcases h with h | h | h | h
    · exact absurd h h2
    · exact absurd h h3
    · subst h; exact absurd rfl (h4 [])
    · subst h; exact absurd rfl (h4 [])
theorem okR_obj {g i ci f : Nat} {fs : List (Option (Nat × Option Nat))} {kd : Option (Nat × Option Nat)} (h : okR T g i) (hsh : shape g = .inl (ci, fs)) (hf : fs[f]? = some kd) : i < cnt g := by
  refine okR_n h ?_ ?_ ?_ ?_
  · rintro rfl; cases hsh
  · rintro rfl; cases hsh
  · rintro rfl; cases hsh
  · intro fs' q
    rw [hsh] at q
    cases q
    obtain ⟨r, hr, -⟩ := shp_obj hsh hf
    cases hr
theorem okR_arr {g i : Nat} {z : Nat × Nat × Option (Nat × Nat)} (h : okR T g i) (hsh : shape g = .inr z) (h1 : g ≠ 90) (h2 : g ≠ 91) (h3 : g ≠ 92) : i < cnt g := okR_n h h1 h2 h3 (fun fs q => by rw [hsh] at q; cases q)
theorem shp_arr {g t n : Nat} (hsh : shape g = .inr (t, n, none)) : t < 3 ∧ n < 1000 ∧ (t = 2 ↔ g = 83) ∧ (t = 2 → n = 1) := by
  have h := shpB_all g
  unfold shpB at h
  rw [hsh] at h
  simp only [Bool.and_eq_true, decide_eq_true_eq, beq_iff_eq] at h
  refine ⟨h.1.1.1, h.1.1.2, ?_, h.2⟩
  have h3 := h.1.2
  by_cases q : t = 2 <;> by_cases q2 : g = 83 <;> simp_all
theorem shp_ref {g t n g' o : Nat} (hsh : shape g = .inr (t, n, some (g', o))) : 3 ≤ t ∧ t < 6 ∧ g' < 84 ∧ o + n ≤ cnt g' := by
  have h := shpB_all g
  unfold shpB at h
  rw [hsh] at h
  simp only [Bool.and_eq_true, decide_eq_true_eq] at h
  exact ⟨h.1.1.1, h.1.1.2, h.1.2, h.2⟩
theorem cl_nat {j : Int32} {n : Nat} (h : 0 ≤ j.toInt ∧ j.toInt < (n : Int)) : j.toNatClampNeg < n := by
  have h1 : j.toNatClampNeg = j.toInt.toNat := rfl
  omega
theorem ws_tmp {t : Nat} {f : Nat → Int32} : (wsA cT ad t M O (some f))[(wsP cT ad M O).length]? = some (t, .inl (cT 0, 8, .inl f)) := by
  unfold wsA
  rw [List.getElem?_append_right (Nat.le_refl _), Nat.sub_self]
  rfl
theorem ws_tmp_set {t : Nat} {f f' : Nat → Int32} : (wsA cT ad t M O (some f)).set (wsP cT ad M O).length (t, .inl (cT 0, 8, .inl f')) = wsA cT ad t M O (some f') := by
  unfold wsA
  rw [List.set_append_right _ _ (Nat.le_refl _), Nat.sub_self]
  rfl
theorem wc_i {g i n : Nat} (hsh : shape g = .inr (0, n, none)) : wcell cT ad M O g i = .inl (cT 0, n, .inl (M g i)) := by
  unfold wcell
  rw [hsh]
  rfl
theorem wc_z {g i n : Nat} (hsh : shape g = .inr (1, n, none)) : wcell cT ad M O g i = .inl (cT 1, n, .inl (M g i)) := by
  unfold wcell
  rw [hsh]
  rfl
theorem wc_l {g i n : Nat} (hsh : shape g = .inr (2, n, none)) : wcell cT ad M O g i = .inl (cT 2, n, .inr (.inl (fun _ => O))) := by
  unfold wcell
  rw [hsh]
  rfl
theorem wc_r {g i ty n g' o : Nat} (hsh : shape g = .inr (ty, n, some (g', o))) : wcell cT ad M O g i = .inl (cT ty, n, .inr (.inr (.inr (.inr (fun j => some (ad g' (o + j))))))) := by
  unfold wcell
  rw [hsh]
  obtain ⟨h1, h2, -, -⟩ := shp_ref hsh
  rcases (show ty = 3 ∨ ty = 4 ∨ ty = 5 by omega) with rfl | rfl | rfl <;> rfl
set_option maxHeartbeats 4000000 in
theorem sH_getfield {n : Nat} (hx : p.tables.exec = Jvm.exec) (hb : c.code = cc) (hown : s.vm.findClass (clsN cls) = some m.cls) (hcl : cls < 10) (hts : ∀ w ∈ gTb, w.before args s = true) (hn : ∀ w ∈ nTb, w.before args s = true) (hK : va_K D vwCl (tysT cT) s)
    (hai : (Cond.arrayClass .int).before args s = true)
    (hX : va_X (ad 91 0) L xs s s.heap) (hbl : ad 91 0 < s.heap.size) (hbA : ¬ A (ad 91 0)) (hG : va_T .int (ad 92 0) 4 (fun j => .int (geats j)) A s s.heap) (hA : ∀ q, s.heap.size ≤ q → A q)
    (hk : ∀ pc ls st M O T c1 s1, k pc ls st M O T c1 s1 = some r → Good (WG p l e R s m args below meth c Q) m (WDp D cT ad A s.heap) ad nL pc ls st M O T c1 s1)
    (hmo : ∀ pc ls st M O T c1 s1, k pc ls st M O T c1 s1 = some r → c1 ≤ R.cells ∧ s1 ≤ R.slots)
    (hd : decode cc pc = .ok (.getfield n, ilen (.getfield n))) (h : stepH shape L xs (cps cls) (.getfield n) k pc ls st M O T c1 s1 = some r) : Good (WG p l e R s m args below meth c Q) m (WDp D cT ad A s.heap) ad nL pc ls st M O T c1 s1 := by
  intro t lr H locs hl hwl hws hwd
  simp only [stepH] at h
  split at h
  · rename_i g i st'
    split at h
    · rename_i ci fs ci' f hsh hlk
      cases hc : ci' == ci with
      | false => rw [hc] at h; cases h
      | true =>
        rw [hc] at h
        have hce : ci' = ci := by simpa using hc
        subst hce
        simp only [cond_true] at h
        split at h
        · rename_i hf
          have hi := okR_obj hws.hd hsh hf
          have hg := cnt_lt hi
          show W p l e R s m args below meth c H locs c1 s1 Q (F0 m pc lr (vrel ad t (.inr (.inr (g, i))) :: st'.map (vrel ad t)))
          rw [vrel_n hg]
          exact getF hx hb hown hcl hts hn hK hwd.1 hi hsh hlk hf hd (hk _ _ _ _ _ _ _ _ h t lr H locs hl hwl (wfS.cons (v := .inl _) trivial hws.tl) hwd)
        · rename_i g' o hf
          have hi := okR_obj hws.hd hsh hf
          have hg := cnt_lt hi
          obtain ⟨r0, -, -, hg', ho⟩ := shp_obj hsh hf
          have K := hk _ _ _ _ _ _ _ _ h t lr H locs hl hwl (wfS.cons (v := .inr (.inr (g', i + o))) (Or.inl (by omega)) hws.tl) hwd
          simp only [WG, List.map_cons] at K ⊢
          rw [vrel_n hg'] at K
          rw [vrel_n hg]
          exact getF hx hb hown hcl hts hn hK hwd.1 hi hsh hlk hf hd K
        · rename_i g' hf
          have hi := okR_obj hws.hd hsh hf
          have hg := cnt_lt hi
          obtain ⟨r0, -, -, hg', ho⟩ := shp_obj hsh hf
          split at h
          · rename_i hlt
            have K := hk _ _ _ _ _ _ _ _ h t lr H locs hl hwl (wfS.cons (v := .inr (.inr (g', (M g i f).toNatClampNeg))) (Or.inl (by omega)) hws.tl) hwd
            simp only [WG, List.map_cons] at K ⊢
            rw [vrel_n hg'] at K
            rw [vrel_n hg]
            exact getF hx hb hown hcl hts hn hK hwd.1 hi hsh hlk hf hd K
          · cases h
        · cases h
    · cases h
  · cases h
set_option maxHeartbeats 4000000 in
theorem sH_putfield {n : Nat} (hx : p.tables.exec = Jvm.exec) (hb : c.code = cc) (hown : s.vm.findClass (clsN cls) = some m.cls) (hcl : cls < 10) (hts : ∀ w ∈ gTb, w.before args s = true) (hn : ∀ w ∈ nTb, w.before args s = true) (hK : va_K D vwCl (tysT cT) s)
    (hai : (Cond.arrayClass .int).before args s = true)
    (hX : va_X (ad 91 0) L xs s s.heap) (hbl : ad 91 0 < s.heap.size) (hbA : ¬ A (ad 91 0)) (hG : va_T .int (ad 92 0) 4 (fun j => .int (geats j)) A s s.heap) (hA : ∀ q, s.heap.size ≤ q → A q)
    (hk : ∀ pc ls st M O T c1 s1, k pc ls st M O T c1 s1 = some r → Good (WG p l e R s m args below meth c Q) m (WDp D cT ad A s.heap) ad nL pc ls st M O T c1 s1)
    (hmo : ∀ pc ls st M O T c1 s1, k pc ls st M O T c1 s1 = some r → c1 ≤ R.cells ∧ s1 ≤ R.slots)
    (hd : decode cc pc = .ok (.putfield n, ilen (.putfield n))) (h : stepH shape L xs (cps cls) (.putfield n) k pc ls st M O T c1 s1 = some r) : Good (WG p l e R s m args below meth c Q) m (WDp D cT ad A s.heap) ad nL pc ls st M O T c1 s1 := by
  intro t lr H locs hl hwl hws hwd
  simp only [stepH] at h
  split at h
  · rename_i x g i st'
    split at h
    · rename_i ci fs ci' f hsh hlk
      cases hc : ci' == ci with
      | false => rw [hc] at h; cases h
      | true =>
        rw [hc] at h
        have hce : ci' = ci := by simpa using hc
        subst hce
        simp only [cond_true] at h
        split at h
        · rename_i hf
          have hi := okR_obj hws.tl.hd hsh hf
          have hg := cnt_lt hi
          simp only [WG, List.map_cons]
          rw [vrel_n hg]
          refine putF (x := x) hx hb hown hcl hts hn hK hwd hi hsh hlk hf hd ?_ (fun r0 hr0 => ?_) (fun H1 locs1 hwd1 => hk _ _ _ _ _ _ _ _ h t lr H1 locs1 hl hwl hws.tl.tl hwd1)
          · show Value.int (mput M g i f x g i f) = _
            unfold mput
            rw [mrow_eq]
            show Value.int (if f = f then x else _) = _
            rw [if_pos rfl]
            rfl
          · have := fld_int (by omega) hsh hf r0 hr0
            exact ⟨.int, this.1, this.2, rfl, rfl⟩
        · cases h
    · cases h
  · rename_i g0 j g i st'
    split at h
    · rename_i ci fs ci' f hsh hlk
      cases hc : ci' == ci with
      | false => rw [hc] at h; cases h
      | true =>
        rw [hc] at h
        have hce : ci' = ci := by simpa using hc
        subst hce
        simp only [cond_true] at h
        split at h
        · rename_i g' hf
          cases hc2 : g' == g0 with
          | false => rw [hc2] at h; cases h
          | true =>
            rw [hc2] at h
            have hce2 : g' = g0 := by simpa using hc2
            subst hce2
            simp only [cond_true] at h
            have hi := okR_obj hws.tl.hd hsh hf
            have hg := cnt_lt hi
            obtain ⟨r0, -, -, hg', ho⟩ := shp_obj hsh hf
            have hj : j < cnt g' := by
              rcases hws.hd with q | ⟨q, -⟩ | ⟨q, -⟩ <;> omega
            simp only [WG, List.map_cons]
            rw [vrel_n hg, vrel_n hg']
            refine putF (x := Int32.ofNat j) hx hb hown hcl hts hn hK hwd hi hsh hlk hf hd ?_ (fun r0 hr0 => ?_) (fun H1 locs1 hwd1 => hk _ _ _ _ _ _ _ _ h t lr H1 locs1 hl hwl hws.tl.tl hwd1)
            · show Value.ref (ad g' (mput M g i f (Int32.ofNat j) g i f).toNatClampNeg) = _
              unfold mput
              rw [mrow_eq]
              show Value.ref (ad g' (if f = f then Int32.ofNat j else _).toNatClampNeg) = _
              rw [if_pos rfl, nI4 (by omega)]
            · have := fld_int (by omega) hsh hf r0 hr0
              exact ⟨.object RX1, this.1, this.2, rfl, rfl⟩
        · cases h
    · cases h
  · cases h
set_option maxHeartbeats 4000000 in
theorem sH_arraylength  (hx : p.tables.exec = Jvm.exec) (hb : c.code = cc) (hown : s.vm.findClass (clsN cls) = some m.cls) (hcl : cls < 10) (hts : ∀ w ∈ gTb, w.before args s = true) (hn : ∀ w ∈ nTb, w.before args s = true) (hK : va_K D vwCl (tysT cT) s)
    (hai : (Cond.arrayClass .int).before args s = true)
    (hX : va_X (ad 91 0) L xs s s.heap) (hbl : ad 91 0 < s.heap.size) (hbA : ¬ A (ad 91 0)) (hG : va_T .int (ad 92 0) 4 (fun j => .int (geats j)) A s s.heap) (hA : ∀ q, s.heap.size ≤ q → A q)
    (hk : ∀ pc ls st M O T c1 s1, k pc ls st M O T c1 s1 = some r → Good (WG p l e R s m args below meth c Q) m (WDp D cT ad A s.heap) ad nL pc ls st M O T c1 s1)
    (hmo : ∀ pc ls st M O T c1 s1, k pc ls st M O T c1 s1 = some r → c1 ≤ R.cells ∧ s1 ≤ R.slots)
    (hd : decode cc pc = .ok (.arraylength, ilen (.arraylength))) (h : stepH shape L xs (cps cls) (.arraylength) k pc ls st M O T c1 s1 = some r) : Good (WG p l e R s m args below meth c Q) m (WDp D cT ad A s.heap) ad nL pc ls st M O T c1 s1 := by
  intro t lr H locs hl hwl hws hwd
  simp only [stepH] at h
  split at h
  · rename_i g i st'
    split at h
    · rename_i z hsh
      have K := hk _ _ _ _ _ _ _ _ h t lr H locs hl hwl (wfS.cons (v := .inl _) trivial hws.tl) hwd
      simp only [WG, List.map_cons] at K ⊢
      by_cases e0 : g = 90
      · subst e0
        cases T with
        | none => rcases hws.hd with q | ⟨-, -, q⟩ | ⟨q, -⟩
                  · have := cnt_lt q; omega
                  · cases q
                  · omega
        | some f =>
          show W p l e R s m args below meth c H locs c1 s1 Q (F0 m pc lr (.ref (if 90 = 90 then t else _) :: _))
          rw [if_pos rfl]
          exact va_alen (ty := .int) hx hb hK hwd.1 _ 0 ws_tmp rfl rfl hd K
      · by_cases e1 : g = 91
        · subst e1
          have hi : i = 0 := by
            rcases hws.hd with q | ⟨q, -⟩ | ⟨-, q⟩
            · have := cnt_lt q; omega
            · omega
            · exact q
          subst hi
          show W p l e R s m args below meth c H locs c1 s1 Q (F0 m pc lr (.ref (if 91 = 90 then t else ad 91 0) :: _))
          rw [if_neg (by decide)]
          exact va_slen hx hb hX hbl hbA hwd.2.2 hd K
        · by_cases e2 : g = 92
          · subst e2
            have hi : i = 0 := by
              rcases hws.hd with q | ⟨q, -⟩ | ⟨-, q⟩
              · have := cnt_lt q; omega
              · omega
              · exact q
            subst hi
            show W p l e R s m args below meth c H locs c1 s1 Q (F0 m pc lr (.ref (if 92 = 90 then t else ad 92 0) :: _))
            rw [if_neg (by decide)]
            exact va_tlen hx hb hG hwd.2.2 rfl hd K
          · have hi := okR_arr hws.hd hsh e0 e1 e2
            have hg := cnt_lt hi
            rw [vrel_n hg]
            obtain ⟨q0, -, he⟩ := ws_at (cT := cT) (ad := ad) (t := t) (M := M) (O := O) (T := T) hi
            have hal : alen shape L g = z.2.1 := by
              unfold alen
              split
              · omega
              · rw [hsh]
            rw [hal] at K
            obtain ⟨ty, n, el⟩ := z
            cases el with
            | none =>
              obtain ⟨h1, -, -, -⟩ := shp_arr hsh
              by_cases q2 : ty = 2
              · subst q2
                rw [wc_l hsh] at he
                exact va_alen (ty := .long) hx hb hK hwd.1 q0 2 he rfl rfl hd K
              · have hw : wcell cT ad M O g i = .inl (cT ty, n, .inl (M g i)) := by
                  unfold wcell
                  rw [hsh]
                  rcases (show ty = 0 ∨ ty = 1 by omega) with rfl | rfl <;> rfl
                rw [hw] at he
                rcases (show ty = 0 ∨ ty = 1 by omega) with rfl | rfl
                · exact va_alen (ty := .int) hx hb hK hwd.1 q0 0 he rfl rfl hd K
                · exact va_alen (ty := .boolean) hx hb hK hwd.1 q0 1 he rfl rfl hd K
            | some b =>
              obtain ⟨g', o⟩ := b
              obtain ⟨h1, h2, -, -⟩ := shp_ref hsh
              have hw := wc_r (cT := cT) (ad := ad) (M := M) (O := O) (i := i) hsh
              rw [hw] at he
              rcases (show ty = 3 ∨ ty = 4 ∨ ty = 5 by omega) with rfl | rfl | rfl
              · exact va_alen (ty := .object RX0) hx hb hK hwd.1 q0 3 he rfl rfl hd K
              · exact va_alen (ty := .object RX2) hx hb hK hwd.1 q0 4 he rfl rfl hd K
              · exact va_alen (ty := .array .int) hx hb hK hwd.1 q0 5 he rfl rfl hd K
    · cases h
  · cases h
set_option maxHeartbeats 4000000 in
theorem sH_iaload  (hx : p.tables.exec = Jvm.exec) (hb : c.code = cc) (hown : s.vm.findClass (clsN cls) = some m.cls) (hcl : cls < 10) (hts : ∀ w ∈ gTb, w.before args s = true) (hn : ∀ w ∈ nTb, w.before args s = true) (hK : va_K D vwCl (tysT cT) s)
    (hai : (Cond.arrayClass .int).before args s = true)
    (hX : va_X (ad 91 0) L xs s s.heap) (hbl : ad 91 0 < s.heap.size) (hbA : ¬ A (ad 91 0)) (hG : va_T .int (ad 92 0) 4 (fun j => .int (geats j)) A s s.heap) (hA : ∀ q, s.heap.size ≤ q → A q)
    (hk : ∀ pc ls st M O T c1 s1, k pc ls st M O T c1 s1 = some r → Good (WG p l e R s m args below meth c Q) m (WDp D cT ad A s.heap) ad nL pc ls st M O T c1 s1)
    (hmo : ∀ pc ls st M O T c1 s1, k pc ls st M O T c1 s1 = some r → c1 ≤ R.cells ∧ s1 ≤ R.slots)
    (hd : decode cc pc = .ok (.iaload, ilen (.iaload))) (h : stepH shape L xs (cps cls) (.iaload) k pc ls st M O T c1 s1 = some r) : Good (WG p l e R s m args below meth c Q) m (WDp D cT ad A s.heap) ad nL pc ls st M O T c1 s1 := by
  intro t lr H locs hl hwl hws hwd
  simp only [stepH] at h
  split at h
  · rename_i j g i st'
    split at h
    · rename_i n0 hsh
      split at h
      · rename_i hin
        have K := hk _ _ _ _ _ _ _ _ h t lr H locs hl hwl (wfS.cons (v := .inl _) trivial hws.tl.tl) hwd
        simp only [WG, List.map_cons] at K ⊢
        by_cases e0 : g = 90
        · subst e0
          cases T with
          | none => rcases hws.tl.hd with q | ⟨-, -, q⟩ | ⟨q, -⟩
                    · have := cnt_lt q; omega
                    · cases q
                    · omega
          | some f =>
            show W p l e R s m args below meth c H locs c1 s1 Q (F0 m pc lr (.int j :: .ref (if 90 = 90 then t else _) :: _))
            rw [if_pos rfl]
            exact va_iald hx hb hK hwd.1 _ 0 ws_tmp rfl (vp_in_iff.mpr hin) hd K
        · by_cases e1 : g = 91
          · subst e1
            have hi : i = 0 := by
              rcases hws.tl.hd with q | ⟨q, -⟩ | ⟨-, q⟩
              · have := cnt_lt q; omega
              · omega
              · exact q
            subst hi
            show W p l e R s m args below meth c H locs c1 s1 Q (F0 m pc lr (.int j :: .ref (if 91 = 90 then t else ad 91 0) :: _))
            rw [if_neg (by decide)]
            exact va_sld hx hb hX hbl hbA hwd.2.2 (vp_in_iff.mpr hin) hd K
          · by_cases e2 : g = 92
            · subst e2
              have hi : i = 0 := by
                rcases hws.tl.hd with q | ⟨q, -⟩ | ⟨-, q⟩
                · have := cnt_lt q; omega
                · omega
                · exact q
              subst hi
              show W p l e R s m args below meth c H locs c1 s1 Q (F0 m pc lr (.int j :: .ref (if 92 = 90 then t else ad 92 0) :: _))
              rw [if_neg (by decide)]
              exact va_ti hx hb hG hwd.2.2 (vp_in_iff.mpr hin) rfl hd K
            · have hi := okR_arr hws.tl.hd hsh e0 e1 e2
              have hg := cnt_lt hi
              rw [vrel_n hg]
              obtain ⟨q0, -, he⟩ := ws_at (cT := cT) (ad := ad) (t := t) (M := M) (O := O) (T := T) hi
              have hw := wc_i (cT := cT) (ad := ad) (M := M) (O := O) (i := i) hsh
              rw [hw] at he
              have hal : alen shape L g = n0 := by
                unfold alen
                split
                · omega
                · rw [hsh]
              rw [hal] at hin
              have har : aread xs M T g i j.toNatClampNeg = M g i j.toNatClampNeg := by
                unfold aread
                split <;> first | omega | rfl
              rw [har] at K
              exact va_iald hx hb hK hwd.1 q0 0 he rfl (vp_in_iff.mpr hin) hd K
      · cases h
    · cases h
  · cases h
set_option maxHeartbeats 4000000 in
theorem sH_baload  (hx : p.tables.exec = Jvm.exec) (hb : c.code = cc) (hown : s.vm.findClass (clsN cls) = some m.cls) (hcl : cls < 10) (hts : ∀ w ∈ gTb, w.before args s = true) (hn : ∀ w ∈ nTb, w.before args s = true) (hK : va_K D vwCl (tysT cT) s)
    (hai : (Cond.arrayClass .int).before args s = true)
    (hX : va_X (ad 91 0) L xs s s.heap) (hbl : ad 91 0 < s.heap.size) (hbA : ¬ A (ad 91 0)) (hG : va_T .int (ad 92 0) 4 (fun j => .int (geats j)) A s s.heap) (hA : ∀ q, s.heap.size ≤ q → A q)
    (hk : ∀ pc ls st M O T c1 s1, k pc ls st M O T c1 s1 = some r → Good (WG p l e R s m args below meth c Q) m (WDp D cT ad A s.heap) ad nL pc ls st M O T c1 s1)
    (hmo : ∀ pc ls st M O T c1 s1, k pc ls st M O T c1 s1 = some r → c1 ≤ R.cells ∧ s1 ≤ R.slots)
    (hd : decode cc pc = .ok (.baload, ilen (.baload))) (h : stepH shape L xs (cps cls) (.baload) k pc ls st M O T c1 s1 = some r) : Good (WG p l e R s m args below meth c Q) m (WDp D cT ad A s.heap) ad nL pc ls st M O T c1 s1 := by
  intro t lr H locs hl hwl hws hwd
  simp only [stepH] at h
  split at h
  · rename_i j g i st'
    split at h
    · rename_i n0 hsh
      split at h
      · rename_i hin
        have K := hk _ _ _ _ _ _ _ _ h t lr H locs hl hwl (wfS.cons (v := .inl _) trivial hws.tl.tl) hwd
        simp only [WG, List.map_cons] at K ⊢
        have hi := okR_arr hws.tl.hd hsh (by rintro rfl; cases hsh) (by rintro rfl; cases hsh) (by rintro rfl; cases hsh)
        rw [vrel_n (cnt_lt hi)]
        obtain ⟨q0, -, he⟩ := ws_at (cT := cT) (ad := ad) (t := t) (M := M) (O := O) (T := T) hi
        have hw := wc_z (cT := cT) (ad := ad) (M := M) (O := O) (i := i) hsh
        rw [hw] at he
        exact va_zald hx hb hK hwd.1 q0 1 he rfl (vp_in_iff.mpr hin) hd K
      · cases h
    · cases h
  · cases h
set_option maxHeartbeats 4000000 in
theorem sH_aaload  (hx : p.tables.exec = Jvm.exec) (hb : c.code = cc) (hown : s.vm.findClass (clsN cls) = some m.cls) (hcl : cls < 10) (hts : ∀ w ∈ gTb, w.before args s = true) (hn : ∀ w ∈ nTb, w.before args s = true) (hK : va_K D vwCl (tysT cT) s)
    (hai : (Cond.arrayClass .int).before args s = true)
    (hX : va_X (ad 91 0) L xs s s.heap) (hbl : ad 91 0 < s.heap.size) (hbA : ¬ A (ad 91 0)) (hG : va_T .int (ad 92 0) 4 (fun j => .int (geats j)) A s s.heap) (hA : ∀ q, s.heap.size ≤ q → A q)
    (hk : ∀ pc ls st M O T c1 s1, k pc ls st M O T c1 s1 = some r → Good (WG p l e R s m args below meth c Q) m (WDp D cT ad A s.heap) ad nL pc ls st M O T c1 s1)
    (hmo : ∀ pc ls st M O T c1 s1, k pc ls st M O T c1 s1 = some r → c1 ≤ R.cells ∧ s1 ≤ R.slots)
    (hd : decode cc pc = .ok (.aaload, ilen (.aaload))) (h : stepH shape L xs (cps cls) (.aaload) k pc ls st M O T c1 s1 = some r) : Good (WG p l e R s m args below meth c Q) m (WDp D cT ad A s.heap) ad nL pc ls st M O T c1 s1 := by
  intro t lr H locs hl hwl hws hwd
  simp only [stepH] at h
  split at h
  · rename_i j g i st'
    split at h
    · rename_i ty n0 g' o hsh
      split at h
      · rename_i hin
        obtain ⟨h1, h2, hg', ho⟩ := shp_ref hsh
        have hjn := cl_nat hin
        have K := hk _ _ _ _ _ _ _ _ h t lr H locs hl hwl (wfS.cons (v := .inr (.inr (g', o + j.toNatClampNeg))) (Or.inl (by omega)) hws.tl.tl) hwd
        simp only [WG, List.map_cons] at K ⊢
        have hi := okR_arr hws.tl.hd hsh (by rintro rfl; cases hsh) (by rintro rfl; cases hsh) (by rintro rfl; cases hsh)
        rw [vrel_n (cnt_lt hi)]
        rw [vrel_n hg'] at K
        obtain ⟨q0, -, he⟩ := ws_at (cT := cT) (ad := ad) (t := t) (M := M) (O := O) (T := T) hi
        have hw := wc_r (cT := cT) (ad := ad) (M := M) (O := O) (i := i) hsh
        rw [hw] at he
        obtain ⟨fty, hft, hfr⟩ : ∃ fty : FieldType, (tysT cT)[ty]? = some (cT ty, fty) ∧ fty.isReference = true := by
          rcases (show ty = 3 ∨ ty = 4 ∨ ty = 5 by omega) with rfl | rfl | rfl
          · exact ⟨_, rfl, rfl⟩
          · exact ⟨_, rfl, rfl⟩
          · exact ⟨_, rfl, rfl⟩
        exact W.aald (v := .ref (ad g' (o + j.toNatClampNeg))) (ty := fty) hx hb (hwd.1 q0 _ he) ((hK.2 ty _ hft).1 n0 (fun j => va_rf (some (ad g' (o + j))))) hfr (fun q => by cases q) (by show ¬ (j < 0 ∨ (arrV _ _ _).slots.size ≤ _); rw [arrV_size]; exact vp_in_iff.mpr hin) (by show (arrV _ _ _).slots[_]? = _; rw [arrV_read _ _ hjn]; rfl) rfl rfl hd K
      · cases h
    · cases h
  · cases h
set_option maxHeartbeats 4000000 in
theorem sH_laload  (hx : p.tables.exec = Jvm.exec) (hb : c.code = cc) (hown : s.vm.findClass (clsN cls) = some m.cls) (hcl : cls < 10) (hts : ∀ w ∈ gTb, w.before args s = true) (hn : ∀ w ∈ nTb, w.before args s = true) (hK : va_K D vwCl (tysT cT) s)
    (hai : (Cond.arrayClass .int).before args s = true)
    (hX : va_X (ad 91 0) L xs s s.heap) (hbl : ad 91 0 < s.heap.size) (hbA : ¬ A (ad 91 0)) (hG : va_T .int (ad 92 0) 4 (fun j => .int (geats j)) A s s.heap) (hA : ∀ q, s.heap.size ≤ q → A q)
    (hk : ∀ pc ls st M O T c1 s1, k pc ls st M O T c1 s1 = some r → Good (WG p l e R s m args below meth c Q) m (WDp D cT ad A s.heap) ad nL pc ls st M O T c1 s1)
    (hmo : ∀ pc ls st M O T c1 s1, k pc ls st M O T c1 s1 = some r → c1 ≤ R.cells ∧ s1 ≤ R.slots)
    (hd : decode cc pc = .ok (.laload, ilen (.laload))) (h : stepH shape L xs (cps cls) (.laload) k pc ls st M O T c1 s1 = some r) : Good (WG p l e R s m args below meth c Q) m (WDp D cT ad A s.heap) ad nL pc ls st M O T c1 s1 := by
  intro t lr H locs hl hwl hws hwd
  simp only [stepH] at h
  split at h
  · rename_i j g i st'
    split at h
    · rename_i n0 hsh
      split at h
      · rename_i hj
        subst hj
        obtain ⟨-, -, -, hn1⟩ := shp_arr hsh
        have hn1 := hn1 rfl
        subst hn1
        have K := hk _ _ _ _ _ _ _ _ h t lr H locs hl hwl (wfS.cons (v := .inr (.inl O)) trivial hws.tl.tl) hwd
        simp only [WG, List.map_cons] at K ⊢
        have hi := okR_arr hws.tl.hd hsh (by rintro rfl; cases hsh) (by rintro rfl; cases hsh) (by rintro rfl; cases hsh)
        rw [vrel_n (cnt_lt hi)]
        obtain ⟨q0, -, he⟩ := ws_at (cT := cT) (ad := ad) (t := t) (M := M) (O := O) (T := T) hi
        have hw := wc_l (cT := cT) (ad := ad) (M := M) (O := O) (i := i) hsh
        rw [hw] at he
        exact va_lald hx hb hK hwd.1 q0 2 he rfl (vp_in_iff.mpr (by decide)) hd K
      · cases h
    · cases h
  · cases h
set_option maxHeartbeats 4000000 in
theorem sH_iastore  (hx : p.tables.exec = Jvm.exec) (hb : c.code = cc) (hown : s.vm.findClass (clsN cls) = some m.cls) (hcl : cls < 10) (hts : ∀ w ∈ gTb, w.before args s = true) (hn : ∀ w ∈ nTb, w.before args s = true) (hK : va_K D vwCl (tysT cT) s)
    (hai : (Cond.arrayClass .int).before args s = true)
    (hX : va_X (ad 91 0) L xs s s.heap) (hbl : ad 91 0 < s.heap.size) (hbA : ¬ A (ad 91 0)) (hG : va_T .int (ad 92 0) 4 (fun j => .int (geats j)) A s s.heap) (hA : ∀ q, s.heap.size ≤ q → A q)
    (hk : ∀ pc ls st M O T c1 s1, k pc ls st M O T c1 s1 = some r → Good (WG p l e R s m args below meth c Q) m (WDp D cT ad A s.heap) ad nL pc ls st M O T c1 s1)
    (hmo : ∀ pc ls st M O T c1 s1, k pc ls st M O T c1 s1 = some r → c1 ≤ R.cells ∧ s1 ≤ R.slots)
    (hd : decode cc pc = .ok (.iastore, ilen (.iastore))) (h : stepH shape L xs (cps cls) (.iastore) k pc ls st M O T c1 s1 = some r) : Good (WG p l e R s m args below meth c Q) m (WDp D cT ad A s.heap) ad nL pc ls st M O T c1 s1 := by
  intro t lr H locs hl hwl hws hwd
  simp only [stepH] at h
  split at h
  · rename_i x j g i st'
    cases e90 : g == 90 with
    | true =>
      rw [e90] at h
      have hg90 : g = 90 := by simpa using e90
      subst hg90
      simp only [cond_true] at h
      split at h
      · rename_i f
        split at h
        · rename_i hin
          simp only [WG, List.map_cons]
          show W p l e R s m args below meth c H locs c1 s1 Q (F0 m pc lr (.int x :: .int j :: .ref (if 90 = 90 then t else _) :: _))
          rw [if_pos rfl]
          refine va_iast hx hb hK hwd.1 hwd.2.1 hwd.2.2 _ 0 ws_tmp rfl (vp_in_iff.mpr hin) hd (fun H1 locs1 h1 h2 h3 => ?_)
          rw [ws_tmp_set] at h1 h2
          exact hk _ _ _ _ _ _ _ _ h t lr H1 locs1 hl (fun a b ab => (hwl a b ab).keep) (fun a ab => (hws.tl.tl.tl a ab).keep) ⟨h1, h2, h3⟩
        · cases h
      · cases h
    | false =>
      rw [e90] at h
      simp only [cond_false] at h
      cases e84 : Nat.blt g 84 with
      | false => rw [e84] at h; cases h
      | true =>
        rw [e84] at h
        have hg84 : g < 84 := by simpa using e84
        simp only [cond_true] at h
        split at h
        · rename_i n0 hsh
          split at h
          · rename_i hin
            have hi := okR_arr hws.tl.tl.hd hsh (by omega) (by omega) (by omega)
            simp only [WG, List.map_cons]
            rw [vrel_n (cnt_lt hi)]
            obtain ⟨q0, hq, he⟩ := ws_at (cT := cT) (ad := ad) (t := t) (M := M) (O := O) (T := T) hi
            have hw' : wcell cT ad (mput M g i j.toNatClampNeg x) O g i = .inl (cT 0, n0, .inl (upd (M g i) j.toNatClampNeg x)) := by
              rw [wc_i hsh]
              unfold mput
              rw [mrow_eq]
            rw [wc_i hsh] at he
            refine va_iast hx hb hK hwd.1 hwd.2.1 hwd.2.2 q0 0 he rfl (vp_in_iff.mpr hin) hd (fun H1 locs1 h1 h2 h3 => ?_)
            rw [ws_set (M' := mput M g i j.toNatClampNeg x) (O' := O) hq (fun g' i' h => wcell_cong (mrow_ne h)) hw'.symm] at h1 h2
            exact hk _ _ _ _ _ _ _ _ h t lr H1 locs1 hl hwl hws.tl.tl.tl ⟨h1, h2, h3⟩
          · cases h
        · cases h
  · cases h
set_option maxHeartbeats 4000000 in
theorem sH_bastore  (hx : p.tables.exec = Jvm.exec) (hb : c.code = cc) (hown : s.vm.findClass (clsN cls) = some m.cls) (hcl : cls < 10) (hts : ∀ w ∈ gTb, w.before args s = true) (hn : ∀ w ∈ nTb, w.before args s = true) (hK : va_K D vwCl (tysT cT) s)
    (hai : (Cond.arrayClass .int).before args s = true)
    (hX : va_X (ad 91 0) L xs s s.heap) (hbl : ad 91 0 < s.heap.size) (hbA : ¬ A (ad 91 0)) (hG : va_T .int (ad 92 0) 4 (fun j => .int (geats j)) A s s.heap) (hA : ∀ q, s.heap.size ≤ q → A q)
    (hk : ∀ pc ls st M O T c1 s1, k pc ls st M O T c1 s1 = some r → Good (WG p l e R s m args below meth c Q) m (WDp D cT ad A s.heap) ad nL pc ls st M O T c1 s1)
    (hmo : ∀ pc ls st M O T c1 s1, k pc ls st M O T c1 s1 = some r → c1 ≤ R.cells ∧ s1 ≤ R.slots)
    (hd : decode cc pc = .ok (.bastore, ilen (.bastore))) (h : stepH shape L xs (cps cls) (.bastore) k pc ls st M O T c1 s1 = some r) : Good (WG p l e R s m args below meth c Q) m (WDp D cT ad A s.heap) ad nL pc ls st M O T c1 s1 := by
  intro t lr H locs hl hwl hws hwd
  simp only [stepH] at h
  split at h
  · rename_i x j g i st'
    split at h
    · rename_i n0 hsh
      split at h
      · rename_i hin
        split at h
        · rename_i hx01
          have hi := okR_arr hws.tl.tl.hd hsh (by rintro rfl; cases hsh) (by rintro rfl; cases hsh) (by rintro rfl; cases hsh)
          simp only [WG, List.map_cons]
          rw [vrel_n (cnt_lt hi)]
          obtain ⟨q0, hq, he⟩ := ws_at (cT := cT) (ad := ad) (t := t) (M := M) (O := O) (T := T) hi
          have hw := wc_z (cT := cT) (ad := ad) (M := M) (O := O) (i := i) hsh
          have hnar : vp_nar .boolean x = x := by rcases hx01 with rfl | rfl <;> decide
          have hw' : wcell cT ad (mput M g i j.toNatClampNeg x) O g i = .inl (cT 1, n0, .inl (upd (M g i) j.toNatClampNeg (vp_nar .boolean x))) := by
            rw [wc_z hsh, hnar]
            unfold mput
            rw [mrow_eq]
          rw [hw] at he
          refine va_zast hx hb hK hwd.1 hwd.2.1 hwd.2.2 q0 1 he rfl (vp_in_iff.mpr hin) hd (fun H1 locs1 h1 h2 h3 => ?_)
          rw [ws_set (M' := mput M g i j.toNatClampNeg x) (O' := O) hq (fun g' i' h => wcell_cong (mrow_ne h)) hw'.symm] at h1 h2
          exact hk _ _ _ _ _ _ _ _ h t lr H1 locs1 hl hwl hws.tl.tl.tl ⟨h1, h2, h3⟩
        · cases h
      · cases h
    · cases h
  · cases h
end S5
