/-! Heap reads and writes. -/
def WDp (D : va_G) (cT : Nat → ClassId) (ad : Nat → Nat → Nat) (A : Nat → Prop) (H0 : Heap) (t : Nat) (M : Mem) (O : Int64) (T : Tmp) (H : Heap) (locs : List Loc) : Prop :=
  va_P D vwCl (wsA cT ad t M O T) H ∧ va_D A (wsA cT ad t M O T) ∧ va_S A H0 H locs
theorem lookup_mem {α : Type} {n : Nat} {v : α} : ∀ {l : List (Nat × α)}, List.lookup n l = some v → (n, v) ∈ l := by
  intro l
  induction l with
  | nil => intro h; cases h
  | cons a b ih =>
    intro h
    obtain ⟨x, y⟩ := a
    rw [List.lookup_cons] at h
    by_cases e : n == x
    · rw [e] at h
      cases h
      rw [show n = x from by simpa using e]
      exact List.mem_cons_self
    · rw [show (n == x) = false from by simpa using e] at h
      exact List.mem_cons_of_mem _ (ih h)
theorem cps_F {cls : Nat} (h : cls < 10) : ∀ q ∈ (cps cls).1, fOK cls q := by
  match cls, h with
  | 0, _ => exact cls_F_0
  | 1, _ => exact cls_F_1
  | 2, _ => exact cls_F_2
  | 3, _ => exact cls_F_3
  | 4, _ => exact cls_F_4
  | 5, _ => exact cls_F_5
  | 6, _ => exact cls_F_6
  | 7, _ => exact cls_F_7
  | 8, _ => exact cls_F_8
  | 9, _ => exact cls_F_9
theorem cps_M {cls : Nat} (h : cls < 10) : ∀ q ∈ (cps cls).2.1, cOK cls q := by
  match cls, h with
  | 0, _ => exact cls_M_0
  | 1, _ => exact cls_M_1
  | 2, _ => exact cls_M_2
  | 3, _ => exact cls_M_3
  | 4, _ => exact cls_M_4
  | 5, _ => exact cls_M_5
  | 6, _ => exact cls_M_6
  | 7, _ => exact cls_M_7
  | 8, _ => exact cls_M_8
  | 9, _ => exact cls_M_9
theorem vrel_n {ad : Nat → Nat → Nat} {t g i : Nat} (h : g < 84) : vrel ad t (.inr (.inr (g, i))) = .ref (ad g i) := by
  show Value.ref (if g = 90 then t else ad g i) = _
  rw [if_neg (by omega)]
theorem vrel_t {ad : Nat → Nat → Nat} {t q : Nat} {v : AV} (h : wfV none v) : vrel ad t v = vrel ad q v := by
  rcases v with x | x | ⟨g, i⟩
  · rfl
  · rfl
  · have hne : g ≠ 90 := by
      rcases h with h | ⟨-, -, h⟩ | ⟨h, -⟩
      · have := cnt_lt h
        omega
      · cases h
      · omega
    show Value.ref (if g = 90 then t else ad g i) = Value.ref (if g = 90 then q else ad g i)
    rw [if_neg hne, if_neg hne]
theorem map_t {ad : Nat → Nat → Nat} {t q : Nat} {st : List AV} (h : wfS none st) : st.map (vrel ad t) = st.map (vrel ad q) := List.map_congr_left fun v hv => vrel_t (h v hv)
theorem LR.to_t {ad : Nat → Nat → Nat} {t q nL : Nat} {ls : Lcs} {lr : Array Slot} (h : LR ad t nL ls lr) (hw : wfL none ls) : LR ad q nL ls lr := by
  refine ⟨h.1, h.2.1, h.2.2.1, fun z hz => h.2.2.2 z ?_⟩
  obtain ⟨v, hv, he⟩ := mem_lvl.mp hz
  exact mem_lvl.mpr ⟨v, hv, by rw [he]; exact vrel_t (hw _ _ hv)⟩
theorem wfV.up {f : Nat → Int32} {v : AV} (h : wfV none v) : wfV (some f) v := by
  rcases v with x | x | ⟨g, i⟩
  · trivial
  · trivial
  · rcases h with h | ⟨-, -, h⟩ | h
    · exact Or.inl h
    · cases h
    · exact Or.inr (Or.inr h)
theorem wfV.keep {f f' : Nat → Int32} {v : AV} (h : wfV (some f) v) : wfV (some f') v := by
  rcases v with x | x | ⟨g, i⟩
  · trivial
  · trivial
  · rcases h with h | ⟨h1, h2, -⟩ | h
    · exact Or.inl h
    · exact Or.inr (Or.inl ⟨h1, h2, rfl⟩)
    · exact Or.inr (Or.inr h)
theorem arrV_cong (c : ClassId) (n : Nat) (f g : Nat → Value) (h : ∀ j, j < n → f j = g j) : arrV c n f = arrV c n g := by
  unfold arrV
  congr 1
  apply congrArg
  funext j
  exact h j.val j.isLt
theorem of_mem_PP {g i : Nat} (h : (g, i) ∈ PP) : i < cnt g := by
  obtain ⟨g', -, h2⟩ := List.mem_flatMap.mp h
  obtain ⟨i', h3, h4⟩ := List.mem_map.mp h2
  cases h4
  exact List.mem_range.mp h3
theorem ws_setP {cT : Nat → ClassId} {ad : Nat → Nat → Nat} {t : Nat} {M M' : Mem} {O O' : Int64} {T : Tmp} {g i q0 : Nat} (hq : PP[q0]? = some (g, i)) (hne : ∀ g' i', i' < cnt g' → (g', i') ≠ (g, i) → wcell cT ad M' O' g' i' = wcell cT ad M O g' i') {x : va_E} (hx : x = wcell cT ad M' O' g i) : (wsA cT ad t M O T).set q0 (ad g i, x) = wsA cT ad t M' O' T := by
  subst hx
  have hlt0 : q0 < PP.length := (List.getElem?_eq_some_iff.mp hq).1
  have hlt : q0 < (wsP cT ad M O).length := by
    unfold wsP
    rw [List.length_map]
    exact hlt0
  unfold wsA
  rw [List.set_append_left _ _ hlt]
  congr 1
  unfold wsP
  apply List.ext_getElem?
  intro j
  by_cases e : q0 = j
  · subst e
    rw [List.getElem?_set_self (by simpa using hlt0), List.getElem?_map, hq]
    rfl
  · rw [List.getElem?_set_ne e, List.getElem?_map, List.getElem?_map]
    cases hj : PP[j]? with
    | none => rfl
    | some q =>
      have hd : (q.1, q.2) ≠ (g, i) := by
        intro z
        have hj' : PP[j]? = some (g, i) := by rw [hj]; exact congrArg some z
        obtain ⟨h1, h2⟩ := List.getElem?_eq_some_iff.mp hq
        obtain ⟨h3, h4⟩ := List.getElem?_eq_some_iff.mp hj'
        exact e ((List.getElem_inj PP_nodup).mp (h2.trans h4.symm))
      show some (ad q.1 q.2, wcell cT ad M O q.1 q.2) = some (ad q.1 q.2, wcell cT ad M' O' q.1 q.2)
      rw [hne q.1 q.2 (of_mem_PP (List.mem_of_getElem? hj)) hd]
section S4
variable {p : Program} {l : Launch} {e : Env} {R : Room} {s : State} {m : MethodId} {args : Array Value} {below : List Frame} {meth : Method} {c : Code} {H : Heap} {locs : List Loc} {cells slots : Nat} {Q : State → Prop} {cc : ByteArray}
  {D : va_G} {cT : Nat → ClassId} {ad : Nat → Nat → Nat} {A : Nat → Prop} {cls pc t g i n ci f : Nat} {M : Mem} {O : Int64} {T : Tmp} {fs : List (Option (Nat × Option Nat))} {kd : Option (Nat × Option Nat)} {lr : Array Slot} {rest : List Value}
theorem shp_obj (hsh : shape g = .inl (ci, fs)) (hf : fs[f]? = some kd) : ∃ r : vw_C, vwCl[ci]? = some r ∧ fs.length = r.2.2 ∧ (match kd with
    | none => True
    | some (g', some o) => g' < 84 ∧ cnt g + o ≤ cnt g'
    | some (g', none) => g' < 84 ∧ cnt g' = 4) := by
  have h := shpB_all g
  unfold shpB at h
  rw [hsh] at h
  simp only at h
  cases hc : vwCl[ci]? with
  | none =>
    rw [hc] at h
    simp only [List.isEmpty_iff] at h
    rw [h] at hf
    cases hf
  | some r =>
    rw [hc] at h
    simp only [Bool.and_eq_true, decide_eq_true_eq] at h
    refine ⟨r, rfl, h.1, ?_⟩
    have h2 := List.all_eq_true.mp h.2 kd (List.mem_of_getElem? hf)
    rcases kd with - | ⟨g', - | o⟩
    · trivial
    · simpa using h2
    · simpa using h2
theorem getF (hx : p.tables.exec = Jvm.exec) (hb : c.code = cc) (hown : s.vm.findClass (clsN cls) = some m.cls) (hcl : cls < 10) (hts : ∀ w ∈ gTb, w.before args s = true) (hn : ∀ w ∈ nTb, w.before args s = true) (hK : va_K D vwCl (tysT cT) s)
    (hP : va_P D vwCl (wsA cT ad t M O T) H) (hi : i < cnt g) (hsh : shape g = .inl (ci, fs)) (hlk : List.lookup n (cps cls).1 = some (ci, f)) (hf : fs[f]? = some kd) (hd : decode cc pc = .ok (.getfield n, 3))
    (kk : W p l e R s m args below meth c H locs cells slots Q (F0 m (pc + 3) lr (fval ad M g i f kd :: rest))) : W p l e R s m args below meth c H locs cells slots Q (F0 m pc lr (.ref (ad g i) :: rest)) := by
  obtain ⟨q0, -, he⟩ := ws_at (cT := cT) (ad := ad) (t := t) (M := M) (O := O) (T := T) hi
  obtain ⟨r, hr, hlt, hl⟩ := cps_F hcl _ (lookup_mem hlk)
  have hw : wcell cT ad M O g i = .inr (ci, fs.mapIdx (fun k f => fval ad M g i k f)) := by unfold wcell; rw [hsh]
  rw [hw] at he
  have hv : (fs.mapIdx (fun k f => fval ad M g i k f))[f]? = some (fval ad M g i f kd) := by rw [List.getElem?_mapIdx, hf]; rfl
  have hin := cls_in r (List.mem_of_getElem? hr)
  rcases hl with hl | hl
  · exact va_get hx hb hts hin hown hK hP q0 he hr f hlt (hts _ hl) (fun x h => h) hv hd kk
  · exact va_getN hx hb hts hin hown hK hP q0 he hr f hlt (hn _ hl) (fun x h => h) hv hd kk
theorem putF (hx : p.tables.exec = Jvm.exec) (hb : c.code = cc) (hown : s.vm.findClass (clsN cls) = some m.cls) (hcl : cls < 10) (hts : ∀ w ∈ gTb, w.before args s = true) (hn : ∀ w ∈ nTb, w.before args s = true) (hK : va_K D vwCl (tysT cT) s)
    (hwd : WDp D cT ad A s.heap t M O T H locs) (hi : i < cnt g) (hsh : shape g = .inl (ci, fs)) (hlk : List.lookup n (cps cls).1 = some (ci, f)) (hf : fs[f]? = some kd) (hd : decode cc pc = .ok (.putfield n, 3))
    {x : Int32} {v : Value} (hv : fval ad (mput M g i f x) g i f kd = v)
    (hty : ∀ r : vw_C, vwCl[ci]? = some r → ∃ ty, parseFieldDescriptor (r.2.1 f).2.2.1 = some ty ∧ (r.2.1 f).2.2.2 = false ∧ narrow ty v = v ∧ fits ty v = true)
    (kk : ∀ H1 locs1, WDp D cT ad A s.heap t (mput M g i f x) O T H1 locs1 → W p l e R s m args below meth c H1 locs1 cells slots Q (F0 m (pc + 3) lr rest)) : W p l e R s m args below meth c H locs cells slots Q (F0 m pc lr (v :: .ref (ad g i) :: rest)) := by
  obtain ⟨hP, hD, hS⟩ := hwd
  obtain ⟨q0, hq, he⟩ := ws_at (cT := cT) (ad := ad) (t := t) (M := M) (O := O) (T := T) hi
  obtain ⟨r, hr, hlt, hl⟩ := cps_F hcl _ (lookup_mem hlk)
  obtain ⟨ty, ht1, ht2, ht3, ht4⟩ := hty r hr
  have hmem := List.mem_of_getElem? hr
  obtain ⟨ty0, hty0⟩ := cls_ty r hmem
  have hw : wcell cT ad M O g i = .inr (ci, fs.mapIdx (fun k f => fval ad M g i k f)) := by unfold wcell; rw [hsh]
  have hw' : wcell cT ad (mput M g i f x) O g i = .inr (ci, fs.mapIdx (fun k f' => fval ad (mput M g i f x) g i k f')) := by unfold wcell; rw [hsh]
  rw [hw] at he
  have hset : (fs.mapIdx (fun k f => fval ad M g i k f)).set f v = fs.mapIdx (fun k f' => fval ad (mput M g i f x) g i k f') := by
    apply List.ext_getElem?
    intro j
    by_cases ej : f = j
    · subst ej
      rw [List.getElem?_set_self (by rw [List.length_mapIdx]; exact (List.getElem?_eq_some_iff.mp hf).1), List.getElem?_mapIdx, hf, ← hv]
      rfl
    · rw [List.getElem?_set_ne ej, List.getElem?_mapIdx, List.getElem?_mapIdx]
      cases hj : fs[j]? with
      | none => rfl
      | some kj =>
        have hM : mput M g i f x g i j = M g i j := by
          unfold mput
          rw [mrow_eq]
          exact if_neg (fun q => ej q.symm)
        show some (fval ad M g i j kj) = some (fval ad (mput M g i f x) g i j kj)
        rcases kj with - | ⟨g', - | o⟩ <;> simp only [fval, hM]
  have hws : (wsA cT ad t M O T).set q0 (ad g i, .inr (ci, (fs.mapIdx (fun k f => fval ad M g i k f)).set f v)) = wsA cT ad t (mput M g i f x) O T :=
    ws_set (M' := mput M g i f x) (O' := O) hq (fun g' i' h => wcell_cong (mrow_ne h)) (by rw [hw', hset])
  have hln : f < (fs.mapIdx (fun k f => fval ad M g i k f)).length := by rw [List.length_mapIdx]; exact (List.getElem?_eq_some_iff.mp hf).1
  have K : ∀ (H1 : Heap) (locs1 : List Loc), va_P D vwCl ((wsA cT ad t M O T).set q0 (ad g i, .inr (ci, (fs.mapIdx (fun k f => fval ad M g i k f)).set f v))) H1 → va_D A ((wsA cT ad t M O T).set q0 (ad g i, .inr (ci, (fs.mapIdx (fun k f => fval ad M g i k f)).set f v))) → va_S A s.heap H1 locs1 → W p l e R s m args below meth c H1 locs1 cells slots Q (F0 m (pc + 3) lr rest) := by
    intro H1 locs1 h1 h2 h3
    rw [hws] at h1 h2
    exact kk H1 locs1 ⟨h1, h2, h3⟩
  have hin := cls_in r hmem
  rcases hl with hl | hl
  · exact va_put hx hb hts hin ty0 hty0 (cls_nm r hmem) hown hK hP hD hS q0 he hr f hlt (hts _ hl) (fun x h => h) ht2 ht1 ht3 ht4 hln hd K
  · exact va_putN hx hb hts hin ty0 hty0 (cls_nm r hmem) hown hK hP hD hS q0 he hr f hlt (hn _ hl) (fun x h => h) ht2 ht1 ht3 ht4 hln hd K
end S4
