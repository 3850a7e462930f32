/-! Locals and stack: the picture's step is the machine's. -/
def vrel (ad : Nat → Nat → Nat) (t : Nat) : AV → Value
  | .inl x => .int x
  | .inr (.inl x) => .long x
  | .inr (.inr (g, i)) => .ref (if g = 90 then t else ad g i)
def okR (T : Tmp) (g i : Nat) : Prop := i < cnt g ∨ (g = 90 ∧ i = 0 ∧ T.isSome = true) ∨ ((g = 91 ∨ g = 92 ∨ g = 93 ∨ g = 94) ∧ i = 0)
def wfV (T : Tmp) : AV → Prop
  | .inr (.inr (g, i)) => okR T g i
  | _ => True
def wfL (T : Tmp) (ls : Lcs) : Prop := ∀ (i : Nat) (v : AV), ls[i]? = some (some v) → wfV T v
def wfS (T : Tmp) (st : List AV) : Prop := ∀ v ∈ st, wfV T v
def lvl (ad : Nat → Nat → Nat) (t : Nat) (ls : Lcs) : List (Nat × Value) := (List.range ls.length).filterMap (fun i => match ls[i]? with
  | some (some v) => some (i, vrel ad t v)
  | _ => none)
theorem mem_lvl {ad : Nat → Nat → Nat} {t : Nat} {ls : Lcs} {q : Nat × Value} : q ∈ lvl ad t ls ↔ ∃ v, ls[q.1]? = some (some v) ∧ q.2 = vrel ad t v := by
  unfold lvl
  rw [List.mem_filterMap]
  constructor
  · rintro ⟨i, -, h⟩
    split at h
    · rename_i v hv
      cases h
      exact ⟨v, hv, rfl⟩
    · cases h
  · rintro ⟨v, hv, he⟩
    refine ⟨q.1, ?_, ?_⟩
    · rw [List.mem_range]
      exact (List.getElem?_eq_some_iff.mp hv).1
    · rw [hv]
      show some (q.1, vrel ad t v) = some q
      rw [← he]
def LR (ad : Nat → Nat → Nat) (t nL : Nat) (ls : Lcs) (lr : Array Slot) : Prop := ls.length = nL ∧ lv_has lr nL (lvl ad t ls)
theorem LR.get {ad : Nat → Nat → Nat} {t nL : Nat} {ls : Lcs} {lr : Array Slot} (h : LR ad t nL ls lr) {i : Nat} {v : AV} (hv : lget ls i = some v) : lr[i]? = some (.val (vrel ad t v)) := by
  refine h.2.2.2 (i, vrel ad t v) (mem_lvl.mpr ⟨v, ?_, rfl⟩)
  unfold lget at hv
  split at hv
  · rename_i w hw
    cases hv
    exact hw
  · cases hv
theorem lget_mem {ls : Lcs} {i : Nat} {v : AV} (hv : lget ls i = some v) : ls[i]? = some (some v) := by
  unfold lget at hv
  split at hv
  · rename_i w hw
    cases hv
    exact hw
  · cases hv
theorem vrel_cat (ad : Nat → Nat → Nat) (t : Nat) (v : AV) : (vrel ad t v).category = acat v := by
  rcases v with x | x | ⟨g, i⟩ <;> rfl
theorem lkill_len (ls : Lcs) (i : Nat) : (lkill ls i).length = ls.length := by
  unfold lkill
  split
  · rfl
  · split
    · simp
    · rfl
theorem lkill_get {ls : Lcs} {i j : Nat} {v : AV} (h : (lkill ls i)[j]? = some (some v)) : ls[j]? = some (some v) ∧ (j + 1 = i → acat v ≠ 2) := by
  unfold lkill at h
  split at h
  · exact ⟨h, fun e => by omega⟩
  · rename_i k
    split at h
    · rename_i x hx
      by_cases e : j = k
      · subst e
        rw [List.getElem?_set] at h
        split at h
        · split at h <;> cases h
        · rename_i hne
          exact absurd rfl hne
      · rw [List.getElem?_set_ne (fun q => e q.symm)] at h
        exact ⟨h, fun q => by omega⟩
    · rename_i hno
      refine ⟨h, fun e hc => ?_⟩
      have e : j = k := by omega
      subst e
      rcases v with x | x | ⟨g, i⟩
      · simp [acat] at hc
      · exact hno x h
      · simp [acat] at hc
theorem lset1_len (ls : Lcs) (i : Nat) (v : AV) : (lset1 ls i v).length = ls.length := by simp [lset1, lkill_len]
theorem lset2_len (ls : Lcs) (i : Nat) (v : AV) : (lset2 ls i v).length = ls.length := by simp [lset2, lkill_len]
theorem lset1_get {ls : Lcs} {i j : Nat} {w v : AV} (h : (lset1 ls i w)[j]? = some (some v)) : (j = i ∧ v = w) ∨ (j ≠ i ∧ ls[j]? = some (some v) ∧ (j + 1 = i → acat v ≠ 2)) := by
  unfold lset1 at h
  by_cases e : j = i
  · subst e
    rw [List.getElem?_set] at h
    split at h
    · split at h
      · cases h
        exact Or.inl ⟨rfl, rfl⟩
      · cases h
    · rename_i hne
      exact absurd rfl hne
  · rw [List.getElem?_set_ne (fun q => e q.symm)] at h
    exact Or.inr ⟨e, lkill_get h⟩
theorem lset2_get {ls : Lcs} {i j : Nat} {w v : AV} (h : (lset2 ls i w)[j]? = some (some v)) : (j = i ∧ v = w) ∨ (j ≠ i ∧ j ≠ i + 1 ∧ ls[j]? = some (some v) ∧ (j + 1 = i → acat v ≠ 2)) := by
  unfold lset2 at h
  by_cases e1 : j = i + 1
  · subst e1
    rw [List.getElem?_set] at h
    split at h
    · split at h <;> cases h
    · rename_i hne
      exact absurd rfl hne
  · rw [List.getElem?_set_ne (fun q => e1 q.symm)] at h
    rcases lset1_get (show (lset1 ls i w)[j]? = some (some v) from h) with q | ⟨q1, q2⟩
    · exact Or.inl q
    · exact Or.inr ⟨q1, e1, q2⟩
theorem LR.set1 {ad : Nat → Nat → Nat} {t nL : Nat} {ls : Lcs} {lr : Array Slot} (hlen : ls.length = nL) {i : Nat} {w : AV} (h : lv_has lr nL ((i, vrel ad t w) :: (lvl ad t ls).filter (fun q => !(q.1 == i) && !(q.1 + 1 == i && q.2.category == 2)))) : LR ad t nL (lset1 ls i w) lr := by
  refine ⟨by rw [lset1_len]; exact hlen, h.1, h.2.1, fun q hq => h.2.2 q ?_⟩
  obtain ⟨v, hv, he⟩ := mem_lvl.mp hq
  rcases lset1_get hv with ⟨e1, e2⟩ | ⟨e1, e2, e3⟩
  · rw [show q = (i, vrel ad t w) from Prod.ext e1 (by rw [he, e2])]
    exact List.mem_cons_self
  · refine List.mem_cons_of_mem _ (List.mem_filter.mpr ⟨mem_lvl.mpr ⟨v, e2, he⟩, ?_⟩)
    rw [he, vrel_cat]
    by_cases e4 : q.1 + 1 = i
    · simp [e1, e4, e3 e4]
    · simp [e1, e4]
theorem LR.set2 {ad : Nat → Nat → Nat} {t nL : Nat} {ls : Lcs} {lr : Array Slot} (hlen : ls.length = nL) {i : Nat} {w : AV} (h : lv_has lr nL ((i, vrel ad t w) :: (lvl ad t ls).filter (fun q => !(q.1 == i) && (!(q.1 == i + 1) && !(q.1 + 1 == i && q.2.category == 2))))) : LR ad t nL (lset2 ls i w) lr := by
  refine ⟨by rw [lset2_len]; exact hlen, h.1, h.2.1, fun q hq => h.2.2 q ?_⟩
  obtain ⟨v, hv, he⟩ := mem_lvl.mp hq
  rcases lset2_get hv with ⟨e1, e2⟩ | ⟨e1, e0, e2, e3⟩
  · rw [show q = (i, vrel ad t w) from Prod.ext e1 (by rw [he, e2])]
    exact List.mem_cons_self
  · refine List.mem_cons_of_mem _ (List.mem_filter.mpr ⟨mem_lvl.mpr ⟨v, e2, he⟩, ?_⟩)
    rw [he, vrel_cat]
    by_cases e4 : q.1 + 1 = i
    · simp [e1, e0, e4, e3 e4]
    · simp [e1, e0, e4]
theorem wfL.set1 {T : Tmp} {ls : Lcs} {i : Nat} {w : AV} (h : wfL T ls) (hw : wfV T w) : wfL T (lset1 ls i w) := by
  intro j v hv
  rcases lset1_get hv with ⟨-, e2⟩ | ⟨-, e2, -⟩
  · rw [e2]; exact hw
  · exact h j v e2
theorem wfL.set2 {T : Tmp} {ls : Lcs} {i : Nat} {w : AV} (h : wfL T ls) (hw : wfV T w) : wfL T (lset2 ls i w) := by
  intro j v hv
  rcases lset2_get hv with ⟨-, e2⟩ | ⟨-, -, e2, -⟩
  · rw [e2]; exact hw
  · exact h j v e2
theorem wfS.tl {T : Tmp} {v : AV} {st : List AV} (h : wfS T (v :: st)) : wfS T st := fun w hw => h w (List.mem_cons_of_mem _ hw)
theorem wfS.hd {T : Tmp} {v : AV} {st : List AV} (h : wfS T (v :: st)) : wfV T v := h v List.mem_cons_self
theorem wfS.cons {T : Tmp} {v : AV} {st : List AV} (hv : wfV T v) (h : wfS T st) : wfS T (v :: st) := fun w hw => (List.mem_cons.mp hw).elim (fun e => e ▸ hv) (h w)
section S1
variable {p : Program} {l : Launch} {e : Env} {R : Room} {s : State} {m : MethodId} {args : Array Value} {below : List Frame} {meth : Method} {c : Code} {H : Heap} {locs : List Loc} {cells slots : Nat} {Q : State → Prop} {cc : ByteArray}
set_option maxHeartbeats 4000000 in
theorem stepS_ok {ad : Nat → Nat → Nat} {t nL pc : Nat} {T : Tmp} (hx : p.tables.exec = Jvm.exec) (hb : c.code = cc) {i : Instr} {ls ls' : Lcs} {st st' : List AV} (hd : decode cc pc = .ok (i, ilen i)) (hok : iok nL i = true) (h : stepS i ls st = some (ls', st')) {lr : Array Slot} (hl : LR ad t nL ls lr) (hwl : wfL T ls) (hws : wfS T st)
    (k : ∀ lr', LR ad t nL ls' lr' → wfL T ls' → wfS T st' → W p l e R s m args below meth c H locs cells slots Q (F0 m (pc + ilen i) lr' (st'.map (vrel ad t)))) :
    W p l e R s m args below meth c H locs cells slots Q (F0 m pc lr (st.map (vrel ad t))) := by
  cases i
  all_goals first
    | exact nomatch (show (none : Option (Lcs × List AV)) = some (ls', st') from h)
    | skip
  case iload n =>
    simp only [stepS] at h
    split at h
    · rename_i x hx'
      cases h
      exact lv_iload hx hb hd (hl.get hx') (k lr hl hwl (hws.cons trivial))
    · cases h
  case iload_n n =>
    simp only [stepS] at h
    split at h
    · rename_i x hx'
      cases h
      exact lv_iload_n hx hb hd rfl (hl.get hx') (k lr hl hwl (hws.cons trivial))
    · cases h
  case aload n =>
    simp only [stepS] at h
    split at h
    · rename_i q hx'
      cases h
      exact lv_aload hx hb hd (hl.get hx') (k lr hl hwl (hws.cons (hwl _ _ (lget_mem hx'))))
    · cases h
  case aload_n n =>
    simp only [stepS] at h
    split at h
    · rename_i q hx'
      cases h
      exact lv_aload_n hx hb hd rfl (hl.get hx') (k lr hl hwl (hws.cons (hwl _ _ (lget_mem hx'))))
    · cases h
  case lload n =>
    simp only [stepS] at h
    split at h
    · rename_i x hx'
      cases h
      exact lv_lload hx hb hd (hl.get hx') (k lr hl hwl (hws.cons trivial))
    · cases h
  case lload_n n =>
    simp only [stepS] at h
    split at h
    · rename_i x hx'
      cases h
      exact lv_lload_n hx hb hd rfl (hl.get hx') (k lr hl hwl (hws.cons trivial))
    · cases h
  case istore n =>
    simp only [stepS] at h
    split at h
    · cases h
      exact lv_istore hx hb hd hl.2 (of_decide_eq_true hok) rfl (fun lr' hl' => k lr' (LR.set1 hl.1 hl') (hwl.set1 trivial) hws.tl)
    · cases h
  case istore_n n =>
    simp only [stepS] at h
    split at h
    · cases h
      exact lv_istore_n hx hb hd rfl hl.2 (of_decide_eq_true hok) rfl (fun lr' hl' => k lr' (LR.set1 hl.1 hl') (hwl.set1 trivial) hws.tl)
    · cases h
  case astore n =>
    simp only [stepS] at h
    split at h
    · cases h
      exact lv_astore hx hb hd hl.2 (of_decide_eq_true hok) rfl (fun lr' hl' => k lr' (LR.set1 hl.1 hl') (hwl.set1 hws.hd) hws.tl)
    · cases h
  case astore_n n =>
    simp only [stepS] at h
    split at h
    · cases h
      exact lv_astore_n hx hb hd rfl hl.2 (of_decide_eq_true hok) rfl (fun lr' hl' => k lr' (LR.set1 hl.1 hl') (hwl.set1 hws.hd) hws.tl)
    · cases h
  case lstore n =>
    simp only [stepS] at h
    split at h
    · cases h
      exact lv_lstore hx hb hd hl.2 (of_decide_eq_true hok) rfl (fun lr' hl' => k lr' (LR.set2 hl.1 hl') (hwl.set2 trivial) hws.tl)
    · cases h
  case lstore_n n =>
    simp only [stepS] at h
    split at h
    · cases h
      exact lv_lstore_n hx hb hd rfl hl.2 (of_decide_eq_true hok) rfl (fun lr' hl' => k lr' (LR.set2 hl.1 hl') (hwl.set2 trivial) hws.tl)
    · cases h
  case iconst n =>
    cases h
    exact lv_iconst hx hb hd (of_decide_eq_true hok) (k lr hl hwl (hws.cons trivial))
  case bipush n =>
    cases h
    exact lv_bipush hx hb hd (of_decide_eq_true hok) (k lr hl hwl (hws.cons trivial))
  case sipush n =>
    cases h
    exact lv_sipush hx hb hd (of_decide_eq_true hok) (k lr hl hwl (hws.cons trivial))
  case lconst n =>
    cases h
    exact lv_lconst hx hb hd rfl (k lr hl hwl (hws.cons trivial))
  case iinc n d =>
    simp only [iok, Bool.and_eq_true, decide_eq_true_eq] at hok
    simp only [stepS] at h
    split at h
    · rename_i x hx'
      cases h
      obtain ⟨kk, hkk⟩ := List.getElem?_of_mem (mem_lvl.mpr ⟨_, lget_mem hx', rfl⟩ : (n, vrel ad t (.inl x)) ∈ lvl ad t ls)
      exact lv_iinc hx hb hd hl.2 hkk (by rw [hok.2]) hok.1 rfl (fun lr' hl' => k lr' (LR.set1 hl.1 hl') (hwl.set1 trivial) hws)
    · cases h
  case iadd =>
    simp only [stepS] at h
    split at h
    · cases h
      exact lv_iadd hx hb hd (k lr hl hwl (hws.tl.tl.cons trivial))
    · cases h
  case isub =>
    simp only [stepS] at h
    split at h
    · cases h
      exact lv_isub hx hb hd (k lr hl hwl (hws.tl.tl.cons trivial))
    · cases h
  case imul =>
    simp only [stepS] at h
    split at h
    · cases h
      exact lv_imul hx hb hd (k lr hl hwl (hws.tl.tl.cons trivial))
    · cases h
  case iand =>
    simp only [stepS] at h
    split at h
    · cases h
      exact lv_iand hx hb hd (k lr hl hwl (hws.tl.tl.cons trivial))
    · cases h
  case ior =>
    simp only [stepS] at h
    split at h
    · cases h
      exact lv_ior hx hb hd (k lr hl hwl (hws.tl.tl.cons trivial))
    · cases h
  case ixor =>
    simp only [stepS] at h
    split at h
    · cases h
      exact lv_ixor hx hb hd (k lr hl hwl (hws.tl.tl.cons trivial))
    · cases h
  case ishl =>
    simp only [stepS] at h
    split at h
    · cases h
      exact lv_ishl hx hb hd (k lr hl hwl (hws.tl.tl.cons trivial))
    · cases h
  case ishr =>
    simp only [stepS] at h
    split at h
    · cases h
      exact lv_ishr hx hb hd (k lr hl hwl (hws.tl.tl.cons trivial))
    · cases h
  case ineg =>
    simp only [stepS] at h
    split at h
    · cases h
      exact lv_ineg hx hb hd (k lr hl hwl (hws.tl.cons trivial))
    · cases h
  case i2l =>
    simp only [stepS] at h
    split at h
    · cases h
      exact lv_i2l hx hb hd rfl (k lr hl hwl (hws.tl.cons trivial))
    · cases h
  case lshl =>
    simp only [stepS] at h
    split at h
    · cases h
      exact lv_lshl hx hb hd rfl (k lr hl hwl (hws.tl.tl.cons trivial))
    · cases h
  case lor =>
    simp only [stepS] at h
    split at h
    · cases h
      exact lv_lor hx hb hd (k lr hl hwl (hws.tl.tl.cons trivial))
    · cases h
  case lcmp =>
    simp only [stepS] at h
    split at h
    · cases h
      exact W.lcmp hx hb hd (k lr hl hwl (hws.tl.tl.cons trivial))
    · cases h
  case dup =>
    simp only [stepS] at h
    split at h
    · cases h
      exact lv_dup hx hb hd rfl (k lr hl hwl (hws.cons trivial))
    · cases h
      exact lv_dup hx hb hd rfl (k lr hl hwl (hws.cons hws.hd))
    · cases h
  case dup2 =>
    simp only [stepS] at h
    split at h
    · cases h
      exact lv_dup2_11 hx hb hd rfl rfl (k lr hl hwl (wfS.cons (v := .inl _) trivial (wfS.cons (v := .inl _) trivial hws)))
    · cases h
      exact lv_dup2_11 hx hb hd rfl rfl (k lr hl hwl (wfS.cons (v := .inl _) trivial (wfS.cons hws.tl.hd hws)))
    · cases h
  case pop =>
    simp only [stepS] at h
    split at h
    · cases h
      exact lv_pop hx hb hd rfl (k lr hl hwl hws.tl)
    · cases h
end S1
