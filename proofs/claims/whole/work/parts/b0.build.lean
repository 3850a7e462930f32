/-! The start: cells laid one behind the other. -/
def Bw (D : va_G) (b : Nat) (es : List va_E) (H : Heap) : Prop := H.size = b + es.length ∧ ∀ (k : Nat) (e : va_E), es[k]? = some e → va_at D vwCl (b + k, e) H
def addW (b : Nat) (es : List va_E) : va_W := es.mapIdx (fun k e => (b + k, e))
theorem addW_get {b : Nat} {es : List va_E} {k : Nat} {e : va_E} (h : es[k]? = some e) : (addW b es)[k]? = some (b + k, e) := by
  unfold addW
  rw [List.getElem?_mapIdx, h]
  rfl
section B1
variable {D : va_G} {b : Nat} {es es0 es' : List va_E} {H H1 H0 : Heap} {locs : List Loc}
theorem Bw.P (h : Bw D b es H) : va_P D vwCl (addW b es) H := by
  intro k q hk
  unfold addW at hk
  rw [List.getElem?_mapIdx] at hk
  cases he : es[k]? with
  | none => rw [he] at hk; cases hk
  | some e => rw [he] at hk; cases hk; exact h.2 k e he
theorem Bw.push {e : va_E} (h : Bw D b es H) (z : H1.size = H.size + 1) (o : ∀ q : Nat, q < H.size → H1[q]? = H[q]?) (e1 : va_at D vwCl (b + es.length, e) H1) : Bw D b (es ++ [e]) H1 := by
  refine ⟨by rw [z, h.1, List.length_append]; rfl, fun k x hx => ?_⟩
  by_cases hk : k < es.length
  · rw [List.getElem?_append_left hk] at hx
    exact (h.2 k x hx).kept (o _ ((h.2 k x hx).lt))
  · rw [List.getElem?_append_right (by omega)] at hx
    have h0 : k - es.length < 1 := (List.getElem?_eq_some_iff.mp hx).1
    rw [show k - es.length = 0 by omega] at hx
    cases hx
    rw [show k = es.length by omega]
    exact e1
theorem Bw.set {k : Nat} {e0 e : va_E} (h : Bw D b es H) (hk : es[k]? = some e0) (he : va_at D vwCl (b + k, e) H1) (z : H1.size = H.size) (oq : ∀ q : Nat, q ≠ b + k → H1[q]? = H[q]?) : Bw D b (es.set k e) H1 := by
  have hl := (List.getElem?_eq_some_iff.mp hk).1
  refine ⟨by rw [z, h.1, List.length_set], fun j x hx => ?_⟩
  by_cases e1 : k = j
  · subst e1
    rw [List.getElem?_set_self hl] at hx
    cases hx
    exact he
  · rw [List.getElem?_set_ne e1] at hx
    exact (h.2 j x hx).kept (oq _ (by show b + j ≠ b + k; omega))
theorem Bw.join {e0 : va_E} (h : Bw D b (es0 ++ [e0]) H) (h1 : Bw D (b + es0.length) es' H1) (hk : ∀ q : Nat, q < H.size → ¬ b + es0.length ≤ q → H1[q]? = H[q]?) : Bw D b (es0 ++ es') H1 := by
  refine ⟨by rw [h1.1, List.length_append]; omega, fun k x hx => ?_⟩
  by_cases hl : k < es0.length
  · rw [List.getElem?_append_left hl] at hx
    have h2 := h.2 k x (by rw [List.getElem?_append_left hl]; exact hx)
    exact h2.kept (hk _ h2.lt (by show ¬ b + es0.length ≤ b + k; omega))
  · rw [List.getElem?_append_right (by omega)] at hx
    have h2 := h1.2 _ x hx
    rw [show b + es0.length + (k - es0.length) = b + k by omega] at h2
    exact h2
theorem Bw.mem {e : va_E} {k : Nat} (h : Bw D b es H) (hk : es[k]? = some e) : va_at D vwCl (b + k, e) H := h.2 k e hk
theorem bS_push (hS : va_S (fun q => b ≤ q) H0 H locs) (z : H.size ≤ H1.size) (o : ∀ q : Nat, q < H.size → H1[q]? = H[q]?) : va_S (fun q => b ≤ q) H0 H1 locs := ⟨Nat.le_trans hS.1 z, fun x h1 h2 => (o x (Nat.lt_of_lt_of_le h1 hS.1)).trans (hS.2.1 x h1 h2), hS.2.2⟩
end B1
/-! an array class over another -/
def AOA (t : FieldType) (U : State) : Prop := (Cond.arrayOver (.array t)).before #[] U = true
theorem AOA_spec {t : FieldType} {args : Array Value} {s : State} (h : (Cond.arrayOver (.array t)).before args s = true) :
    ∃ comp c k, s.vm.findClass (FieldType.array t).toString = some comp ∧ (s.vm.classes.findIdx? fun (x : Class) => match x.kind with | .array component _ => component == comp | _ => false) = some c ∧ s.vm.classes[c]? = some k ∧ k.kind = .array comp (.array t) ∧ s.vm.findClass ("[" ++ (FieldType.array t).toString) = some c := by
  unfold Cond.before at h
  simp only [Cond.holds, Cond.value, beq_iff_eq] at h
  cases hc : s.vm.findClass (FieldType.array t).toString with
  | none => simp [hc] at h
  | some comp =>
    simp only [hc, Option.bind_some, Option.bind_eq_some_iff, Option.map_eq_some_iff] at h
    obtain ⟨c, hi, k, hk, hb⟩ := h
    obtain ⟨hlt, hp, -⟩ := Array.findIdx?_eq_some_iff_getElem.mp hi
    have hkk : s.vm.classes[c] = k := (Array.getElem?_eq_some_iff.mp hk).2
    rw [hkk] at hp
    cases hkind : k.kind with
    | array component ty =>
      rw [hkind] at hb hp
      simp at hb hp
      exact ⟨comp, c, k, rfl, hi, hk, by rw [hkind, hp, hb.1], hb.2⟩
    | _ => rw [hkind] at hb; simp at hb
theorem AOA.moved {t : FieldType} {u U : State} (hvm : u.vm.Alike U.vm) (h : AOA t u) : AOA t U := by
  obtain ⟨comp, c, k, h1, h2, h3, h4, h5⟩ := AOA_spec h
  obtain ⟨k', hk', he⟩ := hvm.2.2 _ _ h3
  have hi : (U.vm.classes.findIdx? fun (x : Class) => match x.kind with | .array component _ => component == comp | _ => false) = some c := by
    refine (va_idx_bare U.vm comp).symm.trans ?_
    first | rw [hvm.bare_eq] | rw [← hvm.bare_eq]
    exact (va_idx_bare u.vm comp).trans h2
  have hkind : k'.kind = .array comp (.array t) := by rw [he]; exact h4
  have f1 : U.vm.findClass (FieldType.array t).toString = some comp := by rw [hvm.findClass]; exact h1
  have f2 : U.vm.findClass ("[" ++ (FieldType.array t).toString) = some c := by rw [hvm.findClass]; exact h5
  unfold AOA Cond.before Cond.holds
  simp only [Cond.value]
  rw [f1, Option.bind_some]
  refine (congrArg (fun o : Option Nat => (o.bind (fun c => (U.vm.classes[c]?).map fun (k : Class) => match k.kind with | .array _ ty => decide (ty = FieldType.array t) && decide (U.vm.findClass ("[" ++ (FieldType.array t).toString) = some c) | _ => false) == some true)) hi).trans ?_
  simp [hk', hkind, f2]
/-! rows over such a world -/
section B2
variable {p : Program} {l : Launch} {e : Env} {R : Room} {s : State} {m : MethodId} {args : Array Value} {below : List Frame} {meth : Method} {c : Code} {H H0 : Heap} {locs : List Loc} {cells slots : Nat} {Q : State → Prop}
  {cc : ByteArray} {pc : Nat} {ls : Array Slot} {rest : List Value} {D : va_G} {b : Nat} {es es0 es' : List va_E} {tys : List (ClassId × FieldType)}
theorem bw_newa {atype : ArrayType} {cA0 : ClassId} {a0 : vp_A} {n : Int32} {N' : Nat} (hx : p.tables.exec = Jvm.exec) (hb : c.code = cc) (harr : (Cond.arrayClass (newarray.typeOf atype)).before args s = true) (hcl : s.vm.findClass ("[" ++ (newarray.typeOf atype).toString) = some cA0)
    (ha : ∀ cA : ClassId, vp_cell cA a0 = arrV cA N' (fun _ => defaultValue (newarray.typeOf atype))) (hB : Bw D b es H) (hS : va_S (fun q => b ≤ q) H0 H locs) (hn : ¬ n < 0) (hN : n.toNatClampNeg = N') (hbytes : N' * componentBytes (newarray.typeOf atype) ≤ 536870912) (hcells : cells + 1 ≤ R.cells) (hslots : slots + N' ≤ R.slots) (hdg : decode cc pc = .ok (.newarray atype, 2))
    (kk : ∀ H1 : Heap, Bw D b (es ++ [.inl (cA0, a0)]) H1 → va_S (fun q => b ≤ q) H0 H1 locs → W p l e R s m args below meth c H1 locs (cells + 1) (slots + N') Q (F0 m (pc + 2) ls (.ref (b + es.length) :: rest))) :
    W p l e R s m args below meth c H locs cells slots Q (F0 m pc ls (.int n :: rest)) := by
  refine va_newaK hx hb harr rfl hdg rfl hn hN hbytes hcells hslots hB.1 fun H1 cA e1 z1 o1 hAr hNm => ?_
  have hc : cA = cA0 := Option.some.inj (hNm.symm.trans hcl)
  subst hc
  refine kk H1 (hB.push (by rw [z1, hB.1]) (fun q hq => o1 q (by rw [← hB.1]; exact hq)) ?_) (bS_push hS (by rw [z1, hB.1]; omega) (fun q hq => o1 q (by rw [← hB.1]; exact hq)))
  show H1[b + es.length]? = some (vp_cell _ _)
  rw [ha]
  exact e1
theorem bw_new {own C : String} {T : u_T} {N ci index : Nat} {fs : List Value} {Ts : List Cond} (hx : p.tables.exec = Jvm.exec) (hb : c.code = cc) (hts : ∀ w ∈ Ts, w.before args s = true) (hin : ∀ w ∈ u_ws C T N, w ∈ Ts) (ty : Nat → FieldType) (hty : ∀ k, k < N → parseFieldDescriptor (T k).2.2.1 = some (ty k)) (hown : s.vm.findClass own = some m.cls) (hcl : (Cond.classLink own index C).before args s = true) (hinst : (Cond.instantiable C N).before args s = true) (hini : (Cond.initialized C).before args s = true)
    (hK : va_K D vwCl tys s) (hB : Bw D b es H) (hS : va_S (fun q => b ≤ q) H0 H locs) (hc : vwCl[ci]? = some (C, T, N)) (hfs : ∀ j, j < N → defaultValue (ty j) = vp_V fs j) (hcells : cells + 1 ≤ R.cells) (hslots : slots + N ≤ R.slots) (hdg : decode cc pc = .ok (.new index, 3))
    (kk : ∀ H1 : Heap, Bw D b (es ++ [.inr (ci, fs)]) H1 → va_S (fun q => b ≤ q) H0 H1 locs → W p l e R s m args below meth c H1 locs (cells + 1) (slots + N) Q (F0 m (pc + 3) ls (.ref (b + es.length) :: rest))) :
    W p l e R s m args below meth c H locs cells slots Q (F0 m pc ls rest) := by
  have hKn := hK.1 ci _ hc
  refine W.newcK hx hb hown hcl hinst hini rfl hdg hcells hslots hKn.2.1 hB.1 fun H1 kC hkC e1 z1 o1 => ?_
  refine kk H1 (hB.push (by rw [z1, hB.1]) (fun q hq => o1 q (by rw [← hB.1]; exact hq)) ?_) (bS_push hS (by rw [z1, hB.1]; omega) (fun q hq => o1 q (by rw [← hB.1]; exact hq)))
  exact ⟨_, hc, (u_born ty hts hin hKn hkC e1 hty).to hfs⟩
theorem bw_put {own : String} {q0 ci index : Nat} {r : vw_C} {fs : List Value} (hx : p.tables.exec = Jvm.exec) (hb : c.code = cc) (hts : ∀ w ∈ gTb, w.before args s = true) (hown : s.vm.findClass own = some m.cls) (hK : va_K D vwCl tys s) (hB : Bw D b es H) (hS0 : va_S (fun q => b ≤ q) H0 H locs) (he : es[q0]? = some (.inr (ci, fs))) (hc : vwCl[ci]? = some r) (k : Nat) (hk : k < r.2.2)
    (hlk : Cond.fieldLink own index (r.2.1 k).1 (r.2.1 k).2.1 (r.2.1 k).2.2.1 ∈ gTb) (hfin : (r.2.1 k).2.2.2 = false) {ty : FieldType} {v : Value} (hd : parseFieldDescriptor (r.2.1 k).2.2.1 = some ty) (hn : narrow ty v = v) (hfit : fits ty v = true) (hl : k < fs.length) (hdg : decode cc pc = .ok (.putfield index, 3))
    (kk : ∀ (H1 : Heap) (locs1 : List Loc), Bw D b (es.set q0 (.inr (ci, fs.set k v))) H1 → va_S (fun q => b ≤ q) H0 H1 locs1 → W p l e R s m args below meth c H1 locs1 cells slots Q (F0 m (pc + 3) ls rest)) :
    W p l e R s m args below meth c H locs cells slots Q (F0 m pc ls (v :: .ref (b + q0) :: rest)) := by
  have hmem := List.mem_of_getElem? hc
  have hin := cls_in r hmem
  obtain ⟨ty0, hty⟩ := cls_ty r hmem
  have hap := va_apart (own := own) hts hin ty0 hty (cls_nm r hmem) hK (show vwCl[ci]? = some (r.1, r.2.1, r.2.2) from hc)
  obtain ⟨r', h1, cell, q1, q2, q3, q4⟩ := hB.2 q0 _ he
  have hr : r' = r := Option.some.inj (h1.symm.trans hc)
  subst hr
  obtain ⟨hS, hfc, kC, hkC, hkind⟩ := hK.1 ci _ hc
  obtain ⟨cf, kf, fi, f, hi, hsl⟩ := hS k hk
  have hlay := hts _ (hin _ (u_in_lay hk))
  unfold u_lay at hlay
  rw [if_neg (by rw [hfin]; decide)] at hlay
  have hst := (u_facts hfc hkC (u_lays hts hin hk) hi).1
  have h6 := u_store hfc hkC hkind hlay hi hd hn hfit
  refine W.putK hx hb (f := f) ⟨hown, hts _ hlk, ⟨_, _, _, hi⟩, hst⟩ (by rw [q2]; exact h6) q1 q3 (by rw [hsl]; exact k2_hasslot (q4 k hk)) rfl rfl hdg fun H' e1 e2 e3 => ?_
  rw [hsl] at e1 ⊢
  exact kk H' _ (hB.set he ⟨_, hc, t_OB.to (V := updV (vp_V fs) k v) ⟨_, e1, q2, q3, t_set q4 hap hk v⟩ (fun j _ => vp_updV_set hl v j)⟩ e2 e3) (hS0.put e2 e3 (Nat.le_add_right _ _))
theorem bw_putF {own : String} {q0 ci index : Nat} {r : vw_C} {fs : List Value} (hx : p.tables.exec = Jvm.exec) (hb : c.code = cc) (hts : ∀ w ∈ gTb, w.before args s = true) (hown : s.vm.findClass own = some m.cls) (hin2 : meth.name = "<init>") (hK : va_K D vwCl tys s) (hB : Bw D b es H) (hS0 : va_S (fun q => b ≤ q) H0 H locs) (he : es[q0]? = some (.inr (ci, fs))) (hc : vwCl[ci]? = some r) (k : Nat) (hk : k < r.2.2)
    (hlk : Cond.fieldLink own index (r.2.1 k).1 (r.2.1 k).2.1 (r.2.1 k).2.2.1 ∈ gTb) (hfin : (r.2.1 k).2.2.2 = true) (hdecl : (r.2.1 k).1 = own) {ty : FieldType} {v : Value} (hd : parseFieldDescriptor (r.2.1 k).2.2.1 = some ty) (hn : narrow ty v = v) (hfit : fits ty v = true) (hl : k < fs.length) (hdg : decode cc pc = .ok (.putfield index, 3))
    (kk : ∀ (H1 : Heap) (locs1 : List Loc), Bw D b (es.set q0 (.inr (ci, fs.set k v))) H1 → va_S (fun q => b ≤ q) H0 H1 locs1 → W p l e R s m args below meth c H1 locs1 cells slots Q (F0 m (pc + 3) ls rest)) :
    W p l e R s m args below meth c H locs cells slots Q (F0 m pc ls (v :: .ref (b + q0) :: rest)) := by
  have hmem := List.mem_of_getElem? hc
  have hin := cls_in r hmem
  obtain ⟨ty0, hty⟩ := cls_ty r hmem
  have hap := va_apart (own := own) hts hin ty0 hty (cls_nm r hmem) hK (show vwCl[ci]? = some (r.1, r.2.1, r.2.2) from hc)
  obtain ⟨r', h1, cell, q1, q2, q3, q4⟩ := hB.2 q0 _ he
  have hr : r' = r := Option.some.inj (h1.symm.trans hc)
  subst hr
  obtain ⟨hS, hfc, kC, hkC, hkind⟩ := hK.1 ci _ hc
  obtain ⟨cf, kf, fi, f, hi, hsl⟩ := hS k hk
  have hlay := hts _ (hin _ (u_in_lay hk))
  unfold u_lay at hlay
  rw [if_pos hfin] at hlay
  have hst := (u_facts hfc hkC (u_lays hts hin hk) hi).1
  have hcf : m.cls = cf := by
    obtain ⟨_, _, c', _, _, _, -, -, hf', -, -, -, hown2, -⟩ := Cond.laysFinal_spec hlay
    have e1 : c' = cf := by have := hi.symm.trans hf'; simp at this; exact this.1.symm
    rw [hdecl] at hown2
    rw [← e1]; exact Option.some.inj (hown.symm.trans hown2)
  have h6 := u_fits hfc hkC hkind (Or.inr hlay) hi hd hn hfit
  refine W.putFinK hx hb hown (hts _ hlk) hi hst hcf hin2 (by rw [q2]; exact h6) q1 q3 (by rw [hsl]; exact k2_hasslot (q4 k hk)) rfl rfl hdg fun H' e1 e2 e3 => ?_
  rw [hsl] at e1 ⊢
  exact kk H' _ (hB.set he ⟨_, hc, t_OB.to (V := updV (vp_V fs) k v) ⟨_, e1, q2, q3, t_set q4 hap hk v⟩ (fun j _ => vp_updV_set hl v j)⟩ e2 e3) (hS0.put e2 e3 (Nat.le_add_right _ _))
theorem bw_get {own : String} {q0 ci index : Nat} {r : vw_C} {fs : List Value} (hx : p.tables.exec = Jvm.exec) (hb : c.code = cc) (hts : ∀ w ∈ gTb, w.before args s = true) (hown : s.vm.findClass own = some m.cls) (hK : va_K D vwCl tys s) (hB : Bw D b es H) (he : es[q0]? = some (.inr (ci, fs))) (hc : vwCl[ci]? = some r) (k : Nat) (hk : k < r.2.2)
    (hlk : Cond.fieldLink own index (r.2.1 k).1 (r.2.1 k).2.1 (r.2.1 k).2.2.1 ∈ gTb) {v : Value} (hv : fs[k]? = some v) (hdg : decode cc pc = .ok (.getfield index, 3)) (kk : W p l e R s m args below meth c H locs cells slots Q (F0 m (pc + 3) ls (v :: rest))) :
    W p l e R s m args below meth c H locs cells slots Q (F0 m pc ls (.ref (b + q0) :: rest)) :=
  va_get (C := r.1) (T := r.2.1) (N := r.2.2) hx hb hts (cls_in r (List.mem_of_getElem? hc)) hown hK hB.P q0 (addW_get he) hc k hk (hts _ hlk) (fun x h => h) hv hdg kk
theorem bw_alen {q0 t0 : Nat} {cA : ClassId} {x : vp_A} {ty : FieldType} {v : Int32} (hx : p.tables.exec = Jvm.exec) (hb : c.code = cc) (hK : va_K D vwCl tys s) (hB : Bw D b es H) (he : es[q0]? = some (.inl (cA, x))) (ht : tys[t0]? = some (cA, ty)) (hv : Int32.ofNat x.1 = v) (hdg : decode cc pc = .ok (.arraylength, 1)) (kk : W p l e R s m args below meth c H locs cells slots Q (F0 m (pc + 1) ls (.int v :: rest))) :
    W p l e R s m args below meth c H locs cells slots Q (F0 m pc ls (.ref (b + q0) :: rest)) := va_alen hx hb hK hB.P q0 t0 (addW_get he) ht hv hdg kk
theorem bw_iast {q0 t0 n : Nat} {cA : ClassId} {f : Nat → Int32} {i x : Int32} (hx : p.tables.exec = Jvm.exec) (hb : c.code = cc) (hK : va_K D vwCl tys s) (hB : Bw D b es H) (hS : va_S (fun q => b ≤ q) H0 H locs) (ha : es[q0]? = some (.inl (cA, n, .inl f))) (ht : tys[t0]? = some (cA, .int)) (hin : vp_in i n) (hdg : decode cc pc = .ok (.iastore, 1))
    (kk : ∀ (H1 : Heap) (locs1 : List Loc), Bw D b (es.set q0 (.inl (cA, n, .inl (upd f i.toNatClampNeg x)))) H1 → va_S (fun q => b ≤ q) H0 H1 locs1 → W p l e R s m args below meth c H1 locs1 cells slots Q (F0 m (pc + 1) ls rest)) :
    W p l e R s m args below meth c H locs cells slots Q (F0 m pc ls (.int x :: .int i :: .ref (b + q0) :: rest)) := by
  refine W.iast hx hb (hB.2 q0 _ ha) ((hK.2 t0 _ ht).1 n (fun j => .int (f j))) (fun q => by cases q) (by show ¬ (i < 0 ∨ (arrV _ _ _).slots.size ≤ _); rw [arrV_size]; exact hin) rfl rfl hdg fun H1 e z oq => ?_
  refine kk H1 _ (hB.set ha ?_ z oq) (hS.put z oq (Nat.le_add_right _ _))
  show H1[b + q0]? = some (vp_cell _ _)
  rw [e]
  rw [vp_cell_i, vp_cell_i, arrV_store]
  congr 2
  funext q
  by_cases hq : q = i.toNatClampNeg
  · subst hq
    simp [updV, upd]
  · simp [updV, upd, hq]
theorem bw_anew {own C : String} {index : Nat} {cA0 : ClassId} {n : Int32} {N' : Nat} (hx : p.tables.exec = Jvm.exec) (hb : c.code = cc) (hown : s.vm.findClass own = some m.cls) (hclink : (Cond.classLink own index C).before args s = true) (hover : va_AO C s) (hcl : s.vm.findClass ("[" ++ (FieldType.object C).toString) = some cA0) (hB : Bw D b es H) (hS : va_S (fun q => b ≤ q) H0 H locs)
    (hn : ¬ n < 0) (hN : n.toNatClampNeg = N') (hbytes : N' * 4 ≤ 536870912) (hcells : cells + 1 ≤ R.cells) (hslots : slots + N' ≤ R.slots) (hdg : decode cc pc = .ok (.anewarray index, 3))
    (kk : ∀ H1 : Heap, Bw D b (es ++ [.inl (cA0, N', .inr (.inr (.inr (.inr (fun _ => none)))))]) H1 → va_S (fun q => b ≤ q) H0 H1 locs → W p l e R s m args below meth c H1 locs (cells + 1) (slots + N') Q (F0 m (pc + 3) ls (.ref (b + es.length) :: rest))) :
    W p l e R s m args below meth c H locs cells slots Q (F0 m pc ls (.int n :: rest)) := by
  subst hN
  refine W.anew hx hb hown hclink (va_AO.use hover) rfl hdg rfl hn hbytes hcells hslots fun cA kA comp f1 f2 f3 f4 => ?_
  have hc : cA = cA0 := Option.some.inj (f1.symm.trans hcl)
  subst hc
  generalize hH1 : H.push ({ cls := cA, slots := Array.replicate n.toNatClampNeg .null, vm := .none } : Cell) = H1
  have z1 : H1.size = H.size + 1 := by rw [← hH1, Array.size_push]
  have e1 : H1[H.size]? = some (arrV cA n.toNatClampNeg (fun _ => .null)) := by rw [← hH1, Array.getElem?_push_size, ← arrV_new]
  have o1 : ∀ q : Nat, q < H.size → H1[q]? = H[q]? := fun q hq => by rw [← hH1, Array.getElem?_push, if_neg (Nat.ne_of_lt hq)]
  have hsz := hB.1
  rw [hsz] at e1
  have K := kk H1 (hB.push z1 o1 (by
    show H1[b + es.length]? = some (vp_cell _ _)
    rw [vp_cell_q]
    exact e1)) (bS_push hS (by omega) o1)
  rw [hsz]
  exact K
theorem bw_aast {q0 t0 qk ci n : Nat} {cA : ClassId} {r : vw_C} {vs : List Value} {f : Nat → Option Nat} {i : Int32} (hx : p.tables.exec = Jvm.exec) (hb : c.code = cc) (hK : va_K D vwCl tys s) (hB : Bw D b es H) (hS : va_S (fun q => b ≤ q) H0 H locs) (ha : es[q0]? = some (.inl (cA, n, .inr (.inr (.inr (.inr f)))))) (ht : tys[t0]? = some (cA, .object r.1)) (hv : es[qk]? = some (.inr (ci, vs))) (hc : vwCl[ci]? = some r) (hin : vp_in i n) (hdg : decode cc pc = .ok (.aastore, 1))
    (kk : ∀ (H1 : Heap) (locs1 : List Loc), Bw D b (es.set q0 (.inl (cA, n, .inr (.inr (.inr (.inr (va_up f i.toNatClampNeg (some (b + qk)))))))))  H1 → va_S (fun q => b ≤ q) H0 H1 locs1 → W p l e R s m args below meth c H1 locs1 cells slots Q (F0 m (pc + 1) ls rest)) :
    W p l e R s m args below meth c H locs cells slots Q (F0 m pc ls (.ref (b + qk) :: .int i :: .ref (b + q0) :: rest)) := by
  have hlt : i.toNatClampNeg < n := Nat.not_le.mp fun q => hin (Or.inr q)
  have h0 : ¬ i < 0 := fun q => hin (Or.inl q)
  obtain ⟨r', hr', cellV, g1, g2, g3, -⟩ := hB.2 qk _ hv
  have hcls := (hK.1 ci r hc).2
  obtain ⟨kA, comp, k1, k2, k3, -⟩ := (hK.2 t0 _ ht).2
  have hcomp : comp = D.1 ci := Option.some.inj (k3.symm.trans hcls.1)
  subst hcomp
  obtain ⟨kC, hkC, -⟩ := hcls.2
  refine W.aast hx hb (hB.2 q0 _ ha) (fun q h => by cases h) (fun h => by cases h) k1 k2 rfl hkC ⟨h0, by show _ < (arrV _ _ _).slots.size; rw [arrV_size]; exact hlt⟩ g1 (fun q h => by rw [g3] at h; cases h) (by rw [g2]; exact hkC) (by rw [g2]; exact va_assign hcls) rfl rfl hdg fun H1 e z oq => ?_
  refine kk H1 _ (hB.set ha ?_ z oq) (hS.put z oq (Nat.le_add_right _ _))
  show H1[b + q0]? = some (vp_cell _ _)
  rw [e]
  rw [vp_cell_q, vp_cell_q, arrV_store]
  congr 2
  funext q
  by_cases hq : q = i.toNatClampNeg
  · subst hq
    simp [updV, va_up, va_rf]
  · simp [updV, va_up, hq]
theorem outer_eq (c : ClassId) (N h0 : Nat) : ∀ i : Nat, Jvm.Free.Multi.outerC c N h0 i = arrV c N (fun j => va_rf (if j < i then some (h0 + 1 + j) else none))
  | 0 => by
    show ({ cls := c, slots := Array.replicate N .null, vm := .none } : Cell) = _
    rw [arrV_new]
    refine congrArg (arrV c N) (funext fun j => ?_)
    simp [va_rf]
  | i + 1 => by
    show (Jvm.Free.Multi.outerC c N h0 i).setSlot i (.ref (h0 + 1 + i)) = _
    rw [outer_eq c N h0 i, arrV_store]
    refine congrArg (arrV c N) (funext fun j => ?_)
    by_cases e : j = i
    · subst e
      simp [updV, va_rf]
    · by_cases h : j < i
      · simp [updV, e, h, Nat.lt_succ_of_lt h]
      · simp [updV, e, h, show ¬ j < i + 1 by omega]
def outE (cA : ClassId) (N h : Nat) : va_E := .inl (cA, N, .inr (.inr (.inr (.inr (fun i => if i < N then some (h + 1 + i) else none)))))
theorem bw_multi {own : String} {index : Nat} {cA0 cI : ClassId} {n k : Int32} {N' K' : Nat} (hx : p.tables.exec = Jvm.exec) (hb : c.code = cc) (hown : s.vm.findClass own = some m.cls) (hclink : (Cond.classLink own index ("[" ++ (FieldType.array .int).toString)).before args s = true) (hover : AOA .int s) (harr : (Cond.arrayClass .int).before args s = true) (hcl : s.vm.findClass ("[" ++ (FieldType.array .int).toString) = some cA0) (hci : s.vm.findClass (FieldType.array .int).toString = some cI)
    (hB : Bw D b es H) (hS : va_S (fun q => b ≤ q) H0 H locs) (hn : ¬ n < 0) (hk : ¬ k < 0) (hN : n.toNatClampNeg = N') (hM : k.toNatClampNeg = K') (hb1 : N' * 4 ≤ 536870912) (hb2 : K' * 4 ≤ 536870912) (hcells : cells + (1 + N') ≤ R.cells) (hslots : slots + (N' + N' * K') ≤ R.slots) (hdg : decode cc pc = .ok (.multianewarray index 2, 4))
    (kk : ∀ H1 : Heap, Bw D b (es ++ (outE cA0 N' (b + es.length) :: List.replicate N' (.inl (cI, K', .inl (fun _ => 0))))) H1 → va_S (fun q => b ≤ q) H0 H1 locs → W p l e R s m args below meth c H1 locs (cells + 1 + N') (slots + N' + N' * K') Q (F0 m (pc + 4) ls (.ref (b + es.length) :: rest))) :
    W p l e R s m args below meth c H locs cells slots Q (F0 m pc ls (.int k :: .int n :: rest)) := by
  subst hN
  subst hM
  intro T hT Xs
  obtain ⟨vm₁, cA, comp, -, fA, fC, -, -, X', step⟩ := Xs.multianewarray2F hx hown hclink hover harr (g := F0 m pc ls (.int k :: .int n :: rest)) rfl (by rw [hb]; exact hdg) rfl hn hk hb1 hb2 (by omega) rfl rfl hcells hslots
  have ec : cA = cA0 := Option.some.inj (fA.symm.trans hcl)
  have ei : comp = cI := Option.some.inj (fC.symm.trans hci)
  subst ec
  subst ei
  generalize hF : Jvm.Free.Multi.fill (T.setVm vm₁) cA comp n.toNatClampNeg k.toNatClampNeg (defaultValue .int) n.toNatClampNeg = F at X' step
  have hTh : (T.setVm vm₁).heap = H := hT
  obtain ⟨f1, f2, -, -⟩ := Jvm.Free.Multi.fill_facts (T.setVm vm₁) cA comp n.toNatClampNeg k.toNatClampNeg (defaultValue .int) n.toNatClampNeg
  rw [hF, hTh] at f1 f2
  have hold : ∀ x : Nat, x < H.size → F.heap[x]? = H[x]? := fun x hx => by
    have := Jvm.Free.Multi.fill_old (T.setVm vm₁) cA comp n.toNatClampNeg k.toNatClampNeg (defaultValue .int) (a := x) (by rw [hTh]; exact hx) n.toNatClampNeg
    rw [hF, hTh] at this
    exact this
  have hrow : ∀ j : Nat, j < n.toNatClampNeg → F.heap[H.size + 1 + j]? = some (vp_cell comp (k.toNatClampNeg, .inl (fun _ => 0))) := fun j hj => by
    have := Jvm.Free.Multi.fill_inner (T.setVm vm₁) cA comp n.toNatClampNeg k.toNatClampNeg (defaultValue .int) n.toNatClampNeg j hj
    rw [hF, hTh] at this
    rw [this, vp_cell_i, ← arrV_new]
    rfl
  rw [outer_eq] at f2
  have hsz := hB.1
  have K := kk F.heap ⟨by rw [f1, hsz, List.length_append, List.length_cons, List.length_replicate]; omega, fun j x hx => by
    by_cases h1 : j < es.length
    · rw [List.getElem?_append_left h1] at hx
      exact (hB.2 j x hx).kept (hold _ ((hB.2 j x hx).lt))
    · rw [List.getElem?_append_right (by omega)] at hx
      by_cases h2 : j = es.length
      · subst h2
        rw [Nat.sub_self] at hx
        cases hx
        show F.heap[b + es.length]? = some (vp_cell _ _)
        rw [vp_cell_q, ← hsz]
        exact f2
      · obtain ⟨i, hi⟩ : ∃ i, j = es.length + 1 + i := ⟨j - es.length - 1, by omega⟩
        subst hi
        rw [show es.length + 1 + i - es.length = i + 1 by omega, List.getElem?_cons_succ, List.getElem?_replicate] at hx
        split at hx
        · rename_i hlt
          cases hx
          have := hrow i hlt
          rw [hsz] at this
          show F.heap[b + (es.length + 1 + i)]? = some (vp_cell _ _)
          rw [show b + (es.length + 1 + i) = b + es.length + 1 + i by omega]
          exact this
        · cases hx⟩ (bS_push hS (by rw [f1]; omega) hold)
  obtain ⟨t, a1, b1⟩ := K F rfl X'
  refine ⟨t, step t ?_, b1⟩
  have e : T.heap.size = b + es.length := by rw [hT]; exact hsz
  rw [e]
  exact a1
/-- behind a constructor that was called for the newest cell -/
theorem bw_after {mc ms : Nat} {e0 : va_E} {st0 : List Value} {a : Array Value} (hr : va_Run p l e R s m args below meth c H locs cells slots mc ms (F0 m pc ls st0) rest (va_Qv (fun _ : Unit => True) (fun _ t => Bw D (b + es0.length) es' t.heap) (fun q => b + es0.length ≤ q) a) (fun q => b + es0.length ≤ q)) (hB : Bw D b (es0 ++ [e0]) H) (hS : va_S (fun q => b ≤ q) H0 H locs)
    (kk : ∀ (H1 : Heap) (locs1 : List Loc), Bw D b (es0 ++ es') H1 → va_S (fun q => b ≤ q) H0 H1 locs1 → W p l e R s m args below meth c H1 locs1 (cells + mc) (slots + ms) Q (F0 m (pc + 3) ls rest)) : W p l e R s m args below meth c H locs cells slots Q (F0 m pc ls st0) := by
  refine va_callv hr hS (fun q _ h => Nat.le_trans (Nat.le_add_right _ _) h) (fun q h => Nat.le_trans (Nat.le_add_right _ _) h) (fun u t H1 locs1 ht hvm _ hB1 hz hk hS1 => ?_)
  rw [ht] at hB1
  exact kk H1 locs1 (hB.join hB1 hk) hS1
/-- behind a method that was called for the first cell -/
theorem bw_same {mc ms : Nat} {st0 : List Value} {a : Array Value} (hr : va_Run p l e R s m args below meth c H locs cells slots mc ms (F0 m pc ls st0) rest (va_Qv (fun _ : Unit => True) (fun _ t => Bw D b es' t.heap) (fun q => b ≤ q) a) (fun q => b ≤ q)) (hS : va_S (fun q => b ≤ q) H0 H locs)
    (kk : ∀ (H1 : Heap) (locs1 : List Loc), Bw D b es' H1 → va_S (fun q => b ≤ q) H0 H1 locs1 → W p l e R s m args below meth c H1 locs1 (cells + mc) (slots + ms) Q (F0 m (pc + 3) ls rest)) : W p l e R s m args below meth c H locs cells slots Q (F0 m pc ls st0) := by
  refine va_callv hr hS (fun q _ h => h) (fun q h => h) (fun u t H1 locs1 ht hvm _ hB1 hz hk hS1 => ?_)
  rw [ht] at hB1
  exact kk H1 locs1 hB1 hS1
end B2
/-- what a constructor is given beside its cells -/
def BZ (U : State) : Prop := (∀ w ∈ nTb, va_Nw w U) ∧ AOA .int U ∧ va_AO RX0 U ∧ va_AO RX2 U
theorem BZ.warm {s U : State} (hW : s.WarmedH U.vm) (h : BZ s) : BZ U := ⟨nTb_warm hW h.1, h.2.1.moved hW.alike, va_AO.moved hW.alike h.2.2.1, va_AO.moved hW.alike h.2.2.2⟩
def BP (D : va_G) (cT : Nat → ClassId) (b : Nat) (es : List va_E) : Array Value → State → Prop := va_Pc [.ref b] (fun U => Bw D b es U.heap ∧ va_K D vwCl (tysT cT) U ∧ BZ U)
abbrev BQ (D : va_G) (b : Nat) (es : List va_E) : Array Value → State → Outcome → State → Prop := va_Qv (fun _ : Unit => True) (fun _ t => Bw D b es t.heap) (fun q => b ≤ q)
theorem BP.blind {D : va_G} {cT : Nat → ClassId} {b : Nat} {es : List va_E} : FrameBlind (BP D cT b es) := by
  intro a U g mk h
  obtain ⟨h1, h2, h3, h4⟩ := h
  exact ⟨h1, h2, va_K.moved (u := U) (U := U.calling g mk a) (Vm.Alike.refl U.vm) h3, BZ.warm (s := U) (U := U.calling g mk a) (State.WarmedH.refl U) h4⟩
theorem BP.pre {D : va_G} {cT : Nat → ClassId} {b : Nat} {es : List va_E} {s : State} {H : Heap} (hB : Bw D b es H) (hK : va_K D vwCl (tysT cT) s) (hZ : BZ s) : PreS s H (BP D cT b es) [.ref b] :=
  ⟨BP.blind, fun U hU hW => ⟨rfl, by rw [hU]; exact hB, va_K.moved hW.alike hK, hZ.warm hW⟩⟩
