/-! The world: the picture's cells, the tables' words. -/
def fval (ad : Nat → Nat → Nat) (M : Mem) (g i k : Nat) : Option (Nat × Option Nat) → Value
  | none => .int (M g i k)
  | some (g', some o) => .ref (ad g' (i + o))
  | some (g', none) => .ref (ad g' (M g i k).toNatClampNeg)
noncomputable def wcell (cT : Nat → ClassId) (ad : Nat → Nat → Nat) (M : Mem) (O : Int64) (g i : Nat) : va_E := match shape g with
  | .inl (ci, fs) => .inr (ci, fs.mapIdx (fun k f => fval ad M g i k f))
  | .inr (2, n, none) => .inl (cT 2, n, .inr (.inl (fun _ => O)))
  | .inr (t, n, none) => .inl (cT t, n, .inl (M g i))
  | .inr (t, n, some (g', o)) => .inl (cT t, n, .inr (.inr (.inr (.inr (fun j => some (ad g' (o + j)))))))
noncomputable def PP : List (Nat × Nat) := (List.range 84).flatMap fun g => (List.range (cnt g)).map fun i => (g, i)
noncomputable def wsP (cT : Nat → ClassId) (ad : Nat → Nat → Nat) (M : Mem) (O : Int64) : va_W := PP.map fun q => (ad q.1 q.2, wcell cT ad M O q.1 q.2)
def wsT (cT : Nat → ClassId) (t : Nat) : Tmp → va_W
  | none => []
  | some f => [(t, .inl (cT 0, 8, .inl f))]
noncomputable def wsA (cT : Nat → ClassId) (ad : Nat → Nat → Nat) (t : Nat) (M : Mem) (O : Int64) (T : Tmp) : va_W := wsP cT ad M O ++ wsT cT t T
def tysT (cT : Nat → ClassId) : List (ClassId × FieldType) := [(cT 0, .int), (cT 1, .boolean), (cT 2, .long), (cT 3, .object RX0), (cT 4, .object RX2), (cT 5, .array .int)]
theorem cnt_big (k : Nat) : cnt (k + 84) = 0 := rfl
theorem cnt_lt {g i : Nat} (h : i < cnt g) : g < 84 := by
  rcases Nat.lt_or_ge g 84 with q | q
  · exact q
  · obtain ⟨k, rfl⟩ : ∃ k, g = k + 84 := ⟨g - 84, by omega⟩
    rw [cnt_big] at h
    omega
theorem mem_PP {g i : Nat} (h : i < cnt g) : (g, i) ∈ PP := List.mem_flatMap.mpr ⟨g, List.mem_range.mpr (cnt_lt h), List.mem_map.mpr ⟨i, List.mem_range.mpr h, rfl⟩⟩
set_option maxRecDepth 100000 in
theorem PP_nodup : PP.Nodup := by decide +kernel
theorem ws_at {cT : Nat → ClassId} {ad : Nat → Nat → Nat} {t : Nat} {M : Mem} {O : Int64} {T : Tmp} {g i : Nat} (h : i < cnt g) : ∃ q0 : Nat, PP[q0]? = some (g, i) ∧ (wsA cT ad t M O T)[q0]? = some (ad g i, wcell cT ad M O g i) := by
  obtain ⟨q0, hq⟩ := List.getElem?_of_mem (mem_PP h)
  refine ⟨q0, hq, ?_⟩
  have hlt : q0 < (wsP cT ad M O).length := by
    unfold wsP
    rw [List.length_map]
    exact (List.getElem?_eq_some_iff.mp hq).1
  unfold wsA
  rw [List.getElem?_append_left hlt]
  unfold wsP
  rw [List.getElem?_map, hq]
  rfl
theorem ws_set {cT : Nat → ClassId} {ad : Nat → Nat → Nat} {t : Nat} {M M' : Mem} {O O' : Int64} {T : Tmp} {g i q0 : Nat} (hq : PP[q0]? = some (g, i)) (hne : ∀ g' i', (g', i') ≠ (g, i) → wcell cT ad M' O' g' i' = wcell cT ad M O g' i') {x : va_E} (hx : x = wcell cT ad M' O' g i) : (wsA cT ad t M O T).set q0 (ad g i, x) = wsA cT ad t M' O' T := by
  subst hx
  have hlt0 : q0 < PP.length := (List.getElem?_eq_some_iff.mp hq).1
  have hlt : q0 < (wsP cT ad M O).length := by
    unfold wsP
    rw [List.length_map]
    exact hlt0
  unfold wsA
  rw [List.set_append_left _ _ hlt]
  congr 1
  unfold wsP
  apply List.ext_getElem?
  intro j
  by_cases e : q0 = j
  · subst e
    rw [List.getElem?_set_self (by simpa using hlt0), List.getElem?_map, hq]
    rfl
  · rw [List.getElem?_set_ne e, List.getElem?_map, List.getElem?_map]
    cases hj : PP[j]? with
    | none => rfl
    | some q =>
      have hd : (q.1, q.2) ≠ (g, i) := by
        intro z
        have hj' : PP[j]? = some (g, i) := by rw [hj]; exact congrArg some z
        obtain ⟨h1, h2⟩ := List.getElem?_eq_some_iff.mp hq
        obtain ⟨h3, h4⟩ := List.getElem?_eq_some_iff.mp hj'
        exact e ((List.getElem_inj PP_nodup).mp (h2.trans h4.symm))
      show some (ad q.1 q.2, wcell cT ad M O q.1 q.2) = some (ad q.1 q.2, wcell cT ad M' O' q.1 q.2)
      rw [hne q.1 q.2 hd]
theorem va_D_fst {A : Nat → Prop} {w w' : va_W} (h : va_D A w) (he : w'.map Prod.fst = w.map Prod.fst) : va_D A w' := by
  have hg : ∀ (k : Nat) (p : Nat × va_E), w'[k]? = some p → ∃ e, w[k]? = some (p.1, e) := by
    intro k p hp
    have h1 : (w'.map Prod.fst)[k]? = some p.1 := by rw [List.getElem?_map, hp]; rfl
    rw [he, List.getElem?_map] at h1
    cases hw : w[k]? with
    | none => rw [hw] at h1; cases h1
    | some q =>
      rw [hw] at h1
      have h2 : q.1 = p.1 := Option.some.inj h1
      exact ⟨q.2, by rw [← h2]⟩
  refine ⟨fun i j p q hi hj e => ?_, fun k q hk => ?_⟩
  · obtain ⟨e1, h1⟩ := hg i p hi
    obtain ⟨e2, h2⟩ := hg j q hj
    exact h.1 i j _ _ h1 h2 e
  · obtain ⟨e1, h1⟩ := hg k q hk
    exact h.2 k (q.1, e1) h1
theorem ws_fst (cT : Nat → ClassId) (ad : Nat → Nat → Nat) (t : Nat) (M M' : Mem) (O O' : Int64) (T : Tmp) : (wsA cT ad t M O T).map Prod.fst = (wsA cT ad t M' O' T).map Prod.fst := by
  unfold wsA wsP
  rw [List.map_append, List.map_append, List.map_map, List.map_map]
  rfl
theorem ws_fstT (cT : Nat → ClassId) (ad : Nat → Nat → Nat) (t : Nat) (M M' : Mem) (O O' : Int64) (f f' : Nat → Int32) : (wsA cT ad t M O (some f)).map Prod.fst = (wsA cT ad t M' O' (some f')).map Prod.fst := by
  unfold wsA wsP
  rw [List.map_append, List.map_append, List.map_map, List.map_map]
  rfl
theorem mrow_ne {M : Mem} {g i : Nat} {f : Nat → Int32} {g' i' : Nat} (h : (g', i') ≠ (g, i)) : mrow M g i f g' i' = M g' i' := by
  unfold mrow
  by_cases e : g' = g
  · subst e
    rw [if_pos rfl, if_neg (fun q => h (by rw [q]))]
  · rw [if_neg e]
theorem mrow_eq {M : Mem} {g i : Nat} {f : Nat → Int32} : mrow M g i f g i = f := by
  unfold mrow
  rw [if_pos rfl, if_pos rfl]
theorem wcell_cong {cT : Nat → ClassId} {ad : Nat → Nat → Nat} {M M' : Mem} {O : Int64} {g i : Nat} (h : M' g i = M g i) : wcell cT ad M' O g i = wcell cT ad M O g i := by
  have hf : ∀ k f, fval ad M' g i k f = fval ad M g i k f := by
    intro k f
    rcases f with - | ⟨g', - | o⟩ <;> simp only [fval, h]
  unfold wcell
  split
  · simp only [hf]
  · rfl
  · rw [h]
  · rfl
/-- what the shapes must be -/
noncomputable def shpB (g : Nat) : Bool := match shape g with
  | .inl (ci, fs) => (match vwCl[ci]? with
    | some r => decide (fs.length = r.2.2) && fs.all (fun f => match f with
      | none => true
      | some (g', some o) => decide (g' < 84) && decide (cnt g + o ≤ cnt g')
      | some (g', none) => decide (g' < 84) && decide (cnt g' = 4))
    | none => fs.isEmpty)
  | .inr (t, n, some (g', o)) => decide (3 ≤ t) && decide (t < 6) && decide (g' < 84) && decide (o + n ≤ cnt g')
  | .inr (t, n, none) => decide (t < 3) && decide (n < 1000) && (decide (t = 2) == decide (g = 83)) && decide (t = 2 → n = 1)
theorem shpB_lt : ∀ g, g < 95 → shpB g = true := by decide +kernel
theorem shape_big (k : Nat) : shape (k + 95) = .inl (99, []) := rfl
theorem shpB_all (g : Nat) : shpB g = true := by
  rcases Nat.lt_or_ge g 95 with q | q
  · exact shpB_lt g q
  · obtain ⟨k, rfl⟩ : ∃ k, g = k + 95 := ⟨g - 95, by omega⟩
    unfold shpB
    rw [shape_big]
    rfl
theorem cls_nm : ∀ r ∈ vwCl, ∀ a, a < r.2.2 → ∀ b, b < r.2.2 → a ≠ b → (r.2.1 a).2.1 ≠ (r.2.1 b).2.1 := by decide +kernel
theorem cls_ty : ∀ r ∈ vwCl, ∃ ty0 : Nat → FieldType, ∀ k, k < r.2.2 → parseFieldDescriptor (r.2.1 k).2.2.1 = some (ty0 k) := by
  intro r hr
  simp only [vwCl, List.mem_cons, List.not_mem_nil, or_false] at hr
  rcases hr with rfl | rfl | rfl | rfl | rfl | rfl | rfl | rfl
  · exact ⟨_, tyX0_ok⟩
  · exact ⟨_, tyX1_ok⟩
  · exact ⟨_, tyX2_ok⟩
  · exact ⟨_, tyX3_ok⟩
  · exact ⟨_, tyX4_ok⟩
  · exact ⟨_, tyX5_ok⟩
  · exact ⟨_, tyX6_ok⟩
  · exact ⟨_, tyX7_ok⟩
/-- an int field is an int, not final; a field with a dynamic cell is a reference, not final -/
noncomputable def fldB (g : Nat) : Bool := match shape g with
  | .inl (ci, fs) => (match vwCl[ci]? with
    | some r => (List.range fs.length).all (fun k => match fs[k]? with
      | some none => decide (parseFieldDescriptor (r.2.1 k).2.2.1 = some .int) && decide ((r.2.1 k).2.2.2 = false)
      | some (some (g', none)) => decide (parseFieldDescriptor (r.2.1 k).2.2.1 = some (.object RX1)) && decide ((r.2.1 k).2.2.2 = false)
      | _ => true)
    | none => true)
  | _ => true
theorem fldB_lt : ∀ g, g < 95 → fldB g = true := by decide +kernel
