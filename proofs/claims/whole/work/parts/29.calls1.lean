/-! Calls: what comes back, the world rejoined. -/
section C1
variable {p : Program} {l : Launch} {e : Env} {R : Room} {s : State} {m : MethodId} {args : Array Value} {below : List Frame} {meth : Method} {c : Code} {H : Heap} {locs : List Loc} {cells slots mc ms : Nat} {Q : State → Prop} {lr : Array Slot} {pc : Nat} {st0 rest : List Value} {A0 A1 free : Nat → Prop} {H0 : Heap}
theorem callRet {v : Option Value} {Pw : Heap → Prop} (hr : va_Run p l e R s m args below meth c H locs cells slots mc ms (F0 m pc lr st0) rest (fun st o t => o = .returned v ∧ Pw t.heap ∧ va_F A1 st t) free) (hS : va_S A0 H0 H locs) (hA : ∀ q, q < H.size → A1 q → A0 q) (hf : ∀ q, free q → A0 q)
    (kk : ∀ (H1 : Heap) (locs1 : List Loc), Pw H1 → H.size ≤ H1.size → (∀ q : Nat, q < H.size → ¬ A1 q → H1[q]? = H[q]?) → va_S A0 H0 H1 locs1 → W p l e R s m args below meth c H1 locs1 (cells + mc) (slots + ms) Q (F0 m (pc + 3) lr (v.toList ++ rest))) :
    W p l e R s m args below meth c H locs cells slots Q (F0 m pc lr st0) := by
  intro T hT X
  obtain ⟨v', st₀, t, T', L, h0, X', hL, e1, e2, ⟨hv, hp, hF⟩, st⟩ := hr T hT X
  cases hv
  obtain ⟨k1, k2, k3⟩ := vx_keep h0 e1 hS hA hf hL hF
  obtain ⟨t2, a1, b1⟩ := kk T'.heap (locs ++ L) (by rw [e1]; exact hp) k1 k2 k3 T' rfl X'
  exact ⟨t2, st t2 a1, b1⟩
theorem callThr {Px : String → Heap → Prop} (hr : vx_Run p l e R s m args below meth c H locs cells slots mc ms (F0 m pc lr st0) rest (fun _ _ _ => False) (fun E st t => Px E t.heap ∧ va_F A1 st t) free) (hS : va_S A0 H0 H locs) (hA : ∀ q, q < H.size → A1 q → A0 q) (hf : ∀ q, free q → A0 q)
    (kx : ∀ (E : String) (ce : Cell) (q9 : Addr) (H1 : Heap) (locs1 : List Loc), Px E H1 → H.size ≤ H1.size → (∀ q : Nat, q < H.size → ¬ A1 q → H1[q]? = H[q]?) → va_S A0 H0 H1 locs1 → H1[q9]? = some ce → ce.vm = .none → s.vm.findClass E = some ce.cls → vx_W p l e R s m args below meth c H1 locs1 (cells + mc) (slots + ms) Q (F0 m pc lr rest) q9) :
    W p l e R s m args below meth c H locs cells slots Q (F0 m pc lr st0) := by
  intro T hT X
  rcases hr T hT X with ⟨v, st₀, t, T', L, h0, X', hL, e1, e2, hfalse, st⟩ | ⟨q, st₀, t, T', L, E, ce, h0, X', hL, e1, e2, ⟨hp, hF⟩, hce, hcv, hcl, st⟩
  · exact hfalse.elim
  · obtain ⟨k1, k2, k3⟩ := vx_keep h0 e1 hS hA hf hL hF
    obtain ⟨t2, a1, b1⟩ := kx E ce q T'.heap (locs ++ L) (by rw [e1]; exact hp) k1 k2 k3 (by rw [e1]; exact hce) hcv hcl T' rfl X'
    exact ⟨t2, st.trans a1, b1⟩
end C1
theorem popN_spec : ∀ (n : Nat) (acc st as rest : List AV), popN n acc st = some (as, rest) → ∃ ps : List AV, ps.length = n ∧ as = ps.reverse ++ acc ∧ st = ps ++ rest := by
  intro n
  induction n with
  | zero =>
    intro acc st as rest h
    cases h
    exact ⟨[], rfl, rfl, rfl⟩
  | succ n ih =>
    intro acc st as rest h
    cases st with
    | nil => cases h
    | cons v st =>
      obtain ⟨ps, h1, h2, h3⟩ := ih (v :: acc) st as rest h
      exact ⟨v :: ps, by simp [h1], by simp [h2], by simp [h3]⟩
section C2
variable {D : va_G} {cT : Nat → ClassId} {ad : Nat → Nat → Nat} {M M' : Mem} {O O' : Int64} {T : Tmp} {t : Nat} {A : Nat → Prop} {H H1 H0 : Heap} {locs locs1 : List Loc}
theorem wsA_none (t t' : Nat) : wsA cT ad t M O none = wsA cT ad t' M O none := rfl
/-- the callee's cells, the rest, put together again -/
theorem rejoin (hwd : WDp D cT ad A H0 t M O T H locs) (hP : va_P D vwCl (wsA cT ad 0 M' O' none) H1) (hk : ∀ q : Nat, q < H.size → ¬ APre ad H.size q → H1[q]? = H[q]?) (hS : va_S A H0 H1 locs1) : WDp D cT ad A H0 t M' O' T H1 locs1 := by
  cases T with
  | none => exact ⟨hP, va_D_fst hwd.2.1 (ws_fst _ _ _ _ _ _ _ _), hS⟩
  | some f =>
    refine ⟨?_, va_D_fst hwd.2.1 (ws_fst _ _ _ _ _ _ _ _), hS⟩
    have hlen : (wsP cT ad M' O').length = (wsP cT ad M O).length := by unfold wsP; rw [List.length_map, List.length_map]
    intro k q hkq
    by_cases e : k < (wsP cT ad M' O').length
    · refine hP k q ?_
      unfold wsA at hkq ⊢
      rw [List.getElem?_append_left e] at hkq ⊢
      exact hkq
    · have hk2 : k = (wsP cT ad M' O').length := by
        have h1 : k < (wsA cT ad t M' O' (some f)).length := (List.getElem?_eq_some_iff.mp hkq).1
        have h2 : (wsA cT ad t M' O' (some f)).length = (wsP cT ad M' O').length + 1 := by unfold wsA; rw [List.length_append]; rfl
        omega
      subst hk2
      rw [ws_tmp] at hkq
      cases hkq
      have h1 := hwd.1 _ _ (ws_tmp (cT := cT) (ad := ad) (M := M) (O := O) (t := t) (f := f))
      have hlt : t < H.size := (Array.getElem?_eq_some_iff.mp (show H[t]? = some _ from h1)).1
      show H1[t]? = some _
      rw [hk t hlt ?_]
      · exact h1
      · rintro (⟨g, i, hi, he⟩ | h)
        · obtain ⟨q0, hq, hq2⟩ := ws_at (cT := cT) (ad := ad) (t := t) (M := M) (O := O) (T := some f) hi
          have := hwd.2.1.1 q0 _ _ _ hq2 (ws_tmp (cT := cT) (ad := ad) (M := M) (O := O) (t := t) (f := f)) he.symm
          have h3 : q0 < PP.length := (List.getElem?_eq_some_iff.mp hq).1
          have h4 : (wsP cT ad M O).length = PP.length := by unfold wsP; rw [List.length_map]
          omega
        · omega
end C2
theorem goodGI {mi mi' : MI} (h : cdW mi' ∈ gTb) : GoodIn (cdW mi :: gTb) (cdW mi' :: gTb) := by
  intro w hw
  have hg : w ∈ gTb := by
    rcases List.mem_cons.mp hw with rfl | q
    · exact h
    · exact q
  exact ⟨List.mem_cons_of_mem _ hg, good_of_word (List.mem_filter.mp hg).2⟩
theorem goodG1 {mi : MI} {w : Cond} (h : w ∈ gTb) : w ∈ cdW mi :: gTb ∧ ((w.onTables && w.keeps) = true ∨ ∃ ty, w = .arrayClass ty) := ⟨List.mem_cons_of_mem _ h, good_of_word (List.mem_filter.mp h).2⟩
