/-! Calls and ends. -/
theorem wca (j : Nat) (h : j < 3) : Cond.castable (excN j) (excN j) ∈ cTb := by
  match j, h with
  | 0, _ => exact List.mem_filter.mpr ⟨List.mem_of_getElem? (i := 776) (by decide +kernel), rfl⟩
  | 1, _ => exact List.mem_filter.mpr ⟨List.mem_of_getElem? (i := 823) (by decide +kernel), rfl⟩
  | 2, _ => exact List.mem_filter.mpr ⟨List.mem_of_getElem? (i := 528) (by decide +kernel), rfl⟩
theorem findH_spec {X pc h : Nat} : ∀ {hh : List (Nat × Nat × Nat × Nat)}, findH tkT X pc hh = some h → ∃ pre x suf, hh = pre ++ x :: suf ∧ x.2.2.1 = h ∧ (x.1 ≤ pc ∧ pc < x.2.1) ∧ tkT X x.2.2.2 = true ∧ ∀ z ∈ pre, ¬ (z.1 ≤ pc ∧ pc < z.2.1) ∨ tkT X z.2.2.2 = false := by
  intro hh
  induction hh with
  | nil => intro q; cases q
  | cons a b ih =>
    obtain ⟨a1, a2, a3, a4⟩ := a
    intro q
    unfold findH at q
    by_cases e : ((Nat.ble a1 pc && Nat.blt pc a2) && tkT X a4) = true
    · rw [if_pos e] at q
      have q' : a3 = h := Option.some.inj q
      simp only [Bool.and_eq_true, Nat.ble_eq, Nat.blt_eq] at e
      exact ⟨[], (a1, a2, a3, a4), b, rfl, q', e.1, e.2, fun z hz => by cases hz⟩
    · rw [if_neg e] at q
      obtain ⟨pre, x, suf, h1, h2, h3, h4, h5⟩ := ih q
      refine ⟨(a1, a2, a3, a4) :: pre, x, suf, by rw [h1]; rfl, h2, h3, h4, fun z hz => ?_⟩
      rcases List.mem_cons.mp hz with rfl | hz
      · simp only [Bool.and_eq_true, Nat.ble_eq, Nat.blt_eq] at e
        by_cases e2 : a1 ≤ pc ∧ pc < a2
        · right
          cases e3 : tkT X a4 with
          | false => rfl
          | true => exact absurd ⟨e2, e3⟩ e
        · exact Or.inl e2
      · exact h5 z hz
section C7
variable {p : Program} {l : Launch} {e : Env} {R : Room} {s : State} {m : MethodId} {args : Array Value} {below : List Frame} {meth : Method} {c : Code} {Q : State → Prop}
  {D : va_G} {cT : Nat → ClassId} {ad : Nat → Nat → Nat} {A : Nat → Prop} {pc L : Nat} {xs : Nat → Int32} {mi : MI} {k : RecT} {r : Out} {ls : Lcs} {st rest : List AV} {M M' : Mem} {O O' : Int64} {T : Tmp} {c1 s1 t X mc ms : Nat} {H : Heap} {locs : List Loc} {lr : Array Slot} {v : Option AV} {as : List AV}
/-- a handler's row: its class's name -/
theorem hand_k (C : CX p s m args c D cT ad L xs A mi) (hX3 : X < 3) {kk : Nat} (h3 : (kk = 13 ∨ kk = 25 ∨ kk = 33) ∧ mi_cls mi = 8) : ∃ j, j < 3 ∧ (Cond.classLink (clsN (mi_cls mi)) kk (excN j)).before args s = true ∧ (tkT X kk = true ↔ X = j) := by
  obtain ⟨hx, hb, hml, hown, hts, hK, hF, hA, hAA, hDD, hcl⟩ := C
  obtain ⟨h3, h8⟩ := h3
  rw [h8]
  rcases h3 with rfl | rfl | rfl
  · exact ⟨2, by omega, hts _ (List.mem_cons_of_mem _ wcl_8_13), by show (X == 2) = true ↔ X = 2; simp⟩
  · exact ⟨0, by omega, hts _ (List.mem_cons_of_mem _ wcl_8_25), by show (X == 0) = true ↔ X = 0; simp⟩
  · exact ⟨1, by omega, hts _ (List.mem_cons_of_mem _ wcl_8_33), by show (X == 1) = true ↔ X = 1; simp⟩
theorem catch_ok (C : CX p s m args c D cT ad L xs A mi) (hM : MOKT mi) (hTab : c.exceptionTable.toList = tableOf (mi_hh mi)) (hX3 : X < 3) {h : Nat} {vv : Int32} (hf : findH tkT X pc (mi_hh mi) = some h) (hrv : hretV mi h = some vv) (hwd : WDp D cT ad A s.heap t M O T H locs) (hlr : LR ad t (mi_L mi) ls lr)
    {E : String} {ce : Cell} {q9 : Addr} (hE : E = excN X) (hcell : H[q9]? = some ce) (hv : ce.vm = .none) (hcl : s.vm.findClass E = some ce.cls) {rst : List Value}
    (hI : ∀ pc lr, decode (mi_b mi) pc = .ok (.ireturn, 1) → W p l e R s m args below meth c H locs c1 s1 Q (F0 m pc lr [.int vv])) :
    vx_W p l e R s m args below meth c H locs c1 s1 Q (F0 m pc lr rst) q9 := by
  have C' := C
  obtain ⟨hx, hb, hml, hown, hts, hK, hF, hA, hAA, hDD, hcl10⟩ := C
  obtain ⟨pre, x, suf, h1, h2, h3, h4, h5⟩ := findH_spec hf
  have hh : ∀ z ∈ mi_hh mi, (z.2.2.2 = 13 ∨ z.2.2.2 = 25 ∨ z.2.2.2 = 33) ∧ mi_cls mi = 8 := by
    intro z hz
    have := List.all_eq_true.mp hM.2.2 z hz
    simpa [Bool.and_eq_true] using this
  have hxm : x ∈ mi_hh mi := by rw [h1]; simp
  obtain ⟨j, hj, hlink, hiff⟩ := hand_k C' hX3 (hh x hxm)
  have hXj : X = j := hiff.mp h4
  have hsplit : c.exceptionTable.toList = pre.map (fun q => ⟨q.1, q.2.1, q.2.2.1, q.2.2.2⟩) ++ (⟨x.1, x.2.1, x.2.2.1, x.2.2.2⟩ : ExceptionTableEntry) :: suf.map (fun q => ⟨q.1, q.2.1, q.2.2.1, q.2.2.2⟩) := by
    rw [hTab, h1]
    unfold tableOf
    rw [List.map_append, List.map_cons]
  refine vx_catch (own := clsN (mi_cls mi)) (name := excN j) (E := E) hown _ _ _ hsplit ?_ ?_ ?_ hlink ?_ hcell hv hcl ?_
  · intro z hz
    obtain ⟨z0, hz0, rfl⟩ := List.mem_map.mp hz
    rcases h5 z0 hz0 with q | q
    · left
      show (decide (z0.1 ≤ pc) && decide (pc < z0.2.1)) = false
      cases e1 : (decide (z0.1 ≤ pc) && decide (pc < z0.2.1)) with
      | false => rfl
      | true =>
        simp only [Bool.and_eq_true, decide_eq_true_eq] at e1
        exact absurd e1 q
    · right
      have hz1 : z0 ∈ mi_hh mi := by rw [h1]; exact List.mem_append_left _ hz0
      obtain ⟨j0, hj0, hl0, hi0⟩ := hand_k C' hX3 (hh z0 hz1)
      refine ⟨?_, excN j0, hl0, ?_⟩
      · show z0.2.2.2 ≠ 0
        rcases (hh z0 hz1).1 with e1 | e1 | e1 <;> omega
      · have hne : X ≠ j0 := fun q2 => by rw [hi0.mpr q2] at q; cases q
        rw [hE]
        exact hF.2.2.2.2.2.2.2.2.2.2.2.2.2 X j0 hX3 hj0 hne
  · show (decide (x.1 ≤ pc) && decide (pc < x.2.1)) = true
    simp only [Bool.and_eq_true, decide_eq_true_eq]
    exact h3
  · show x.2.2.2 ≠ 0
    rcases (hh x hxm).1 with e1 | e1 | e1 <;> omega
  · rw [hE, hXj]
    exact va_Nw.use rfl (hF.2.2.2.2.2.2.2.1 _ (wca j hj))
  · show W p l e R s m args below meth c H locs c1 s1 Q (F0 m x.2.2.1 lr [.ref q9])
    rw [h2]
    unfold hretV at hrv
    split at hrv
    · rename_i n0 hl0 hret
      split at hrv
      · rename_i n1 hl1 hl2
        cases hrv
        obtain ⟨d0, -, i0, -⟩ := eOK_dec hM.1 hl0
        obtain ⟨d1, -, i1, -⟩ := eOK_dec hM.1 hl1
        obtain ⟨d2, -, -, -⟩ := eOK_dec hM.1 hl2
        refine lv_astore hx hb d0 hlr.2 (of_decide_eq_true i0) rfl (fun lr' hl' => ?_)
        exact lv_iconst hx hb d1 (of_decide_eq_true i1) (hI _ _ d2)
      · cases hrv
    · rename_i n0 hl0 hret
      split at hrv
      · rename_i n1 hl1 hl2
        cases hrv
        obtain ⟨d0, -, i0, -⟩ := eOK_dec hM.1 hl0
        obtain ⟨d1, -, i1, -⟩ := eOK_dec hM.1 hl1
        obtain ⟨d2, -, -, -⟩ := eOK_dec hM.1 hl2
        refine lv_astore_n hx hb d0 rfl hlr.2 (of_decide_eq_true i0) rfl (fun lr' hl' => ?_)
        exact lv_iconst hx hb d1 (of_decide_eq_true i1) (hI _ _ d2)
      · cases hrv
    · cases hrv
theorem hret_int {h : Nat} {vv : Int32} (hrv : hretV mi h = some vv) : mi_ret mi = some .int := by
  unfold hretV at hrv
  split at hrv
  · assumption
  · assumption
  · cases hrv
/-- a call that returned: on it goes -/
theorem call_norm (C : CX p s m args c D cT ad L xs A mi) (hwd : WDp D cT ad A s.heap t M O T H locs) (hrun : va_Run p l e R s m args below meth c H locs c1 s1 mc ms (F0 m pc lr ((as.reverse ++ rest).map (vrel ad t))) (rest.map (vrel ad t)) (QcR D cT ad H.size v M' O' (as.map (vrel ad 0)).toArray) (APre ad H.size))
    (hl : LR ad t (mi_L mi) ls lr) (hwl : wfL T ls) (hws : wfS T rest)
    (hk : Good (WG p l e R s m args below meth c Q) m (WDp D cT ad A s.heap) ad (mi_L mi) (pc + 3) ls (v.toList ++ rest) M' O' T (c1 + mc) (s1 + ms)) :
    W p l e R s m args below meth c H locs c1 s1 Q (F0 m pc lr ((as.reverse ++ rest).map (vrel ad t))) := by
  refine callRet (v := v.map (vrel ad 0)) (Pw := fun h => wfO v ∧ va_P D vwCl (wsA cT ad 0 M' O' none) h) hrun hwd.2.2 (fun q _ h => sub_A C hwd q h) (sub_A C hwd) (fun H1 locs1 hp hz hkq hS => ?_)
  have hwd1 := rejoin hwd hp.2 hkq hS
  cases v with
  | none => exact hk t lr H1 locs1 hl hwl hws hwd1
  | some w =>
    have hw0 := hp.1 w rfl
    have K := hk t lr H1 locs1 hl hwl (wfS.cons hw0.any hws) hwd1
    show W p l e R s m args below meth c H1 locs1 (c1 + mc) (s1 + ms) Q (F0 m (pc + 3) lr (vrel ad 0 w :: rest.map (vrel ad t)))
    rw [vrel_t (q := t) hw0]
    exact K
end C7
