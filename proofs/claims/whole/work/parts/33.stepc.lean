/-! Constants; calls and ends, all together. -/
/-- rooms and patterns that a method's calls and throws ask for -/
noncomputable def rB (mi : MI) (n : Nat) : Bool := match List.lookup n (cps (mi_cls mi)).2.1 with
  | some (kd, y, na) => bif Nat.ble 900 y then decide (4 ≤ mi_fr mi) && decide (120 ≤ mi_lw mi) else (match getN y with
    | some mi' => decide (mi_fr mi' + 1 ≤ mi_fr mi) && decide (8 + (mi_L mi' + 11) + mi_lw mi' ≤ mi_lw mi) && (Nat.ble 2 kd || (mi_hh mi').isEmpty) && ((mi_hh mi').isEmpty || Nat.beq kd 2) && decide (na ≤ mi_L mi') && decide (mi_cls mi' < 8 ∨ 2 ≤ kd)
    | none => false)
  | none => true
noncomputable def tB (mi : MI) (pc n : Nat) : Bool := match List.lookup n (cps (mi_cls mi)).2.2.2 with
  | some X => decide (mi_cls mi = 6) && decide (X < 3) && (mi_hh mi).isEmpty && decide (6 ≤ mi_fr mi) && decide (90 ≤ mi_lw mi) && decide (List.lookup (pc + 3) (mi_tab mi) = some (.dup, 1)) && decide (List.lookup (pc + 10) (mi_tab mi) = some (.athrow, 1)) &&
    (match X with
    | 0 => decide (n = 306) && decide (List.lookup (pc + 4) (mi_tab mi) = some (.ldc_w 308, 3)) && decide (List.lookup (pc + 7) (mi_tab mi) = some (.invokespecial 310, 3))
    | 1 => decide (n = 313) && decide (List.lookup (pc + 4) (mi_tab mi) = some (.ldc_w 315, 3)) && decide (List.lookup (pc + 7) (mi_tab mi) = some (.invokespecial 317, 3))
    | _ => decide (n = 318) && decide (List.lookup (pc + 4) (mi_tab mi) = some (.ldc_w 320, 3)) && decide (List.lookup (pc + 7) (mi_tab mi) = some (.invokespecial 322, 3)))
  | none => true
noncomputable def cB (mi : MI) (q : Nat × Instr × Nat) : Bool := match q.2.1 with
  | .invokevirtual n => rB mi n
  | .invokestatic n => rB mi n
  | .new n => tB mi q.1 n
  | _ => true
/-- the handlers' classes -/
def hB (mi : MI) : Bool := (mi_hh mi).all (fun q => decide (q.2.2.2 = 13 ∨ q.2.2.2 = 25 ∨ q.2.2.2 = 33) && decide (mi_cls mi = 8))
noncomputable def MOKT (mi : MI) : Prop := (mi_tab mi).all (eOK mi) = true ∧ (mi_tab mi).all (cB mi) = true ∧ hB mi = true
theorem getN_M {y : Nat} {mi : MI} (h : getN y = some mi) : getM y = some mi := by
  unfold getN at h
  cases e : y == 230 with
  | true => rw [e] at h; cases h
  | false => rw [e] at h; exact h
theorem eOK_dec {mi : MI} (h : (mi_tab mi).all (eOK mi) = true) {pc : Nat} {q : Instr × Nat} (hl : List.lookup pc (mi_tab mi) = some q) : decode (mi_b mi) pc = .ok q ∧ (match q.1 with
    | .tableswitch _ _ _ _ => True
    | .lookupswitch _ _ => True
    | i => q.2 = ilen i) ∧ iok (mi_L mi) q.1 = true ∧ jok pc q.1 = true := by
  have h1 := List.all_eq_true.mp h _ (lookup_mem hl)
  simp only [eOK, Bool.and_eq_true, decide_eq_true_eq] at h1
  refine ⟨h1.1.1.1, ?_, h1.1.2, h1.2⟩
  have h2 := h1.1.1.2
  split
  · trivial
  · trivial
  · rename_i q1 q2
    split at h2
    · rename_i e1; exact absurd e1 (q1 _ _ _ _)
    · rename_i e1; exact absurd e1 (q2 _ _)
    · exact of_decide_eq_true h2
section C6
variable {p : Program} {l : Launch} {e : Env} {R : Room} {s : State} {m : MethodId} {args : Array Value} {below : List Frame} {meth : Method} {c : Code} {Q : State → Prop}
  {D : va_G} {cT : Nat → ClassId} {ad : Nat → Nat → Nat} {A : Nat → Prop} {pc L : Nat} {xs : Nat → Int32} {mi : MI} {k : RecT} {r : Out} {ls : Lcs} {st : List AV} {M : Mem} {O : Int64} {T : Tmp} {c1 s1 : Nat}
theorem stepK_ok (C : CX p s m args c D cT ad L xs A mi) {i : Instr} {st' : List AV} (hd : decode (mi_b mi) pc = .ok (i, ilen i)) (h : stepK (cps (mi_cls mi)) i st = some st')
    (hk : Good (WG p l e R s m args below meth c Q) m (WDp D cT ad A s.heap) ad (mi_L mi) (pc + ilen i) ls st' M O T c1 s1) : Good (WG p l e R s m args below meth c Q) m (WDp D cT ad A s.heap) ad (mi_L mi) pc ls st M O T c1 s1 := by
  obtain ⟨hx, hb, hml, hown, hts, hK, hF, hA, hAA, hDD, hcl⟩ := C
  intro t lr H locs hl hwl hws hwd
  cases i
  all_goals first
    | exact nomatch (show (none : Option (List AV)) = some st' from h)
    | skip
  case ldc n =>
    simp only [stepK] at h
    split at h
    · rename_i x hlk
      cases h
      have hk0 : Cond.constant (clsN (mi_cls mi)) n x ∈ gTb := cps_K hcl _ (lookup_mem hlk)
      exact lv_ldc hx hb hown (hts _ (List.mem_cons_of_mem _ hk0)) hd (hk t lr H locs hl hwl (wfS.cons (v := .inl _) trivial hws) hwd)
    · rename_i g i hlk
      cases e92 : g == 92 with
      | true => rw [e92] at h; cases h
      | false =>
        rw [e92] at h
        cases h
        have hg92 : g ≠ 92 := by simpa using e92
        have hk0 := cps_K hcl _ (lookup_mem hlk)
        have h9 : (g = 93 ∧ mi_cls mi = 1 ∧ n = 105 ∧ i = 0) ∨ (g = 94 ∧ mi_cls mi = 0 ∧ n = 44 ∧ i = 0) := by
          unfold kOK at hk0
          split at hk0
          · rename_i e; cases e
          · rename_i e; cases e; exact absurd rfl hg92
          · rename_i e; cases e; exact Or.inl ⟨rfl, hk0⟩
          · rename_i e; cases e; exact Or.inr ⟨rfl, hk0⟩
          · exact hk0.elim
        have K := hk t lr H locs hl hwl (wfS.cons (v := .inr (.inr (g, i))) (Or.inr (Or.inr ⟨by omega, by omega⟩)) hws) hwd
        have hv : vrel ad t (.inr (.inr (g, i))) = .ref (ad g i) := by
          show Value.ref (if g = 90 then t else ad g i) = _
          rw [if_neg (by omega)]
        simp only [WG, List.map_cons] at K ⊢
        rw [hv] at K
        rcases h9 with ⟨rfl, h1, rfl, rfl⟩ | ⟨rfl, h1, rfl, rfl⟩
        · rw [h1] at hown
          exact va_ldcS hx hb hown hF.2.2.2.2.2.2.2.2.1 hd K
        · rw [h1] at hown
          exact va_ldcS hx hb hown hF.2.2.2.2.2.2.2.2.2.1 hd K
    · cases h
  case ldc_w n =>
    simp only [stepK] at h
    split at h
    · rename_i x hlk
      cases h
      have hk0 : Cond.constant (clsN (mi_cls mi)) n x ∈ gTb := cps_K hcl _ (lookup_mem hlk)
      exact lv_ldcw hx hb hown (hts _ (List.mem_cons_of_mem _ hk0)) hd (hk t lr H locs hl hwl (wfS.cons (v := .inl _) trivial hws) hwd)
    · cases h
  case getstatic n =>
    simp only [stepK] at h
    split at h
    · rename_i g i hlk
      cases e92 : g == 92 with
      | false => rw [e92] at h; cases h
      | true =>
        rw [e92] at h
        cases h
        have hg92 : g = 92 := by simpa using e92
        subst hg92
        have hk0 : mi_cls mi = 3 ∧ n = 70 ∧ i = 0 := cps_K hcl _ (lookup_mem hlk)
        obtain ⟨h1, rfl, rfl⟩ := hk0
        have K := hk t lr H locs hl hwl (wfS.cons (v := .inr (.inr (92, 0))) (Or.inr (Or.inr ⟨by omega, rfl⟩)) hws) hwd
        rw [h1] at hown
        exact va_getsN hx hb hF.2.1 hwd.2.2 hown (va_Nw.use rfl (hF.2.2.2.2.2.2.1 _ wgs)) (fun x h => h) hd K
    · cases h
end C6
