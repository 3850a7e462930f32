/-! The picture's run is the machine's. -/
section Z1
variable {p : Program} {l : Launch} {e : Env} {R : Room} {s : State} {m : MethodId} {args : Array Value} {below : List Frame} {meth : Method} {c : Code} {Q : State → Prop}
  {D : va_G} {cT : Nat → ClassId} {ad : Nat → Nat → Nat} {A : Nat → Prop} {L : Nat} {xs : Nat → Int32} {mi : MI} {r : Out} {E : CallT}
theorem blk_ok (C : CX p s m args c D cT ad L xs A mi) (hM : MOKT mi) (hTab : c.exceptionTable.toList = tableOf (mi_hh mi)) (hE : EOK l L xs E) (hMO : ∀ y mi', getN y = some mi' → MOK mi') (hRf : mi_fr mi ≤ R.frames) (hRl : mi_lw mi ≤ R.locals) (hrc : r.2.2.2.1 ≤ R.cells ∧ r.2.2.2.2 ≤ R.slots)
    (hEnd : Ends p l e R s m args below meth c Q D cT ad A mi r) {back : BackT}
    (hbk : ∀ pc ls M O T c1 s1, back pc ls M O T c1 s1 = some r → Good (WG p l e R s m args below meth c Q) m (WDp D cT ad A s.heap) ad (mi_L mi) pc ls [] M O T c1 s1)
    (hbp : ∀ pc ls M O T c1 s1, back pc ls M O T c1 s1 = some r → PO r c1 s1) :
    ∀ n pc ls st M O T c1 s1, blk shape cps tkT clsY L xs E mi back n pc ls st M O T c1 s1 = some r → Good (WG p l e R s m args below meth c Q) m (WDp D cT ad A s.heap) ad (mi_L mi) pc ls st M O T c1 s1 := by
  have C' := C
  obtain ⟨hx, hb, hml, hown, hts, hK, hF, hA, hAA, hDD, hcl⟩ := C
  have hE3 : ∀ y as M O o, E y as M O = some o → ∀ X, o.1 = .inr X → X < 3 := fun y as M O o ho => (hE y as M O o ho).2.2
  have htg : ∀ w ∈ gTb, w.before args s = true := fun w h => hts w (List.mem_cons_of_mem _ h)
  have htn : ∀ w ∈ nTb, w.before args s = true := fun w h => by
    refine va_Nw.use ?_ (hF.2.2.2.2.2.2.1 w h)
    have h2 := (List.mem_filter.mp h).2
    cases w <;> first | rfl | (simp [isNest] at h2; done)
  intro n
  induction n with
  | zero => intro pc ls st M O T c1 s1 h; cases h
  | succ n ih =>
    intro pc ls st M O T c1 s1 h
    have hpo := blk_po (L := L) (xs := xs) hcl hbp hE3 n
    have hmo : ∀ pc ls st M O T c1 s1, blk shape cps tkT clsY L xs E mi back n pc ls st M O T c1 s1 = some r → c1 ≤ R.cells ∧ s1 ≤ R.slots := fun pc ls st M O T c1 s1 h => by
      have := hpo pc ls st M O T c1 s1 h
      exact ⟨Nat.le_trans this.1 hrc.1, Nat.le_trans this.2.1 hrc.2⟩
    have h : blk1 shape cps tkT clsY L xs E mi back (blk shape cps tkT clsY L xs E mi back n) pc ls st M O T c1 s1 = some r := h
    unfold blk1 at h
    split at h
    · cases h
    · rename_i i len hlk
      obtain ⟨d1, d2, d3, d4⟩ := eOK_dec hM.1 hlk
      have hlen : fam i ≠ 2 → len = ilen i := by
        intro hf
        clear hlk h
        cases i <;> first | exact d2 | exact absurd rfl hf
      split at h
      · rename_i hf
        have hl0 := hlen (by omega)
        subst hl0
        split at h
        · rename_i ls' st' hs
          intro t lr H locs hl hwl hws hwd
          exact stepS_ok hx hb d1 d3 hs hl hwl hws (fun lr' a1 a2 a3 => ih _ _ _ _ _ _ _ _ h t lr' H locs a1 a2 a3 hwd)
        · cases h
      · rename_i hf
        have hl0 := hlen (by omega)
        subst hl0
        split at h
        · rename_i st' hs
          exact stepK_ok C' d1 hs (ih _ _ _ _ _ _ _ _ h)
        · cases h
      · rename_i hf
        have hl0 := hlen (by omega)
        subst hl0
        exact stepH_ok hx hb hown hcl htg htn hK (htg _ war_int) hF.1.1 hF.1.2.1 hF.1.2.2 hF.2.2.1 hA ih hmo hf d1 h
      · rename_i hf
        exact stepB_ok hx hb ih hbk d1 (by clear hlk h; cases i <;> exact d2) d4 h
      · rename_i h0 h4 h1 h2
        have hf := fam_3 h0 h1 h2 h4
        have hl0 := hlen (by omega)
        subst hl0
        exact stepC_ok C' hM hTab hE hMO hRf hRl hrc ih hmo hEnd hf hlk h
theorem run_ok (C : CX p s m args c D cT ad L xs A mi) (hM : MOKT mi) (hTab : c.exceptionTable.toList = tableOf (mi_hh mi)) (hE : EOK l L xs E) (hMO : ∀ y mi', getN y = some mi' → MOK mi') (hRf : mi_fr mi ≤ R.frames) (hRl : mi_lw mi ≤ R.locals) (hrc : r.2.2.2.1 ≤ R.cells ∧ r.2.2.2.2 ≤ R.slots)
    (hEnd : Ends p l e R s m args below meth c Q D cT ad A mi r) :
    ∀ n pc ls M O T c1 s1, runM shape cps tkT clsY L xs E mi n pc ls M O T c1 s1 = some r → Good (WG p l e R s m args below meth c Q) m (WDp D cT ad A s.heap) ad (mi_L mi) pc ls [] M O T c1 s1 := by
  have hE3 : ∀ y as M O o, E y as M O = some o → ∀ X, o.1 = .inr X → X < 3 := fun y as M O o ho => (hE y as M O o ho).2.2
  have hcl := C.2.2.2.2.2.2.2.2.2.2
  intro n
  induction n with
  | zero => intro pc ls M O T c1 s1 h; cases h
  | succ n ih => intro pc ls M O T c1 s1 h; exact blk_ok C hM hTab hE hMO hRf hRl hrc hEnd ih (run_po hcl hE3 n) _ _ _ _ _ _ _ _ _ h
end Z1
