/-! What the picture counts only grows; what is thrown is one of three. -/
def PO (r : Out) (c s : Nat) : Prop := c ≤ r.2.2.2.1 ∧ s ≤ r.2.2.2.2 ∧ ∀ X, r.1 = .inr X → X < 3
theorem PO.le {r : Out} {c s c' s' : Nat} (h : PO r c s) (h1 : c' ≤ c) (h2 : s' ≤ s) : PO r c' s' := ⟨Nat.le_trans h1 h.1, Nat.le_trans h2 h.2.1, h.2.2⟩
theorem cps_X3 : ∀ cls, cls < 10 → (cps cls).2.2.2.all (fun q => decide (q.2 < 3)) = true := by decide +kernel
theorem fam_le (i : Instr) : fam i ≤ 4 := by
  cases i <;> first | exact Nat.zero_le _ | (show 1 ≤ 4; decide) | (show 2 ≤ 4; decide) | (show 3 ≤ 4; decide) | (show 4 ≤ 4; decide)
theorem fam_3 {i : Instr} (h0 : fam i = 0 → False) (h1 : fam i = 1 → False) (h2 : fam i = 2 → False) (h4 : fam i = 4 → False) : fam i = 3 := by
  have h := fam_le i
  have h0' : fam i ≠ 0 := h0
  have h1' : fam i ≠ 1 := h1
  have h2' : fam i ≠ 2 := h2
  have h4' : fam i ≠ 4 := h4
  omega
section P1
variable {L : Nat} {xs : Nat → Int32} {mi : MI} {k : RecT} {back : BackT} {r : Out} {pc : Nat} {ls : Lcs} {st : List AV} {M : Mem} {O : Int64} {T : Tmp} {c1 s1 : Nat} {E : CallT} {cp : CP}
set_option maxHeartbeats 4000000 in
theorem stepH_po (hk : ∀ pc ls st M O T c1 s1, k pc ls st M O T c1 s1 = some r → PO r c1 s1) {i : Instr} (hfam : fam i = 1) (h : stepH shape L xs cp i k pc ls st M O T c1 s1 = some r) : PO r c1 s1 := by
  cases i
  all_goals first
    | exact absurd (show (0 : Nat) = 1 from hfam) (by decide)
    | exact absurd (show (2 : Nat) = 1 from hfam) (by decide)
    | exact absurd (show (3 : Nat) = 1 from hfam) (by decide)
    | exact absurd (show (4 : Nat) = 1 from hfam) (by decide)
    | skip
  case newarray aty =>
    cases aty
    all_goals first
      | exact nomatch (show (none : Res) = some r from h)
      | skip
    simp only [stepH] at h
    split at h
    · split at h
      · exact (hk _ _ _ _ _ _ _ _ h).le (by omega) (by omega)
      · cases h
    · cases h
  all_goals
    simp only [stepH, Bool.cond_eq_ite] at h
    repeat' split at h
    all_goals first
      | exact hk _ _ _ _ _ _ _ _ h
      | cases h
theorem xgo_po (hk : ∀ pc ls st M O T c1 s1, k pc ls st M O T c1 s1 = some r → PO r c1 s1) (hb : ∀ pc ls M O T c1 s1, back pc ls M O T c1 s1 = some r → PO r c1 s1) {off : Int} (h : xgo k back pc off ls st M O T c1 s1 = some r) : PO r c1 s1 := by
  unfold xgo at h
  simp only [Bool.cond_eq_ite] at h
  repeat' split at h
  all_goals first
    | exact hk _ _ _ _ _ _ _ _ h
    | exact hb _ _ _ _ _ _ _ h
    | cases h
set_option maxHeartbeats 4000000 in
theorem stepB_po (hk : ∀ pc ls st M O T c1 s1, k pc ls st M O T c1 s1 = some r → PO r c1 s1) (hb : ∀ pc ls M O T c1 s1, back pc ls M O T c1 s1 = some r → PO r c1 s1) {i : Instr} {len : Nat} (hfam : fam i = 2) (h : stepB i len k back pc ls st M O T c1 s1 = some r) : PO r c1 s1 := by
  cases i
  all_goals first
    | exact absurd (show (0 : Nat) = 2 from hfam) (by decide)
    | exact absurd (show (1 : Nat) = 2 from hfam) (by decide)
    | exact absurd (show (3 : Nat) = 2 from hfam) (by decide)
    | exact absurd (show (4 : Nat) = 2 from hfam) (by decide)
    | skip
  all_goals
    simp only [stepB] at h
    repeat' split at h
    all_goals first
      | exact xgo_po hk hb h
      | exact hk _ _ _ _ _ _ _ _ h
      | cases h
theorem xret_po (hk : ∀ pc ls st M O T c1 s1, k pc ls st M O T c1 s1 = some r → PO r c1 s1) {rc : Res} (hE : ∀ o, rc = some o → ∀ X, o.1 = .inr X → X < 3) {kd : Nat} {rest : List AV} (h : xret tkT mi kd rc k pc ls rest T c1 s1 = some r) : PO r c1 s1 := by
  unfold xret at h
  split at h
  · cases h
  · exact (hk _ _ _ _ _ _ _ _ h).le (by omega) (by omega)
  · exact (hk _ _ _ _ _ _ _ _ h).le (by omega) (by omega)
  · rename_i X M O mc ms
    have hX := hE _ rfl X rfl
    simp only [Bool.cond_eq_ite] at h
    split at h
    · split at h
      · cases h
        exact ⟨by show c1 ≤ c1 + mc; omega, by show s1 ≤ s1 + ms; omega, fun Y hY => by cases hY; exact hX⟩
      · split at h
        · cases h
          exact ⟨by show c1 ≤ c1 + mc; omega, by show s1 ≤ s1 + ms; omega, fun Y hY => by cases hY⟩
        · cases h
    · cases h
set_option maxHeartbeats 4000000 in
theorem stepC_po (hcl : mi_cls mi < 10) (hk : ∀ pc ls st M O T c1 s1, k pc ls st M O T c1 s1 = some r → PO r c1 s1) (hE : ∀ y as M O o, E y as M O = some o → ∀ X, o.1 = .inr X → X < 3) {i : Instr} (hfam : fam i = 3) (h : stepC shape cps tkT clsY E mi i k pc ls st M O T c1 s1 = some r) : PO r c1 s1 := by
  cases i
  all_goals first
    | exact absurd (show (0 : Nat) = 3 from hfam) (by decide)
    | exact absurd (show (1 : Nat) = 3 from hfam) (by decide)
    | exact absurd (show (2 : Nat) = 3 from hfam) (by decide)
    | exact absurd (show (4 : Nat) = 3 from hfam) (by decide)
    | skip
  case new n =>
    simp only [stepC] at h
    split at h
    · rename_i X hlk
      split at h
      · cases h
        refine ⟨by show c1 ≤ c1 + 1; omega, by show s1 ≤ s1 + 6; omega, fun Y hY => ?_⟩
        cases hY
        exact of_decide_eq_true (List.all_eq_true.mp (cps_X3 _ hcl) _ (lookup_mem hlk))
      · cases h
    · cases h
  all_goals
    simp only [stepC, Bool.cond_eq_ite] at h
    repeat' split at h
    all_goals first
      | exact xret_po hk (fun o ho => hE _ _ _ _ o ho) h
      | (cases h; done)
      | (cases h; exact ⟨Nat.le_refl _, Nat.le_refl _, fun Y hY => by cases hY⟩)
theorem blk1_po (hcl : mi_cls mi < 10) (hk : ∀ pc ls st M O T c1 s1, k pc ls st M O T c1 s1 = some r → PO r c1 s1) (hb : ∀ pc ls M O T c1 s1, back pc ls M O T c1 s1 = some r → PO r c1 s1) (hE : ∀ y as M O o, E y as M O = some o → ∀ X, o.1 = .inr X → X < 3) (h : blk1 shape cps tkT clsY L xs E mi back k pc ls st M O T c1 s1 = some r) : PO r c1 s1 := by
  unfold blk1 at h
  split at h
  · cases h
  · split at h
    · split at h
      · exact hk _ _ _ _ _ _ _ _ h
      · cases h
    · split at h
      · exact hk _ _ _ _ _ _ _ _ h
      · cases h
    · rename_i hf
      exact stepH_po hk hf h
    · rename_i hf
      exact stepB_po hk hb hf h
    · rename_i h0 h4 h1 h2
      exact stepC_po hcl hk hE (fam_3 h0 h1 h2 h4) h
theorem blk_po (hcl : mi_cls mi < 10) (hb : ∀ pc ls M O T c1 s1, back pc ls M O T c1 s1 = some r → PO r c1 s1) (hE : ∀ y as M O o, E y as M O = some o → ∀ X, o.1 = .inr X → X < 3) : ∀ n pc ls st M O T c1 s1, blk shape cps tkT clsY L xs E mi back n pc ls st M O T c1 s1 = some r → PO r c1 s1 := by
  intro n
  induction n with
  | zero => intro pc ls st M O T c1 s1 h; cases h
  | succ n ih => intro pc ls st M O T c1 s1 h; exact blk1_po hcl ih hb hE h
theorem run_po (hcl : mi_cls mi < 10) (hE : ∀ y as M O o, E y as M O = some o → ∀ X, o.1 = .inr X → X < 3) : ∀ n pc ls M O T c1 s1, runM shape cps tkT clsY L xs E mi n pc ls M O T c1 s1 = some r → PO r c1 s1 := by
  intro n
  induction n with
  | zero => intro pc ls M O T c1 s1 h; cases h
  | succ n ih => intro pc ls M O T c1 s1 h; exact blk_po hcl ih hE _ _ _ _ _ _ _ _ _ h
end P1
