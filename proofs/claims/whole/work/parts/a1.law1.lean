/-! The law's rounds: what the reference says it threw; what a method's answer is by its kind. -/
def RTy (mi : MI) (r : Out) : Prop := ∀ v, r.1 = .inl (some v) → (mi_ret mi = some .int → ∃ x, v = .inl x) ∧ (mi_ret mi = some .long → ∃ x, v = .inr (.inl x))
section R1
variable {L : Nat} {xs : Nat → Int32} {mi : MI} {k : RecT} {back : BackT} {r : Out} {pc : Nat} {ls : Lcs} {st : List AV} {M : Mem} {O : Int64} {T : Tmp} {c1 s1 : Nat} {E : CallT} {cp : CP}
set_option maxHeartbeats 4000000 in
theorem stepH_rt (hk : ∀ pc ls st M O T c1 s1, k pc ls st M O T c1 s1 = some r → RTy mi r) {i : Instr} (hfam : fam i = 1) (h : stepH shape L xs cp i k pc ls st M O T c1 s1 = some r) : RTy mi r := by
  cases i
  all_goals first
    | exact absurd (show (0 : Nat) = 1 from hfam) (by decide)
    | exact absurd (show (2 : Nat) = 1 from hfam) (by decide)
    | exact absurd (show (3 : Nat) = 1 from hfam) (by decide)
    | exact absurd (show (4 : Nat) = 1 from hfam) (by decide)
    | skip
  case newarray aty =>
    cases aty
    all_goals first
      | exact nomatch (show (none : Res) = some r from h)
      | skip
    simp only [stepH] at h
    split at h
    · split at h
      · exact hk _ _ _ _ _ _ _ _ h
      · cases h
    · cases h
  all_goals
    simp only [stepH, Bool.cond_eq_ite] at h
    repeat' split at h
    all_goals first
      | exact hk _ _ _ _ _ _ _ _ h
      | cases h
theorem xgo_rt (hk : ∀ pc ls st M O T c1 s1, k pc ls st M O T c1 s1 = some r → RTy mi r) (hb : ∀ pc ls M O T c1 s1, back pc ls M O T c1 s1 = some r → RTy mi r) {off : Int} (h : xgo k back pc off ls st M O T c1 s1 = some r) : RTy mi r := by
  unfold xgo at h
  simp only [Bool.cond_eq_ite] at h
  repeat' split at h
  all_goals first
    | exact hk _ _ _ _ _ _ _ _ h
    | exact hb _ _ _ _ _ _ _ h
    | cases h
set_option maxHeartbeats 4000000 in
theorem stepB_rt (hk : ∀ pc ls st M O T c1 s1, k pc ls st M O T c1 s1 = some r → RTy mi r) (hb : ∀ pc ls M O T c1 s1, back pc ls M O T c1 s1 = some r → RTy mi r) {i : Instr} {len : Nat} (hfam : fam i = 2) (h : stepB i len k back pc ls st M O T c1 s1 = some r) : RTy mi r := by
  cases i
  all_goals first
    | exact absurd (show (0 : Nat) = 2 from hfam) (by decide)
    | exact absurd (show (1 : Nat) = 2 from hfam) (by decide)
    | exact absurd (show (3 : Nat) = 2 from hfam) (by decide)
    | exact absurd (show (4 : Nat) = 2 from hfam) (by decide)
    | skip
  all_goals
    simp only [stepB] at h
    repeat' split at h
    all_goals first
      | exact xgo_rt hk hb h
      | exact hk _ _ _ _ _ _ _ _ h
      | cases h
theorem hretV_int {h : Nat} {v : Int32} (e : hretV mi h = some v) : mi_ret mi = some .int := by
  unfold hretV at e
  split at e
  · rename_i q
    exact q
  · rename_i q
    exact q
  · cases e
theorem xret_rt (hk : ∀ pc ls st M O T c1 s1, k pc ls st M O T c1 s1 = some r → RTy mi r) {rc : Res} {kd : Nat} {rest : List AV} (h : xret tkT mi kd rc k pc ls rest T c1 s1 = some r) : RTy mi r := by
  unfold xret at h
  split at h
  · cases h
  · exact hk _ _ _ _ _ _ _ _ h
  · exact hk _ _ _ _ _ _ _ _ h
  · simp only [Bool.cond_eq_ite] at h
    split at h
    · split at h
      · cases h
        intro v hv
        cases hv
      · split at h
        · rename_i hq
          cases h
          intro v hv
          cases hv
          refine ⟨fun _ => ⟨_, rfl⟩, fun e => ?_⟩
          have := (hretV_int hq).symm.trans e
          cases this
        · cases h
    · cases h
set_option maxHeartbeats 4000000 in
theorem stepC_rt (hk : ∀ pc ls st M O T c1 s1, k pc ls st M O T c1 s1 = some r → RTy mi r) {i : Instr} (hfam : fam i = 3) (h : stepC shape cps tkT clsY E mi i k pc ls st M O T c1 s1 = some r) : RTy mi r := by
  cases i
  all_goals first
    | exact absurd (show (0 : Nat) = 3 from hfam) (by decide)
    | exact absurd (show (1 : Nat) = 3 from hfam) (by decide)
    | exact absurd (show (2 : Nat) = 3 from hfam) (by decide)
    | exact absurd (show (4 : Nat) = 3 from hfam) (by decide)
    | skip
  all_goals
    simp only [stepC, Bool.cond_eq_ite] at h
    repeat' split at h
    all_goals first
      | exact xret_rt hk h
      | (cases h; done)
      | (clear hk; cases h; intro v hv; cases hv; done)
      | (clear hk; cases h; intro v hv; cases hv; refine ⟨?_, ?_⟩ <;> intro e <;> first | exact ⟨_, rfl⟩ | (simp_all; done))
theorem blk1_rt (hk : ∀ pc ls st M O T c1 s1, k pc ls st M O T c1 s1 = some r → RTy mi r) (hb : ∀ pc ls M O T c1 s1, back pc ls M O T c1 s1 = some r → RTy mi r) (h : blk1 shape cps tkT clsY L xs E mi back k pc ls st M O T c1 s1 = some r) : RTy mi r := by
  unfold blk1 at h
  split at h
  · cases h
  · split at h
    · split at h
      · exact hk _ _ _ _ _ _ _ _ h
      · cases h
    · split at h
      · exact hk _ _ _ _ _ _ _ _ h
      · cases h
    · rename_i hf
      exact stepH_rt hk hf h
    · rename_i hf
      exact stepB_rt hk hb hf h
    · rename_i h0 h4 h1 h2
      exact stepC_rt hk (fam_3 h0 h1 h2 h4) h
theorem blk_rt (hb : ∀ pc ls M O T c1 s1, back pc ls M O T c1 s1 = some r → RTy mi r) : ∀ n pc ls st M O T c1 s1, blk shape cps tkT clsY L xs E mi back n pc ls st M O T c1 s1 = some r → RTy mi r := by
  intro n
  induction n with
  | zero => intro pc ls st M O T c1 s1 h; cases h
  | succ n ih => intro pc ls st M O T c1 s1 h; exact blk1_rt ih hb h
theorem run_rt : ∀ n pc ls M O T c1 s1, runM shape cps tkT clsY L xs E mi n pc ls M O T c1 s1 = some r → RTy mi r := by
  intro n
  induction n with
  | zero => intro pc ls M O T c1 s1 h; cases h
  | succ n ih => intro pc ls M O T c1 s1 h; exact blk_rt ih _ _ _ _ _ _ _ _ _ h
end R1
theorem EX_rt {L : Nat} {xs : Nat → Int32} {D y : Nat} {as : List AV} {M : Mem} {O : Int64} {r : Out} (mi : MI) (h : getN y = some mi) (hy : Nat.ble 900 y = false)
    (ha : (as.all (fun v => Nat.beq (acat v) 1) && Nat.ble as.length (mi_L mi)) = true) (e : EX L xs (D + 1) y as M O = some r) : RTy mi r := by
  rw [EX_of0 mi h hy ha] at e
  exact run_rt _ _ _ _ _ _ _ _ e
theorem lg_same (x : Int64) : lg_cmp x x = 0 := by
  unfold lg_cmp
  rw [if_neg Int64.lt_irrefl, if_pos rfl]
section
variable (L : Nat) (xs : Nat → Int32) (O : Int64)
theorem x7_thrown {D : Nat} (hD : 2 ≤ D) (M : Mem) : EX L xs (D) q_X7_thrown [.inr (.inr (40, 0))] M O = (some (.inl (some (.inl (M 40 0 0))), M, O, 0, 0) : Res) := by
  obtain ⟨d, rfl⟩ : ∃ d, D = d + 2 := ⟨D - 2, by omega⟩
  refine (EX_in mi_X7_thrown rfl rfl rfl (ls := [some (.inr (.inr (40, 0)))]) rfl).trans ?_
  rw [e_X7_thrown_0]
theorem zsub_6 {a : Nat} (h : 6 ≤ a) : nI a - 6 = nI (a - 6) := hl_subR h
theorem lw_in {a j L : Nat} (h : a + j < L) (hL : L ≤ 3072) (x : Int32) (e : x = nI (a + j)) : (0 ≤ x.toInt ∧ x.toInt < (L : Int)) ∧ x.toNatClampNeg = a + j := by
  subst e
  exact ⟨hl_in h (by omega), hl_cl (by omega)⟩
theorem lw_end {a L : Nat} (hL : L ≤ 3072) (ha : a ≤ 4000) : (Int32.ofNat L) - 6 < nI a ↔ L < a + 6 := by
  by_cases h : 6 ≤ L
  · rw [hl_of, zsub_6 h, hl_lt (by omega) (by omega)]
    omega
  · have e : ((Int32.ofNat L) - 6).toInt < 0 := by
      have : L = 0 ∨ L = 1 ∨ L = 2 ∨ L = 3 ∨ L = 4 ∨ L = 5 := by omega
      rcases this with rfl | rfl | rfl | rfl | rfl | rfl <;> decide
    rw [i_lt, hl_toInt (by omega)]
    omega
end
