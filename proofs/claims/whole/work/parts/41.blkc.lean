/-! Blocks: a run that stops at cuts, with what is behind them left open. -/
noncomputable def blk1X (L : Nat) (xs : Nat → Int32) (E : CallT) (mi : MI) (back : BackT) (k k2 : RecT) (pc : Nat) (ls : Lcs) (st : List AV) (M : Mem) (O : Int64) (T : Tmp) (c s : Nat) : Res :=
  match List.lookup pc (mi_tab mi) with
  | none => none
  | some (i, len) => match fam i with
    | 0 => match stepS i ls st with
      | some (ls', st') => k (pc + len) ls' st' M O T c s
      | none => none
    | 4 => match stepK (cps (mi_cls mi)) i st with
      | some st' => k (pc + len) ls st' M O T c s
      | none => none
    | 1 => stepH shape L xs (cps (mi_cls mi)) i k pc ls st M O T c s
    | 2 => stepB i len k back pc ls st M O T c s
    | _ => stepC shape cps tkT clsY E mi i k2 pc ls st M O T c s
theorem blk1X_eq (L : Nat) (xs : Nat → Int32) (E : CallT) (mi : MI) (back : BackT) (k : RecT) : blk1X L xs E mi back k k = blk1 shape cps tkT clsY L xs E mi back k := rfl
def cK (cut : Nat → Bool) (a b : RecT) : RecT := fun pc ls st M O T c s => bif cut pc then a pc ls st M O T c s else b pc ls st M O T c s
theorem cK_same (cut : Nat → Bool) (a : RecT) : cK cut a a = a := by
  funext pc ls st M O T c s
  unfold cK
  cases cut pc <;> rfl
noncomputable def blkC (L : Nat) (xs : Nat → Int32) (E : CallT) (mi : MI) (back : BackT) (cut : Nat → Bool) (kk : Nat → RecT) : Nat → RecT
  | 0 => fun _ _ _ _ _ _ _ _ => none
  | n + 1 => blk1X L xs E mi back (cK cut (kk n) (blkC L xs E mi back cut kk n)) (kk n)
theorem blkC_eq (L : Nat) (xs : Nat → Int32) (E : CallT) (mi : MI) (back : BackT) (cut : Nat → Bool) : ∀ n, blkC L xs E mi back cut (BK L xs E mi back) n = BK L xs E mi back n := by
  intro n
  induction n with
  | zero => rfl
  | succ n ih =>
    show blk1X L xs E mi back (cK cut (BK L xs E mi back n) (blkC L xs E mi back cut (BK L xs E mi back) n)) (BK L xs E mi back n) = blk1 shape cps tkT clsY L xs E mi back (BK L xs E mi back n)
    rw [ih, cK_same, blk1X_eq]
/-- a block's equation, out of its open form -/
theorem blk_of {L : Nat} {xs : Nat → Int32} {E : CallT} {mi : MI} {back : BackT} (cut : Nat → Bool) {n pc : Nat} {ls : Lcs} {st : List AV} {M : Mem} {O : Int64} {T : Tmp} {c s : Nat} {f : (Nat → RecT) → Res} (h : ∀ kk, blkC L xs E mi back cut kk n pc ls st M O T c s = f kk) : BK L xs E mi back n pc ls st M O T c s = f (BK L xs E mi back) := by
  rw [← h, blkC_eq]
