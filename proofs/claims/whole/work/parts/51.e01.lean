/-! block equations: printed by wip/gen/gen9.py -/
set_option maxRecDepth 100000 in
theorem e_X1_read_0 (L : Nat) (xs : Nat → Int32) (E : CallT) (back : BackT) (k : Nat) (i0 : Nat) (M : Mem) (O : Int64) (T : Tmp) (c s : Nat) :
  BK L xs E mi_X1_read back (k + 2) 0 [some (.inr (.inr (3, i0))), some (.inr (.inr (1, 0))), none] [] M O T c s =
    xret tkT mi_X1_read 0 (E q_X1_clear [.inr (.inr (3, i0))] M O) (BK L xs E mi_X1_read back (k)) 1 [some (.inr (.inr (3, i0))), some (.inr (.inr (1, 0))), none] [] T c s :=
  blk_of (fun q => Nat.beq q 0 || Nat.beq q 6 || Nat.beq q 31) (f := fun kk => xret tkT mi_X1_read 0 (E q_X1_clear [.inr (.inr (3, i0))] M O) (kk (k)) 1 [some (.inr (.inr (3, i0))), some (.inr (.inr (1, 0))), none] [] T c s) (fun kk => rfl)
set_option maxRecDepth 100000 in
theorem e_X1_read_4 (L : Nat) (xs : Nat → Int32) (E : CallT) (back : BackT) (k : Nat) (i0 : Nat) (u2 : Option AV) (M : Mem) (O : Int64) (T : Tmp) (c s : Nat) :
  BK L xs E mi_X1_read back (k + 2) 4 [some (.inr (.inr (3, i0))), some (.inr (.inr (1, 0))), u2] [] M O T c s =
    BK L xs E mi_X1_read back (k) 6 [some (.inr (.inr (3, i0))), some (.inr (.inr (1, 0))), some (.inl 0)] [] M O T c s :=
  blk_of (fun q => Nat.beq q 4 || Nat.beq q 6 || Nat.beq q 31) (f := fun kk => kk (k) 6 [some (.inr (.inr (3, i0))), some (.inr (.inr (1, 0))), some (.inl 0)] [] M O T c s) (fun kk => rfl)
set_option maxRecDepth 100000 in
theorem e_X1_read_6 (L : Nat) (xs : Nat → Int32) (E : CallT) (back : BackT) (k : Nat) (i0 : Nat) (a2 : Int32) (M : Mem) (O : Int64) (T : Tmp) (c s : Nat) :
  BK L xs E mi_X1_read back (k + 5) 6 [some (.inr (.inr (3, i0))), some (.inr (.inr (1, 0))), some (.inl a2)] [] M O T c s =
    if (60 : Int32) < a2 then (BK L xs E mi_X1_read back (k + 2) 31 [some (.inr (.inr (3, i0))), some (.inr (.inr (1, 0))), some (.inl a2)] [] M O T c s) else (xret tkT mi_X1_read 1 (E q_X5_hasMore [.inr (.inr (1, 0))] M O) (BK L xs E mi_X1_read back (k)) 13 [some (.inr (.inr (3, i0))), some (.inr (.inr (1, 0))), some (.inl a2)] [] T c s) :=
  blk_of (fun q => Nat.beq q 6 || Nat.beq q 31) (f := fun kk => if (60 : Int32) < a2 then (kk (k + 2) 31 [some (.inr (.inr (3, i0))), some (.inr (.inr (1, 0))), some (.inl a2)] [] M O T c s) else (xret tkT mi_X1_read 1 (E q_X5_hasMore [.inr (.inr (1, 0))] M O) (kk (k)) 13 [some (.inr (.inr (3, i0))), some (.inr (.inr (1, 0))), some (.inl a2)] [] T c s)) (fun kk => rfl)
set_option maxRecDepth 100000 in
theorem e_X1_read_31 (L : Nat) (xs : Nat → Int32) (E : CallT) (back : BackT) (k : Nat) (i0 : Nat) (a2 : Int32) (M : Mem) (O : Int64) (T : Tmp) (c s : Nat) :
  BK L xs E mi_X1_read back (k + 1) 31 [some (.inr (.inr (3, i0))), some (.inr (.inr (1, 0))), some (.inl a2)] [] M O T c s =
    some (.inl none, M, O, c, s) :=
  blk_of (fun q => Nat.beq q 6 || Nat.beq q 31) (f := fun kk => some (.inl none, M, O, c, s)) (fun kk => rfl)
set_option maxRecDepth 100000 in
theorem e_X1_read_16 (L : Nat) (xs : Nat → Int32) (E : CallT) (back : BackT) (k : Nat) (i0 : Nat) (a2 : Int32) (as0 : Int32) (M : Mem) (O : Int64) (T : Tmp) (c s : Nat) :
  BK L xs E mi_X1_read back (k + 5) 16 [some (.inr (.inr (3, i0))), some (.inr (.inr (1, 0))), some (.inl a2)] [.inl as0] M O T c s =
    if as0 = 0 then (BK L xs E mi_X1_read back (k + 4) 31 [some (.inr (.inr (3, i0))), some (.inr (.inr (1, 0))), some (.inl a2)] [] M O T c s) else (xret tkT mi_X1_read 0 (E q_X1_readClause [.inr (.inr (3, i0)), .inr (.inr (1, 0)), .inl a2] M O) (BK L xs E mi_X1_read back (k)) 22 [some (.inr (.inr (3, i0))), some (.inr (.inr (1, 0))), some (.inl a2)] [] T c s) :=
  blk_of (fun q => Nat.beq q 6 || Nat.beq q 16 || Nat.beq q 31) (f := fun kk => if as0 = 0 then (kk (k + 4) 31 [some (.inr (.inr (3, i0))), some (.inr (.inr (1, 0))), some (.inl a2)] [] M O T c s) else (xret tkT mi_X1_read 0 (E q_X1_readClause [.inr (.inr (3, i0)), .inr (.inr (1, 0)), .inl a2] M O) (kk (k)) 22 [some (.inr (.inr (3, i0))), some (.inr (.inr (1, 0))), some (.inl a2)] [] T c s)) (fun kk => rfl)
set_option maxRecDepth 100000 in
theorem e_X1_read_25 (L : Nat) (xs : Nat → Int32) (E : CallT) (back : BackT) (k : Nat) (i0 : Nat) (a2 : Int32) (M : Mem) (O : Int64) (T : Tmp) (c s : Nat) :
  BK L xs E mi_X1_read back (k + 2) 25 [some (.inr (.inr (3, i0))), some (.inr (.inr (1, 0))), some (.inl a2)] [] M O T c s =
    back 6 [some (.inr (.inr (3, i0))), some (.inr (.inr (1, 0))), some (.inl (a2 + 1))] M O T c s :=
  blk_of (fun q => Nat.beq q 6 || Nat.beq q 25 || Nat.beq q 31) (f := fun kk => back 6 [some (.inr (.inr (3, i0))), some (.inr (.inr (1, 0))), some (.inl (a2 + 1))] M O T c s) (fun kk => rfl)
set_option maxRecDepth 100000 in
theorem e_X6_needArgument_0 (L : Nat) (xs : Nat → Int32) (E : CallT) (back : BackT) (k : Nat) (a1 : Int32) (M : Mem) (O : Int64) (T : Tmp) (c s : Nat) :
  BK L xs E mi_X6_needArgument back (k + 11) 0 [some (.inr (.inr (0, 0))), some (.inl a1)] [] M O T c s =
    if a1 = 0 then (some (.inr 2, (mput M 34 0 2 ((M 34 0 2) + 1)), O, c + 1, s + 6)) else (some (.inl none, M, O, c, s)) :=
  blk_of (fun q => Nat.beq q 0) (f := fun kk => if a1 = 0 then (some (.inr 2, (mput M 34 0 2 ((M 34 0 2) + 1)), O, c + 1, s + 6)) else (some (.inl none, M, O, c, s))) (fun kk => rfl)
set_option maxRecDepth 100000 in
theorem e_X1_flood_0 (L : Nat) (xs : Nat → Int32) (E : CallT) (back : BackT) (k : Nat) (i0 : Nat) (a1 : Int32) (a2 : Int32) (M : Mem) (O : Int64) (T : Tmp) (c s : Nat) :
  BK L xs E mi_X1_flood back (k + 2) 0 [some (.inr (.inr (3, i0))), some (.inl a1), some (.inl a2), none] [] M O T c s =
    BK L xs E mi_X1_flood back (k) 2 [some (.inr (.inr (3, i0))), some (.inl a1), some (.inl a2), some (.inl a1)] [] M O T c s :=
  blk_of (fun q => Nat.beq q 0 || Nat.beq q 2) (f := fun kk => kk (k) 2 [some (.inr (.inr (3, i0))), some (.inl a1), some (.inl a2), some (.inl a1)] [] M O T c s) (fun kk => rfl)
set_option maxRecDepth 100000 in
theorem e_X1_flood_2 (L : Nat) (xs : Nat → Int32) (E : CallT) (back : BackT) (k : Nat) (i0 : Nat) (a1 : Int32) (a2 : Int32) (a3 : Int32) (M : Mem) (O : Int64) (T : Tmp) (c s : Nat) :
  BK L xs E mi_X1_flood back (k + 10) 2 [some (.inr (.inr (3, i0))), some (.inl a1), some (.inl a2), some (.inl a3)] [] M O T c s =
    if a2 < a3 then (some (.inl none, M, O, c, s)) else (if 0 ≤ (a3 : Int32).toInt ∧ (a3 : Int32).toInt < 40 then (back 2 [some (.inr (.inr (3, i0))), some (.inl a1), some (.inl a2), some (.inl (a3 + 1))] (mput M 4 i0 (a3 : Int32).toNatClampNeg 2) O T c s) else none) :=
  blk_of (fun q => Nat.beq q 2) (f := fun kk => if a2 < a3 then (some (.inl none, M, O, c, s)) else (if 0 ≤ (a3 : Int32).toInt ∧ (a3 : Int32).toInt < 40 then (back 2 [some (.inr (.inr (3, i0))), some (.inl a1), some (.inl a2), some (.inl (a3 + 1))] (mput M 4 i0 (a3 : Int32).toNatClampNeg 2) O T c s) else none)) (fun kk => rfl)
set_option maxRecDepth 100000 in
theorem e_X1_perform_0 (L : Nat) (xs : Nat → Int32) (E : CallT) (back : BackT) (k : Nat) (i0 : Nat) (a1 : Int32) (M : Mem) (O : Int64) (T : Tmp) (c s : Nat) :
  BK L xs E mi_X1_perform back (k + 14) 0 [some (.inr (.inr (3, i0))), some (.inl a1), none, none] [] M O T c s =
    if 0 ≤ (a1 : Int32).toInt ∧ (a1 : Int32).toInt < 8 then (if 0 ≤ (a1 : Int32).toInt ∧ (a1 : Int32).toInt < 8 then (if 0 ≤ (a1 : Int32).toInt ∧ (a1 : Int32).toInt < 8 then (BK L xs E mi_X1_perform back (k) 20 [some (.inr (.inr (3, i0))), some (.inl a1), some (.inl (M 15 i0 (a1 : Int32).toNatClampNeg)), some (.inl (M 16 i0 (a1 : Int32).toNatClampNeg))] [.inl (M 14 i0 (a1 : Int32).toNatClampNeg)] M O T c s) else none) else none) else none :=
  blk_of (fun q => Nat.beq q 0 || Nat.beq q 20 || Nat.beq q 98) (f := fun kk => if 0 ≤ (a1 : Int32).toInt ∧ (a1 : Int32).toInt < 8 then (if 0 ≤ (a1 : Int32).toInt ∧ (a1 : Int32).toInt < 8 then (if 0 ≤ (a1 : Int32).toInt ∧ (a1 : Int32).toInt < 8 then (kk (k) 20 [some (.inr (.inr (3, i0))), some (.inl a1), some (.inl (M 15 i0 (a1 : Int32).toNatClampNeg)), some (.inl (M 16 i0 (a1 : Int32).toNatClampNeg))] [.inl (M 14 i0 (a1 : Int32).toNatClampNeg)] M O T c s) else none) else none) else none) (fun kk => rfl)
set_option maxRecDepth 100000 in
theorem e_X1_perform_20_c6 (L : Nat) (xs : Nat → Int32) (E : CallT) (back : BackT) (k : Nat) (i0 : Nat) (a1 : Int32) (a2 : Int32) (a3 : Int32) (M : Mem) (O : Int64) (T : Tmp) (c s : Nat) :
  BK L xs E mi_X1_perform back (k + 1) 20 [some (.inr (.inr (3, i0))), some (.inl a1), some (.inl a2), some (.inl a3)] [.inl 6] M O T c s = BK L xs E mi_X1_perform back k 48 [some (.inr (.inr (3, i0))), some (.inl a1), some (.inl a2), some (.inl a3)] [] M O T c s :=
  blk_of (fun q => true) (f := fun kk => kk k 48 [some (.inr (.inr (3, i0))), some (.inl a1), some (.inl a2), some (.inl a3)] [] M O T c s) (fun kk => rfl)
set_option maxRecDepth 100000 in
theorem e_X1_perform_20_c7 (L : Nat) (xs : Nat → Int32) (E : CallT) (back : BackT) (k : Nat) (i0 : Nat) (a1 : Int32) (a2 : Int32) (a3 : Int32) (M : Mem) (O : Int64) (T : Tmp) (c s : Nat) :
  BK L xs E mi_X1_perform back (k + 1) 20 [some (.inr (.inr (3, i0))), some (.inl a1), some (.inl a2), some (.inl a3)] [.inl 7] M O T c s = BK L xs E mi_X1_perform back k 58 [some (.inr (.inr (3, i0))), some (.inl a1), some (.inl a2), some (.inl a3)] [] M O T c s :=
  blk_of (fun q => true) (f := fun kk => kk k 58 [some (.inr (.inr (3, i0))), some (.inl a1), some (.inl a2), some (.inl a3)] [] M O T c s) (fun kk => rfl)
set_option maxRecDepth 100000 in
theorem e_X1_perform_20_c8 (L : Nat) (xs : Nat → Int32) (E : CallT) (back : BackT) (k : Nat) (i0 : Nat) (a1 : Int32) (a2 : Int32) (a3 : Int32) (M : Mem) (O : Int64) (T : Tmp) (c s : Nat) :
  BK L xs E mi_X1_perform back (k + 1) 20 [some (.inr (.inr (3, i0))), some (.inl a1), some (.inl a2), some (.inl a3)] [.inl 8] M O T c s = BK L xs E mi_X1_perform back k 67 [some (.inr (.inr (3, i0))), some (.inl a1), some (.inl a2), some (.inl a3)] [] M O T c s :=
  blk_of (fun q => true) (f := fun kk => kk k 67 [some (.inr (.inr (3, i0))), some (.inl a1), some (.inl a2), some (.inl a3)] [] M O T c s) (fun kk => rfl)
set_option maxRecDepth 100000 in
theorem e_X1_perform_20_d (L : Nat) (xs : Nat → Int32) (E : CallT) (back : BackT) (k : Nat) (i0 : Nat) (a1 : Int32) (a2 : Int32) (a3 : Int32) (M : Mem) (O : Int64) (T : Tmp) (c s : Nat) (a : Int32) (h : a.toInt < 6 ∨ 8 < a.toInt) :
  BK L xs E mi_X1_perform back (k + 1) 20 [some (.inr (.inr (3, i0))), some (.inl a1), some (.inl a2), some (.inl a3)] [.inl a] M O T c s = BK L xs E mi_X1_perform back k 88 [some (.inr (.inr (3, i0))), some (.inl a1), some (.inl a2), some (.inl a3)] [] M O T c s :=
  blk_of (fun q => true) (f := fun kk => kk k 88 [some (.inr (.inr (3, i0))), some (.inl a1), some (.inl a2), some (.inl a3)] [] M O T c s) (fun kk => (show _ = (if a.toInt < 6 ∨ 8 < a.toInt then kk k 88 [some (.inr (.inr (3, i0))), some (.inl a1), some (.inl a2), some (.inl a3)] [] M O T c s else (match (#[28, 38, 47] : Array Int)[(a.toInt - (6)).toNat]? with
    | some off => xgo (cK (fun q => true) (kk k) (blkC L xs E mi_X1_perform back (fun q => true) kk k)) back 20 off [some (.inr (.inr (3, i0))), some (.inl a1), some (.inl a2), some (.inl a3)] [] M O T c s
    | none => none)) from rfl).trans (if_pos h))
set_option maxRecDepth 100000 in
theorem e_X1_perform_48 (L : Nat) (xs : Nat → Int32) (E : CallT) (back : BackT) (k : Nat) (i0 : Nat) (a1 : Int32) (a2 : Int32) (a3 : Int32) (M : Mem) (O : Int64) (T : Tmp) (c s : Nat) :
  BK L xs E mi_X1_perform back (k + 6) 48 [some (.inr (.inr (3, i0))), some (.inl a1), some (.inl a2), some (.inl a3)] [] M O T c s =
    if 0 ≤ (a2 : Int32).toInt ∧ (a2 : Int32).toInt < 40 then (BK L xs E mi_X1_perform back (k) 98 [some (.inr (.inr (3, i0))), some (.inl a1), some (.inl a2), some (.inl a3)] [] (mput M 6 i0 (a2 : Int32).toNatClampNeg a3) O T c s) else none :=
  blk_of (fun q => Nat.beq q 20 || Nat.beq q 48 || Nat.beq q 98) (f := fun kk => if 0 ≤ (a2 : Int32).toInt ∧ (a2 : Int32).toInt < 40 then (kk (k) 98 [some (.inr (.inr (3, i0))), some (.inl a1), some (.inl a2), some (.inl a3)] [] (mput M 6 i0 (a2 : Int32).toNatClampNeg a3) O T c s) else none) (fun kk => rfl)
set_option maxRecDepth 100000 in
theorem e_X1_perform_88 (L : Nat) (xs : Nat → Int32) (E : CallT) (back : BackT) (k : Nat) (i0 : Nat) (a1 : Int32) (a2 : Int32) (a3 : Int32) (M : Mem) (O : Int64) (T : Tmp) (c s : Nat) :
  BK L xs E mi_X1_perform back (k + 8) 88 [some (.inr (.inr (3, i0))), some (.inl a1), some (.inl a2), some (.inl a3)] [] M O T c s =
    if 0 ≤ (a2 : Int32).toInt ∧ (a2 : Int32).toInt < 8 then (if 0 ≤ (a2 : Int32).toInt ∧ (a2 : Int32).toInt < 8 then (BK L xs E mi_X1_perform back (k) 98 [some (.inr (.inr (3, i0))), some (.inl a1), some (.inl a2), some (.inl a3)] [] (mput M 8 i0 (a2 : Int32).toNatClampNeg ((M 8 i0 (a2 : Int32).toNatClampNeg) + a3)) O T c s) else none) else none :=
  blk_of (fun q => Nat.beq q 20 || Nat.beq q 88 || Nat.beq q 98) (f := fun kk => if 0 ≤ (a2 : Int32).toInt ∧ (a2 : Int32).toInt < 8 then (if 0 ≤ (a2 : Int32).toInt ∧ (a2 : Int32).toInt < 8 then (kk (k) 98 [some (.inr (.inr (3, i0))), some (.inl a1), some (.inl a2), some (.inl a3)] [] (mput M 8 i0 (a2 : Int32).toNatClampNeg ((M 8 i0 (a2 : Int32).toNatClampNeg) + a3)) O T c s) else none) else none) (fun kk => rfl)
set_option maxRecDepth 100000 in
theorem e_X1_perform_58 (L : Nat) (xs : Nat → Int32) (E : CallT) (back : BackT) (k : Nat) (i0 : Nat) (a1 : Int32) (a2 : Int32) (a3 : Int32) (M : Mem) (O : Int64) (T : Tmp) (c s : Nat) :
  BK L xs E mi_X1_perform back (k + 4) 58 [some (.inr (.inr (3, i0))), some (.inl a1), some (.inl a2), some (.inl a3)] [] M O T c s =
    xret tkT mi_X1_perform 0 (E q_X1_flood [.inr (.inr (3, i0)), .inl a2, .inl a3] M O) (BK L xs E mi_X1_perform back (k)) 61 [some (.inr (.inr (3, i0))), some (.inl a1), some (.inl a2), some (.inl a3)] [] T c s :=
  blk_of (fun q => Nat.beq q 20 || Nat.beq q 58 || Nat.beq q 98) (f := fun kk => xret tkT mi_X1_perform 0 (E q_X1_flood [.inr (.inr (3, i0)), .inl a2, .inl a3] M O) (kk (k)) 61 [some (.inr (.inr (3, i0))), some (.inl a1), some (.inl a2), some (.inl a3)] [] T c s) (fun kk => rfl)
set_option maxRecDepth 100000 in
theorem e_X1_perform_67 (L : Nat) (xs : Nat → Int32) (d : Nat) (back : BackT) (k : Nat) (i0 : Nat) (a1 : Int32) (a2 : Int32) (a3 : Int32) (M : Mem) (O : Int64) (T : Tmp) (c s : Nat) :
  BK L xs (EX L xs (d + 1)) mi_X1_perform back (k + 11) 67 [some (.inr (.inr (3, i0))), some (.inl a1), some (.inl a2), some (.inl a3)] [] M O T c s =
    if 0 ≤ (a2 : Int32).toInt ∧ (a2 : Int32).toInt < 6 then (BK L xs (EX L xs (d + 1)) mi_X1_perform back (k) 84 [some (.inr (.inr (3, i0))), some (.inl a1), some (.inl a2), some (.inl a3)] [.inl (if 0 < ((M 11 i0 (a2 : Int32).toNatClampNeg) - a3) then ((M 11 i0 (a2 : Int32).toNatClampNeg) - a3) else 0), .inl a2, .inr (.inr (11, i0))] M O T c s) else none :=
  blk_of (fun q => Nat.beq q 20 || Nat.beq q 67 || Nat.beq q 98) (f := fun kk => if 0 ≤ (a2 : Int32).toInt ∧ (a2 : Int32).toInt < 6 then (kk (k) 84 [some (.inr (.inr (3, i0))), some (.inl a1), some (.inl a2), some (.inl a3)] [.inl (if 0 < ((M 11 i0 (a2 : Int32).toNatClampNeg) - a3) then ((M 11 i0 (a2 : Int32).toNatClampNeg) - a3) else 0), .inl a2, .inr (.inr (11, i0))] M O T c s) else none) (fun kk => rfl)
set_option maxRecDepth 100000 in
theorem e_X1_perform_98 (L : Nat) (xs : Nat → Int32) (E : CallT) (back : BackT) (k : Nat) (i0 : Nat) (a1 : Int32) (a2 : Int32) (a3 : Int32) (M : Mem) (O : Int64) (T : Tmp) (c s : Nat) :
  BK L xs E mi_X1_perform back (k + 1) 98 [some (.inr (.inr (3, i0))), some (.inl a1), some (.inl a2), some (.inl a3)] [] M O T c s =
    some (.inl none, M, O, c, s) :=
  blk_of (fun q => Nat.beq q 20 || Nat.beq q 98) (f := fun kk => some (.inl none, M, O, c, s)) (fun kk => rfl)
set_option maxRecDepth 100000 in
theorem e_X1_perform_64 (L : Nat) (xs : Nat → Int32) (E : CallT) (back : BackT) (k : Nat) (i0 : Nat) (a1 : Int32) (a2 : Int32) (a3 : Int32) (M : Mem) (O : Int64) (T : Tmp) (c s : Nat) :
  BK L xs E mi_X1_perform back (k + 1) 64 [some (.inr (.inr (3, i0))), some (.inl a1), some (.inl a2), some (.inl a3)] [] M O T c s =
    BK L xs E mi_X1_perform back (k) 98 [some (.inr (.inr (3, i0))), some (.inl a1), some (.inl a2), some (.inl a3)] [] M O T c s :=
  blk_of (fun q => Nat.beq q 20 || Nat.beq q 64 || Nat.beq q 98) (f := fun kk => kk (k) 98 [some (.inr (.inr (3, i0))), some (.inl a1), some (.inl a2), some (.inl a3)] [] M O T c s) (fun kk => rfl)
set_option maxRecDepth 100000 in
theorem e_X1_perform_84 (L : Nat) (xs : Nat → Int32) (E : CallT) (back : BackT) (k : Nat) (i0 : Nat) (a1 : Int32) (a2 : Int32) (a3 : Int32) (as0 : Int32) (as1 : Int32) (is2 : Nat) (M : Mem) (O : Int64) (T : Tmp) (c s : Nat) :
  BK L xs E mi_X1_perform back (k + 2) 84 [some (.inr (.inr (3, i0))), some (.inl a1), some (.inl a2), some (.inl a3)] [.inl as0, .inl as1, .inr (.inr (11, is2))] M O T c s =
    if 0 ≤ (as1 : Int32).toInt ∧ (as1 : Int32).toInt < 6 then (BK L xs E mi_X1_perform back (k) 98 [some (.inr (.inr (3, i0))), some (.inl a1), some (.inl a2), some (.inl a3)] [] (mput M 11 is2 (as1 : Int32).toNatClampNeg as0) O T c s) else none :=
  blk_of (fun q => Nat.beq q 20 || Nat.beq q 84 || Nat.beq q 98) (f := fun kk => if 0 ≤ (as1 : Int32).toInt ∧ (as1 : Int32).toInt < 6 then (kk (k) 98 [some (.inr (.inr (3, i0))), some (.inl a1), some (.inl a2), some (.inl a3)] [] (mput M 11 is2 (as1 : Int32).toNatClampNeg as0) O T c s) else none) (fun kk => rfl)
set_option maxRecDepth 100000 in
theorem e_X1_copyRow_0 (L : Nat) (xs : Nat → Int32) (d : Nat) (back : BackT) (k : Nat) (i0 : Nat) (i1 : Nat) (M : Mem) (O : Int64) (T : Tmp) (c s : Nat) :
  BK L xs (EX L xs (d + 1)) mi_X1_copyRow back (k + 9) 0 [some (.inr (.inr (10, i0))), some (.inr (.inr (10, i1)))] [] M O T c s =
    BK L xs (EX L xs (d + 1)) mi_X1_copyRow back (k) 11 [some (.inr (.inr (10, i0))), some (.inr (.inr (10, i1)))] [.inl (if (Int32.ofNat 6) < (Int32.ofNat 6) then (Int32.ofNat 6) else (Int32.ofNat 6)), .inl 0, .inr (.inr (10, i1)), .inl 0, .inr (.inr (10, i0))] M O T c s :=
  blk_of (fun q => Nat.beq q 0) (f := fun kk => kk (k) 11 [some (.inr (.inr (10, i0))), some (.inr (.inr (10, i1)))] [.inl (if (Int32.ofNat 6) < (Int32.ofNat 6) then (Int32.ofNat 6) else (Int32.ofNat 6)), .inl 0, .inr (.inr (10, i1)), .inl 0, .inr (.inr (10, i0))] M O T c s) (fun kk => rfl)
set_option maxRecDepth 100000 in
theorem e_X1_copyRow_11 (L : Nat) (xs : Nat → Int32) (E : CallT) (back : BackT) (k : Nat) (i0 : Nat) (i1 : Nat) (as0 : Int32) (as1 : Int32) (is2 : Nat) (as3 : Int32) (is4 : Nat) (M : Mem) (O : Int64) (T : Tmp) (c s : Nat) :
  BK L xs E mi_X1_copyRow back (k + 1) 11 [some (.inr (.inr (10, i0))), some (.inr (.inr (10, i1)))] [.inl as0, .inl as1, .inr (.inr (10, is2)), .inl as3, .inr (.inr (10, is4))] M O T c s =
    xret tkT mi_X1_copyRow 2 (E 902 [.inr (.inr (10, is4)), .inl as3, .inr (.inr (10, is2)), .inl as1, .inl as0] M O) (BK L xs E mi_X1_copyRow back (k)) 11 [some (.inr (.inr (10, i0))), some (.inr (.inr (10, i1)))] [] T c s :=
  blk_of (fun q => Nat.beq q 11) (f := fun kk => xret tkT mi_X1_copyRow 2 (E 902 [.inr (.inr (10, is4)), .inl as3, .inr (.inr (10, is2)), .inl as1, .inl as0] M O) (kk (k)) 11 [some (.inr (.inr (10, i0))), some (.inr (.inr (10, i1)))] [] T c s) (fun kk => rfl)
set_option maxRecDepth 100000 in
theorem e_X1_copyRow_14 (L : Nat) (xs : Nat → Int32) (E : CallT) (back : BackT) (k : Nat) (i0 : Nat) (i1 : Nat) (M : Mem) (O : Int64) (T : Tmp) (c s : Nat) :
  BK L xs E mi_X1_copyRow back (k + 1) 14 [some (.inr (.inr (10, i0))), some (.inr (.inr (10, i1)))] [] M O T c s =
    some (.inl none, M, O, c, s) :=
  blk_of (fun q => Nat.beq q 14) (f := fun kk => some (.inl none, M, O, c, s)) (fun kk => rfl)
set_option maxRecDepth 100000 in
theorem e2_X1_copyRow_0 (L : Nat) (xs : Nat → Int32) (d : Nat) (back : BackT) (k : Nat) (i0 : Nat) (i1 : Nat) (M : Mem) (O : Int64) (T : Tmp) (c s : Nat) :
  BK L xs (EX L xs (d + 1)) mi_X1_copyRow back (k + 9) 0 [some (.inr (.inr (11, i0))), some (.inr (.inr (11, i1)))] [] M O T c s =
    BK L xs (EX L xs (d + 1)) mi_X1_copyRow back (k) 11 [some (.inr (.inr (11, i0))), some (.inr (.inr (11, i1)))] [.inl (if (Int32.ofNat 6) < (Int32.ofNat 6) then (Int32.ofNat 6) else (Int32.ofNat 6)), .inl 0, .inr (.inr (11, i1)), .inl 0, .inr (.inr (11, i0))] M O T c s :=
  blk_of (fun q => Nat.beq q 0) (f := fun kk => kk (k) 11 [some (.inr (.inr (11, i0))), some (.inr (.inr (11, i1)))] [.inl (if (Int32.ofNat 6) < (Int32.ofNat 6) then (Int32.ofNat 6) else (Int32.ofNat 6)), .inl 0, .inr (.inr (11, i1)), .inl 0, .inr (.inr (11, i0))] M O T c s) (fun kk => rfl)
set_option maxRecDepth 100000 in
theorem e2_X1_copyRow_11 (L : Nat) (xs : Nat → Int32) (E : CallT) (back : BackT) (k : Nat) (i0 : Nat) (i1 : Nat) (as0 : Int32) (as1 : Int32) (is2 : Nat) (as3 : Int32) (is4 : Nat) (M : Mem) (O : Int64) (T : Tmp) (c s : Nat) :
  BK L xs E mi_X1_copyRow back (k + 1) 11 [some (.inr (.inr (11, i0))), some (.inr (.inr (11, i1)))] [.inl as0, .inl as1, .inr (.inr (11, is2)), .inl as3, .inr (.inr (11, is4))] M O T c s =
    xret tkT mi_X1_copyRow 2 (E 902 [.inr (.inr (11, is4)), .inl as3, .inr (.inr (11, is2)), .inl as1, .inl as0] M O) (BK L xs E mi_X1_copyRow back (k)) 11 [some (.inr (.inr (11, i0))), some (.inr (.inr (11, i1)))] [] T c s :=
  blk_of (fun q => Nat.beq q 11) (f := fun kk => xret tkT mi_X1_copyRow 2 (E 902 [.inr (.inr (11, is4)), .inl as3, .inr (.inr (11, is2)), .inl as1, .inl as0] M O) (kk (k)) 11 [some (.inr (.inr (11, i0))), some (.inr (.inr (11, i1)))] [] T c s) (fun kk => rfl)
set_option maxRecDepth 100000 in
theorem e2_X1_copyRow_14 (L : Nat) (xs : Nat → Int32) (E : CallT) (back : BackT) (k : Nat) (i0 : Nat) (i1 : Nat) (M : Mem) (O : Int64) (T : Tmp) (c s : Nat) :
  BK L xs E mi_X1_copyRow back (k + 1) 14 [some (.inr (.inr (11, i0))), some (.inr (.inr (11, i1)))] [] M O T c s =
    some (.inl none, M, O, c, s) :=
  blk_of (fun q => Nat.beq q 14) (f := fun kk => some (.inl none, M, O, c, s)) (fun kk => rfl)
set_option maxRecDepth 100000 in
theorem e3_X1_copyRow_0 (L : Nat) (xs : Nat → Int32) (d : Nat) (back : BackT) (k : Nat) (i0 : Nat) (i1 : Nat) (M : Mem) (O : Int64) (T : Tmp) (c s : Nat) :
  BK L xs (EX L xs (d + 1)) mi_X1_copyRow back (k + 9) 0 [some (.inr (.inr (12, i0))), some (.inr (.inr (12, i1)))] [] M O T c s =
    BK L xs (EX L xs (d + 1)) mi_X1_copyRow back (k) 11 [some (.inr (.inr (12, i0))), some (.inr (.inr (12, i1)))] [.inl (if (Int32.ofNat 6) < (Int32.ofNat 6) then (Int32.ofNat 6) else (Int32.ofNat 6)), .inl 0, .inr (.inr (12, i1)), .inl 0, .inr (.inr (12, i0))] M O T c s :=
  blk_of (fun q => Nat.beq q 0) (f := fun kk => kk (k) 11 [some (.inr (.inr (12, i0))), some (.inr (.inr (12, i1)))] [.inl (if (Int32.ofNat 6) < (Int32.ofNat 6) then (Int32.ofNat 6) else (Int32.ofNat 6)), .inl 0, .inr (.inr (12, i1)), .inl 0, .inr (.inr (12, i0))] M O T c s) (fun kk => rfl)
set_option maxRecDepth 100000 in
theorem e3_X1_copyRow_11 (L : Nat) (xs : Nat → Int32) (E : CallT) (back : BackT) (k : Nat) (i0 : Nat) (i1 : Nat) (as0 : Int32) (as1 : Int32) (is2 : Nat) (as3 : Int32) (is4 : Nat) (M : Mem) (O : Int64) (T : Tmp) (c s : Nat) :
  BK L xs E mi_X1_copyRow back (k + 1) 11 [some (.inr (.inr (12, i0))), some (.inr (.inr (12, i1)))] [.inl as0, .inl as1, .inr (.inr (12, is2)), .inl as3, .inr (.inr (12, is4))] M O T c s =
    xret tkT mi_X1_copyRow 2 (E 902 [.inr (.inr (12, is4)), .inl as3, .inr (.inr (12, is2)), .inl as1, .inl as0] M O) (BK L xs E mi_X1_copyRow back (k)) 11 [some (.inr (.inr (12, i0))), some (.inr (.inr (12, i1)))] [] T c s :=
  blk_of (fun q => Nat.beq q 11) (f := fun kk => xret tkT mi_X1_copyRow 2 (E 902 [.inr (.inr (12, is4)), .inl as3, .inr (.inr (12, is2)), .inl as1, .inl as0] M O) (kk (k)) 11 [some (.inr (.inr (12, i0))), some (.inr (.inr (12, i1)))] [] T c s) (fun kk => rfl)
set_option maxRecDepth 100000 in
theorem e3_X1_copyRow_14 (L : Nat) (xs : Nat → Int32) (E : CallT) (back : BackT) (k : Nat) (i0 : Nat) (i1 : Nat) (M : Mem) (O : Int64) (T : Tmp) (c s : Nat) :
  BK L xs E mi_X1_copyRow back (k + 1) 14 [some (.inr (.inr (12, i0))), some (.inr (.inr (12, i1)))] [] M O T c s =
    some (.inl none, M, O, c, s) :=
  blk_of (fun q => Nat.beq q 14) (f := fun kk => some (.inl none, M, O, c, s)) (fun kk => rfl)
set_option maxRecDepth 100000 in
theorem e4_X1_copyRow_0 (L : Nat) (xs : Nat → Int32) (d : Nat) (back : BackT) (k : Nat) (i0 : Nat) (i1 : Nat) (M : Mem) (O : Int64) (T : Tmp) (c s : Nat) :
  BK L xs (EX L xs (d + 1)) mi_X1_copyRow back (k + 9) 0 [some (.inr (.inr (13, i0))), some (.inr (.inr (13, i1)))] [] M O T c s =
    BK L xs (EX L xs (d + 1)) mi_X1_copyRow back (k) 11 [some (.inr (.inr (13, i0))), some (.inr (.inr (13, i1)))] [.inl (if (Int32.ofNat 6) < (Int32.ofNat 6) then (Int32.ofNat 6) else (Int32.ofNat 6)), .inl 0, .inr (.inr (13, i1)), .inl 0, .inr (.inr (13, i0))] M O T c s :=
  blk_of (fun q => Nat.beq q 0) (f := fun kk => kk (k) 11 [some (.inr (.inr (13, i0))), some (.inr (.inr (13, i1)))] [.inl (if (Int32.ofNat 6) < (Int32.ofNat 6) then (Int32.ofNat 6) else (Int32.ofNat 6)), .inl 0, .inr (.inr (13, i1)), .inl 0, .inr (.inr (13, i0))] M O T c s) (fun kk => rfl)
set_option maxRecDepth 100000 in
theorem e4_X1_copyRow_11 (L : Nat) (xs : Nat → Int32) (E : CallT) (back : BackT) (k : Nat) (i0 : Nat) (i1 : Nat) (as0 : Int32) (as1 : Int32) (is2 : Nat) (as3 : Int32) (is4 : Nat) (M : Mem) (O : Int64) (T : Tmp) (c s : Nat) :
  BK L xs E mi_X1_copyRow back (k + 1) 11 [some (.inr (.inr (13, i0))), some (.inr (.inr (13, i1)))] [.inl as0, .inl as1, .inr (.inr (13, is2)), .inl as3, .inr (.inr (13, is4))] M O T c s =
    xret tkT mi_X1_copyRow 2 (E 902 [.inr (.inr (13, is4)), .inl as3, .inr (.inr (13, is2)), .inl as1, .inl as0] M O) (BK L xs E mi_X1_copyRow back (k)) 11 [some (.inr (.inr (13, i0))), some (.inr (.inr (13, i1)))] [] T c s :=
  blk_of (fun q => Nat.beq q 11) (f := fun kk => xret tkT mi_X1_copyRow 2 (E 902 [.inr (.inr (13, is4)), .inl as3, .inr (.inr (13, is2)), .inl as1, .inl as0] M O) (kk (k)) 11 [some (.inr (.inr (13, i0))), some (.inr (.inr (13, i1)))] [] T c s) (fun kk => rfl)
set_option maxRecDepth 100000 in
theorem e4_X1_copyRow_14 (L : Nat) (xs : Nat → Int32) (E : CallT) (back : BackT) (k : Nat) (i0 : Nat) (i1 : Nat) (M : Mem) (O : Int64) (T : Tmp) (c s : Nat) :
  BK L xs E mi_X1_copyRow back (k + 1) 14 [some (.inr (.inr (13, i0))), some (.inr (.inr (13, i1)))] [] M O T c s =
    some (.inl none, M, O, c, s) :=
  blk_of (fun q => Nat.beq q 14) (f := fun kk => some (.inl none, M, O, c, s)) (fun kk => rfl)
set_option maxRecDepth 100000 in
theorem e5_X1_copyRow_0 (L : Nat) (xs : Nat → Int32) (d : Nat) (back : BackT) (k : Nat) (i0 : Nat) (i1 : Nat) (M : Mem) (O : Int64) (T : Tmp) (c s : Nat) :
  BK L xs (EX L xs (d + 1)) mi_X1_copyRow back (k + 9) 0 [some (.inr (.inr (14, i0))), some (.inr (.inr (14, i1)))] [] M O T c s =
    BK L xs (EX L xs (d + 1)) mi_X1_copyRow back (k) 11 [some (.inr (.inr (14, i0))), some (.inr (.inr (14, i1)))] [.inl (if (Int32.ofNat 8) < (Int32.ofNat 8) then (Int32.ofNat 8) else (Int32.ofNat 8)), .inl 0, .inr (.inr (14, i1)), .inl 0, .inr (.inr (14, i0))] M O T c s :=
  blk_of (fun q => Nat.beq q 0) (f := fun kk => kk (k) 11 [some (.inr (.inr (14, i0))), some (.inr (.inr (14, i1)))] [.inl (if (Int32.ofNat 8) < (Int32.ofNat 8) then (Int32.ofNat 8) else (Int32.ofNat 8)), .inl 0, .inr (.inr (14, i1)), .inl 0, .inr (.inr (14, i0))] M O T c s) (fun kk => rfl)
set_option maxRecDepth 100000 in
theorem e5_X1_copyRow_11 (L : Nat) (xs : Nat → Int32) (E : CallT) (back : BackT) (k : Nat) (i0 : Nat) (i1 : Nat) (as0 : Int32) (as1 : Int32) (is2 : Nat) (as3 : Int32) (is4 : Nat) (M : Mem) (O : Int64) (T : Tmp) (c s : Nat) :
  BK L xs E mi_X1_copyRow back (k + 1) 11 [some (.inr (.inr (14, i0))), some (.inr (.inr (14, i1)))] [.inl as0, .inl as1, .inr (.inr (14, is2)), .inl as3, .inr (.inr (14, is4))] M O T c s =
    xret tkT mi_X1_copyRow 2 (E 902 [.inr (.inr (14, is4)), .inl as3, .inr (.inr (14, is2)), .inl as1, .inl as0] M O) (BK L xs E mi_X1_copyRow back (k)) 11 [some (.inr (.inr (14, i0))), some (.inr (.inr (14, i1)))] [] T c s :=
  blk_of (fun q => Nat.beq q 11) (f := fun kk => xret tkT mi_X1_copyRow 2 (E 902 [.inr (.inr (14, is4)), .inl as3, .inr (.inr (14, is2)), .inl as1, .inl as0] M O) (kk (k)) 11 [some (.inr (.inr (14, i0))), some (.inr (.inr (14, i1)))] [] T c s) (fun kk => rfl)
set_option maxRecDepth 100000 in
theorem e5_X1_copyRow_14 (L : Nat) (xs : Nat → Int32) (E : CallT) (back : BackT) (k : Nat) (i0 : Nat) (i1 : Nat) (M : Mem) (O : Int64) (T : Tmp) (c s : Nat) :
  BK L xs E mi_X1_copyRow back (k + 1) 14 [some (.inr (.inr (14, i0))), some (.inr (.inr (14, i1)))] [] M O T c s =
    some (.inl none, M, O, c, s) :=
  blk_of (fun q => Nat.beq q 14) (f := fun kk => some (.inl none, M, O, c, s)) (fun kk => rfl)
set_option maxRecDepth 100000 in
theorem e6_X1_copyRow_0 (L : Nat) (xs : Nat → Int32) (d : Nat) (back : BackT) (k : Nat) (i0 : Nat) (i1 : Nat) (M : Mem) (O : Int64) (T : Tmp) (c s : Nat) :
  BK L xs (EX L xs (d + 1)) mi_X1_copyRow back (k + 9) 0 [some (.inr (.inr (15, i0))), some (.inr (.inr (15, i1)))] [] M O T c s =
    BK L xs (EX L xs (d + 1)) mi_X1_copyRow back (k) 11 [some (.inr (.inr (15, i0))), some (.inr (.inr (15, i1)))] [.inl (if (Int32.ofNat 8) < (Int32.ofNat 8) then (Int32.ofNat 8) else (Int32.ofNat 8)), .inl 0, .inr (.inr (15, i1)), .inl 0, .inr (.inr (15, i0))] M O T c s :=
  blk_of (fun q => Nat.beq q 0) (f := fun kk => kk (k) 11 [some (.inr (.inr (15, i0))), some (.inr (.inr (15, i1)))] [.inl (if (Int32.ofNat 8) < (Int32.ofNat 8) then (Int32.ofNat 8) else (Int32.ofNat 8)), .inl 0, .inr (.inr (15, i1)), .inl 0, .inr (.inr (15, i0))] M O T c s) (fun kk => rfl)
set_option maxRecDepth 100000 in
theorem e6_X1_copyRow_11 (L : Nat) (xs : Nat → Int32) (E : CallT) (back : BackT) (k : Nat) (i0 : Nat) (i1 : Nat) (as0 : Int32) (as1 : Int32) (is2 : Nat) (as3 : Int32) (is4 : Nat) (M : Mem) (O : Int64) (T : Tmp) (c s : Nat) :
  BK L xs E mi_X1_copyRow back (k + 1) 11 [some (.inr (.inr (15, i0))), some (.inr (.inr (15, i1)))] [.inl as0, .inl as1, .inr (.inr (15, is2)), .inl as3, .inr (.inr (15, is4))] M O T c s =
    xret tkT mi_X1_copyRow 2 (E 902 [.inr (.inr (15, is4)), .inl as3, .inr (.inr (15, is2)), .inl as1, .inl as0] M O) (BK L xs E mi_X1_copyRow back (k)) 11 [some (.inr (.inr (15, i0))), some (.inr (.inr (15, i1)))] [] T c s :=
  blk_of (fun q => Nat.beq q 11) (f := fun kk => xret tkT mi_X1_copyRow 2 (E 902 [.inr (.inr (15, is4)), .inl as3, .inr (.inr (15, is2)), .inl as1, .inl as0] M O) (kk (k)) 11 [some (.inr (.inr (15, i0))), some (.inr (.inr (15, i1)))] [] T c s) (fun kk => rfl)
set_option maxRecDepth 100000 in
theorem e6_X1_copyRow_14 (L : Nat) (xs : Nat → Int32) (E : CallT) (back : BackT) (k : Nat) (i0 : Nat) (i1 : Nat) (M : Mem) (O : Int64) (T : Tmp) (c s : Nat) :
  BK L xs E mi_X1_copyRow back (k + 1) 14 [some (.inr (.inr (15, i0))), some (.inr (.inr (15, i1)))] [] M O T c s =
    some (.inl none, M, O, c, s) :=
  blk_of (fun q => Nat.beq q 14) (f := fun kk => some (.inl none, M, O, c, s)) (fun kk => rfl)
set_option maxRecDepth 100000 in
theorem e7_X1_copyRow_0 (L : Nat) (xs : Nat → Int32) (d : Nat) (back : BackT) (k : Nat) (i0 : Nat) (i1 : Nat) (M : Mem) (O : Int64) (T : Tmp) (c s : Nat) :
  BK L xs (EX L xs (d + 1)) mi_X1_copyRow back (k + 9) 0 [some (.inr (.inr (16, i0))), some (.inr (.inr (16, i1)))] [] M O T c s =
    BK L xs (EX L xs (d + 1)) mi_X1_copyRow back (k) 11 [some (.inr (.inr (16, i0))), some (.inr (.inr (16, i1)))] [.inl (if (Int32.ofNat 8) < (Int32.ofNat 8) then (Int32.ofNat 8) else (Int32.ofNat 8)), .inl 0, .inr (.inr (16, i1)), .inl 0, .inr (.inr (16, i0))] M O T c s :=
  blk_of (fun q => Nat.beq q 0) (f := fun kk => kk (k) 11 [some (.inr (.inr (16, i0))), some (.inr (.inr (16, i1)))] [.inl (if (Int32.ofNat 8) < (Int32.ofNat 8) then (Int32.ofNat 8) else (Int32.ofNat 8)), .inl 0, .inr (.inr (16, i1)), .inl 0, .inr (.inr (16, i0))] M O T c s) (fun kk => rfl)
set_option maxRecDepth 100000 in
theorem e7_X1_copyRow_11 (L : Nat) (xs : Nat → Int32) (E : CallT) (back : BackT) (k : Nat) (i0 : Nat) (i1 : Nat) (as0 : Int32) (as1 : Int32) (is2 : Nat) (as3 : Int32) (is4 : Nat) (M : Mem) (O : Int64) (T : Tmp) (c s : Nat) :
  BK L xs E mi_X1_copyRow back (k + 1) 11 [some (.inr (.inr (16, i0))), some (.inr (.inr (16, i1)))] [.inl as0, .inl as1, .inr (.inr (16, is2)), .inl as3, .inr (.inr (16, is4))] M O T c s =
    xret tkT mi_X1_copyRow 2 (E 902 [.inr (.inr (16, is4)), .inl as3, .inr (.inr (16, is2)), .inl as1, .inl as0] M O) (BK L xs E mi_X1_copyRow back (k)) 11 [some (.inr (.inr (16, i0))), some (.inr (.inr (16, i1)))] [] T c s :=
  blk_of (fun q => Nat.beq q 11) (f := fun kk => xret tkT mi_X1_copyRow 2 (E 902 [.inr (.inr (16, is4)), .inl as3, .inr (.inr (16, is2)), .inl as1, .inl as0] M O) (kk (k)) 11 [some (.inr (.inr (16, i0))), some (.inr (.inr (16, i1)))] [] T c s) (fun kk => rfl)
set_option maxRecDepth 100000 in
theorem e7_X1_copyRow_14 (L : Nat) (xs : Nat → Int32) (E : CallT) (back : BackT) (k : Nat) (i0 : Nat) (i1 : Nat) (M : Mem) (O : Int64) (T : Tmp) (c s : Nat) :
  BK L xs E mi_X1_copyRow back (k + 1) 14 [some (.inr (.inr (16, i0))), some (.inr (.inr (16, i1)))] [] M O T c s =
    some (.inl none, M, O, c, s) :=
  blk_of (fun q => Nat.beq q 14) (f := fun kk => some (.inl none, M, O, c, s)) (fun kk => rfl)
set_option maxRecDepth 100000 in
theorem e8_X1_copyRow_0 (L : Nat) (xs : Nat → Int32) (d : Nat) (back : BackT) (k : Nat) (i0 : Nat) (i1 : Nat) (M : Mem) (O : Int64) (T : Tmp) (c s : Nat) :
  BK L xs (EX L xs (d + 1)) mi_X1_copyRow back (k + 9) 0 [some (.inr (.inr (17, i0))), some (.inr (.inr (17, i1)))] [] M O T c s =
    BK L xs (EX L xs (d + 1)) mi_X1_copyRow back (k) 11 [some (.inr (.inr (17, i0))), some (.inr (.inr (17, i1)))] [.inl (if (Int32.ofNat 8) < (Int32.ofNat 8) then (Int32.ofNat 8) else (Int32.ofNat 8)), .inl 0, .inr (.inr (17, i1)), .inl 0, .inr (.inr (17, i0))] M O T c s :=
  blk_of (fun q => Nat.beq q 0) (f := fun kk => kk (k) 11 [some (.inr (.inr (17, i0))), some (.inr (.inr (17, i1)))] [.inl (if (Int32.ofNat 8) < (Int32.ofNat 8) then (Int32.ofNat 8) else (Int32.ofNat 8)), .inl 0, .inr (.inr (17, i1)), .inl 0, .inr (.inr (17, i0))] M O T c s) (fun kk => rfl)
set_option maxRecDepth 100000 in
theorem e8_X1_copyRow_11 (L : Nat) (xs : Nat → Int32) (E : CallT) (back : BackT) (k : Nat) (i0 : Nat) (i1 : Nat) (as0 : Int32) (as1 : Int32) (is2 : Nat) (as3 : Int32) (is4 : Nat) (M : Mem) (O : Int64) (T : Tmp) (c s : Nat) :
  BK L xs E mi_X1_copyRow back (k + 1) 11 [some (.inr (.inr (17, i0))), some (.inr (.inr (17, i1)))] [.inl as0, .inl as1, .inr (.inr (17, is2)), .inl as3, .inr (.inr (17, is4))] M O T c s =
    xret tkT mi_X1_copyRow 2 (E 902 [.inr (.inr (17, is4)), .inl as3, .inr (.inr (17, is2)), .inl as1, .inl as0] M O) (BK L xs E mi_X1_copyRow back (k)) 11 [some (.inr (.inr (17, i0))), some (.inr (.inr (17, i1)))] [] T c s :=
  blk_of (fun q => Nat.beq q 11) (f := fun kk => xret tkT mi_X1_copyRow 2 (E 902 [.inr (.inr (17, is4)), .inl as3, .inr (.inr (17, is2)), .inl as1, .inl as0] M O) (kk (k)) 11 [some (.inr (.inr (17, i0))), some (.inr (.inr (17, i1)))] [] T c s) (fun kk => rfl)
set_option maxRecDepth 100000 in
theorem e8_X1_copyRow_14 (L : Nat) (xs : Nat → Int32) (E : CallT) (back : BackT) (k : Nat) (i0 : Nat) (i1 : Nat) (M : Mem) (O : Int64) (T : Tmp) (c s : Nat) :
  BK L xs E mi_X1_copyRow back (k + 1) 14 [some (.inr (.inr (17, i0))), some (.inr (.inr (17, i1)))] [] M O T c s =
    some (.inl none, M, O, c, s) :=
  blk_of (fun q => Nat.beq q 14) (f := fun kk => some (.inl none, M, O, c, s)) (fun kk => rfl)
set_option maxRecDepth 100000 in
theorem e9_X1_copyRow_0 (L : Nat) (xs : Nat → Int32) (d : Nat) (back : BackT) (k : Nat) (i0 : Nat) (i1 : Nat) (M : Mem) (O : Int64) (T : Tmp) (c s : Nat) :
  BK L xs (EX L xs (d + 1)) mi_X1_copyRow back (k + 9) 0 [some (.inr (.inr (4, i0))), some (.inr (.inr (4, i1)))] [] M O T c s =
    BK L xs (EX L xs (d + 1)) mi_X1_copyRow back (k) 11 [some (.inr (.inr (4, i0))), some (.inr (.inr (4, i1)))] [.inl (if (Int32.ofNat 40) < (Int32.ofNat 40) then (Int32.ofNat 40) else (Int32.ofNat 40)), .inl 0, .inr (.inr (4, i1)), .inl 0, .inr (.inr (4, i0))] M O T c s :=
  blk_of (fun q => Nat.beq q 0) (f := fun kk => kk (k) 11 [some (.inr (.inr (4, i0))), some (.inr (.inr (4, i1)))] [.inl (if (Int32.ofNat 40) < (Int32.ofNat 40) then (Int32.ofNat 40) else (Int32.ofNat 40)), .inl 0, .inr (.inr (4, i1)), .inl 0, .inr (.inr (4, i0))] M O T c s) (fun kk => rfl)
set_option maxRecDepth 100000 in
theorem e9_X1_copyRow_11 (L : Nat) (xs : Nat → Int32) (E : CallT) (back : BackT) (k : Nat) (i0 : Nat) (i1 : Nat) (as0 : Int32) (as1 : Int32) (is2 : Nat) (as3 : Int32) (is4 : Nat) (M : Mem) (O : Int64) (T : Tmp) (c s : Nat) :
  BK L xs E mi_X1_copyRow back (k + 1) 11 [some (.inr (.inr (4, i0))), some (.inr (.inr (4, i1)))] [.inl as0, .inl as1, .inr (.inr (4, is2)), .inl as3, .inr (.inr (4, is4))] M O T c s =
    xret tkT mi_X1_copyRow 2 (E 902 [.inr (.inr (4, is4)), .inl as3, .inr (.inr (4, is2)), .inl as1, .inl as0] M O) (BK L xs E mi_X1_copyRow back (k)) 11 [some (.inr (.inr (4, i0))), some (.inr (.inr (4, i1)))] [] T c s :=
  blk_of (fun q => Nat.beq q 11) (f := fun kk => xret tkT mi_X1_copyRow 2 (E 902 [.inr (.inr (4, is4)), .inl as3, .inr (.inr (4, is2)), .inl as1, .inl as0] M O) (kk (k)) 11 [some (.inr (.inr (4, i0))), some (.inr (.inr (4, i1)))] [] T c s) (fun kk => rfl)
set_option maxRecDepth 100000 in
theorem e9_X1_copyRow_14 (L : Nat) (xs : Nat → Int32) (E : CallT) (back : BackT) (k : Nat) (i0 : Nat) (i1 : Nat) (M : Mem) (O : Int64) (T : Tmp) (c s : Nat) :
  BK L xs E mi_X1_copyRow back (k + 1) 14 [some (.inr (.inr (4, i0))), some (.inr (.inr (4, i1)))] [] M O T c s =
    some (.inl none, M, O, c, s) :=
  blk_of (fun q => Nat.beq q 14) (f := fun kk => some (.inl none, M, O, c, s)) (fun kk => rfl)
set_option maxRecDepth 100000 in
theorem e10_X1_copyRow_0 (L : Nat) (xs : Nat → Int32) (d : Nat) (back : BackT) (k : Nat) (i0 : Nat) (i1 : Nat) (M : Mem) (O : Int64) (T : Tmp) (c s : Nat) :
  BK L xs (EX L xs (d + 1)) mi_X1_copyRow back (k + 9) 0 [some (.inr (.inr (5, i0))), some (.inr (.inr (5, i1)))] [] M O T c s =
    BK L xs (EX L xs (d + 1)) mi_X1_copyRow back (k) 11 [some (.inr (.inr (5, i0))), some (.inr (.inr (5, i1)))] [.inl (if (Int32.ofNat 40) < (Int32.ofNat 40) then (Int32.ofNat 40) else (Int32.ofNat 40)), .inl 0, .inr (.inr (5, i1)), .inl 0, .inr (.inr (5, i0))] M O T c s :=
  blk_of (fun q => Nat.beq q 0) (f := fun kk => kk (k) 11 [some (.inr (.inr (5, i0))), some (.inr (.inr (5, i1)))] [.inl (if (Int32.ofNat 40) < (Int32.ofNat 40) then (Int32.ofNat 40) else (Int32.ofNat 40)), .inl 0, .inr (.inr (5, i1)), .inl 0, .inr (.inr (5, i0))] M O T c s) (fun kk => rfl)
set_option maxRecDepth 100000 in
theorem e10_X1_copyRow_11 (L : Nat) (xs : Nat → Int32) (E : CallT) (back : BackT) (k : Nat) (i0 : Nat) (i1 : Nat) (as0 : Int32) (as1 : Int32) (is2 : Nat) (as3 : Int32) (is4 : Nat) (M : Mem) (O : Int64) (T : Tmp) (c s : Nat) :
  BK L xs E mi_X1_copyRow back (k + 1) 11 [some (.inr (.inr (5, i0))), some (.inr (.inr (5, i1)))] [.inl as0, .inl as1, .inr (.inr (5, is2)), .inl as3, .inr (.inr (5, is4))] M O T c s =
    xret tkT mi_X1_copyRow 2 (E 902 [.inr (.inr (5, is4)), .inl as3, .inr (.inr (5, is2)), .inl as1, .inl as0] M O) (BK L xs E mi_X1_copyRow back (k)) 11 [some (.inr (.inr (5, i0))), some (.inr (.inr (5, i1)))] [] T c s :=
  blk_of (fun q => Nat.beq q 11) (f := fun kk => xret tkT mi_X1_copyRow 2 (E 902 [.inr (.inr (5, is4)), .inl as3, .inr (.inr (5, is2)), .inl as1, .inl as0] M O) (kk (k)) 11 [some (.inr (.inr (5, i0))), some (.inr (.inr (5, i1)))] [] T c s) (fun kk => rfl)
set_option maxRecDepth 100000 in
theorem e10_X1_copyRow_14 (L : Nat) (xs : Nat → Int32) (E : CallT) (back : BackT) (k : Nat) (i0 : Nat) (i1 : Nat) (M : Mem) (O : Int64) (T : Tmp) (c s : Nat) :
  BK L xs E mi_X1_copyRow back (k + 1) 14 [some (.inr (.inr (5, i0))), some (.inr (.inr (5, i1)))] [] M O T c s =
    some (.inl none, M, O, c, s) :=
  blk_of (fun q => Nat.beq q 14) (f := fun kk => some (.inl none, M, O, c, s)) (fun kk => rfl)
set_option maxRecDepth 100000 in
theorem e11_X1_copyRow_0 (L : Nat) (xs : Nat → Int32) (d : Nat) (back : BackT) (k : Nat) (i0 : Nat) (i1 : Nat) (M : Mem) (O : Int64) (T : Tmp) (c s : Nat) :
  BK L xs (EX L xs (d + 1)) mi_X1_copyRow back (k + 9) 0 [some (.inr (.inr (6, i0))), some (.inr (.inr (6, i1)))] [] M O T c s =
    BK L xs (EX L xs (d + 1)) mi_X1_copyRow back (k) 11 [some (.inr (.inr (6, i0))), some (.inr (.inr (6, i1)))] [.inl (if (Int32.ofNat 40) < (Int32.ofNat 40) then (Int32.ofNat 40) else (Int32.ofNat 40)), .inl 0, .inr (.inr (6, i1)), .inl 0, .inr (.inr (6, i0))] M O T c s :=
  blk_of (fun q => Nat.beq q 0) (f := fun kk => kk (k) 11 [some (.inr (.inr (6, i0))), some (.inr (.inr (6, i1)))] [.inl (if (Int32.ofNat 40) < (Int32.ofNat 40) then (Int32.ofNat 40) else (Int32.ofNat 40)), .inl 0, .inr (.inr (6, i1)), .inl 0, .inr (.inr (6, i0))] M O T c s) (fun kk => rfl)
set_option maxRecDepth 100000 in
theorem e11_X1_copyRow_11 (L : Nat) (xs : Nat → Int32) (E : CallT) (back : BackT) (k : Nat) (i0 : Nat) (i1 : Nat) (as0 : Int32) (as1 : Int32) (is2 : Nat) (as3 : Int32) (is4 : Nat) (M : Mem) (O : Int64) (T : Tmp) (c s : Nat) :
  BK L xs E mi_X1_copyRow back (k + 1) 11 [some (.inr (.inr (6, i0))), some (.inr (.inr (6, i1)))] [.inl as0, .inl as1, .inr (.inr (6, is2)), .inl as3, .inr (.inr (6, is4))] M O T c s =
    xret tkT mi_X1_copyRow 2 (E 902 [.inr (.inr (6, is4)), .inl as3, .inr (.inr (6, is2)), .inl as1, .inl as0] M O) (BK L xs E mi_X1_copyRow back (k)) 11 [some (.inr (.inr (6, i0))), some (.inr (.inr (6, i1)))] [] T c s :=
  blk_of (fun q => Nat.beq q 11) (f := fun kk => xret tkT mi_X1_copyRow 2 (E 902 [.inr (.inr (6, is4)), .inl as3, .inr (.inr (6, is2)), .inl as1, .inl as0] M O) (kk (k)) 11 [some (.inr (.inr (6, i0))), some (.inr (.inr (6, i1)))] [] T c s) (fun kk => rfl)
set_option maxRecDepth 100000 in
theorem e11_X1_copyRow_14 (L : Nat) (xs : Nat → Int32) (E : CallT) (back : BackT) (k : Nat) (i0 : Nat) (i1 : Nat) (M : Mem) (O : Int64) (T : Tmp) (c s : Nat) :
  BK L xs E mi_X1_copyRow back (k + 1) 14 [some (.inr (.inr (6, i0))), some (.inr (.inr (6, i1)))] [] M O T c s =
    some (.inl none, M, O, c, s) :=
  blk_of (fun q => Nat.beq q 14) (f := fun kk => some (.inl none, M, O, c, s)) (fun kk => rfl)
set_option maxRecDepth 100000 in
theorem e12_X1_copyRow_0 (L : Nat) (xs : Nat → Int32) (d : Nat) (back : BackT) (k : Nat) (i0 : Nat) (i1 : Nat) (M : Mem) (O : Int64) (T : Tmp) (c s : Nat) :
  BK L xs (EX L xs (d + 1)) mi_X1_copyRow back (k + 9) 0 [some (.inr (.inr (7, i0))), some (.inr (.inr (7, i1)))] [] M O T c s =
    BK L xs (EX L xs (d + 1)) mi_X1_copyRow back (k) 11 [some (.inr (.inr (7, i0))), some (.inr (.inr (7, i1)))] [.inl (if (Int32.ofNat 8) < (Int32.ofNat 8) then (Int32.ofNat 8) else (Int32.ofNat 8)), .inl 0, .inr (.inr (7, i1)), .inl 0, .inr (.inr (7, i0))] M O T c s :=
  blk_of (fun q => Nat.beq q 0) (f := fun kk => kk (k) 11 [some (.inr (.inr (7, i0))), some (.inr (.inr (7, i1)))] [.inl (if (Int32.ofNat 8) < (Int32.ofNat 8) then (Int32.ofNat 8) else (Int32.ofNat 8)), .inl 0, .inr (.inr (7, i1)), .inl 0, .inr (.inr (7, i0))] M O T c s) (fun kk => rfl)
set_option maxRecDepth 100000 in
theorem e12_X1_copyRow_11 (L : Nat) (xs : Nat → Int32) (E : CallT) (back : BackT) (k : Nat) (i0 : Nat) (i1 : Nat) (as0 : Int32) (as1 : Int32) (is2 : Nat) (as3 : Int32) (is4 : Nat) (M : Mem) (O : Int64) (T : Tmp) (c s : Nat) :
  BK L xs E mi_X1_copyRow back (k + 1) 11 [some (.inr (.inr (7, i0))), some (.inr (.inr (7, i1)))] [.inl as0, .inl as1, .inr (.inr (7, is2)), .inl as3, .inr (.inr (7, is4))] M O T c s =
    xret tkT mi_X1_copyRow 2 (E 902 [.inr (.inr (7, is4)), .inl as3, .inr (.inr (7, is2)), .inl as1, .inl as0] M O) (BK L xs E mi_X1_copyRow back (k)) 11 [some (.inr (.inr (7, i0))), some (.inr (.inr (7, i1)))] [] T c s :=
  blk_of (fun q => Nat.beq q 11) (f := fun kk => xret tkT mi_X1_copyRow 2 (E 902 [.inr (.inr (7, is4)), .inl as3, .inr (.inr (7, is2)), .inl as1, .inl as0] M O) (kk (k)) 11 [some (.inr (.inr (7, i0))), some (.inr (.inr (7, i1)))] [] T c s) (fun kk => rfl)
set_option maxRecDepth 100000 in
theorem e12_X1_copyRow_14 (L : Nat) (xs : Nat → Int32) (E : CallT) (back : BackT) (k : Nat) (i0 : Nat) (i1 : Nat) (M : Mem) (O : Int64) (T : Tmp) (c s : Nat) :
  BK L xs E mi_X1_copyRow back (k + 1) 14 [some (.inr (.inr (7, i0))), some (.inr (.inr (7, i1)))] [] M O T c s =
    some (.inl none, M, O, c, s) :=
  blk_of (fun q => Nat.beq q 14) (f := fun kk => some (.inl none, M, O, c, s)) (fun kk => rfl)
set_option maxRecDepth 100000 in
theorem e13_X1_copyRow_0 (L : Nat) (xs : Nat → Int32) (d : Nat) (back : BackT) (k : Nat) (i0 : Nat) (i1 : Nat) (M : Mem) (O : Int64) (T : Tmp) (c s : Nat) :
  BK L xs (EX L xs (d + 1)) mi_X1_copyRow back (k + 9) 0 [some (.inr (.inr (8, i0))), some (.inr (.inr (8, i1)))] [] M O T c s =
    BK L xs (EX L xs (d + 1)) mi_X1_copyRow back (k) 11 [some (.inr (.inr (8, i0))), some (.inr (.inr (8, i1)))] [.inl (if (Int32.ofNat 8) < (Int32.ofNat 8) then (Int32.ofNat 8) else (Int32.ofNat 8)), .inl 0, .inr (.inr (8, i1)), .inl 0, .inr (.inr (8, i0))] M O T c s :=
  blk_of (fun q => Nat.beq q 0) (f := fun kk => kk (k) 11 [some (.inr (.inr (8, i0))), some (.inr (.inr (8, i1)))] [.inl (if (Int32.ofNat 8) < (Int32.ofNat 8) then (Int32.ofNat 8) else (Int32.ofNat 8)), .inl 0, .inr (.inr (8, i1)), .inl 0, .inr (.inr (8, i0))] M O T c s) (fun kk => rfl)
set_option maxRecDepth 100000 in
theorem e13_X1_copyRow_11 (L : Nat) (xs : Nat → Int32) (E : CallT) (back : BackT) (k : Nat) (i0 : Nat) (i1 : Nat) (as0 : Int32) (as1 : Int32) (is2 : Nat) (as3 : Int32) (is4 : Nat) (M : Mem) (O : Int64) (T : Tmp) (c s : Nat) :
  BK L xs E mi_X1_copyRow back (k + 1) 11 [some (.inr (.inr (8, i0))), some (.inr (.inr (8, i1)))] [.inl as0, .inl as1, .inr (.inr (8, is2)), .inl as3, .inr (.inr (8, is4))] M O T c s =
    xret tkT mi_X1_copyRow 2 (E 902 [.inr (.inr (8, is4)), .inl as3, .inr (.inr (8, is2)), .inl as1, .inl as0] M O) (BK L xs E mi_X1_copyRow back (k)) 11 [some (.inr (.inr (8, i0))), some (.inr (.inr (8, i1)))] [] T c s :=
  blk_of (fun q => Nat.beq q 11) (f := fun kk => xret tkT mi_X1_copyRow 2 (E 902 [.inr (.inr (8, is4)), .inl as3, .inr (.inr (8, is2)), .inl as1, .inl as0] M O) (kk (k)) 11 [some (.inr (.inr (8, i0))), some (.inr (.inr (8, i1)))] [] T c s) (fun kk => rfl)
set_option maxRecDepth 100000 in
theorem e13_X1_copyRow_14 (L : Nat) (xs : Nat → Int32) (E : CallT) (back : BackT) (k : Nat) (i0 : Nat) (i1 : Nat) (M : Mem) (O : Int64) (T : Tmp) (c s : Nat) :
  BK L xs E mi_X1_copyRow back (k + 1) 14 [some (.inr (.inr (8, i0))), some (.inr (.inr (8, i1)))] [] M O T c s =
    some (.inl none, M, O, c, s) :=
  blk_of (fun q => Nat.beq q 14) (f := fun kk => some (.inl none, M, O, c, s)) (fun kk => rfl)
set_option maxRecDepth 100000 in
theorem e14_X1_copyRow_0 (L : Nat) (xs : Nat → Int32) (d : Nat) (back : BackT) (k : Nat) (i0 : Nat) (i1 : Nat) (M : Mem) (O : Int64) (T : Tmp) (c s : Nat) :
  BK L xs (EX L xs (d + 1)) mi_X1_copyRow back (k + 9) 0 [some (.inr (.inr (9, i0))), some (.inr (.inr (9, i1)))] [] M O T c s =
    BK L xs (EX L xs (d + 1)) mi_X1_copyRow back (k) 11 [some (.inr (.inr (9, i0))), some (.inr (.inr (9, i1)))] [.inl (if (Int32.ofNat 24) < (Int32.ofNat 24) then (Int32.ofNat 24) else (Int32.ofNat 24)), .inl 0, .inr (.inr (9, i1)), .inl 0, .inr (.inr (9, i0))] M O T c s :=
  blk_of (fun q => Nat.beq q 0) (f := fun kk => kk (k) 11 [some (.inr (.inr (9, i0))), some (.inr (.inr (9, i1)))] [.inl (if (Int32.ofNat 24) < (Int32.ofNat 24) then (Int32.ofNat 24) else (Int32.ofNat 24)), .inl 0, .inr (.inr (9, i1)), .inl 0, .inr (.inr (9, i0))] M O T c s) (fun kk => rfl)
set_option maxRecDepth 100000 in
theorem e14_X1_copyRow_11 (L : Nat) (xs : Nat → Int32) (E : CallT) (back : BackT) (k : Nat) (i0 : Nat) (i1 : Nat) (as0 : Int32) (as1 : Int32) (is2 : Nat) (as3 : Int32) (is4 : Nat) (M : Mem) (O : Int64) (T : Tmp) (c s : Nat) :
  BK L xs E mi_X1_copyRow back (k + 1) 11 [some (.inr (.inr (9, i0))), some (.inr (.inr (9, i1)))] [.inl as0, .inl as1, .inr (.inr (9, is2)), .inl as3, .inr (.inr (9, is4))] M O T c s =
    xret tkT mi_X1_copyRow 2 (E 902 [.inr (.inr (9, is4)), .inl as3, .inr (.inr (9, is2)), .inl as1, .inl as0] M O) (BK L xs E mi_X1_copyRow back (k)) 11 [some (.inr (.inr (9, i0))), some (.inr (.inr (9, i1)))] [] T c s :=
  blk_of (fun q => Nat.beq q 11) (f := fun kk => xret tkT mi_X1_copyRow 2 (E 902 [.inr (.inr (9, is4)), .inl as3, .inr (.inr (9, is2)), .inl as1, .inl as0] M O) (kk (k)) 11 [some (.inr (.inr (9, i0))), some (.inr (.inr (9, i1)))] [] T c s) (fun kk => rfl)
set_option maxRecDepth 100000 in
theorem e14_X1_copyRow_14 (L : Nat) (xs : Nat → Int32) (E : CallT) (back : BackT) (k : Nat) (i0 : Nat) (i1 : Nat) (M : Mem) (O : Int64) (T : Tmp) (c s : Nat) :
  BK L xs E mi_X1_copyRow back (k + 1) 14 [some (.inr (.inr (9, i0))), some (.inr (.inr (9, i1)))] [] M O T c s =
    some (.inl none, M, O, c, s) :=
  blk_of (fun q => Nat.beq q 14) (f := fun kk => some (.inl none, M, O, c, s)) (fun kk => rfl)
set_option maxRecDepth 100000 in
theorem e_X1_copyFrom_0 (L : Nat) (xs : Nat → Int32) (E : CallT) (back : BackT) (k : Nat) (i0 : Nat) (i1 : Nat) (M : Mem) (O : Int64) (T : Tmp) (c s : Nat) :
  BK L xs E mi_X1_copyFrom back (k + 9) 0 [some (.inr (.inr (3, i0))), some (.inr (.inr (3, i1)))] [] M O T c s =
    xret tkT mi_X1_copyFrom 2 (E q_X1_copyRow [.inr (.inr (4, i1)), .inr (.inr (4, i0))] (mput M 3 i0 0 (M 3 i1 0)) O) (BK L xs E mi_X1_copyFrom back (k)) 16 [some (.inr (.inr (3, i0))), some (.inr (.inr (3, i1)))] [] T c s :=
  blk_of (fun q => Nat.beq q 0) (f := fun kk => xret tkT mi_X1_copyFrom 2 (E q_X1_copyRow [.inr (.inr (4, i1)), .inr (.inr (4, i0))] (mput M 3 i0 0 (M 3 i1 0)) O) (kk (k)) 16 [some (.inr (.inr (3, i0))), some (.inr (.inr (3, i1)))] [] T c s) (fun kk => rfl)
set_option maxRecDepth 100000 in
theorem e_X1_copyFrom_19 (L : Nat) (xs : Nat → Int32) (E : CallT) (back : BackT) (k : Nat) (i0 : Nat) (i1 : Nat) (M : Mem) (O : Int64) (T : Tmp) (c s : Nat) :
  BK L xs E mi_X1_copyFrom back (k + 5) 19 [some (.inr (.inr (3, i0))), some (.inr (.inr (3, i1)))] [] M O T c s =
    xret tkT mi_X1_copyFrom 2 (E q_X1_copyRow [.inr (.inr (5, i1)), .inr (.inr (5, i0))] M O) (BK L xs E mi_X1_copyFrom back (k)) 27 [some (.inr (.inr (3, i0))), some (.inr (.inr (3, i1)))] [] T c s :=
  blk_of (fun q => Nat.beq q 19) (f := fun kk => xret tkT mi_X1_copyFrom 2 (E q_X1_copyRow [.inr (.inr (5, i1)), .inr (.inr (5, i0))] M O) (kk (k)) 27 [some (.inr (.inr (3, i0))), some (.inr (.inr (3, i1)))] [] T c s) (fun kk => rfl)
set_option maxRecDepth 100000 in
theorem e_X1_copyFrom_30 (L : Nat) (xs : Nat → Int32) (E : CallT) (back : BackT) (k : Nat) (i0 : Nat) (i1 : Nat) (M : Mem) (O : Int64) (T : Tmp) (c s : Nat) :
  BK L xs E mi_X1_copyFrom back (k + 5) 30 [some (.inr (.inr (3, i0))), some (.inr (.inr (3, i1)))] [] M O T c s =
    xret tkT mi_X1_copyFrom 2 (E q_X1_copyRow [.inr (.inr (6, i1)), .inr (.inr (6, i0))] M O) (BK L xs E mi_X1_copyFrom back (k)) 38 [some (.inr (.inr (3, i0))), some (.inr (.inr (3, i1)))] [] T c s :=
  blk_of (fun q => Nat.beq q 30) (f := fun kk => xret tkT mi_X1_copyFrom 2 (E q_X1_copyRow [.inr (.inr (6, i1)), .inr (.inr (6, i0))] M O) (kk (k)) 38 [some (.inr (.inr (3, i0))), some (.inr (.inr (3, i1)))] [] T c s) (fun kk => rfl)
set_option maxRecDepth 100000 in
theorem e_X1_copyFrom_41 (L : Nat) (xs : Nat → Int32) (E : CallT) (back : BackT) (k : Nat) (i0 : Nat) (i1 : Nat) (M : Mem) (O : Int64) (T : Tmp) (c s : Nat) :
  BK L xs E mi_X1_copyFrom back (k + 9) 41 [some (.inr (.inr (3, i0))), some (.inr (.inr (3, i1)))] [] M O T c s =
    xret tkT mi_X1_copyFrom 2 (E q_X1_copyRow [.inr (.inr (7, i1)), .inr (.inr (7, i0))] (mput M 3 i0 4 (M 3 i1 4)) O) (BK L xs E mi_X1_copyFrom back (k)) 57 [some (.inr (.inr (3, i0))), some (.inr (.inr (3, i1)))] [] T c s :=
  blk_of (fun q => Nat.beq q 41) (f := fun kk => xret tkT mi_X1_copyFrom 2 (E q_X1_copyRow [.inr (.inr (7, i1)), .inr (.inr (7, i0))] (mput M 3 i0 4 (M 3 i1 4)) O) (kk (k)) 57 [some (.inr (.inr (3, i0))), some (.inr (.inr (3, i1)))] [] T c s) (fun kk => rfl)
set_option maxRecDepth 100000 in
theorem e_X1_copyFrom_60 (L : Nat) (xs : Nat → Int32) (E : CallT) (back : BackT) (k : Nat) (i0 : Nat) (i1 : Nat) (M : Mem) (O : Int64) (T : Tmp) (c s : Nat) :
  BK L xs E mi_X1_copyFrom back (k + 5) 60 [some (.inr (.inr (3, i0))), some (.inr (.inr (3, i1)))] [] M O T c s =
    xret tkT mi_X1_copyFrom 2 (E q_X1_copyRow [.inr (.inr (8, i1)), .inr (.inr (8, i0))] M O) (BK L xs E mi_X1_copyFrom back (k)) 68 [some (.inr (.inr (3, i0))), some (.inr (.inr (3, i1)))] [] T c s :=
  blk_of (fun q => Nat.beq q 60) (f := fun kk => xret tkT mi_X1_copyFrom 2 (E q_X1_copyRow [.inr (.inr (8, i1)), .inr (.inr (8, i0))] M O) (kk (k)) 68 [some (.inr (.inr (3, i0))), some (.inr (.inr (3, i1)))] [] T c s) (fun kk => rfl)
set_option maxRecDepth 100000 in
theorem e_X1_copyFrom_71 (L : Nat) (xs : Nat → Int32) (E : CallT) (back : BackT) (k : Nat) (i0 : Nat) (i1 : Nat) (M : Mem) (O : Int64) (T : Tmp) (c s : Nat) :
  BK L xs E mi_X1_copyFrom back (k + 5) 71 [some (.inr (.inr (3, i0))), some (.inr (.inr (3, i1)))] [] M O T c s =
    xret tkT mi_X1_copyFrom 2 (E q_X1_copyRow [.inr (.inr (9, i1)), .inr (.inr (9, i0))] M O) (BK L xs E mi_X1_copyFrom back (k)) 79 [some (.inr (.inr (3, i0))), some (.inr (.inr (3, i1)))] [] T c s :=
  blk_of (fun q => Nat.beq q 71) (f := fun kk => xret tkT mi_X1_copyFrom 2 (E q_X1_copyRow [.inr (.inr (9, i1)), .inr (.inr (9, i0))] M O) (kk (k)) 79 [some (.inr (.inr (3, i0))), some (.inr (.inr (3, i1)))] [] T c s) (fun kk => rfl)
set_option maxRecDepth 100000 in
theorem e_X1_copyFrom_82 (L : Nat) (xs : Nat → Int32) (E : CallT) (back : BackT) (k : Nat) (i0 : Nat) (i1 : Nat) (M : Mem) (O : Int64) (T : Tmp) (c s : Nat) :
  BK L xs E mi_X1_copyFrom back (k + 9) 82 [some (.inr (.inr (3, i0))), some (.inr (.inr (3, i1)))] [] M O T c s =
    xret tkT mi_X1_copyFrom 2 (E q_X1_copyRow [.inr (.inr (10, i1)), .inr (.inr (10, i0))] (mput M 3 i0 8 (M 3 i1 8)) O) (BK L xs E mi_X1_copyFrom back (k)) 98 [some (.inr (.inr (3, i0))), some (.inr (.inr (3, i1)))] [] T c s :=
  blk_of (fun q => Nat.beq q 82) (f := fun kk => xret tkT mi_X1_copyFrom 2 (E q_X1_copyRow [.inr (.inr (10, i1)), .inr (.inr (10, i0))] (mput M 3 i0 8 (M 3 i1 8)) O) (kk (k)) 98 [some (.inr (.inr (3, i0))), some (.inr (.inr (3, i1)))] [] T c s) (fun kk => rfl)
set_option maxRecDepth 100000 in
theorem e_X1_copyFrom_101 (L : Nat) (xs : Nat → Int32) (E : CallT) (back : BackT) (k : Nat) (i0 : Nat) (i1 : Nat) (M : Mem) (O : Int64) (T : Tmp) (c s : Nat) :
  BK L xs E mi_X1_copyFrom back (k + 5) 101 [some (.inr (.inr (3, i0))), some (.inr (.inr (3, i1)))] [] M O T c s =
    xret tkT mi_X1_copyFrom 2 (E q_X1_copyRow [.inr (.inr (11, i1)), .inr (.inr (11, i0))] M O) (BK L xs E mi_X1_copyFrom back (k)) 109 [some (.inr (.inr (3, i0))), some (.inr (.inr (3, i1)))] [] T c s :=
  blk_of (fun q => Nat.beq q 101) (f := fun kk => xret tkT mi_X1_copyFrom 2 (E q_X1_copyRow [.inr (.inr (11, i1)), .inr (.inr (11, i0))] M O) (kk (k)) 109 [some (.inr (.inr (3, i0))), some (.inr (.inr (3, i1)))] [] T c s) (fun kk => rfl)
set_option maxRecDepth 100000 in
theorem e_X1_copyFrom_112 (L : Nat) (xs : Nat → Int32) (E : CallT) (back : BackT) (k : Nat) (i0 : Nat) (i1 : Nat) (M : Mem) (O : Int64) (T : Tmp) (c s : Nat) :
  BK L xs E mi_X1_copyFrom back (k + 5) 112 [some (.inr (.inr (3, i0))), some (.inr (.inr (3, i1)))] [] M O T c s =
    xret tkT mi_X1_copyFrom 2 (E q_X1_copyRow [.inr (.inr (12, i1)), .inr (.inr (12, i0))] M O) (BK L xs E mi_X1_copyFrom back (k)) 120 [some (.inr (.inr (3, i0))), some (.inr (.inr (3, i1)))] [] T c s :=
  blk_of (fun q => Nat.beq q 112) (f := fun kk => xret tkT mi_X1_copyFrom 2 (E q_X1_copyRow [.inr (.inr (12, i1)), .inr (.inr (12, i0))] M O) (kk (k)) 120 [some (.inr (.inr (3, i0))), some (.inr (.inr (3, i1)))] [] T c s) (fun kk => rfl)
set_option maxRecDepth 100000 in
theorem e_X1_copyFrom_123 (L : Nat) (xs : Nat → Int32) (E : CallT) (back : BackT) (k : Nat) (i0 : Nat) (i1 : Nat) (M : Mem) (O : Int64) (T : Tmp) (c s : Nat) :
  BK L xs E mi_X1_copyFrom back (k + 5) 123 [some (.inr (.inr (3, i0))), some (.inr (.inr (3, i1)))] [] M O T c s =
    xret tkT mi_X1_copyFrom 2 (E q_X1_copyRow [.inr (.inr (13, i1)), .inr (.inr (13, i0))] M O) (BK L xs E mi_X1_copyFrom back (k)) 131 [some (.inr (.inr (3, i0))), some (.inr (.inr (3, i1)))] [] T c s :=
  blk_of (fun q => Nat.beq q 123) (f := fun kk => xret tkT mi_X1_copyFrom 2 (E q_X1_copyRow [.inr (.inr (13, i1)), .inr (.inr (13, i0))] M O) (kk (k)) 131 [some (.inr (.inr (3, i0))), some (.inr (.inr (3, i1)))] [] T c s) (fun kk => rfl)
set_option maxRecDepth 100000 in
theorem e_X1_copyFrom_134 (L : Nat) (xs : Nat → Int32) (E : CallT) (back : BackT) (k : Nat) (i0 : Nat) (i1 : Nat) (M : Mem) (O : Int64) (T : Tmp) (c s : Nat) :
  BK L xs E mi_X1_copyFrom back (k + 9) 134 [some (.inr (.inr (3, i0))), some (.inr (.inr (3, i1)))] [] M O T c s =
    xret tkT mi_X1_copyFrom 2 (E q_X1_copyRow [.inr (.inr (14, i1)), .inr (.inr (14, i0))] (mput M 3 i0 13 (M 3 i1 13)) O) (BK L xs E mi_X1_copyFrom back (k)) 150 [some (.inr (.inr (3, i0))), some (.inr (.inr (3, i1)))] [] T c s :=
  blk_of (fun q => Nat.beq q 134) (f := fun kk => xret tkT mi_X1_copyFrom 2 (E q_X1_copyRow [.inr (.inr (14, i1)), .inr (.inr (14, i0))] (mput M 3 i0 13 (M 3 i1 13)) O) (kk (k)) 150 [some (.inr (.inr (3, i0))), some (.inr (.inr (3, i1)))] [] T c s) (fun kk => rfl)
set_option maxRecDepth 100000 in
theorem e_X1_copyFrom_153 (L : Nat) (xs : Nat → Int32) (E : CallT) (back : BackT) (k : Nat) (i0 : Nat) (i1 : Nat) (M : Mem) (O : Int64) (T : Tmp) (c s : Nat) :
  BK L xs E mi_X1_copyFrom back (k + 5) 153 [some (.inr (.inr (3, i0))), some (.inr (.inr (3, i1)))] [] M O T c s =
    xret tkT mi_X1_copyFrom 2 (E q_X1_copyRow [.inr (.inr (15, i1)), .inr (.inr (15, i0))] M O) (BK L xs E mi_X1_copyFrom back (k)) 161 [some (.inr (.inr (3, i0))), some (.inr (.inr (3, i1)))] [] T c s :=
  blk_of (fun q => Nat.beq q 153) (f := fun kk => xret tkT mi_X1_copyFrom 2 (E q_X1_copyRow [.inr (.inr (15, i1)), .inr (.inr (15, i0))] M O) (kk (k)) 161 [some (.inr (.inr (3, i0))), some (.inr (.inr (3, i1)))] [] T c s) (fun kk => rfl)
set_option maxRecDepth 100000 in
theorem e_X1_copyFrom_164 (L : Nat) (xs : Nat → Int32) (E : CallT) (back : BackT) (k : Nat) (i0 : Nat) (i1 : Nat) (M : Mem) (O : Int64) (T : Tmp) (c s : Nat) :
  BK L xs E mi_X1_copyFrom back (k + 5) 164 [some (.inr (.inr (3, i0))), some (.inr (.inr (3, i1)))] [] M O T c s =
    xret tkT mi_X1_copyFrom 2 (E q_X1_copyRow [.inr (.inr (16, i1)), .inr (.inr (16, i0))] M O) (BK L xs E mi_X1_copyFrom back (k)) 172 [some (.inr (.inr (3, i0))), some (.inr (.inr (3, i1)))] [] T c s :=
  blk_of (fun q => Nat.beq q 164) (f := fun kk => xret tkT mi_X1_copyFrom 2 (E q_X1_copyRow [.inr (.inr (16, i1)), .inr (.inr (16, i0))] M O) (kk (k)) 172 [some (.inr (.inr (3, i0))), some (.inr (.inr (3, i1)))] [] T c s) (fun kk => rfl)
set_option maxRecDepth 100000 in
theorem e_X1_copyFrom_175 (L : Nat) (xs : Nat → Int32) (E : CallT) (back : BackT) (k : Nat) (i0 : Nat) (i1 : Nat) (M : Mem) (O : Int64) (T : Tmp) (c s : Nat) :
  BK L xs E mi_X1_copyFrom back (k + 5) 175 [some (.inr (.inr (3, i0))), some (.inr (.inr (3, i1)))] [] M O T c s =
    xret tkT mi_X1_copyFrom 2 (E q_X1_copyRow [.inr (.inr (17, i1)), .inr (.inr (17, i0))] M O) (BK L xs E mi_X1_copyFrom back (k)) 183 [some (.inr (.inr (3, i0))), some (.inr (.inr (3, i1)))] [] T c s :=
  blk_of (fun q => Nat.beq q 175) (f := fun kk => xret tkT mi_X1_copyFrom 2 (E q_X1_copyRow [.inr (.inr (17, i1)), .inr (.inr (17, i0))] M O) (kk (k)) 183 [some (.inr (.inr (3, i0))), some (.inr (.inr (3, i1)))] [] T c s) (fun kk => rfl)
set_option maxRecDepth 100000 in
theorem e_X1_copyFrom_186 (L : Nat) (xs : Nat → Int32) (E : CallT) (back : BackT) (k : Nat) (i0 : Nat) (i1 : Nat) (M : Mem) (O : Int64) (T : Tmp) (c s : Nat) :
  BK L xs E mi_X1_copyFrom back (k + 1) 186 [some (.inr (.inr (3, i0))), some (.inr (.inr (3, i1)))] [] M O T c s =
    some (.inl none, M, O, c, s) :=
  blk_of (fun q => Nat.beq q 186) (f := fun kk => some (.inl none, M, O, c, s)) (fun kk => rfl)
set_option maxRecDepth 100000 in
theorem e_X4_unhear_0 (L : Nat) (xs : Nat → Int32) (E : CallT) (back : BackT) (k : Nat)  (M : Mem) (O : Int64) (T : Tmp) (c s : Nat) :
  BK L xs E mi_X4_unhear back (k + 2) 0 [some (.inr (.inr (24, 0))), none] [] M O T c s =
    BK L xs E mi_X4_unhear back (k) 2 [some (.inr (.inr (24, 0))), some (.inl 0)] [] M O T c s :=
  blk_of (fun q => Nat.beq q 0 || Nat.beq q 2) (f := fun kk => kk (k) 2 [some (.inr (.inr (24, 0))), some (.inl 0)] [] M O T c s) (fun kk => rfl)
set_option maxRecDepth 100000 in
theorem e_X4_unhear_2 (L : Nat) (xs : Nat → Int32) (E : CallT) (back : BackT) (k : Nat) (a1 : Int32) (M : Mem) (O : Int64) (T : Tmp) (c s : Nat) :
  BK L xs E mi_X4_unhear back (k + 12) 2 [some (.inr (.inr (24, 0))), some (.inl a1)] [] M O T c s =
    if (Int32.ofNat 36) ≤ a1 then (some (.inl none, M, O, c, s)) else (if 0 ≤ (a1 : Int32).toInt ∧ (a1 : Int32).toInt < 36 then (back 2 [some (.inr (.inr (24, 0))), some (.inl (a1 + 1))] (mput M 28 0 (a1 : Int32).toNatClampNeg 0) O T c s) else none) :=
  blk_of (fun q => Nat.beq q 2) (f := fun kk => if (Int32.ofNat 36) ≤ a1 then (some (.inl none, M, O, c, s)) else (if 0 ≤ (a1 : Int32).toInt ∧ (a1 : Int32).toInt < 36 then (back 2 [some (.inr (.inr (24, 0))), some (.inl (a1 + 1))] (mput M 28 0 (a1 : Int32).toNatClampNeg 0) O T c s) else none)) (fun kk => rfl)
set_option maxRecDepth 100000 in
theorem e_X6_unhear_0 (L : Nat) (xs : Nat → Int32) (E : CallT) (back : BackT) (k : Nat)  (M : Mem) (O : Int64) (T : Tmp) (c s : Nat) :
  BK L xs E mi_X6_unhear back (k + 3) 0 [some (.inr (.inr (0, 0)))] [] M O T c s =
    xret tkT mi_X6_unhear 1 (E q_X4_unhear [.inr (.inr (24, 0))] M O) (BK L xs E mi_X6_unhear back (k)) 4 [some (.inr (.inr (0, 0)))] [] T c s :=
  blk_of (fun q => Nat.beq q 0) (f := fun kk => xret tkT mi_X6_unhear 1 (E q_X4_unhear [.inr (.inr (24, 0))] M O) (kk (k)) 4 [some (.inr (.inr (0, 0)))] [] T c s) (fun kk => rfl)
set_option maxRecDepth 100000 in
theorem e_X6_unhear_7 (L : Nat) (xs : Nat → Int32) (E : CallT) (back : BackT) (k : Nat)  (M : Mem) (O : Int64) (T : Tmp) (c s : Nat) :
  BK L xs E mi_X6_unhear back (k + 4) 7 [some (.inr (.inr (0, 0)))] [] M O T c s =
    some (.inl none, (mput M 0 0 12 (-1)), O, c, s) :=
  blk_of (fun q => Nat.beq q 7) (f := fun kk => some (.inl none, (mput M 0 0 12 (-1)), O, c, s)) (fun kk => rfl)
set_option maxRecDepth 100000 in
theorem e_X6_rebuild_0 (L : Nat) (xs : Nat → Int32) (E : CallT) (back : BackT) (k : Nat)  (M : Mem) (O : Int64) (T : Tmp) (c s : Nat) :
  BK L xs E mi_X6_rebuild back (k + 5) 0 [some (.inr (.inr (0, 0))), none] [] M O T c s =
    if (M 0 0 1).toNatClampNeg < 4 then (xret tkT mi_X6_rebuild 1 (E q_X1_copyFrom [.inr (.inr (3, 2)), .inr (.inr (3, (M 0 0 1).toNatClampNeg))] M O) (BK L xs E mi_X6_rebuild back (k)) 8 [some (.inr (.inr (0, 0))), none] [] T c s) else none :=
  blk_of (fun q => Nat.beq q 0 || Nat.beq q 13) (f := fun kk => if (M 0 0 1).toNatClampNeg < 4 then (xret tkT mi_X6_rebuild 1 (E q_X1_copyFrom [.inr (.inr (3, 2)), .inr (.inr (3, (M 0 0 1).toNatClampNeg))] M O) (kk (k)) 8 [some (.inr (.inr (0, 0))), none] [] T c s) else none) (fun kk => rfl)
set_option maxRecDepth 100000 in
theorem e_X6_rebuild_11 (L : Nat) (xs : Nat → Int32) (E : CallT) (back : BackT) (k : Nat) (u1 : Option AV) (M : Mem) (O : Int64) (T : Tmp) (c s : Nat) :
  BK L xs E mi_X6_rebuild back (k + 2) 11 [some (.inr (.inr (0, 0))), u1] [] M O T c s =
    BK L xs E mi_X6_rebuild back (k) 13 [some (.inr (.inr (0, 0))), some (.inl 0)] [] M O T c s :=
  blk_of (fun q => Nat.beq q 11 || Nat.beq q 13) (f := fun kk => kk (k) 13 [some (.inr (.inr (0, 0))), some (.inl 0)] [] M O T c s) (fun kk => rfl)
set_option maxRecDepth 100000 in
theorem e_X6_rebuild_13 (L : Nat) (xs : Nat → Int32) (E : CallT) (back : BackT) (k : Nat) (a1 : Int32) (M : Mem) (O : Int64) (T : Tmp) (c s : Nat) :
  BK L xs E mi_X6_rebuild back (k + 13) 13 [some (.inr (.inr (0, 0))), some (.inl a1)] [] M O T c s =
    if (M 20 0 1) ≤ a1 then (xret tkT mi_X6_rebuild 0 (E q_X6_unhear [.inr (.inr (0, 0))] M O) (BK L xs E mi_X6_rebuild back (k + 6)) 47 [some (.inr (.inr (0, 0))), some (.inl a1)] [] T c s) else (if 0 ≤ (a1 : Int32).toInt ∧ (a1 : Int32).toInt < 8 then (xret tkT mi_X6_rebuild 1 (E q_X1_perform [.inr (.inr (3, 2)), .inl (M 21 0 (a1 : Int32).toNatClampNeg)] M O) (BK L xs E mi_X6_rebuild back (k)) 37 [some (.inr (.inr (0, 0))), some (.inl a1)] [] T c s) else none) :=
  blk_of (fun q => Nat.beq q 13) (f := fun kk => if (M 20 0 1) ≤ a1 then (xret tkT mi_X6_rebuild 0 (E q_X6_unhear [.inr (.inr (0, 0))] M O) (kk (k + 6)) 47 [some (.inr (.inr (0, 0))), some (.inl a1)] [] T c s) else (if 0 ≤ (a1 : Int32).toInt ∧ (a1 : Int32).toInt < 8 then (xret tkT mi_X6_rebuild 1 (E q_X1_perform [.inr (.inr (3, 2)), .inl (M 21 0 (a1 : Int32).toNatClampNeg)] M O) (kk (k)) 37 [some (.inr (.inr (0, 0))), some (.inl a1)] [] T c s) else none)) (fun kk => rfl)
set_option maxRecDepth 100000 in
theorem e_X6_rebuild_50 (L : Nat) (xs : Nat → Int32) (E : CallT) (back : BackT) (k : Nat) (a1 : Int32) (M : Mem) (O : Int64) (T : Tmp) (c s : Nat) :
  BK L xs E mi_X6_rebuild back (k + 1) 50 [some (.inr (.inr (0, 0))), some (.inl a1)] [] M O T c s =
    some (.inl none, M, O, c, s) :=
  blk_of (fun q => Nat.beq q 13 || Nat.beq q 50) (f := fun kk => some (.inl none, M, O, c, s)) (fun kk => rfl)
set_option maxRecDepth 100000 in
theorem e_X6_rebuild_40 (L : Nat) (xs : Nat → Int32) (E : CallT) (back : BackT) (k : Nat) (a1 : Int32) (M : Mem) (O : Int64) (T : Tmp) (c s : Nat) :
  BK L xs E mi_X6_rebuild back (k + 2) 40 [some (.inr (.inr (0, 0))), some (.inl a1)] [] M O T c s =
    back 13 [some (.inr (.inr (0, 0))), some (.inl (a1 + 1))] M O T c s :=
  blk_of (fun q => Nat.beq q 13 || Nat.beq q 40) (f := fun kk => back 13 [some (.inr (.inr (0, 0))), some (.inl (a1 + 1))] M O T c s) (fun kk => rfl)
set_option maxRecDepth 100000 in
theorem e_X6_land_0 (L : Nat) (xs : Nat → Int32) (E : CallT) (back : BackT) (k : Nat) (a1 : Int32) (M : Mem) (O : Int64) (T : Tmp) (c s : Nat) :
  BK L xs E mi_X6_land back (k + 10) 0 [some (.inr (.inr (0, 0))), some (.inl a1), none] [] M O T c s =
    if a1 < 0 then (BK L xs E mi_X6_land back (k + 7) 20 [some (.inr (.inr (0, 0))), some (.inl a1), none] [.inr (.inr (0, 0))] M O T c s) else (if (M 1 0 1) < a1 then (BK L xs E mi_X6_land back (k + 2) 20 [some (.inr (.inr (0, 0))), some (.inl a1), none] [.inr (.inr (0, 0))] M O T c s) else (BK L xs E mi_X6_land back (k) 21 [some (.inr (.inr (0, 0))), some (.inl a1), none] [.inl 1, .inr (.inr (0, 0))] M O T c s)) :=
  blk_of (fun q => Nat.beq q 0 || Nat.beq q 20 || Nat.beq q 21) (f := fun kk => if a1 < 0 then (kk (k + 7) 20 [some (.inr (.inr (0, 0))), some (.inl a1), none] [.inr (.inr (0, 0))] M O T c s) else (if (M 1 0 1) < a1 then (kk (k + 2) 20 [some (.inr (.inr (0, 0))), some (.inl a1), none] [.inr (.inr (0, 0))] M O T c s) else (kk (k) 21 [some (.inr (.inr (0, 0))), some (.inl a1), none] [.inl 1, .inr (.inr (0, 0))] M O T c s))) (fun kk => rfl)
set_option maxRecDepth 100000 in
theorem e_X6_land_20 (L : Nat) (xs : Nat → Int32) (E : CallT) (back : BackT) (k : Nat) (a1 : Int32) (u2 : Option AV) (M : Mem) (O : Int64) (T : Tmp) (c s : Nat) :
  BK L xs E mi_X6_land back (k + 1) 20 [some (.inr (.inr (0, 0))), some (.inl a1), u2] [.inr (.inr (0, 0))] M O T c s =
    BK L xs E mi_X6_land back (k) 21 [some (.inr (.inr (0, 0))), some (.inl a1), u2] [.inl 0, .inr (.inr (0, 0))] M O T c s :=
  blk_of (fun q => Nat.beq q 20 || Nat.beq q 21) (f := fun kk => kk (k) 21 [some (.inr (.inr (0, 0))), some (.inl a1), u2] [.inl 0, .inr (.inr (0, 0))] M O T c s) (fun kk => rfl)
set_option maxRecDepth 100000 in
theorem e_X6_land_21 (L : Nat) (xs : Nat → Int32) (E : CallT) (back : BackT) (k : Nat) (a1 : Int32) (u2 : Option AV) (as0 : Int32) (M : Mem) (O : Int64) (T : Tmp) (c s : Nat) :
  BK L xs E mi_X6_land back (k + 1) 21 [some (.inr (.inr (0, 0))), some (.inl a1), u2] [.inl as0, .inr (.inr (0, 0))] M O T c s =
    xret tkT mi_X6_land 0 (E q_X6_needArgument [.inr (.inr (0, 0)), .inl as0] M O) (BK L xs E mi_X6_land back (k)) 21 [some (.inr (.inr (0, 0))), some (.inl a1), u2] [] T c s :=
  blk_of (fun q => Nat.beq q 20 || Nat.beq q 21) (f := fun kk => xret tkT mi_X6_land 0 (E q_X6_needArgument [.inr (.inr (0, 0)), .inl as0] M O) (kk (k)) 21 [some (.inr (.inr (0, 0))), some (.inl a1), u2] [] T c s) (fun kk => rfl)
set_option maxRecDepth 100000 in
theorem e_X6_land_24 (L : Nat) (xs : Nat → Int32) (E : CallT) (back : BackT) (k : Nat) (a1 : Int32) (u2 : Option AV) (M : Mem) (O : Int64) (T : Tmp) (c s : Nat) :
  BK L xs E mi_X6_land back (k + 4) 24 [some (.inr (.inr (0, 0))), some (.inl a1), u2] [] M O T c s =
    xret tkT mi_X6_land 1 (E q_X5_open [.inr (.inr (1, 0)), .inl a1] M O) (BK L xs E mi_X6_land back (k)) 29 [some (.inr (.inr (0, 0))), some (.inl a1), u2] [] T c s :=
  blk_of (fun q => Nat.beq q 20 || Nat.beq q 21 || Nat.beq q 24) (f := fun kk => xret tkT mi_X6_land 1 (E q_X5_open [.inr (.inr (1, 0)), .inl a1] M O) (kk (k)) 29 [some (.inr (.inr (0, 0))), some (.inl a1), u2] [] T c s) (fun kk => rfl)
set_option maxRecDepth 100000 in
theorem e_X6_land_32 (L : Nat) (xs : Nat → Int32) (E : CallT) (back : BackT) (k : Nat) (a1 : Int32) (u2 : Option AV) (M : Mem) (O : Int64) (T : Tmp) (c s : Nat) :
  BK L xs E mi_X6_land back (k + 5) 32 [some (.inr (.inr (0, 0))), some (.inl a1), u2] [] M O T c s =
    if (M 0 0 2).toNatClampNeg < 4 then (xret tkT mi_X6_land 1 (E q_X1_read [.inr (.inr (3, (M 0 0 2).toNatClampNeg)), .inr (.inr (1, 0))] M O) (BK L xs E mi_X6_land back (k)) 40 [some (.inr (.inr (0, 0))), some (.inl a1), u2] [] T c s) else none :=
  blk_of (fun q => Nat.beq q 20 || Nat.beq q 21 || Nat.beq q 32) (f := fun kk => if (M 0 0 2).toNatClampNeg < 4 then (xret tkT mi_X6_land 1 (E q_X1_read [.inr (.inr (3, (M 0 0 2).toNatClampNeg)), .inr (.inr (1, 0))] M O) (kk (k)) 40 [some (.inr (.inr (0, 0))), some (.inl a1), u2] [] T c s) else none) (fun kk => rfl)
set_option maxRecDepth 100000 in
theorem e_X6_land_43 (L : Nat) (xs : Nat → Int32) (E : CallT) (back : BackT) (k : Nat) (a1 : Int32) (u2 : Option AV) (M : Mem) (O : Int64) (T : Tmp) (c s : Nat) :
  BK L xs E mi_X6_land back (k + 17) 43 [some (.inr (.inr (0, 0))), some (.inl a1), u2] [] M O T c s =
    if (M 1 0 4) = 0 then (if (M 0 0 1).toNatClampNeg < 4 then (if (M 0 0 2).toNatClampNeg < 4 then (xret tkT mi_X6_land 1 (E q_X2_clear [.inr (.inr (20, 0))] (mput (mput M 0 0 1 (Int32.ofNat (M 0 0 2).toNatClampNeg)) 0 0 2 (Int32.ofNat (M 0 0 1).toNatClampNeg)) O) (BK L xs E mi_X6_land back (k)) 86 [some (.inr (.inr (0, 0))), some (.inl a1), some (.inr (.inr (3, (M 0 0 1).toNatClampNeg)))] [] T c s) else none) else none) else (some (.inl (some (.inl ((M 1 0 4) - 10))), M, O, c, s)) :=
  blk_of (fun q => Nat.beq q 20 || Nat.beq q 21 || Nat.beq q 43) (f := fun kk => if (M 1 0 4) = 0 then (if (M 0 0 1).toNatClampNeg < 4 then (if (M 0 0 2).toNatClampNeg < 4 then (xret tkT mi_X6_land 1 (E q_X2_clear [.inr (.inr (20, 0))] (mput (mput M 0 0 1 (Int32.ofNat (M 0 0 2).toNatClampNeg)) 0 0 2 (Int32.ofNat (M 0 0 1).toNatClampNeg)) O) (kk (k)) 86 [some (.inr (.inr (0, 0))), some (.inl a1), some (.inr (.inr (3, (M 0 0 1).toNatClampNeg)))] [] T c s) else none) else none) else (some (.inl (some (.inl ((M 1 0 4) - 10))), M, O, c, s))) (fun kk => rfl)
set_option maxRecDepth 100000 in
theorem e_X6_land_89 (L : Nat) (xs : Nat → Int32) (E : CallT) (back : BackT) (k : Nat) (a1 : Int32) (i2 : Nat) (M : Mem) (O : Int64) (T : Tmp) (c s : Nat) :
  BK L xs E mi_X6_land back (k + 5) 89 [some (.inr (.inr (0, 0))), some (.inl a1), some (.inr (.inr (3, i2)))] [] M O T c s =
    xret tkT mi_X6_land 0 (E q_X6_rebuild [.inr (.inr (0, 0))] (mput M 0 0 9 0) O) (BK L xs E mi_X6_land back (k)) 95 [some (.inr (.inr (0, 0))), some (.inl a1), some (.inr (.inr (3, i2)))] [] T c s :=
  blk_of (fun q => Nat.beq q 20 || Nat.beq q 21 || Nat.beq q 89) (f := fun kk => xret tkT mi_X6_land 0 (E q_X6_rebuild [.inr (.inr (0, 0))] (mput M 0 0 9 0) O) (kk (k)) 95 [some (.inr (.inr (0, 0))), some (.inl a1), some (.inr (.inr (3, i2)))] [] T c s) (fun kk => rfl)
set_option maxRecDepth 100000 in
theorem e_X6_land_98 (L : Nat) (xs : Nat → Int32) (E : CallT) (back : BackT) (k : Nat) (a1 : Int32) (i2 : Nat) (M : Mem) (O : Int64) (T : Tmp) (c s : Nat) :
  BK L xs E mi_X6_land back (k + 4) 98 [some (.inr (.inr (0, 0))), some (.inl a1), some (.inr (.inr (3, i2)))] [] M O T c s =
    some (.inl (some (.inl (M 3 2 4))), M, O, c, s) :=
  blk_of (fun q => Nat.beq q 20 || Nat.beq q 21 || Nat.beq q 98) (f := fun kk => some (.inl (some (.inl (M 3 2 4))), M, O, c, s)) (fun kk => rfl)
set_option maxRecDepth 100000 in
theorem e_L_land_0 (L : Nat) (xs : Nat → Int32) (E : CallT) (back : BackT) (k : Nat) (a1 : Int32) (M : Mem) (O : Int64) (T : Tmp) (c s : Nat) :
  BK L xs E mi_L_land back (k + 5) 0 [some (.inr (.inr (0, 0))), some (.inl a1), some (.inr (.inr (83, 0))), none] [] M O T c s =
    xret tkT mi_L_land 0 (E q_X6_land [.inr (.inr (0, 0)), .inl a1] M O) (BK L xs E mi_L_land back (k)) 4 [some (.inr (.inr (0, 0))), some (.inl a1), some (.inr (.inr (83, 0))), none] [.inl 0, .inr (.inr (83, 0))] T c s :=
  blk_of (fun q => Nat.beq q 0) (f := fun kk => xret tkT mi_L_land 0 (E q_X6_land [.inr (.inr (0, 0)), .inl a1] M O) (kk (k)) 4 [some (.inr (.inr (0, 0))), some (.inl a1), some (.inr (.inr (83, 0))), none] [.inl 0, .inr (.inr (83, 0))] T c s) (fun kk => rfl)
set_option maxRecDepth 100000 in
theorem e_L_land_7 (L : Nat) (xs : Nat → Int32) (E : CallT) (back : BackT) (k : Nat) (a1 : Int32) (u3 : Option AV) (as0 : Int32) (as1 : Int32) (M : Mem) (O : Int64) (T : Tmp) (c s : Nat) :
  BK L xs E mi_L_land back (k + 5) 7 [some (.inr (.inr (0, 0))), some (.inl a1), some (.inr (.inr (83, 0))), u3] [.inl as0, .inl as1, .inr (.inr (83, 0))] M O T c s =
    if (as1 : Int32) = 0 then (some (.inl (some (.inl 0)), M, (as0).toInt64, c, s)) else none :=
  blk_of (fun q => Nat.beq q 7) (f := fun kk => if (as1 : Int32) = 0 then (some (.inl (some (.inl 0)), M, (as0).toInt64, c, s)) else none) (fun kk => rfl)
set_option maxRecDepth 100000 in
theorem e_X0_readLayer_0 (L : Nat) (xs : Nat → Int32) (E : CallT) (back : BackT) (k : Nat) (i0 : Nat) (M : Mem) (O : Int64) (T : Tmp) (c s : Nat) :
  BK L xs E mi_X0_readLayer back (k + 4) 0 [some (.inr (.inr (18, i0))), some (.inr (.inr (1, 0))), none] [] M O T c s =
    xret tkT mi_X0_readLayer 1 (E q_X5_number [.inr (.inr (1, 0)), .inl 0, .inl 11] M O) (BK L xs E mi_X0_readLayer back (k)) 4 [some (.inr (.inr (18, i0))), some (.inr (.inr (1, 0))), none] [] T c s :=
  blk_of (fun q => Nat.beq q 0) (f := fun kk => xret tkT mi_X0_readLayer 1 (E q_X5_number [.inr (.inr (1, 0)), .inl 0, .inl 11] M O) (kk (k)) 4 [some (.inr (.inr (18, i0))), some (.inr (.inr (1, 0))), none] [] T c s) (fun kk => rfl)
set_option maxRecDepth 100000 in
theorem e_X0_readLayer_7 (L : Nat) (xs : Nat → Int32) (E : CallT) (back : BackT) (k : Nat) (i0 : Nat) (u2 : Option AV) (as0 : Int32) (M : Mem) (O : Int64) (T : Tmp) (c s : Nat) :
  BK L xs E mi_X0_readLayer back (k + 8) 7 [some (.inr (.inr (18, i0))), some (.inr (.inr (1, 0))), u2] [.inl as0] M O T c s =
    xret tkT mi_X0_readLayer 1 (E q_X5_number [.inr (.inr (1, 0)), .inl 0, .inl 4] M O) (BK L xs E mi_X0_readLayer back (k)) 16 [some (.inr (.inr (18, i0))), some (.inr (.inr (1, 0))), some (.inl as0)] [.inl as0, .inr (.inr (19, i0))] T c s :=
  blk_of (fun q => Nat.beq q 7) (f := fun kk => xret tkT mi_X0_readLayer 1 (E q_X5_number [.inr (.inr (1, 0)), .inl 0, .inl 4] M O) (kk (k)) 16 [some (.inr (.inr (18, i0))), some (.inr (.inr (1, 0))), some (.inl as0)] [.inl as0, .inr (.inr (19, i0))] T c s) (fun kk => rfl)
set_option maxRecDepth 100000 in
theorem e_X0_readLayer_19 (L : Nat) (xs : Nat → Int32) (E : CallT) (back : BackT) (k : Nat) (i0 : Nat) (a2 : Int32) (as0 : Int32) (as1 : Int32) (is2 : Nat) (M : Mem) (O : Int64) (T : Tmp) (c s : Nat) :
  BK L xs E mi_X0_readLayer back (k + 4) 19 [some (.inr (.inr (18, i0))), some (.inr (.inr (1, 0))), some (.inl a2)] [.inl as0, .inl as1, .inr (.inr (19, is2))] M O T c s =
    if 0 ≤ (as1 : Int32).toInt ∧ (as1 : Int32).toInt < 12 then (some (.inl none, (mput M 19 is2 (as1 : Int32).toNatClampNeg (as0 - 2)), O, c, s)) else none :=
  blk_of (fun q => Nat.beq q 19) (f := fun kk => if 0 ≤ (as1 : Int32).toInt ∧ (as1 : Int32).toInt < 12 then (some (.inl none, (mput M 19 is2 (as1 : Int32).toNatClampNeg (as0 - 2)), O, c, s)) else none) (fun kk => rfl)
set_option maxRecDepth 100000 in
theorem e2_X5_isPart_0 (L : Nat) (xs : Nat → Int32) (E : CallT) (back : BackT) (k : Nat) (a2 : Int32) (a3 : Int32) (a4 : Int32) (M : Mem) (O : Int64) (T : Tmp) (c s : Nat) :
  BK L xs E mi_X5_isPart back (k + 10) 0 [some (.inr (.inr (1, 0))), some (.inr (.inr (94, 0))), some (.inl a2), some (.inl a3), some (.inl a4), none] [] M O T c s =
    if (a3 - a2) = ((M 1 0 3) - a4) then (BK L xs E mi_X5_isPart back (k) 18 [some (.inr (.inr (1, 0))), some (.inr (.inr (94, 0))), some (.inl a2), some (.inl a3), some (.inl a4), some (.inl a2)] [] M O T c s) else (some (.inl (some (.inl 0)), M, O, c, s)) :=
  blk_of (fun q => Nat.beq q 0 || Nat.beq q 18) (f := fun kk => if (a3 - a2) = ((M 1 0 3) - a4) then (kk (k) 18 [some (.inr (.inr (1, 0))), some (.inr (.inr (94, 0))), some (.inl a2), some (.inl a3), some (.inl a4), some (.inl a2)] [] M O T c s) else (some (.inl (some (.inl 0)), M, O, c, s))) (fun kk => rfl)
set_option maxRecDepth 100000 in
theorem e2_X5_isPart_18 (L : Nat) (xs : Nat → Int32) (E : CallT) (back : BackT) (k : Nat) (a2 : Int32) (a3 : Int32) (a4 : Int32) (a5 : Int32) (M : Mem) (O : Int64) (T : Tmp) (c s : Nat) :
  BK L xs E mi_X5_isPart back (k + 6) 18 [some (.inr (.inr (1, 0))), some (.inr (.inr (94, 0))), some (.inl a2), some (.inl a3), some (.inl a4), some (.inl a5)] [] M O T c s =
    if a3 ≤ a5 then (some (.inl (some (.inl 1)), M, O, c, s)) else (xret tkT mi_X5_isPart 0 (E 901 [.inr (.inr (94, 0)), .inl a5] M O) (BK L xs E mi_X5_isPart back (k)) 27 [some (.inr (.inr (1, 0))), some (.inr (.inr (94, 0))), some (.inl a2), some (.inl a3), some (.inl a4), some (.inl a5)] [] T c s) :=
  blk_of (fun q => Nat.beq q 18) (f := fun kk => if a3 ≤ a5 then (some (.inl (some (.inl 1)), M, O, c, s)) else (xret tkT mi_X5_isPart 0 (E 901 [.inr (.inr (94, 0)), .inl a5] M O) (kk (k)) 27 [some (.inr (.inr (1, 0))), some (.inr (.inr (94, 0))), some (.inl a2), some (.inl a3), some (.inl a4), some (.inl a5)] [] T c s)) (fun kk => rfl)
set_option maxRecDepth 100000 in
theorem e2_X5_isPart_30 (L : Nat) (xs : Nat → Int32) (E : CallT) (back : BackT) (k : Nat) (a2 : Int32) (a3 : Int32) (a4 : Int32) (a5 : Int32) (as0 : Int32) (M : Mem) (O : Int64) (T : Tmp) (c s : Nat) :
  BK L xs E mi_X5_isPart back (k + 11) 30 [some (.inr (.inr (1, 0))), some (.inr (.inr (94, 0))), some (.inl a2), some (.inl a3), some (.inl a4), some (.inl a5)] [.inl as0] M O T c s =
    if 0 ≤ (((a4 + a5) - a2) : Int32).toInt ∧ (((a4 + a5) - a2) : Int32).toInt < 600 then (if as0 = (M 2 0 (((a4 + a5) - a2) : Int32).toNatClampNeg) then (back 18 [some (.inr (.inr (1, 0))), some (.inr (.inr (94, 0))), some (.inl a2), some (.inl a3), some (.inl a4), some (.inl (a5 + 1))] M O T c s) else (some (.inl (some (.inl 0)), M, O, c, s))) else none :=
  blk_of (fun q => Nat.beq q 18 || Nat.beq q 30) (f := fun kk => if 0 ≤ (((a4 + a5) - a2) : Int32).toInt ∧ (((a4 + a5) - a2) : Int32).toInt < 600 then (if as0 = (M 2 0 (((a4 + a5) - a2) : Int32).toNatClampNeg) then (back 18 [some (.inr (.inr (1, 0))), some (.inr (.inr (94, 0))), some (.inl a2), some (.inl a3), some (.inl a4), some (.inl (a5 + 1))] M O T c s) else (some (.inl (some (.inl 0)), M, O, c, s))) else none) (fun kk => rfl)
set_option maxRecDepth 100000 in
theorem e2_X5_word_0 (L : Nat) (xs : Nat → Int32) (E : CallT) (back : BackT) (k : Nat)  (M : Mem) (O : Int64) (T : Tmp) (c s : Nat) :
  BK L xs E mi_X5_word back (k + 3) 0 [some (.inr (.inr (1, 0))), some (.inr (.inr (94, 0))), none, none, none, none] [] M O T c s =
    BK L xs E mi_X5_word back (k) 5 [some (.inr (.inr (1, 0))), some (.inr (.inr (94, 0))), some (.inl (M 1 0 3)), none, none, none] [] M O T c s :=
  blk_of (fun q => Nat.beq q 0 || Nat.beq q 5 || Nat.beq q 40 || Nat.beq q 48 || Nat.beq q 92) (f := fun kk => kk (k) 5 [some (.inr (.inr (1, 0))), some (.inr (.inr (94, 0))), some (.inl (M 1 0 3)), none, none, none] [] M O T c s) (fun kk => rfl)
set_option maxRecDepth 100000 in
theorem e2_X5_word_5 (L : Nat) (xs : Nat → Int32) (E : CallT) (back : BackT) (k : Nat) (a2 : Int32) (u3 : Option AV) (u4 : Option AV) (u5 : Option AV) (M : Mem) (O : Int64) (T : Tmp) (c s : Nat) :
  BK L xs E mi_X5_word back (k + 9) 5 [some (.inr (.inr (1, 0))), some (.inr (.inr (94, 0))), some (.inl a2), u3, u4, u5] [] M O T c s =
    if (M 1 0 2) ≤ (M 1 0 3) then (BK L xs E mi_X5_word back (k + 4) 40 [some (.inr (.inr (1, 0))), some (.inr (.inr (94, 0))), some (.inl a2), u3, u4, u5] [] M O T c s) else (xret tkT mi_X5_word 0 (E q_X5_isFrom [.inr (.inr (1, 0)), .inl 97, .inl 122] M O) (BK L xs E mi_X5_word back (k)) 21 [some (.inr (.inr (1, 0))), some (.inr (.inr (94, 0))), some (.inl a2), u3, u4, u5] [] T c s) :=
  blk_of (fun q => Nat.beq q 5 || Nat.beq q 40 || Nat.beq q 48 || Nat.beq q 92) (f := fun kk => if (M 1 0 2) ≤ (M 1 0 3) then (kk (k + 4) 40 [some (.inr (.inr (1, 0))), some (.inr (.inr (94, 0))), some (.inl a2), u3, u4, u5] [] M O T c s) else (xret tkT mi_X5_word 0 (E q_X5_isFrom [.inr (.inr (1, 0)), .inl 97, .inl 122] M O) (kk (k)) 21 [some (.inr (.inr (1, 0))), some (.inr (.inr (94, 0))), some (.inl a2), u3, u4, u5] [] T c s)) (fun kk => rfl)
set_option maxRecDepth 100000 in
theorem e2_X5_word_40 (L : Nat) (xs : Nat → Int32) (E : CallT) (back : BackT) (k : Nat) (a2 : Int32) (u3 : Option AV) (u4 : Option AV) (u5 : Option AV) (M : Mem) (O : Int64) (T : Tmp) (c s : Nat) :
  BK L xs E mi_X5_word back (k + 6) 40 [some (.inr (.inr (1, 0))), some (.inr (.inr (94, 0))), some (.inl a2), u3, u4, u5] [] M O T c s =
    BK L xs E mi_X5_word back (k) 48 [some (.inr (.inr (1, 0))), some (.inr (.inr (94, 0))), some (.inl a2), some (.inl 0), some (.inl 0), some (.inl 0)] [] M O T c s :=
  blk_of (fun q => Nat.beq q 5 || Nat.beq q 40 || Nat.beq q 48 || Nat.beq q 92) (f := fun kk => kk (k) 48 [some (.inr (.inr (1, 0))), some (.inr (.inr (94, 0))), some (.inl a2), some (.inl 0), some (.inl 0), some (.inl 0)] [] M O T c s) (fun kk => rfl)
set_option maxRecDepth 100000 in
theorem e2_X5_word_24 (L : Nat) (xs : Nat → Int32) (E : CallT) (back : BackT) (k : Nat) (a2 : Int32) (u3 : Option AV) (u4 : Option AV) (u5 : Option AV) (as0 : Int32) (M : Mem) (O : Int64) (T : Tmp) (c s : Nat) :
  BK L xs E mi_X5_word back (k + 8) 24 [some (.inr (.inr (1, 0))), some (.inr (.inr (94, 0))), some (.inl a2), u3, u4, u5] [.inl as0] M O T c s =
    if as0 = 0 then (BK L xs E mi_X5_word back (k + 7) 40 [some (.inr (.inr (1, 0))), some (.inr (.inr (94, 0))), some (.inl a2), u3, u4, u5] [] M O T c s) else (back 5 [some (.inr (.inr (1, 0))), some (.inr (.inr (94, 0))), some (.inl a2), u3, u4, u5] (mput M 1 0 3 ((M 1 0 3) + 1)) O T c s) :=
  blk_of (fun q => Nat.beq q 5 || Nat.beq q 24 || Nat.beq q 40 || Nat.beq q 48 || Nat.beq q 92) (f := fun kk => if as0 = 0 then (kk (k + 7) 40 [some (.inr (.inr (1, 0))), some (.inr (.inr (94, 0))), some (.inl a2), u3, u4, u5] [] M O T c s) else (back 5 [some (.inr (.inr (1, 0))), some (.inr (.inr (94, 0))), some (.inl a2), u3, u4, u5] (mput M 1 0 3 ((M 1 0 3) + 1)) O T c s)) (fun kk => rfl)
set_option maxRecDepth 100000 in
theorem e2_X5_word_48 (L : Nat) (xs : Nat → Int32) (d : Nat) (back : BackT) (k : Nat) (a2 : Int32) (a3 : Int32) (a4 : Int32) (a5 : Int32) (M : Mem) (O : Int64) (T : Tmp) (c s : Nat) :
  BK L xs (EX L xs (d + 1)) mi_X5_word back (k + 3) 48 [some (.inr (.inr (1, 0))), some (.inr (.inr (94, 0))), some (.inl a2), some (.inl a3), some (.inl a4), some (.inl a5)] [] M O T c s =
    BK L xs (EX L xs (d + 1)) mi_X5_word back (k) 54 [some (.inr (.inr (1, 0))), some (.inr (.inr (94, 0))), some (.inl a2), some (.inl a3), some (.inl a4), some (.inl a5)] [.inl (Int32.ofNat 23), .inl a5] M O T c s :=
  blk_of (fun q => Nat.beq q 5 || Nat.beq q 40 || Nat.beq q 48 || Nat.beq q 92) (f := fun kk => kk (k) 54 [some (.inr (.inr (1, 0))), some (.inr (.inr (94, 0))), some (.inl a2), some (.inl a3), some (.inl a4), some (.inl a5)] [.inl (Int32.ofNat 23), .inl a5] M O T c s) (fun kk => rfl)
set_option maxRecDepth 100000 in
theorem e2_X5_word_54 (L : Nat) (xs : Nat → Int32) (E : CallT) (back : BackT) (k : Nat) (a2 : Int32) (a3 : Int32) (a4 : Int32) (a5 : Int32) (as0 : Int32) (as1 : Int32) (M : Mem) (O : Int64) (T : Tmp) (c s : Nat) :
  BK L xs E mi_X5_word back (k + 5) 54 [some (.inr (.inr (1, 0))), some (.inr (.inr (94, 0))), some (.inl a2), some (.inl a3), some (.inl a4), some (.inl a5)] [.inl as0, .inl as1] M O T c s =
    if as0 ≤ as1 then (xret tkT mi_X5_word 0 (E q_X5_blame [.inr (.inr (1, 0)), .inl 1, .inl a2] M O) (BK L xs E mi_X5_word back (k)) 101 [some (.inr (.inr (1, 0))), some (.inr (.inr (94, 0))), some (.inl a2), some (.inl a3), some (.inl a4), some (.inl a5)] [] T c s) else (xret tkT mi_X5_word 0 (E 901 [.inr (.inr (94, 0)), .inl a5] M O) (BK L xs E mi_X5_word back (k + 1)) 60 [some (.inr (.inr (1, 0))), some (.inr (.inr (94, 0))), some (.inl a2), some (.inl a3), some (.inl a4), some (.inl a5)] [] T c s) :=
  blk_of (fun q => Nat.beq q 5 || Nat.beq q 40 || Nat.beq q 48 || Nat.beq q 54 || Nat.beq q 92) (f := fun kk => if as0 ≤ as1 then (xret tkT mi_X5_word 0 (E q_X5_blame [.inr (.inr (1, 0)), .inl 1, .inl a2] M O) (kk (k)) 101 [some (.inr (.inr (1, 0))), some (.inr (.inr (94, 0))), some (.inl a2), some (.inl a3), some (.inl a4), some (.inl a5)] [] T c s) else (xret tkT mi_X5_word 0 (E 901 [.inr (.inr (94, 0)), .inl a5] M O) (kk (k + 1)) 60 [some (.inr (.inr (1, 0))), some (.inr (.inr (94, 0))), some (.inl a2), some (.inl a3), some (.inl a4), some (.inl a5)] [] T c s)) (fun kk => rfl)
set_option maxRecDepth 100000 in
theorem e2_X5_word_104 (L : Nat) (xs : Nat → Int32) (E : CallT) (back : BackT) (k : Nat) (a2 : Int32) (a3 : Int32) (a4 : Int32) (a5 : Int32) (M : Mem) (O : Int64) (T : Tmp) (c s : Nat) :
  BK L xs E mi_X5_word back (k + 2) 104 [some (.inr (.inr (1, 0))), some (.inr (.inr (94, 0))), some (.inl a2), some (.inl a3), some (.inl a4), some (.inl a5)] [] M O T c s =
    some (.inl (some (.inl (-1))), M, O, c, s) :=
  blk_of (fun q => Nat.beq q 5 || Nat.beq q 40 || Nat.beq q 48 || Nat.beq q 92 || Nat.beq q 104) (f := fun kk => some (.inl (some (.inl (-1))), M, O, c, s)) (fun kk => rfl)
set_option maxRecDepth 100000 in
theorem e2_X5_word_63 (L : Nat) (xs : Nat → Int32) (E : CallT) (back : BackT) (k : Nat) (a2 : Int32) (a3 : Int32) (a4 : Int32) (a5 : Int32) (as0 : Int32) (M : Mem) (O : Int64) (T : Tmp) (c s : Nat) :
  BK L xs E mi_X5_word back (k + 8) 63 [some (.inr (.inr (1, 0))), some (.inr (.inr (94, 0))), some (.inl a2), some (.inl a3), some (.inl a4), some (.inl a5)] [.inl as0] M O T c s =
    if as0 = 32 then (xret tkT mi_X5_word 0 (E q_X5_isPart [.inr (.inr (1, 0)), .inr (.inr (94, 0)), .inl a4, .inl a5, .inl a2] M O) (BK L xs E mi_X5_word back (k)) 75 [some (.inr (.inr (1, 0))), some (.inr (.inr (94, 0))), some (.inl a2), some (.inl a3), some (.inl a4), some (.inl a5)] [] T c s) else (BK L xs E mi_X5_word back (k + 6) 92 [some (.inr (.inr (1, 0))), some (.inr (.inr (94, 0))), some (.inl a2), some (.inl a3), some (.inl a4), some (.inl a5)] [] M O T c s) :=
  blk_of (fun q => Nat.beq q 5 || Nat.beq q 40 || Nat.beq q 48 || Nat.beq q 63 || Nat.beq q 92) (f := fun kk => if as0 = 32 then (xret tkT mi_X5_word 0 (E q_X5_isPart [.inr (.inr (1, 0)), .inr (.inr (94, 0)), .inl a4, .inl a5, .inl a2] M O) (kk (k)) 75 [some (.inr (.inr (1, 0))), some (.inr (.inr (94, 0))), some (.inl a2), some (.inl a3), some (.inl a4), some (.inl a5)] [] T c s) else (kk (k + 6) 92 [some (.inr (.inr (1, 0))), some (.inr (.inr (94, 0))), some (.inl a2), some (.inl a3), some (.inl a4), some (.inl a5)] [] M O T c s)) (fun kk => rfl)
set_option maxRecDepth 100000 in
theorem e2_X5_word_78 (L : Nat) (xs : Nat → Int32) (E : CallT) (back : BackT) (k : Nat) (a2 : Int32) (a3 : Int32) (a4 : Int32) (a5 : Int32) (as0 : Int32) (M : Mem) (O : Int64) (T : Tmp) (c s : Nat) :
  BK L xs E mi_X5_word back (k + 6) 78 [some (.inr (.inr (1, 0))), some (.inr (.inr (94, 0))), some (.inl a2), some (.inl a3), some (.inl a4), some (.inl a5)] [.inl as0] M O T c s =
    if as0 = 0 then (BK L xs E mi_X5_word back (k) 92 [some (.inr (.inr (1, 0))), some (.inr (.inr (94, 0))), some (.inl a2), some (.inl (a3 + 1)), some (.inl (a5 + 1)), some (.inl a5)] [] M O T c s) else (some (.inl (some (.inl a3)), M, O, c, s)) :=
  blk_of (fun q => Nat.beq q 5 || Nat.beq q 40 || Nat.beq q 48 || Nat.beq q 78 || Nat.beq q 92) (f := fun kk => if as0 = 0 then (kk (k) 92 [some (.inr (.inr (1, 0))), some (.inr (.inr (94, 0))), some (.inl a2), some (.inl (a3 + 1)), some (.inl (a5 + 1)), some (.inl a5)] [] M O T c s) else (some (.inl (some (.inl a3)), M, O, c, s))) (fun kk => rfl)
set_option maxRecDepth 100000 in
theorem e2_X5_word_92 (L : Nat) (xs : Nat → Int32) (E : CallT) (back : BackT) (k : Nat) (a2 : Int32) (a3 : Int32) (a4 : Int32) (a5 : Int32) (M : Mem) (O : Int64) (T : Tmp) (c s : Nat) :
  BK L xs E mi_X5_word back (k + 2) 92 [some (.inr (.inr (1, 0))), some (.inr (.inr (94, 0))), some (.inl a2), some (.inl a3), some (.inl a4), some (.inl a5)] [] M O T c s =
    back 48 [some (.inr (.inr (1, 0))), some (.inr (.inr (94, 0))), some (.inl a2), some (.inl a3), some (.inl a4), some (.inl (a5 + 1))] M O T c s :=
  blk_of (fun q => Nat.beq q 5 || Nat.beq q 40 || Nat.beq q 48 || Nat.beq q 92) (f := fun kk => back 48 [some (.inr (.inr (1, 0))), some (.inr (.inr (94, 0))), some (.inl a2), some (.inl a3), some (.inl a4), some (.inl (a5 + 1))] M O T c s) (fun kk => rfl)
set_option maxRecDepth 100000 in
theorem e_X0_readRule_0 (L : Nat) (xs : Nat → Int32) (E : CallT) (back : BackT) (k : Nat) (i0 : Nat) (a2 : Int32) (M : Mem) (O : Int64) (T : Tmp) (c s : Nat) :
  BK L xs E mi_X0_readRule back (k + 6) 0 [some (.inr (.inr (18, i0))), some (.inr (.inr (1, 0))), some (.inl a2), none, none] [] M O T c s =
    xret tkT mi_X0_readRule 1 (E q_X5_word [.inr (.inr (1, 0)), .inr (.inr (94, 0))] M O) (BK L xs E mi_X0_readRule back (k)) 8 [some (.inr (.inr (18, i0))), some (.inr (.inr (1, 0))), some (.inl a2), some (.inl (M 1 0 3)), none] [] T c s :=
  blk_of (fun q => Nat.beq q 0 || Nat.beq q 25 || Nat.beq q 35 || Nat.beq q 108) (f := fun kk => xret tkT mi_X0_readRule 1 (E q_X5_word [.inr (.inr (1, 0)), .inr (.inr (94, 0))] M O) (kk (k)) 8 [some (.inr (.inr (18, i0))), some (.inr (.inr (1, 0))), some (.inl a2), some (.inl (M 1 0 3)), none] [] T c s) (fun kk => rfl)
set_option maxRecDepth 100000 in
theorem e_X0_readRule_11 (L : Nat) (xs : Nat → Int32) (E : CallT) (back : BackT) (k : Nat) (i0 : Nat) (a2 : Int32) (a3 : Int32) (u4 : Option AV) (as0 : Int32) (M : Mem) (O : Int64) (T : Tmp) (c s : Nat) :
  BK L xs E mi_X0_readRule back (k + 8) 11 [some (.inr (.inr (18, i0))), some (.inr (.inr (1, 0))), some (.inl a2), some (.inl a3), u4] [.inl as0] M O T c s =
    if a2 < 20 then (BK L xs E mi_X0_readRule back (k + 4) 25 [some (.inr (.inr (18, i0))), some (.inr (.inr (1, 0))), some (.inl a2), some (.inl a3), some (.inl as0)] [] M O T c s) else (xret tkT mi_X0_readRule 1 (E q_X5_blame [.inr (.inr (1, 0)), .inl 3, .inl a3] M O) (BK L xs E mi_X0_readRule back (k)) 22 [some (.inr (.inr (18, i0))), some (.inr (.inr (1, 0))), some (.inl a2), some (.inl a3), some (.inl as0)] [] T c s) :=
  blk_of (fun q => Nat.beq q 11 || Nat.beq q 25 || Nat.beq q 35 || Nat.beq q 108) (f := fun kk => if a2 < 20 then (kk (k + 4) 25 [some (.inr (.inr (18, i0))), some (.inr (.inr (1, 0))), some (.inl a2), some (.inl a3), some (.inl as0)] [] M O T c s) else (xret tkT mi_X0_readRule 1 (E q_X5_blame [.inr (.inr (1, 0)), .inl 3, .inl a3] M O) (kk (k)) 22 [some (.inr (.inr (18, i0))), some (.inr (.inr (1, 0))), some (.inl a2), some (.inl a3), some (.inl as0)] [] T c s)) (fun kk => rfl)
set_option maxRecDepth 100000 in
theorem e_X0_readRule_25 (L : Nat) (xs : Nat → Int32) (E : CallT) (back : BackT) (k : Nat) (i0 : Nat) (a2 : Int32) (a3 : Int32) (a4 : Int32) (M : Mem) (O : Int64) (T : Tmp) (c s : Nat) :
  BK L xs E mi_X0_readRule back (k + 4) 25 [some (.inr (.inr (18, i0))), some (.inr (.inr (1, 0))), some (.inl a2), some (.inl a3), some (.inl a4)] [] M O T c s =
    if (M 1 0 4) = 0 then (BK L xs E mi_X0_readRule back (k) 35 [some (.inr (.inr (18, i0))), some (.inr (.inr (1, 0))), some (.inl a2), some (.inl a3), some (.inl a4)] [.inl a4] M O T c s) else (some (.inl none, M, O, c, s)) :=
  blk_of (fun q => Nat.beq q 25 || Nat.beq q 35 || Nat.beq q 108) (f := fun kk => if (M 1 0 4) = 0 then (kk (k) 35 [some (.inr (.inr (18, i0))), some (.inr (.inr (1, 0))), some (.inl a2), some (.inl a3), some (.inl a4)] [.inl a4] M O T c s) else (some (.inl none, M, O, c, s))) (fun kk => rfl)
set_option maxRecDepth 100000 in
theorem e_X0_readRule_35_c0 (L : Nat) (xs : Nat → Int32) (E : CallT) (back : BackT) (k : Nat) (i0 : Nat) (a2 : Int32) (a3 : Int32) (a4 : Int32) (M : Mem) (O : Int64) (T : Tmp) (c s : Nat) :
  BK L xs E mi_X0_readRule back (k + 1) 35 [some (.inr (.inr (18, i0))), some (.inr (.inr (1, 0))), some (.inl a2), some (.inl a3), some (.inl a4)] [.inl 0] M O T c s = BK L xs E mi_X0_readRule back k 60 [some (.inr (.inr (18, i0))), some (.inr (.inr (1, 0))), some (.inl a2), some (.inl a3), some (.inl a4)] [] M O T c s :=
  blk_of (fun q => true) (f := fun kk => kk k 60 [some (.inr (.inr (18, i0))), some (.inr (.inr (1, 0))), some (.inl a2), some (.inl a3), some (.inl a4)] [] M O T c s) (fun kk => rfl)
set_option maxRecDepth 100000 in
theorem e_X0_readRule_35_c1 (L : Nat) (xs : Nat → Int32) (E : CallT) (back : BackT) (k : Nat) (i0 : Nat) (a2 : Int32) (a3 : Int32) (a4 : Int32) (M : Mem) (O : Int64) (T : Tmp) (c s : Nat) :
  BK L xs E mi_X0_readRule back (k + 1) 35 [some (.inr (.inr (18, i0))), some (.inr (.inr (1, 0))), some (.inl a2), some (.inl a3), some (.inl a4)] [.inl 1] M O T c s = BK L xs E mi_X0_readRule back k 68 [some (.inr (.inr (18, i0))), some (.inr (.inr (1, 0))), some (.inl a2), some (.inl a3), some (.inl a4)] [] M O T c s :=
  blk_of (fun q => true) (f := fun kk => kk k 68 [some (.inr (.inr (18, i0))), some (.inr (.inr (1, 0))), some (.inl a2), some (.inl a3), some (.inl a4)] [] M O T c s) (fun kk => rfl)
set_option maxRecDepth 100000 in
theorem e_X0_readRule_35_c2 (L : Nat) (xs : Nat → Int32) (E : CallT) (back : BackT) (k : Nat) (i0 : Nat) (a2 : Int32) (a3 : Int32) (a4 : Int32) (M : Mem) (O : Int64) (T : Tmp) (c s : Nat) :
  BK L xs E mi_X0_readRule back (k + 1) 35 [some (.inr (.inr (18, i0))), some (.inr (.inr (1, 0))), some (.inl a2), some (.inl a3), some (.inl a4)] [.inl 2] M O T c s = BK L xs E mi_X0_readRule back k 83 [some (.inr (.inr (18, i0))), some (.inr (.inr (1, 0))), some (.inl a2), some (.inl a3), some (.inl a4)] [] M O T c s :=
  blk_of (fun q => true) (f := fun kk => kk k 83 [some (.inr (.inr (18, i0))), some (.inr (.inr (1, 0))), some (.inl a2), some (.inl a3), some (.inl a4)] [] M O T c s) (fun kk => rfl)
set_option maxRecDepth 100000 in
theorem e_X0_readRule_35_d (L : Nat) (xs : Nat → Int32) (E : CallT) (back : BackT) (k : Nat) (i0 : Nat) (a2 : Int32) (a3 : Int32) (a4 : Int32) (M : Mem) (O : Int64) (T : Tmp) (c s : Nat) (a : Int32) (h : a.toInt < 0 ∨ 2 < a.toInt) :
  BK L xs E mi_X0_readRule back (k + 1) 35 [some (.inr (.inr (18, i0))), some (.inr (.inr (1, 0))), some (.inl a2), some (.inl a3), some (.inl a4)] [.inl a] M O T c s = BK L xs E mi_X0_readRule back k 97 [some (.inr (.inr (18, i0))), some (.inr (.inr (1, 0))), some (.inl a2), some (.inl a3), some (.inl a4)] [] M O T c s :=
  blk_of (fun q => true) (f := fun kk => kk k 97 [some (.inr (.inr (18, i0))), some (.inr (.inr (1, 0))), some (.inl a2), some (.inl a3), some (.inl a4)] [] M O T c s) (fun kk => (show _ = (if a.toInt < 0 ∨ 2 < a.toInt then kk k 97 [some (.inr (.inr (18, i0))), some (.inr (.inr (1, 0))), some (.inl a2), some (.inl a3), some (.inl a4)] [] M O T c s else (match (#[25, 33, 48] : Array Int)[(a.toInt - (0)).toNat]? with
    | some off => xgo (cK (fun q => true) (kk k) (blkC L xs E mi_X0_readRule back (fun q => true) kk k)) back 35 off [some (.inr (.inr (18, i0))), some (.inr (.inr (1, 0))), some (.inl a2), some (.inl a3), some (.inl a4)] [] M O T c s
    | none => none)) from rfl).trans (if_pos h))
set_option maxRecDepth 100000 in
theorem e_X0_readRule_83 (L : Nat) (xs : Nat → Int32) (E : CallT) (back : BackT) (k : Nat) (i0 : Nat) (a2 : Int32) (a3 : Int32) (a4 : Int32) (M : Mem) (O : Int64) (T : Tmp) (c s : Nat) :
  BK L xs E mi_X0_readRule back (k + 5) 83 [some (.inr (.inr (18, i0))), some (.inr (.inr (1, 0))), some (.inl a2), some (.inl a3), some (.inl a4)] [] M O T c s =
    xret tkT mi_X0_readRule 1 (E q_X5_number [.inr (.inr (1, 0)), .inl 1, .inl 99] M O) (BK L xs E mi_X0_readRule back (k)) 88 [some (.inr (.inr (18, i0))), some (.inr (.inr (1, 0))), some (.inl a2), some (.inl a3), some (.inl a4)] [.inr (.inr (18, i0))] T c s :=
  blk_of (fun q => Nat.beq q 25 || Nat.beq q 35 || Nat.beq q 83 || Nat.beq q 108) (f := fun kk => xret tkT mi_X0_readRule 1 (E q_X5_number [.inr (.inr (1, 0)), .inl 1, .inl 99] M O) (kk (k)) 88 [some (.inr (.inr (18, i0))), some (.inr (.inr (1, 0))), some (.inl a2), some (.inl a3), some (.inl a4)] [.inr (.inr (18, i0))] T c s) (fun kk => rfl)
set_option maxRecDepth 100000 in
theorem e_X0_readRule_60 (L : Nat) (xs : Nat → Int32) (E : CallT) (back : BackT) (k : Nat) (i0 : Nat) (a2 : Int32) (a3 : Int32) (a4 : Int32) (M : Mem) (O : Int64) (T : Tmp) (c s : Nat) :
  BK L xs E mi_X0_readRule back (k + 3) 60 [some (.inr (.inr (18, i0))), some (.inr (.inr (1, 0))), some (.inl a2), some (.inl a3), some (.inl a4)] [] M O T c s =
    xret tkT mi_X0_readRule 0 (E q_X0_readLayer [.inr (.inr (18, i0)), .inr (.inr (1, 0))] M O) (BK L xs E mi_X0_readRule back (k)) 62 [some (.inr (.inr (18, i0))), some (.inr (.inr (1, 0))), some (.inl a2), some (.inl a3), some (.inl a4)] [] T c s :=
  blk_of (fun q => Nat.beq q 25 || Nat.beq q 35 || Nat.beq q 60 || Nat.beq q 108) (f := fun kk => xret tkT mi_X0_readRule 0 (E q_X0_readLayer [.inr (.inr (18, i0)), .inr (.inr (1, 0))] M O) (kk (k)) 62 [some (.inr (.inr (18, i0))), some (.inr (.inr (1, 0))), some (.inl a2), some (.inl a3), some (.inl a4)] [] T c s) (fun kk => rfl)
set_option maxRecDepth 100000 in
theorem e_X0_readRule_97 (L : Nat) (xs : Nat → Int32) (E : CallT) (back : BackT) (k : Nat) (i0 : Nat) (a2 : Int32) (a3 : Int32) (a4 : Int32) (M : Mem) (O : Int64) (T : Tmp) (c s : Nat) :
  BK L xs E mi_X0_readRule back (k + 5) 97 [some (.inr (.inr (18, i0))), some (.inr (.inr (1, 0))), some (.inl a2), some (.inl a3), some (.inl a4)] [] M O T c s =
    xret tkT mi_X0_readRule 1 (E q_X5_number [.inr (.inr (1, 0)), .inl 0, .inl 8] M O) (BK L xs E mi_X0_readRule back (k)) 102 [some (.inr (.inr (18, i0))), some (.inr (.inr (1, 0))), some (.inl a2), some (.inl a3), some (.inl a4)] [.inr (.inr (18, i0))] T c s :=
  blk_of (fun q => Nat.beq q 25 || Nat.beq q 35 || Nat.beq q 97 || Nat.beq q 108) (f := fun kk => xret tkT mi_X0_readRule 1 (E q_X5_number [.inr (.inr (1, 0)), .inl 0, .inl 8] M O) (kk (k)) 102 [some (.inr (.inr (18, i0))), some (.inr (.inr (1, 0))), some (.inl a2), some (.inl a3), some (.inl a4)] [.inr (.inr (18, i0))] T c s) (fun kk => rfl)
set_option maxRecDepth 100000 in
theorem e_X0_readRule_68 (L : Nat) (xs : Nat → Int32) (E : CallT) (back : BackT) (k : Nat) (i0 : Nat) (a2 : Int32) (a3 : Int32) (a4 : Int32) (M : Mem) (O : Int64) (T : Tmp) (c s : Nat) :
  BK L xs E mi_X0_readRule back (k + 5) 68 [some (.inr (.inr (18, i0))), some (.inr (.inr (1, 0))), some (.inl a2), some (.inl a3), some (.inl a4)] [] M O T c s =
    xret tkT mi_X0_readRule 1 (E q_X5_number [.inr (.inr (1, 0)), .inl 0, .inl 4] M O) (BK L xs E mi_X0_readRule back (k)) 72 [some (.inr (.inr (18, i0))), some (.inr (.inr (1, 0))), some (.inl a2), some (.inl a3), some (.inl a4)] [.inr (.inr (18, i0))] T c s :=
  blk_of (fun q => Nat.beq q 25 || Nat.beq q 35 || Nat.beq q 68 || Nat.beq q 108) (f := fun kk => xret tkT mi_X0_readRule 1 (E q_X5_number [.inr (.inr (1, 0)), .inl 0, .inl 4] M O) (kk (k)) 72 [some (.inr (.inr (18, i0))), some (.inr (.inr (1, 0))), some (.inl a2), some (.inl a3), some (.inl a4)] [.inr (.inr (18, i0))] T c s) (fun kk => rfl)
set_option maxRecDepth 100000 in
theorem e_X0_readRule_91 (L : Nat) (xs : Nat → Int32) (E : CallT) (back : BackT) (k : Nat) (i0 : Nat) (a2 : Int32) (a3 : Int32) (a4 : Int32) (as0 : Int32) (is1 : Nat) (M : Mem) (O : Int64) (T : Tmp) (c s : Nat) :
  BK L xs E mi_X0_readRule back (k + 2) 91 [some (.inr (.inr (18, i0))), some (.inr (.inr (1, 0))), some (.inl a2), some (.inl a3), some (.inl a4)] [.inl as0, .inr (.inr (18, is1))] M O T c s =
    BK L xs E mi_X0_readRule back (k) 108 [some (.inr (.inr (18, i0))), some (.inr (.inr (1, 0))), some (.inl a2), some (.inl a3), some (.inl a4)] [] (mput M 18 is1 2 as0) O T c s :=
  blk_of (fun q => Nat.beq q 25 || Nat.beq q 35 || Nat.beq q 91 || Nat.beq q 108) (f := fun kk => kk (k) 108 [some (.inr (.inr (18, i0))), some (.inr (.inr (1, 0))), some (.inl a2), some (.inl a3), some (.inl a4)] [] (mput M 18 is1 2 as0) O T c s) (fun kk => rfl)
set_option maxRecDepth 100000 in
theorem e_X0_readRule_65 (L : Nat) (xs : Nat → Int32) (E : CallT) (back : BackT) (k : Nat) (i0 : Nat) (a2 : Int32) (a3 : Int32) (a4 : Int32) (M : Mem) (O : Int64) (T : Tmp) (c s : Nat) :
  BK L xs E mi_X0_readRule back (k + 1) 65 [some (.inr (.inr (18, i0))), some (.inr (.inr (1, 0))), some (.inl a2), some (.inl a3), some (.inl a4)] [] M O T c s =
    BK L xs E mi_X0_readRule back (k) 108 [some (.inr (.inr (18, i0))), some (.inr (.inr (1, 0))), some (.inl a2), some (.inl a3), some (.inl a4)] [] M O T c s :=
  blk_of (fun q => Nat.beq q 25 || Nat.beq q 35 || Nat.beq q 65 || Nat.beq q 108) (f := fun kk => kk (k) 108 [some (.inr (.inr (18, i0))), some (.inr (.inr (1, 0))), some (.inl a2), some (.inl a3), some (.inl a4)] [] M O T c s) (fun kk => rfl)
set_option maxRecDepth 100000 in
theorem e_X0_readRule_105 (L : Nat) (xs : Nat → Int32) (E : CallT) (back : BackT) (k : Nat) (i0 : Nat) (a2 : Int32) (a3 : Int32) (a4 : Int32) (as0 : Int32) (is1 : Nat) (M : Mem) (O : Int64) (T : Tmp) (c s : Nat) :
  BK L xs E mi_X0_readRule back (k + 1) 105 [some (.inr (.inr (18, i0))), some (.inr (.inr (1, 0))), some (.inl a2), some (.inl a3), some (.inl a4)] [.inl as0, .inr (.inr (18, is1))] M O T c s =
    BK L xs E mi_X0_readRule back (k) 108 [some (.inr (.inr (18, i0))), some (.inr (.inr (1, 0))), some (.inl a2), some (.inl a3), some (.inl a4)] [] (mput M 18 is1 3 as0) O T c s :=
  blk_of (fun q => Nat.beq q 25 || Nat.beq q 35 || Nat.beq q 105 || Nat.beq q 108) (f := fun kk => kk (k) 108 [some (.inr (.inr (18, i0))), some (.inr (.inr (1, 0))), some (.inl a2), some (.inl a3), some (.inl a4)] [] (mput M 18 is1 3 as0) O T c s) (fun kk => rfl)
set_option maxRecDepth 100000 in
theorem e_X0_readRule_75 (L : Nat) (xs : Nat → Int32) (E : CallT) (back : BackT) (k : Nat) (i0 : Nat) (a2 : Int32) (a3 : Int32) (a4 : Int32) (as0 : Int32) (is1 : Nat) (M : Mem) (O : Int64) (T : Tmp) (c s : Nat) :
  BK L xs E mi_X0_readRule back (k + 4) 75 [some (.inr (.inr (18, i0))), some (.inr (.inr (1, 0))), some (.inl a2), some (.inl a3), some (.inl a4)] [.inl as0, .inr (.inr (18, is1))] M O T c s =
    BK L xs E mi_X0_readRule back (k) 108 [some (.inr (.inr (18, i0))), some (.inr (.inr (1, 0))), some (.inl a2), some (.inl a3), some (.inl a4)] [] (mput M 18 is1 1 (as0 - 2)) O T c s :=
  blk_of (fun q => Nat.beq q 25 || Nat.beq q 35 || Nat.beq q 75 || Nat.beq q 108) (f := fun kk => kk (k) 108 [some (.inr (.inr (18, i0))), some (.inr (.inr (1, 0))), some (.inl a2), some (.inl a3), some (.inl a4)] [] (mput M 18 is1 1 (as0 - 2)) O T c s) (fun kk => rfl)
set_option maxRecDepth 100000 in
theorem e_X0_readRule_108 (L : Nat) (xs : Nat → Int32) (E : CallT) (back : BackT) (k : Nat) (i0 : Nat) (a2 : Int32) (a3 : Int32) (a4 : Int32) (M : Mem) (O : Int64) (T : Tmp) (c s : Nat) :
  BK L xs E mi_X0_readRule back (k + 2) 108 [some (.inr (.inr (18, i0))), some (.inr (.inr (1, 0))), some (.inl a2), some (.inl a3), some (.inl a4)] [] M O T c s =
    xret tkT mi_X0_readRule 1 (E q_X5_closes [.inr (.inr (1, 0))] M O) (BK L xs E mi_X0_readRule back (k)) 109 [some (.inr (.inr (18, i0))), some (.inr (.inr (1, 0))), some (.inl a2), some (.inl a3), some (.inl a4)] [] T c s :=
  blk_of (fun q => Nat.beq q 25 || Nat.beq q 35 || Nat.beq q 108) (f := fun kk => xret tkT mi_X0_readRule 1 (E q_X5_closes [.inr (.inr (1, 0))] M O) (kk (k)) 109 [some (.inr (.inr (18, i0))), some (.inr (.inr (1, 0))), some (.inl a2), some (.inl a3), some (.inl a4)] [] T c s) (fun kk => rfl)
set_option maxRecDepth 100000 in
theorem e_X0_readRule_112 (L : Nat) (xs : Nat → Int32) (E : CallT) (back : BackT) (k : Nat) (i0 : Nat) (a2 : Int32) (a3 : Int32) (a4 : Int32) (as0 : Int32) (M : Mem) (O : Int64) (T : Tmp) (c s : Nat) :
  BK L xs E mi_X0_readRule back (k + 2) 112 [some (.inr (.inr (18, i0))), some (.inr (.inr (1, 0))), some (.inl a2), some (.inl a3), some (.inl a4)] [.inl as0] M O T c s =
    some (.inl none, M, O, c, s) :=
  blk_of (fun q => Nat.beq q 25 || Nat.beq q 35 || Nat.beq q 108 || Nat.beq q 112) (f := fun kk => some (.inl none, M, O, c, s)) (fun kk => rfl)
