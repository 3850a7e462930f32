/-! block equations: printed by wip/gen/gen9.py -/
set_option maxRecDepth 100000 in
theorem e_J7_fill_53178_0 (L : Nat) (xs : Nat → Int32) (E : CallT) (back : BackT) (k : Nat) (i0 : Nat) (a1 : Int32) (M : Mem) (O : Int64) (T : Tmp) (c s : Nat) :
  BK L xs E mi_J7_fill_53178 back (k + 5) 0 [some (.inr (.inr (22, i0))), some (.inl a1), none, none] [] M O T c s =
    BK L xs E mi_J7_fill_53178 back (k) 5 [some (.inr (.inr (22, i0))), some (.inl a1), some (.inl 0), some (.inl (Int32.ofNat 8))] [] M O T c s :=
  blk_of (fun q => Nat.beq q 0 || Nat.beq q 5) (f := fun kk => kk (k) 5 [some (.inr (.inr (22, i0))), some (.inl a1), some (.inl 0), some (.inl (Int32.ofNat 8))] [] M O T c s) (fun kk => rfl)
set_option maxRecDepth 100000 in
theorem e_J7_fill_53178_5 (L : Nat) (xs : Nat → Int32) (E : CallT) (back : BackT) (k : Nat) (i0 : Nat) (a1 : Int32) (a2 : Int32) (a3 : Int32) (M : Mem) (O : Int64) (T : Tmp) (c s : Nat) :
  BK L xs E mi_J7_fill_53178 back (k + 9) 5 [some (.inr (.inr (22, i0))), some (.inl a1), some (.inl a2), some (.inl a3)] [] M O T c s =
    if a3 ≤ a2 then (some (.inl none, M, O, c, s)) else (if 0 ≤ (a2 : Int32).toInt ∧ (a2 : Int32).toInt < 8 then (back 5 [some (.inr (.inr (22, i0))), some (.inl a1), some (.inl (a2 + 1)), some (.inl a3)] (mput M 22 i0 (a2 : Int32).toNatClampNeg a1) O T c s) else none) :=
  blk_of (fun q => Nat.beq q 5) (f := fun kk => if a3 ≤ a2 then (some (.inl none, M, O, c, s)) else (if 0 ≤ (a2 : Int32).toInt ∧ (a2 : Int32).toInt < 8 then (back 5 [some (.inr (.inr (22, i0))), some (.inl a1), some (.inl (a2 + 1)), some (.inl a3)] (mput M 22 i0 (a2 : Int32).toNatClampNeg a1) O T c s) else none)) (fun kk => rfl)
set_option maxRecDepth 100000 in
theorem e_X2_clear_0 (L : Nat) (xs : Nat → Int32) (E : CallT) (back : BackT) (k : Nat) (i0 : Nat) (M : Mem) (O : Int64) (T : Tmp) (c s : Nat) :
  BK L xs E mi_X2_clear back (k + 7) 0 [some (.inr (.inr (20, i0)))] [] M O T c s =
    xret tkT mi_X2_clear 2 (E q_J7_fill_53178 [.inr (.inr (22, i0)), .inl (-2)] (mput M 20 i0 1 0) O) (BK L xs E mi_X2_clear back (k)) 11 [some (.inr (.inr (20, i0)))] [] T c s :=
  blk_of (fun q => Nat.beq q 0) (f := fun kk => xret tkT mi_X2_clear 2 (E q_J7_fill_53178 [.inr (.inr (22, i0)), .inl (-2)] (mput M 20 i0 1 0) O) (kk (k)) 11 [some (.inr (.inr (20, i0)))] [] T c s) (fun kk => rfl)
set_option maxRecDepth 100000 in
theorem e_X2_clear_14 (L : Nat) (xs : Nat → Int32) (E : CallT) (back : BackT) (k : Nat) (i0 : Nat) (M : Mem) (O : Int64) (T : Tmp) (c s : Nat) :
  BK L xs E mi_X2_clear back (k + 4) 14 [some (.inr (.inr (20, i0)))] [] M O T c s =
    some (.inl none, (mput M 20 i0 4 0), O, c, s) :=
  blk_of (fun q => Nat.beq q 14) (f := fun kk => some (.inl none, (mput M 20 i0 4 0), O, c, s)) (fun kk => rfl)
set_option maxRecDepth 100000 in
theorem e_X5_open_0 (L : Nat) (xs : Nat → Int32) (d : Nat) (back : BackT) (k : Nat) (a1 : Int32) (M : Mem) (O : Int64) (T : Tmp) (c s : Nat) :
  BK L xs (EX L xs (d + 1)) mi_X5_open back (k + 6) 0 [some (.inr (.inr (1, 0))), some (.inl a1)] [] M O T c s =
    BK L xs (EX L xs (d + 1)) mi_X5_open back (k) 10 [some (.inr (.inr (1, 0))), some (.inl a1)] [.inl (if (Int32.ofNat 600) < a1 then (Int32.ofNat 600) else a1), .inr (.inr (1, 0))] M O T c s :=
  blk_of (fun q => Nat.beq q 0) (f := fun kk => kk (k) 10 [some (.inr (.inr (1, 0))), some (.inl a1)] [.inl (if (Int32.ofNat 600) < a1 then (Int32.ofNat 600) else a1), .inr (.inr (1, 0))] M O T c s) (fun kk => rfl)
set_option maxRecDepth 100000 in
theorem e_X5_open_10 (L : Nat) (xs : Nat → Int32) (E : CallT) (back : BackT) (k : Nat) (a1 : Int32) (as0 : Int32) (M : Mem) (O : Int64) (T : Tmp) (c s : Nat) :
  BK L xs E mi_X5_open back (k + 14) 10 [some (.inr (.inr (1, 0))), some (.inl a1)] [.inl as0, .inr (.inr (1, 0))] M O T c s =
    some (.inl none, (mput (mput (mput (mput (mput M 1 0 2 as0) 1 0 3 0) 1 0 4 0) 1 0 5 (-1)) 1 0 1 0), O, c, s) :=
  blk_of (fun q => Nat.beq q 10) (f := fun kk => some (.inl none, (mput (mput (mput (mput (mput M 1 0 2 as0) 1 0 3 0) 1 0 4 0) 1 0 5 (-1)) 1 0 1 0), O, c, s)) (fun kk => rfl)
set_option maxRecDepth 100000 in
theorem e2_J7_fill_53178_0 (L : Nat) (xs : Nat → Int32) (E : CallT) (back : BackT) (k : Nat) (i0 : Nat) (a1 : Int32) (M : Mem) (O : Int64) (T : Tmp) (c s : Nat) :
  BK L xs E mi_J7_fill_53178 back (k + 5) 0 [some (.inr (.inr (4, i0))), some (.inl a1), none, none] [] M O T c s =
    BK L xs E mi_J7_fill_53178 back (k) 5 [some (.inr (.inr (4, i0))), some (.inl a1), some (.inl 0), some (.inl (Int32.ofNat 40))] [] M O T c s :=
  blk_of (fun q => Nat.beq q 0 || Nat.beq q 5) (f := fun kk => kk (k) 5 [some (.inr (.inr (4, i0))), some (.inl a1), some (.inl 0), some (.inl (Int32.ofNat 40))] [] M O T c s) (fun kk => rfl)
set_option maxRecDepth 100000 in
theorem e2_J7_fill_53178_5 (L : Nat) (xs : Nat → Int32) (E : CallT) (back : BackT) (k : Nat) (i0 : Nat) (a1 : Int32) (a2 : Int32) (a3 : Int32) (M : Mem) (O : Int64) (T : Tmp) (c s : Nat) :
  BK L xs E mi_J7_fill_53178 back (k + 9) 5 [some (.inr (.inr (4, i0))), some (.inl a1), some (.inl a2), some (.inl a3)] [] M O T c s =
    if a3 ≤ a2 then (some (.inl none, M, O, c, s)) else (if 0 ≤ (a2 : Int32).toInt ∧ (a2 : Int32).toInt < 40 then (back 5 [some (.inr (.inr (4, i0))), some (.inl a1), some (.inl (a2 + 1)), some (.inl a3)] (mput M 4 i0 (a2 : Int32).toNatClampNeg a1) O T c s) else none) :=
  blk_of (fun q => Nat.beq q 5) (f := fun kk => if a3 ≤ a2 then (some (.inl none, M, O, c, s)) else (if 0 ≤ (a2 : Int32).toInt ∧ (a2 : Int32).toInt < 40 then (back 5 [some (.inr (.inr (4, i0))), some (.inl a1), some (.inl (a2 + 1)), some (.inl a3)] (mput M 4 i0 (a2 : Int32).toNatClampNeg a1) O T c s) else none)) (fun kk => rfl)
set_option maxRecDepth 100000 in
theorem e3_J7_fill_53178_0 (L : Nat) (xs : Nat → Int32) (E : CallT) (back : BackT) (k : Nat) (i0 : Nat) (a1 : Int32) (M : Mem) (O : Int64) (T : Tmp) (c s : Nat) :
  BK L xs E mi_J7_fill_53178 back (k + 5) 0 [some (.inr (.inr (5, i0))), some (.inl a1), none, none] [] M O T c s =
    BK L xs E mi_J7_fill_53178 back (k) 5 [some (.inr (.inr (5, i0))), some (.inl a1), some (.inl 0), some (.inl (Int32.ofNat 40))] [] M O T c s :=
  blk_of (fun q => Nat.beq q 0 || Nat.beq q 5) (f := fun kk => kk (k) 5 [some (.inr (.inr (5, i0))), some (.inl a1), some (.inl 0), some (.inl (Int32.ofNat 40))] [] M O T c s) (fun kk => rfl)
set_option maxRecDepth 100000 in
theorem e3_J7_fill_53178_5 (L : Nat) (xs : Nat → Int32) (E : CallT) (back : BackT) (k : Nat) (i0 : Nat) (a1 : Int32) (a2 : Int32) (a3 : Int32) (M : Mem) (O : Int64) (T : Tmp) (c s : Nat) :
  BK L xs E mi_J7_fill_53178 back (k + 9) 5 [some (.inr (.inr (5, i0))), some (.inl a1), some (.inl a2), some (.inl a3)] [] M O T c s =
    if a3 ≤ a2 then (some (.inl none, M, O, c, s)) else (if 0 ≤ (a2 : Int32).toInt ∧ (a2 : Int32).toInt < 40 then (back 5 [some (.inr (.inr (5, i0))), some (.inl a1), some (.inl (a2 + 1)), some (.inl a3)] (mput M 5 i0 (a2 : Int32).toNatClampNeg a1) O T c s) else none) :=
  blk_of (fun q => Nat.beq q 5) (f := fun kk => if a3 ≤ a2 then (some (.inl none, M, O, c, s)) else (if 0 ≤ (a2 : Int32).toInt ∧ (a2 : Int32).toInt < 40 then (back 5 [some (.inr (.inr (5, i0))), some (.inl a1), some (.inl (a2 + 1)), some (.inl a3)] (mput M 5 i0 (a2 : Int32).toNatClampNeg a1) O T c s) else none)) (fun kk => rfl)
set_option maxRecDepth 100000 in
theorem e4_J7_fill_53178_0 (L : Nat) (xs : Nat → Int32) (E : CallT) (back : BackT) (k : Nat) (i0 : Nat) (a1 : Int32) (M : Mem) (O : Int64) (T : Tmp) (c s : Nat) :
  BK L xs E mi_J7_fill_53178 back (k + 5) 0 [some (.inr (.inr (6, i0))), some (.inl a1), none, none] [] M O T c s =
    BK L xs E mi_J7_fill_53178 back (k) 5 [some (.inr (.inr (6, i0))), some (.inl a1), some (.inl 0), some (.inl (Int32.ofNat 40))] [] M O T c s :=
  blk_of (fun q => Nat.beq q 0 || Nat.beq q 5) (f := fun kk => kk (k) 5 [some (.inr (.inr (6, i0))), some (.inl a1), some (.inl 0), some (.inl (Int32.ofNat 40))] [] M O T c s) (fun kk => rfl)
set_option maxRecDepth 100000 in
theorem e4_J7_fill_53178_5 (L : Nat) (xs : Nat → Int32) (E : CallT) (back : BackT) (k : Nat) (i0 : Nat) (a1 : Int32) (a2 : Int32) (a3 : Int32) (M : Mem) (O : Int64) (T : Tmp) (c s : Nat) :
  BK L xs E mi_J7_fill_53178 back (k + 9) 5 [some (.inr (.inr (6, i0))), some (.inl a1), some (.inl a2), some (.inl a3)] [] M O T c s =
    if a3 ≤ a2 then (some (.inl none, M, O, c, s)) else (if 0 ≤ (a2 : Int32).toInt ∧ (a2 : Int32).toInt < 40 then (back 5 [some (.inr (.inr (6, i0))), some (.inl a1), some (.inl (a2 + 1)), some (.inl a3)] (mput M 6 i0 (a2 : Int32).toNatClampNeg a1) O T c s) else none) :=
  blk_of (fun q => Nat.beq q 5) (f := fun kk => if a3 ≤ a2 then (some (.inl none, M, O, c, s)) else (if 0 ≤ (a2 : Int32).toInt ∧ (a2 : Int32).toInt < 40 then (back 5 [some (.inr (.inr (6, i0))), some (.inl a1), some (.inl (a2 + 1)), some (.inl a3)] (mput M 6 i0 (a2 : Int32).toNatClampNeg a1) O T c s) else none)) (fun kk => rfl)
set_option maxRecDepth 100000 in
theorem e5_J7_fill_53178_0 (L : Nat) (xs : Nat → Int32) (E : CallT) (back : BackT) (k : Nat) (i0 : Nat) (a1 : Int32) (M : Mem) (O : Int64) (T : Tmp) (c s : Nat) :
  BK L xs E mi_J7_fill_53178 back (k + 5) 0 [some (.inr (.inr (9, i0))), some (.inl a1), none, none] [] M O T c s =
    BK L xs E mi_J7_fill_53178 back (k) 5 [some (.inr (.inr (9, i0))), some (.inl a1), some (.inl 0), some (.inl (Int32.ofNat 24))] [] M O T c s :=
  blk_of (fun q => Nat.beq q 0 || Nat.beq q 5) (f := fun kk => kk (k) 5 [some (.inr (.inr (9, i0))), some (.inl a1), some (.inl 0), some (.inl (Int32.ofNat 24))] [] M O T c s) (fun kk => rfl)
set_option maxRecDepth 100000 in
theorem e5_J7_fill_53178_5 (L : Nat) (xs : Nat → Int32) (E : CallT) (back : BackT) (k : Nat) (i0 : Nat) (a1 : Int32) (a2 : Int32) (a3 : Int32) (M : Mem) (O : Int64) (T : Tmp) (c s : Nat) :
  BK L xs E mi_J7_fill_53178 back (k + 9) 5 [some (.inr (.inr (9, i0))), some (.inl a1), some (.inl a2), some (.inl a3)] [] M O T c s =
    if a3 ≤ a2 then (some (.inl none, M, O, c, s)) else (if 0 ≤ (a2 : Int32).toInt ∧ (a2 : Int32).toInt < 24 then (back 5 [some (.inr (.inr (9, i0))), some (.inl a1), some (.inl (a2 + 1)), some (.inl a3)] (mput M 9 i0 (a2 : Int32).toNatClampNeg a1) O T c s) else none) :=
  blk_of (fun q => Nat.beq q 5) (f := fun kk => if a3 ≤ a2 then (some (.inl none, M, O, c, s)) else (if 0 ≤ (a2 : Int32).toInt ∧ (a2 : Int32).toInt < 24 then (back 5 [some (.inr (.inr (9, i0))), some (.inl a1), some (.inl (a2 + 1)), some (.inl a3)] (mput M 9 i0 (a2 : Int32).toNatClampNeg a1) O T c s) else none)) (fun kk => rfl)
set_option maxRecDepth 100000 in
theorem e_X1_clear_0 (L : Nat) (xs : Nat → Int32) (E : CallT) (back : BackT) (k : Nat) (i0 : Nat) (M : Mem) (O : Int64) (T : Tmp) (c s : Nat) :
  BK L xs E mi_X1_clear back (k + 7) 0 [some (.inr (.inr (3, i0)))] [] M O T c s =
    xret tkT mi_X1_clear 2 (E q_J7_fill_53178 [.inr (.inr (4, i0)), .inl 0] (mput M 3 i0 0 20) O) (BK L xs E mi_X1_clear back (k)) 11 [some (.inr (.inr (3, i0)))] [] T c s :=
  blk_of (fun q => Nat.beq q 0) (f := fun kk => xret tkT mi_X1_clear 2 (E q_J7_fill_53178 [.inr (.inr (4, i0)), .inl 0] (mput M 3 i0 0 20) O) (kk (k)) 11 [some (.inr (.inr (3, i0)))] [] T c s) (fun kk => rfl)
set_option maxRecDepth 100000 in
theorem e_X1_clear_14 (L : Nat) (xs : Nat → Int32) (E : CallT) (back : BackT) (k : Nat) (i0 : Nat) (M : Mem) (O : Int64) (T : Tmp) (c s : Nat) :
  BK L xs E mi_X1_clear back (k + 4) 14 [some (.inr (.inr (3, i0)))] [] M O T c s =
    xret tkT mi_X1_clear 2 (E q_J7_fill_53178 [.inr (.inr (5, i0)), .inl 0] M O) (BK L xs E mi_X1_clear back (k)) 19 [some (.inr (.inr (3, i0)))] [] T c s :=
  blk_of (fun q => Nat.beq q 14) (f := fun kk => xret tkT mi_X1_clear 2 (E q_J7_fill_53178 [.inr (.inr (5, i0)), .inl 0] M O) (kk (k)) 19 [some (.inr (.inr (3, i0)))] [] T c s) (fun kk => rfl)
set_option maxRecDepth 100000 in
theorem e_X1_clear_22 (L : Nat) (xs : Nat → Int32) (E : CallT) (back : BackT) (k : Nat) (i0 : Nat) (M : Mem) (O : Int64) (T : Tmp) (c s : Nat) :
  BK L xs E mi_X1_clear back (k + 4) 22 [some (.inr (.inr (3, i0)))] [] M O T c s =
    xret tkT mi_X1_clear 2 (E q_J7_fill_53178 [.inr (.inr (6, i0)), .inl 0] M O) (BK L xs E mi_X1_clear back (k)) 27 [some (.inr (.inr (3, i0)))] [] T c s :=
  blk_of (fun q => Nat.beq q 22) (f := fun kk => xret tkT mi_X1_clear 2 (E q_J7_fill_53178 [.inr (.inr (6, i0)), .inl 0] M O) (kk (k)) 27 [some (.inr (.inr (3, i0)))] [] T c s) (fun kk => rfl)
set_option maxRecDepth 100000 in
theorem e_X1_clear_30 (L : Nat) (xs : Nat → Int32) (E : CallT) (back : BackT) (k : Nat) (i0 : Nat) (M : Mem) (O : Int64) (T : Tmp) (c s : Nat) :
  BK L xs E mi_X1_clear back (k + 4) 30 [some (.inr (.inr (3, i0)))] [] M O T c s =
    xret tkT mi_X1_clear 2 (E q_J7_fill_53178 [.inr (.inr (9, i0)), .inl (-1)] M O) (BK L xs E mi_X1_clear back (k)) 35 [some (.inr (.inr (3, i0)))] [] T c s :=
  blk_of (fun q => Nat.beq q 30) (f := fun kk => xret tkT mi_X1_clear 2 (E q_J7_fill_53178 [.inr (.inr (9, i0)), .inl (-1)] M O) (kk (k)) 35 [some (.inr (.inr (3, i0)))] [] T c s) (fun kk => rfl)
set_option maxRecDepth 100000 in
theorem e_X1_clear_38 (L : Nat) (xs : Nat → Int32) (E : CallT) (back : BackT) (k : Nat) (i0 : Nat) (M : Mem) (O : Int64) (T : Tmp) (c s : Nat) :
  BK L xs E mi_X1_clear back (k + 10) 38 [some (.inr (.inr (3, i0)))] [] M O T c s =
    some (.inl none, (mput (mput (mput M 3 i0 4 0) 3 i0 8 0) 3 i0 13 0), O, c, s) :=
  blk_of (fun q => Nat.beq q 38) (f := fun kk => some (.inl none, (mput (mput (mput M 3 i0 4 0) 3 i0 8 0) 3 i0 13 0), O, c, s)) (fun kk => rfl)
set_option maxRecDepth 100000 in
theorem e_X5_isFrom_0 (L : Nat) (xs : Nat → Int32) (E : CallT) (back : BackT) (k : Nat) (a1 : Int32) (a2 : Int32) (M : Mem) (O : Int64) (T : Tmp) (c s : Nat) :
  BK L xs E mi_X5_isFrom back (k + 21) 0 [some (.inr (.inr (1, 0))), some (.inl a1), some (.inl a2)] [] M O T c s =
    if (M 1 0 2) ≤ (M 1 0 3) then (BK L xs E mi_X5_isFrom back (k + 16) 41 [some (.inr (.inr (1, 0))), some (.inl a1), some (.inl a2)] [] M O T c s) else (if 0 ≤ ((M 1 0 3) : Int32).toInt ∧ ((M 1 0 3) : Int32).toInt < 600 then (if (M 2 0 ((M 1 0 3) : Int32).toNatClampNeg) < a1 then (BK L xs E mi_X5_isFrom back (k + 9) 41 [some (.inr (.inr (1, 0))), some (.inl a1), some (.inl a2)] [] M O T c s) else (if 0 ≤ ((M 1 0 3) : Int32).toInt ∧ ((M 1 0 3) : Int32).toInt < 600 then (if a2 < (M 2 0 ((M 1 0 3) : Int32).toNatClampNeg) then (BK L xs E mi_X5_isFrom back (k + 2) 41 [some (.inr (.inr (1, 0))), some (.inl a1), some (.inl a2)] [] M O T c s) else (BK L xs E mi_X5_isFrom back (k) 42 [some (.inr (.inr (1, 0))), some (.inl a1), some (.inl a2)] [.inl 1] M O T c s)) else none)) else none) :=
  blk_of (fun q => Nat.beq q 0 || Nat.beq q 41 || Nat.beq q 42) (f := fun kk => if (M 1 0 2) ≤ (M 1 0 3) then (kk (k + 16) 41 [some (.inr (.inr (1, 0))), some (.inl a1), some (.inl a2)] [] M O T c s) else (if 0 ≤ ((M 1 0 3) : Int32).toInt ∧ ((M 1 0 3) : Int32).toInt < 600 then (if (M 2 0 ((M 1 0 3) : Int32).toNatClampNeg) < a1 then (kk (k + 9) 41 [some (.inr (.inr (1, 0))), some (.inl a1), some (.inl a2)] [] M O T c s) else (if 0 ≤ ((M 1 0 3) : Int32).toInt ∧ ((M 1 0 3) : Int32).toInt < 600 then (if a2 < (M 2 0 ((M 1 0 3) : Int32).toNatClampNeg) then (kk (k + 2) 41 [some (.inr (.inr (1, 0))), some (.inl a1), some (.inl a2)] [] M O T c s) else (kk (k) 42 [some (.inr (.inr (1, 0))), some (.inl a1), some (.inl a2)] [.inl 1] M O T c s)) else none)) else none)) (fun kk => rfl)
set_option maxRecDepth 100000 in
theorem e_X5_isFrom_41 (L : Nat) (xs : Nat → Int32) (E : CallT) (back : BackT) (k : Nat) (a1 : Int32) (a2 : Int32) (M : Mem) (O : Int64) (T : Tmp) (c s : Nat) :
  BK L xs E mi_X5_isFrom back (k + 1) 41 [some (.inr (.inr (1, 0))), some (.inl a1), some (.inl a2)] [] M O T c s =
    BK L xs E mi_X5_isFrom back (k) 42 [some (.inr (.inr (1, 0))), some (.inl a1), some (.inl a2)] [.inl 0] M O T c s :=
  blk_of (fun q => Nat.beq q 41 || Nat.beq q 42) (f := fun kk => kk (k) 42 [some (.inr (.inr (1, 0))), some (.inl a1), some (.inl a2)] [.inl 0] M O T c s) (fun kk => rfl)
set_option maxRecDepth 100000 in
theorem e_X5_isFrom_42 (L : Nat) (xs : Nat → Int32) (E : CallT) (back : BackT) (k : Nat) (a1 : Int32) (a2 : Int32) (as0 : Int32) (M : Mem) (O : Int64) (T : Tmp) (c s : Nat) :
  BK L xs E mi_X5_isFrom back (k + 1) 42 [some (.inr (.inr (1, 0))), some (.inl a1), some (.inl a2)] [.inl as0] M O T c s =
    if (as0 : Int32) = 0 ∨ (as0 : Int32) = 1 then some (.inl (some (.inl as0)), M, O, c, s) else none :=
  blk_of (fun q => Nat.beq q 41 || Nat.beq q 42) (f := fun kk => if (as0 : Int32) = 0 ∨ (as0 : Int32) = 1 then some (.inl (some (.inl as0)), M, O, c, s) else none) (fun kk => rfl)
set_option maxRecDepth 100000 in
theorem e_X5_passBlanks_0 (L : Nat) (xs : Nat → Int32) (E : CallT) (back : BackT) (k : Nat)  (M : Mem) (O : Int64) (T : Tmp) (c s : Nat) :
  BK L xs E mi_X5_passBlanks back (k + 9) 0 [some (.inr (.inr (1, 0)))] [] M O T c s =
    if (M 1 0 2) ≤ (M 1 0 3) then (BK L xs E mi_X5_passBlanks back (k + 4) 35 [some (.inr (.inr (1, 0)))] [] M O T c s) else (xret tkT mi_X5_passBlanks 0 (E q_X5_isFrom [.inr (.inr (1, 0)), .inl 32, .inl 32] M O) (BK L xs E mi_X5_passBlanks back (k)) 16 [some (.inr (.inr (1, 0)))] [] T c s) :=
  blk_of (fun q => Nat.beq q 0 || Nat.beq q 35) (f := fun kk => if (M 1 0 2) ≤ (M 1 0 3) then (kk (k + 4) 35 [some (.inr (.inr (1, 0)))] [] M O T c s) else (xret tkT mi_X5_passBlanks 0 (E q_X5_isFrom [.inr (.inr (1, 0)), .inl 32, .inl 32] M O) (kk (k)) 16 [some (.inr (.inr (1, 0)))] [] T c s)) (fun kk => rfl)
set_option maxRecDepth 100000 in
theorem e_X5_passBlanks_35 (L : Nat) (xs : Nat → Int32) (E : CallT) (back : BackT) (k : Nat)  (M : Mem) (O : Int64) (T : Tmp) (c s : Nat) :
  BK L xs E mi_X5_passBlanks back (k + 1) 35 [some (.inr (.inr (1, 0)))] [] M O T c s =
    some (.inl none, M, O, c, s) :=
  blk_of (fun q => Nat.beq q 0 || Nat.beq q 35) (f := fun kk => some (.inl none, M, O, c, s)) (fun kk => rfl)
set_option maxRecDepth 100000 in
theorem e_X5_passBlanks_19 (L : Nat) (xs : Nat → Int32) (E : CallT) (back : BackT) (k : Nat) (as0 : Int32) (M : Mem) (O : Int64) (T : Tmp) (c s : Nat) :
  BK L xs E mi_X5_passBlanks back (k + 8) 19 [some (.inr (.inr (1, 0)))] [.inl as0] M O T c s =
    if as0 = 0 then (BK L xs E mi_X5_passBlanks back (k + 7) 35 [some (.inr (.inr (1, 0)))] [] M O T c s) else (back 0 [some (.inr (.inr (1, 0)))] (mput M 1 0 3 ((M 1 0 3) + 1)) O T c s) :=
  blk_of (fun q => Nat.beq q 0 || Nat.beq q 19 || Nat.beq q 35) (f := fun kk => if as0 = 0 then (kk (k + 7) 35 [some (.inr (.inr (1, 0)))] [] M O T c s) else (back 0 [some (.inr (.inr (1, 0)))] (mput M 1 0 3 ((M 1 0 3) + 1)) O T c s)) (fun kk => rfl)
set_option maxRecDepth 100000 in
theorem e_X5_hasMore_0 (L : Nat) (xs : Nat → Int32) (E : CallT) (back : BackT) (k : Nat)  (M : Mem) (O : Int64) (T : Tmp) (c s : Nat) :
  BK L xs E mi_X5_hasMore back (k + 2) 0 [some (.inr (.inr (1, 0)))] [] M O T c s =
    xret tkT mi_X5_hasMore 0 (E q_X5_passBlanks [.inr (.inr (1, 0))] M O) (BK L xs E mi_X5_hasMore back (k)) 1 [some (.inr (.inr (1, 0)))] [] T c s :=
  blk_of (fun q => Nat.beq q 0 || Nat.beq q 26 || Nat.beq q 27) (f := fun kk => xret tkT mi_X5_hasMore 0 (E q_X5_passBlanks [.inr (.inr (1, 0))] M O) (kk (k)) 1 [some (.inr (.inr (1, 0)))] [] T c s) (fun kk => rfl)
set_option maxRecDepth 100000 in
theorem e_X5_hasMore_4 (L : Nat) (xs : Nat → Int32) (E : CallT) (back : BackT) (k : Nat)  (M : Mem) (O : Int64) (T : Tmp) (c s : Nat) :
  BK L xs E mi_X5_hasMore back (k + 10) 4 [some (.inr (.inr (1, 0)))] [] M O T c s =
    if (M 1 0 4) = 0 then (if (M 1 0 2) ≤ (M 1 0 3) then (BK L xs E mi_X5_hasMore back (k + 2) 26 [some (.inr (.inr (1, 0)))] [] M O T c s) else (BK L xs E mi_X5_hasMore back (k) 27 [some (.inr (.inr (1, 0)))] [.inl 1] M O T c s)) else (BK L xs E mi_X5_hasMore back (k + 7) 26 [some (.inr (.inr (1, 0)))] [] M O T c s) :=
  blk_of (fun q => Nat.beq q 4 || Nat.beq q 26 || Nat.beq q 27) (f := fun kk => if (M 1 0 4) = 0 then (if (M 1 0 2) ≤ (M 1 0 3) then (kk (k + 2) 26 [some (.inr (.inr (1, 0)))] [] M O T c s) else (kk (k) 27 [some (.inr (.inr (1, 0)))] [.inl 1] M O T c s)) else (kk (k + 7) 26 [some (.inr (.inr (1, 0)))] [] M O T c s)) (fun kk => rfl)
set_option maxRecDepth 100000 in
theorem e_X5_hasMore_26 (L : Nat) (xs : Nat → Int32) (E : CallT) (back : BackT) (k : Nat)  (M : Mem) (O : Int64) (T : Tmp) (c s : Nat) :
  BK L xs E mi_X5_hasMore back (k + 1) 26 [some (.inr (.inr (1, 0)))] [] M O T c s =
    BK L xs E mi_X5_hasMore back (k) 27 [some (.inr (.inr (1, 0)))] [.inl 0] M O T c s :=
  blk_of (fun q => Nat.beq q 26 || Nat.beq q 27) (f := fun kk => kk (k) 27 [some (.inr (.inr (1, 0)))] [.inl 0] M O T c s) (fun kk => rfl)
set_option maxRecDepth 100000 in
theorem e_X5_hasMore_27 (L : Nat) (xs : Nat → Int32) (E : CallT) (back : BackT) (k : Nat) (as0 : Int32) (M : Mem) (O : Int64) (T : Tmp) (c s : Nat) :
  BK L xs E mi_X5_hasMore back (k + 1) 27 [some (.inr (.inr (1, 0)))] [.inl as0] M O T c s =
    if (as0 : Int32) = 0 ∨ (as0 : Int32) = 1 then some (.inl (some (.inl as0)), M, O, c, s) else none :=
  blk_of (fun q => Nat.beq q 26 || Nat.beq q 27) (f := fun kk => if (as0 : Int32) = 0 ∨ (as0 : Int32) = 1 then some (.inl (some (.inl as0)), M, O, c, s) else none) (fun kk => rfl)
set_option maxRecDepth 100000 in
theorem e_X5_blame_0 (L : Nat) (xs : Nat → Int32) (E : CallT) (back : BackT) (k : Nat) (a1 : Int32) (a2 : Int32) (M : Mem) (O : Int64) (T : Tmp) (c s : Nat) :
  BK L xs E mi_X5_blame back (k + 9) 0 [some (.inr (.inr (1, 0))), some (.inl a1), some (.inl a2)] [] M O T c s =
    if (M 1 0 4) = 0 then (BK L xs E mi_X5_blame back (k) 17 [some (.inr (.inr (1, 0))), some (.inl a1), some (.inl a2)] [] (mput (mput M 1 0 4 a1) 1 0 5 a2) O T c s) else (BK L xs E mi_X5_blame back (k + 6) 17 [some (.inr (.inr (1, 0))), some (.inl a1), some (.inl a2)] [] M O T c s) :=
  blk_of (fun q => Nat.beq q 0 || Nat.beq q 17) (f := fun kk => if (M 1 0 4) = 0 then (kk (k) 17 [some (.inr (.inr (1, 0))), some (.inl a1), some (.inl a2)] [] (mput (mput M 1 0 4 a1) 1 0 5 a2) O T c s) else (kk (k + 6) 17 [some (.inr (.inr (1, 0))), some (.inl a1), some (.inl a2)] [] M O T c s)) (fun kk => rfl)
set_option maxRecDepth 100000 in
theorem e_X5_blame_17 (L : Nat) (xs : Nat → Int32) (E : CallT) (back : BackT) (k : Nat) (a1 : Int32) (a2 : Int32) (M : Mem) (O : Int64) (T : Tmp) (c s : Nat) :
  BK L xs E mi_X5_blame back (k + 1) 17 [some (.inr (.inr (1, 0))), some (.inl a1), some (.inl a2)] [] M O T c s =
    some (.inl none, M, O, c, s) :=
  blk_of (fun q => Nat.beq q 17) (f := fun kk => some (.inl none, M, O, c, s)) (fun kk => rfl)
set_option maxRecDepth 100000 in
theorem e_X5_number_0 (L : Nat) (xs : Nat → Int32) (E : CallT) (back : BackT) (k : Nat) (a1 : Int32) (a2 : Int32) (M : Mem) (O : Int64) (T : Tmp) (c s : Nat) :
  BK L xs E mi_X5_number back (k + 2) 0 [some (.inr (.inr (1, 0))), some (.inl a1), some (.inl a2), none, none] [] M O T c s =
    xret tkT mi_X5_number 0 (E q_X5_passBlanks [.inr (.inr (1, 0))] M O) (BK L xs E mi_X5_number back (k)) 1 [some (.inr (.inr (1, 0))), some (.inl a1), some (.inl a2), none, none] [] T c s :=
  blk_of (fun q => Nat.beq q 0 || Nat.beq q 12 || Nat.beq q 72 || Nat.beq q 101 || Nat.beq q 107 || Nat.beq q 120) (f := fun kk => xret tkT mi_X5_number 0 (E q_X5_passBlanks [.inr (.inr (1, 0))] M O) (kk (k)) 1 [some (.inr (.inr (1, 0))), some (.inl a1), some (.inl a2), none, none] [] T c s) (fun kk => rfl)
set_option maxRecDepth 100000 in
theorem e_X5_number_4 (L : Nat) (xs : Nat → Int32) (E : CallT) (back : BackT) (k : Nat) (a1 : Int32) (a2 : Int32) (u3 : Option AV) (u4 : Option AV) (M : Mem) (O : Int64) (T : Tmp) (c s : Nat) :
  BK L xs E mi_X5_number back (k + 5) 4 [some (.inr (.inr (1, 0))), some (.inl a1), some (.inl a2), u3, u4] [] M O T c s =
    BK L xs E mi_X5_number back (k) 12 [some (.inr (.inr (1, 0))), some (.inl a1), some (.inl a2), some (.inl (M 1 0 3)), some (.inl 0)] [] M O T c s :=
  blk_of (fun q => Nat.beq q 4 || Nat.beq q 12 || Nat.beq q 72 || Nat.beq q 101 || Nat.beq q 107 || Nat.beq q 120) (f := fun kk => kk (k) 12 [some (.inr (.inr (1, 0))), some (.inl a1), some (.inl a2), some (.inl (M 1 0 3)), some (.inl 0)] [] M O T c s) (fun kk => rfl)
set_option maxRecDepth 100000 in
theorem e_X5_number_12 (L : Nat) (xs : Nat → Int32) (E : CallT) (back : BackT) (k : Nat) (a1 : Int32) (a2 : Int32) (a3 : Int32) (a4 : Int32) (M : Mem) (O : Int64) (T : Tmp) (c s : Nat) :
  BK L xs E mi_X5_number back (k + 9) 12 [some (.inr (.inr (1, 0))), some (.inl a1), some (.inl a2), some (.inl a3), some (.inl a4)] [] M O T c s =
    if (M 1 0 2) ≤ (M 1 0 3) then (BK L xs E mi_X5_number back (k + 4) 72 [some (.inr (.inr (1, 0))), some (.inl a1), some (.inl a2), some (.inl a3), some (.inl a4)] [] M O T c s) else (xret tkT mi_X5_number 0 (E q_X5_isFrom [.inr (.inr (1, 0)), .inl 48, .inl 57] M O) (BK L xs E mi_X5_number back (k)) 28 [some (.inr (.inr (1, 0))), some (.inl a1), some (.inl a2), some (.inl a3), some (.inl a4)] [] T c s) :=
  blk_of (fun q => Nat.beq q 12 || Nat.beq q 72 || Nat.beq q 101 || Nat.beq q 107 || Nat.beq q 120) (f := fun kk => if (M 1 0 2) ≤ (M 1 0 3) then (kk (k + 4) 72 [some (.inr (.inr (1, 0))), some (.inl a1), some (.inl a2), some (.inl a3), some (.inl a4)] [] M O T c s) else (xret tkT mi_X5_number 0 (E q_X5_isFrom [.inr (.inr (1, 0)), .inl 48, .inl 57] M O) (kk (k)) 28 [some (.inr (.inr (1, 0))), some (.inl a1), some (.inl a2), some (.inl a3), some (.inl a4)] [] T c s)) (fun kk => rfl)
set_option maxRecDepth 100000 in
theorem e_X5_number_72 (L : Nat) (xs : Nat → Int32) (E : CallT) (back : BackT) (k : Nat) (a1 : Int32) (a2 : Int32) (a3 : Int32) (a4 : Int32) (M : Mem) (O : Int64) (T : Tmp) (c s : Nat) :
  BK L xs E mi_X5_number back (k + 10) 72 [some (.inr (.inr (1, 0))), some (.inl a1), some (.inl a2), some (.inl a3), some (.inl a4)] [] M O T c s =
    if (M 1 0 3) = a3 then (xret tkT mi_X5_number 0 (E q_X5_blame [.inr (.inr (1, 0)), .inl 1, .inl a3] M O) (BK L xs E mi_X5_number back (k + 2)) 83 [some (.inr (.inr (1, 0))), some (.inl a1), some (.inl a2), some (.inl a3), some (.inl a4)] [] T c s) else (if a4 < a1 then (BK L xs E mi_X5_number back (k + 3) 101 [some (.inr (.inr (1, 0))), some (.inl a1), some (.inl a2), some (.inl a3), some (.inl a4)] [] M O T c s) else (if a4 ≤ a2 then (BK L xs E mi_X5_number back (k) 107 [some (.inr (.inr (1, 0))), some (.inl a1), some (.inl a2), some (.inl a3), some (.inl a4)] [] M O T c s) else (BK L xs E mi_X5_number back (k) 101 [some (.inr (.inr (1, 0))), some (.inl a1), some (.inl a2), some (.inl a3), some (.inl a4)] [] M O T c s))) :=
  blk_of (fun q => Nat.beq q 12 || Nat.beq q 72 || Nat.beq q 101 || Nat.beq q 107 || Nat.beq q 120) (f := fun kk => if (M 1 0 3) = a3 then (xret tkT mi_X5_number 0 (E q_X5_blame [.inr (.inr (1, 0)), .inl 1, .inl a3] M O) (kk (k + 2)) 83 [some (.inr (.inr (1, 0))), some (.inl a1), some (.inl a2), some (.inl a3), some (.inl a4)] [] T c s) else (if a4 < a1 then (kk (k + 3) 101 [some (.inr (.inr (1, 0))), some (.inl a1), some (.inl a2), some (.inl a3), some (.inl a4)] [] M O T c s) else (if a4 ≤ a2 then (kk (k) 107 [some (.inr (.inr (1, 0))), some (.inl a1), some (.inl a2), some (.inl a3), some (.inl a4)] [] M O T c s) else (kk (k) 101 [some (.inr (.inr (1, 0))), some (.inl a1), some (.inl a2), some (.inl a3), some (.inl a4)] [] M O T c s)))) (fun kk => rfl)
set_option maxRecDepth 100000 in
theorem e_X5_number_31 (L : Nat) (xs : Nat → Int32) (d : Nat) (back : BackT) (k : Nat) (a1 : Int32) (a2 : Int32) (a3 : Int32) (a4 : Int32) (as0 : Int32) (M : Mem) (O : Int64) (T : Tmp) (c s : Nat) :
  BK L xs (EX L xs (d + 1)) mi_X5_number back (k + 14) 31 [some (.inr (.inr (1, 0))), some (.inl a1), some (.inl a2), some (.inl a3), some (.inl a4)] [.inl as0] M O T c s =
    if as0 = 0 then (BK L xs (EX L xs (d + 1)) mi_X5_number back (k + 13) 72 [some (.inr (.inr (1, 0))), some (.inl a1), some (.inl a2), some (.inl a3), some (.inl a4)] [] M O T c s) else (if 0 ≤ ((M 1 0 3) : Int32).toInt ∧ ((M 1 0 3) : Int32).toInt < 600 then (BK L xs (EX L xs (d + 1)) mi_X5_number back (k) 57 [some (.inr (.inr (1, 0))), some (.inl a1), some (.inl a2), some (.inl a3), some (.inl a4)] [.inl (if (((a4 * 10) + (M 2 0 ((M 1 0 3) : Int32).toNatClampNeg)) - 48) < 99999999 then (((a4 * 10) + (M 2 0 ((M 1 0 3) : Int32).toNatClampNeg)) - 48) else 99999999)] M O T c s) else none) :=
  blk_of (fun q => Nat.beq q 12 || Nat.beq q 31 || Nat.beq q 72 || Nat.beq q 101 || Nat.beq q 107 || Nat.beq q 120) (f := fun kk => if as0 = 0 then (kk (k + 13) 72 [some (.inr (.inr (1, 0))), some (.inl a1), some (.inl a2), some (.inl a3), some (.inl a4)] [] M O T c s) else (if 0 ≤ ((M 1 0 3) : Int32).toInt ∧ ((M 1 0 3) : Int32).toInt < 600 then (kk (k) 57 [some (.inr (.inr (1, 0))), some (.inl a1), some (.inl a2), some (.inl a3), some (.inl a4)] [.inl (if (((a4 * 10) + (M 2 0 ((M 1 0 3) : Int32).toNatClampNeg)) - 48) < 99999999 then (((a4 * 10) + (M 2 0 ((M 1 0 3) : Int32).toNatClampNeg)) - 48) else 99999999)] M O T c s) else none)) (fun kk => rfl)
set_option maxRecDepth 100000 in
theorem e_X5_number_86 (L : Nat) (xs : Nat → Int32) (E : CallT) (back : BackT) (k : Nat) (a1 : Int32) (a2 : Int32) (a3 : Int32) (a4 : Int32) (M : Mem) (O : Int64) (T : Tmp) (c s : Nat) :
  BK L xs E mi_X5_number back (k + 1) 86 [some (.inr (.inr (1, 0))), some (.inl a1), some (.inl a2), some (.inl a3), some (.inl a4)] [] M O T c s =
    BK L xs E mi_X5_number back (k) 107 [some (.inr (.inr (1, 0))), some (.inl a1), some (.inl a2), some (.inl a3), some (.inl a4)] [] M O T c s :=
  blk_of (fun q => Nat.beq q 12 || Nat.beq q 72 || Nat.beq q 86 || Nat.beq q 101 || Nat.beq q 107 || Nat.beq q 120) (f := fun kk => kk (k) 107 [some (.inr (.inr (1, 0))), some (.inl a1), some (.inl a2), some (.inl a3), some (.inl a4)] [] M O T c s) (fun kk => rfl)
set_option maxRecDepth 100000 in
theorem e_X5_number_101 (L : Nat) (xs : Nat → Int32) (E : CallT) (back : BackT) (k : Nat) (a1 : Int32) (a2 : Int32) (a3 : Int32) (a4 : Int32) (M : Mem) (O : Int64) (T : Tmp) (c s : Nat) :
  BK L xs E mi_X5_number back (k + 4) 101 [some (.inr (.inr (1, 0))), some (.inl a1), some (.inl a2), some (.inl a3), some (.inl a4)] [] M O T c s =
    xret tkT mi_X5_number 0 (E q_X5_blame [.inr (.inr (1, 0)), .inl 2, .inl a3] M O) (BK L xs E mi_X5_number back (k)) 104 [some (.inr (.inr (1, 0))), some (.inl a1), some (.inl a2), some (.inl a3), some (.inl a4)] [] T c s :=
  blk_of (fun q => Nat.beq q 12 || Nat.beq q 72 || Nat.beq q 101 || Nat.beq q 107 || Nat.beq q 120) (f := fun kk => xret tkT mi_X5_number 0 (E q_X5_blame [.inr (.inr (1, 0)), .inl 2, .inl a3] M O) (kk (k)) 104 [some (.inr (.inr (1, 0))), some (.inl a1), some (.inl a2), some (.inl a3), some (.inl a4)] [] T c s) (fun kk => rfl)
set_option maxRecDepth 100000 in
theorem e_X5_number_107 (L : Nat) (xs : Nat → Int32) (E : CallT) (back : BackT) (k : Nat) (a1 : Int32) (a2 : Int32) (a3 : Int32) (a4 : Int32) (M : Mem) (O : Int64) (T : Tmp) (c s : Nat) :
  BK L xs E mi_X5_number back (k + 5) 107 [some (.inr (.inr (1, 0))), some (.inl a1), some (.inl a2), some (.inl a3), some (.inl a4)] [] M O T c s =
    if (M 1 0 4) = 0 then (BK L xs E mi_X5_number back (k) 120 [some (.inr (.inr (1, 0))), some (.inl a1), some (.inl a2), some (.inl a3), some (.inl a4)] [.inl a4] M O T c s) else (BK L xs E mi_X5_number back (k + 1) 120 [some (.inr (.inr (1, 0))), some (.inl a1), some (.inl a2), some (.inl a3), some (.inl a4)] [.inl a1] M O T c s) :=
  blk_of (fun q => Nat.beq q 12 || Nat.beq q 72 || Nat.beq q 101 || Nat.beq q 107 || Nat.beq q 120) (f := fun kk => if (M 1 0 4) = 0 then (kk (k) 120 [some (.inr (.inr (1, 0))), some (.inl a1), some (.inl a2), some (.inl a3), some (.inl a4)] [.inl a4] M O T c s) else (kk (k + 1) 120 [some (.inr (.inr (1, 0))), some (.inl a1), some (.inl a2), some (.inl a3), some (.inl a4)] [.inl a1] M O T c s)) (fun kk => rfl)
set_option maxRecDepth 100000 in
theorem e_X5_number_57 (L : Nat) (xs : Nat → Int32) (E : CallT) (back : BackT) (k : Nat) (a1 : Int32) (a2 : Int32) (a3 : Int32) (a4 : Int32) (as0 : Int32) (M : Mem) (O : Int64) (T : Tmp) (c s : Nat) :
  BK L xs E mi_X5_number back (k + 8) 57 [some (.inr (.inr (1, 0))), some (.inl a1), some (.inl a2), some (.inl a3), some (.inl a4)] [.inl as0] M O T c s =
    back 12 [some (.inr (.inr (1, 0))), some (.inl a1), some (.inl a2), some (.inl a3), some (.inl as0)] (mput M 1 0 3 ((M 1 0 3) + 1)) O T c s :=
  blk_of (fun q => Nat.beq q 12 || Nat.beq q 57 || Nat.beq q 72 || Nat.beq q 101 || Nat.beq q 107 || Nat.beq q 120) (f := fun kk => back 12 [some (.inr (.inr (1, 0))), some (.inl a1), some (.inl a2), some (.inl a3), some (.inl as0)] (mput M 1 0 3 ((M 1 0 3) + 1)) O T c s) (fun kk => rfl)
set_option maxRecDepth 100000 in
theorem e_X5_number_120 (L : Nat) (xs : Nat → Int32) (E : CallT) (back : BackT) (k : Nat) (a1 : Int32) (a2 : Int32) (a3 : Int32) (a4 : Int32) (as0 : Int32) (M : Mem) (O : Int64) (T : Tmp) (c s : Nat) :
  BK L xs E mi_X5_number back (k + 1) 120 [some (.inr (.inr (1, 0))), some (.inl a1), some (.inl a2), some (.inl a3), some (.inl a4)] [.inl as0] M O T c s =
    some (.inl (some (.inl as0)), M, O, c, s) :=
  blk_of (fun q => Nat.beq q 12 || Nat.beq q 72 || Nat.beq q 101 || Nat.beq q 107 || Nat.beq q 120) (f := fun kk => some (.inl (some (.inl as0)), M, O, c, s)) (fun kk => rfl)
set_option maxRecDepth 100000 in
theorem e_X5_closes_0 (L : Nat) (xs : Nat → Int32) (E : CallT) (back : BackT) (k : Nat)  (M : Mem) (O : Int64) (T : Tmp) (c s : Nat) :
  BK L xs E mi_X5_closes back (k + 2) 0 [some (.inr (.inr (1, 0)))] [] M O T c s =
    xret tkT mi_X5_closes 0 (E q_X5_passBlanks [.inr (.inr (1, 0))] M O) (BK L xs E mi_X5_closes back (k)) 1 [some (.inr (.inr (1, 0)))] [] T c s :=
  blk_of (fun q => Nat.beq q 0 || Nat.beq q 24 || Nat.beq q 46) (f := fun kk => xret tkT mi_X5_closes 0 (E q_X5_passBlanks [.inr (.inr (1, 0))] M O) (kk (k)) 1 [some (.inr (.inr (1, 0)))] [] T c s) (fun kk => rfl)
set_option maxRecDepth 100000 in
theorem e_X5_closes_4 (L : Nat) (xs : Nat → Int32) (E : CallT) (back : BackT) (k : Nat)  (M : Mem) (O : Int64) (T : Tmp) (c s : Nat) :
  BK L xs E mi_X5_closes back (k + 4) 4 [some (.inr (.inr (1, 0)))] [] M O T c s =
    xret tkT mi_X5_closes 0 (E q_X5_isFrom [.inr (.inr (1, 0)), .inl 59, .inl 59] M O) (BK L xs E mi_X5_closes back (k)) 9 [some (.inr (.inr (1, 0)))] [] T c s :=
  blk_of (fun q => Nat.beq q 4 || Nat.beq q 24 || Nat.beq q 46) (f := fun kk => xret tkT mi_X5_closes 0 (E q_X5_isFrom [.inr (.inr (1, 0)), .inl 59, .inl 59] M O) (kk (k)) 9 [some (.inr (.inr (1, 0)))] [] T c s) (fun kk => rfl)
set_option maxRecDepth 100000 in
theorem e_X5_closes_12 (L : Nat) (xs : Nat → Int32) (E : CallT) (back : BackT) (k : Nat) (as0 : Int32) (M : Mem) (O : Int64) (T : Tmp) (c s : Nat) :
  BK L xs E mi_X5_closes back (k + 6) 12 [some (.inr (.inr (1, 0)))] [.inl as0] M O T c s =
    if as0 = 0 then (xret tkT mi_X5_closes 0 (E q_X5_blame [.inr (.inr (1, 0)), .inl 1, .inl (M 1 0 3)] M O) (BK L xs E mi_X5_closes back (k)) 21 [some (.inr (.inr (1, 0)))] [] T c s) else (BK L xs E mi_X5_closes back (k + 5) 24 [some (.inr (.inr (1, 0)))] [] M O T c s) :=
  blk_of (fun q => Nat.beq q 12 || Nat.beq q 24 || Nat.beq q 46) (f := fun kk => if as0 = 0 then (xret tkT mi_X5_closes 0 (E q_X5_blame [.inr (.inr (1, 0)), .inl 1, .inl (M 1 0 3)] M O) (kk (k)) 21 [some (.inr (.inr (1, 0)))] [] T c s) else (kk (k + 5) 24 [some (.inr (.inr (1, 0)))] [] M O T c s)) (fun kk => rfl)
set_option maxRecDepth 100000 in
theorem e_X5_closes_24 (L : Nat) (xs : Nat → Int32) (E : CallT) (back : BackT) (k : Nat)  (M : Mem) (O : Int64) (T : Tmp) (c s : Nat) :
  BK L xs E mi_X5_closes back (k + 11) 24 [some (.inr (.inr (1, 0)))] [] M O T c s =
    if (M 1 0 4) = 0 then (BK L xs E mi_X5_closes back (k) 46 [some (.inr (.inr (1, 0)))] [.inl 1] (mput M 1 0 3 ((M 1 0 3) + 1)) O T c s) else (BK L xs E mi_X5_closes back (k + 1) 46 [some (.inr (.inr (1, 0)))] [.inl 0] (mput M 1 0 3 ((M 1 0 3) + 1)) O T c s) :=
  blk_of (fun q => Nat.beq q 24 || Nat.beq q 46) (f := fun kk => if (M 1 0 4) = 0 then (kk (k) 46 [some (.inr (.inr (1, 0)))] [.inl 1] (mput M 1 0 3 ((M 1 0 3) + 1)) O T c s) else (kk (k + 1) 46 [some (.inr (.inr (1, 0)))] [.inl 0] (mput M 1 0 3 ((M 1 0 3) + 1)) O T c s)) (fun kk => rfl)
set_option maxRecDepth 100000 in
theorem e_X5_closes_46 (L : Nat) (xs : Nat → Int32) (E : CallT) (back : BackT) (k : Nat) (as0 : Int32) (M : Mem) (O : Int64) (T : Tmp) (c s : Nat) :
  BK L xs E mi_X5_closes back (k + 1) 46 [some (.inr (.inr (1, 0)))] [.inl as0] M O T c s =
    if (as0 : Int32) = 0 ∨ (as0 : Int32) = 1 then some (.inl (some (.inl as0)), M, O, c, s) else none :=
  blk_of (fun q => Nat.beq q 24 || Nat.beq q 46) (f := fun kk => if (as0 : Int32) = 0 ∨ (as0 : Int32) = 1 then some (.inl (some (.inl as0)), M, O, c, s) else none) (fun kk => rfl)
set_option maxRecDepth 100000 in
theorem e_X1_readGround_0 (L : Nat) (xs : Nat → Int32) (E : CallT) (back : BackT) (k : Nat) (i0 : Nat) (M : Mem) (O : Int64) (T : Tmp) (c s : Nat) :
  BK L xs E mi_X1_readGround back (k + 7) 0 [some (.inr (.inr (3, i0))), some (.inr (.inr (1, 0))), none, none, none, none, none] [] M O T c s =
    xret tkT mi_X1_readGround 1 (E q_X5_number [.inr (.inr (1, 0)), .inl 0, .inl ((M 3 i0 0) - 1)] M O) (BK L xs E mi_X1_readGround back (k)) 8 [some (.inr (.inr (3, i0))), some (.inr (.inr (1, 0))), none, none, none, none, none] [] T c s :=
  blk_of (fun q => Nat.beq q 0 || Nat.beq q 51 || Nat.beq q 81) (f := fun kk => xret tkT mi_X1_readGround 1 (E q_X5_number [.inr (.inr (1, 0)), .inl 0, .inl ((M 3 i0 0) - 1)] M O) (kk (k)) 8 [some (.inr (.inr (3, i0))), some (.inr (.inr (1, 0))), none, none, none, none, none] [] T c s) (fun kk => rfl)
set_option maxRecDepth 100000 in
theorem e_X1_readGround_11 (L : Nat) (xs : Nat → Int32) (E : CallT) (back : BackT) (k : Nat) (i0 : Nat) (u2 : Option AV) (u3 : Option AV) (u4 : Option AV) (u5 : Option AV) (u6 : Option AV) (as0 : Int32) (M : Mem) (O : Int64) (T : Tmp) (c s : Nat) :
  BK L xs E mi_X1_readGround back (k + 8) 11 [some (.inr (.inr (3, i0))), some (.inr (.inr (1, 0))), u2, u3, u4, u5, u6] [.inl as0] M O T c s =
    xret tkT mi_X1_readGround 1 (E q_X5_number [.inr (.inr (1, 0)), .inl as0, .inl ((M 3 i0 0) - 1)] M O) (BK L xs E mi_X1_readGround back (k)) 20 [some (.inr (.inr (3, i0))), some (.inr (.inr (1, 0))), some (.inl as0), u3, u4, u5, u6] [] T c s :=
  blk_of (fun q => Nat.beq q 11 || Nat.beq q 51 || Nat.beq q 81) (f := fun kk => xret tkT mi_X1_readGround 1 (E q_X5_number [.inr (.inr (1, 0)), .inl as0, .inl ((M 3 i0 0) - 1)] M O) (kk (k)) 20 [some (.inr (.inr (3, i0))), some (.inr (.inr (1, 0))), some (.inl as0), u3, u4, u5, u6] [] T c s) (fun kk => rfl)
set_option maxRecDepth 100000 in
theorem e_X1_readGround_23 (L : Nat) (xs : Nat → Int32) (E : CallT) (back : BackT) (k : Nat) (i0 : Nat) (a2 : Int32) (u3 : Option AV) (u4 : Option AV) (u5 : Option AV) (u6 : Option AV) (as0 : Int32) (M : Mem) (O : Int64) (T : Tmp) (c s : Nat) :
  BK L xs E mi_X1_readGround back (k + 5) 23 [some (.inr (.inr (3, i0))), some (.inr (.inr (1, 0))), some (.inl a2), u3, u4, u5, u6] [.inl as0] M O T c s =
    xret tkT mi_X1_readGround 1 (E q_X5_number [.inr (.inr (1, 0)), .inl 0, .inl 3] M O) (BK L xs E mi_X1_readGround back (k)) 27 [some (.inr (.inr (3, i0))), some (.inr (.inr (1, 0))), some (.inl a2), some (.inl as0), u4, u5, u6] [] T c s :=
  blk_of (fun q => Nat.beq q 23 || Nat.beq q 51 || Nat.beq q 81) (f := fun kk => xret tkT mi_X1_readGround 1 (E q_X5_number [.inr (.inr (1, 0)), .inl 0, .inl 3] M O) (kk (k)) 27 [some (.inr (.inr (3, i0))), some (.inr (.inr (1, 0))), some (.inl a2), some (.inl as0), u4, u5, u6] [] T c s) (fun kk => rfl)
set_option maxRecDepth 100000 in
theorem e_X1_readGround_30 (L : Nat) (xs : Nat → Int32) (E : CallT) (back : BackT) (k : Nat) (i0 : Nat) (a2 : Int32) (a3 : Int32) (u4 : Option AV) (u5 : Option AV) (u6 : Option AV) (as0 : Int32) (M : Mem) (O : Int64) (T : Tmp) (c s : Nat) :
  BK L xs E mi_X1_readGround back (k + 5) 30 [some (.inr (.inr (3, i0))), some (.inr (.inr (1, 0))), some (.inl a2), some (.inl a3), u4, u5, u6] [.inl as0] M O T c s =
    xret tkT mi_X1_readGround 1 (E q_X5_number [.inr (.inr (1, 0)), .inl 0, .inl 9] M O) (BK L xs E mi_X1_readGround back (k)) 36 [some (.inr (.inr (3, i0))), some (.inr (.inr (1, 0))), some (.inl a2), some (.inl a3), some (.inl as0), u5, u6] [] T c s :=
  blk_of (fun q => Nat.beq q 30 || Nat.beq q 51 || Nat.beq q 81) (f := fun kk => xret tkT mi_X1_readGround 1 (E q_X5_number [.inr (.inr (1, 0)), .inl 0, .inl 9] M O) (kk (k)) 36 [some (.inr (.inr (3, i0))), some (.inr (.inr (1, 0))), some (.inl a2), some (.inl a3), some (.inl as0), u5, u6] [] T c s) (fun kk => rfl)
set_option maxRecDepth 100000 in
theorem e_X1_readGround_39 (L : Nat) (xs : Nat → Int32) (E : CallT) (back : BackT) (k : Nat) (i0 : Nat) (a2 : Int32) (a3 : Int32) (a4 : Int32) (u5 : Option AV) (u6 : Option AV) (as0 : Int32) (M : Mem) (O : Int64) (T : Tmp) (c s : Nat) :
  BK L xs E mi_X1_readGround back (k + 3) 39 [some (.inr (.inr (3, i0))), some (.inr (.inr (1, 0))), some (.inl a2), some (.inl a3), some (.inl a4), u5, u6] [.inl as0] M O T c s =
    xret tkT mi_X1_readGround 1 (E q_X5_closes [.inr (.inr (1, 0))] M O) (BK L xs E mi_X1_readGround back (k)) 42 [some (.inr (.inr (3, i0))), some (.inr (.inr (1, 0))), some (.inl a2), some (.inl a3), some (.inl a4), some (.inl as0), u6] [] T c s :=
  blk_of (fun q => Nat.beq q 39 || Nat.beq q 51 || Nat.beq q 81) (f := fun kk => xret tkT mi_X1_readGround 1 (E q_X5_closes [.inr (.inr (1, 0))] M O) (kk (k)) 42 [some (.inr (.inr (3, i0))), some (.inr (.inr (1, 0))), some (.inl a2), some (.inl a3), some (.inl a4), some (.inl as0), u6] [] T c s) (fun kk => rfl)
set_option maxRecDepth 100000 in
theorem e_X1_readGround_45 (L : Nat) (xs : Nat → Int32) (E : CallT) (back : BackT) (k : Nat) (i0 : Nat) (a2 : Int32) (a3 : Int32) (a4 : Int32) (a5 : Int32) (u6 : Option AV) (as0 : Int32) (M : Mem) (O : Int64) (T : Tmp) (c s : Nat) :
  BK L xs E mi_X1_readGround back (k + 3) 45 [some (.inr (.inr (3, i0))), some (.inr (.inr (1, 0))), some (.inl a2), some (.inl a3), some (.inl a4), some (.inl a5), u6] [.inl as0] M O T c s =
    if as0 = 0 then (BK L xs E mi_X1_readGround back (k + 2) 81 [some (.inr (.inr (3, i0))), some (.inr (.inr (1, 0))), some (.inl a2), some (.inl a3), some (.inl a4), some (.inl a5), u6] [] M O T c s) else (BK L xs E mi_X1_readGround back (k) 51 [some (.inr (.inr (3, i0))), some (.inr (.inr (1, 0))), some (.inl a2), some (.inl a3), some (.inl a4), some (.inl a5), some (.inl a2)] [] M O T c s) :=
  blk_of (fun q => Nat.beq q 45 || Nat.beq q 51 || Nat.beq q 81) (f := fun kk => if as0 = 0 then (kk (k + 2) 81 [some (.inr (.inr (3, i0))), some (.inr (.inr (1, 0))), some (.inl a2), some (.inl a3), some (.inl a4), some (.inl a5), u6] [] M O T c s) else (kk (k) 51 [some (.inr (.inr (3, i0))), some (.inr (.inr (1, 0))), some (.inl a2), some (.inl a3), some (.inl a4), some (.inl a5), some (.inl a2)] [] M O T c s)) (fun kk => rfl)
set_option maxRecDepth 100000 in
theorem e_X1_readGround_81 (L : Nat) (xs : Nat → Int32) (E : CallT) (back : BackT) (k : Nat) (i0 : Nat) (a2 : Int32) (a3 : Int32) (a4 : Int32) (a5 : Int32) (u6 : Option AV) (M : Mem) (O : Int64) (T : Tmp) (c s : Nat) :
  BK L xs E mi_X1_readGround back (k + 1) 81 [some (.inr (.inr (3, i0))), some (.inr (.inr (1, 0))), some (.inl a2), some (.inl a3), some (.inl a4), some (.inl a5), u6] [] M O T c s =
    some (.inl none, M, O, c, s) :=
  blk_of (fun q => Nat.beq q 51 || Nat.beq q 81) (f := fun kk => some (.inl none, M, O, c, s)) (fun kk => rfl)
set_option maxRecDepth 100000 in
theorem e_X1_readGround_51 (L : Nat) (xs : Nat → Int32) (E : CallT) (back : BackT) (k : Nat) (i0 : Nat) (a2 : Int32) (a3 : Int32) (a4 : Int32) (a5 : Int32) (a6 : Int32) (M : Mem) (O : Int64) (T : Tmp) (c s : Nat) :
  BK L xs E mi_X1_readGround back (k + 15) 51 [some (.inr (.inr (3, i0))), some (.inr (.inr (1, 0))), some (.inl a2), some (.inl a3), some (.inl a4), some (.inl a5), some (.inl a6)] [] M O T c s =
    if a3 < a6 then (BK L xs E mi_X1_readGround back (k + 12) 81 [some (.inr (.inr (3, i0))), some (.inr (.inr (1, 0))), some (.inl a2), some (.inl a3), some (.inl a4), some (.inl a5), some (.inl a6)] [] M O T c s) else (if 0 ≤ (a6 : Int32).toInt ∧ (a6 : Int32).toInt < 40 then (if 0 ≤ (a6 : Int32).toInt ∧ (a6 : Int32).toInt < 40 then (back 51 [some (.inr (.inr (3, i0))), some (.inr (.inr (1, 0))), some (.inl a2), some (.inl a3), some (.inl a4), some (.inl a5), some (.inl (a6 + 1))] (mput (mput M 4 i0 (a6 : Int32).toNatClampNeg a4) 5 i0 (a6 : Int32).toNatClampNeg a5) O T c s) else none) else none) :=
  blk_of (fun q => Nat.beq q 51 || Nat.beq q 81) (f := fun kk => if a3 < a6 then (kk (k + 12) 81 [some (.inr (.inr (3, i0))), some (.inr (.inr (1, 0))), some (.inl a2), some (.inl a3), some (.inl a4), some (.inl a5), some (.inl a6)] [] M O T c s) else (if 0 ≤ (a6 : Int32).toInt ∧ (a6 : Int32).toInt < 40 then (if 0 ≤ (a6 : Int32).toInt ∧ (a6 : Int32).toInt < 40 then (back 51 [some (.inr (.inr (3, i0))), some (.inr (.inr (1, 0))), some (.inl a2), some (.inl a3), some (.inl a4), some (.inl a5), some (.inl (a6 + 1))] (mput (mput M 4 i0 (a6 : Int32).toNatClampNeg a4) 5 i0 (a6 : Int32).toNatClampNeg a5) O T c s) else none) else none)) (fun kk => rfl)
set_option maxRecDepth 100000 in
theorem e_X1_readWall_0 (L : Nat) (xs : Nat → Int32) (E : CallT) (back : BackT) (k : Nat) (i0 : Nat) (M : Mem) (O : Int64) (T : Tmp) (c s : Nat) :
  BK L xs E mi_X1_readWall back (k + 7) 0 [some (.inr (.inr (3, i0))), some (.inr (.inr (1, 0))), none, none] [] M O T c s =
    xret tkT mi_X1_readWall 1 (E q_X5_number [.inr (.inr (1, 0)), .inl 0, .inl ((M 3 i0 0) - 1)] M O) (BK L xs E mi_X1_readWall back (k)) 8 [some (.inr (.inr (3, i0))), some (.inr (.inr (1, 0))), none, none] [] T c s :=
  blk_of (fun q => Nat.beq q 0 || Nat.beq q 34) (f := fun kk => xret tkT mi_X1_readWall 1 (E q_X5_number [.inr (.inr (1, 0)), .inl 0, .inl ((M 3 i0 0) - 1)] M O) (kk (k)) 8 [some (.inr (.inr (3, i0))), some (.inr (.inr (1, 0))), none, none] [] T c s) (fun kk => rfl)
set_option maxRecDepth 100000 in
theorem e_X1_readWall_11 (L : Nat) (xs : Nat → Int32) (E : CallT) (back : BackT) (k : Nat) (i0 : Nat) (u2 : Option AV) (u3 : Option AV) (as0 : Int32) (M : Mem) (O : Int64) (T : Tmp) (c s : Nat) :
  BK L xs E mi_X1_readWall back (k + 5) 11 [some (.inr (.inr (3, i0))), some (.inr (.inr (1, 0))), u2, u3] [.inl as0] M O T c s =
    xret tkT mi_X1_readWall 1 (E q_X5_number [.inr (.inr (1, 0)), .inl 1, .inl 9] M O) (BK L xs E mi_X1_readWall back (k)) 16 [some (.inr (.inr (3, i0))), some (.inr (.inr (1, 0))), some (.inl as0), u3] [] T c s :=
  blk_of (fun q => Nat.beq q 11 || Nat.beq q 34) (f := fun kk => xret tkT mi_X1_readWall 1 (E q_X5_number [.inr (.inr (1, 0)), .inl 1, .inl 9] M O) (kk (k)) 16 [some (.inr (.inr (3, i0))), some (.inr (.inr (1, 0))), some (.inl as0), u3] [] T c s) (fun kk => rfl)
set_option maxRecDepth 100000 in
theorem e_X1_readWall_19 (L : Nat) (xs : Nat → Int32) (E : CallT) (back : BackT) (k : Nat) (i0 : Nat) (a2 : Int32) (u3 : Option AV) (as0 : Int32) (M : Mem) (O : Int64) (T : Tmp) (c s : Nat) :
  BK L xs E mi_X1_readWall back (k + 3) 19 [some (.inr (.inr (3, i0))), some (.inr (.inr (1, 0))), some (.inl a2), u3] [.inl as0] M O T c s =
    xret tkT mi_X1_readWall 1 (E q_X5_closes [.inr (.inr (1, 0))] M O) (BK L xs E mi_X1_readWall back (k)) 21 [some (.inr (.inr (3, i0))), some (.inr (.inr (1, 0))), some (.inl a2), some (.inl as0)] [] T c s :=
  blk_of (fun q => Nat.beq q 19 || Nat.beq q 34) (f := fun kk => xret tkT mi_X1_readWall 1 (E q_X5_closes [.inr (.inr (1, 0))] M O) (kk (k)) 21 [some (.inr (.inr (3, i0))), some (.inr (.inr (1, 0))), some (.inl a2), some (.inl as0)] [] T c s) (fun kk => rfl)
set_option maxRecDepth 100000 in
theorem e_X1_readWall_24 (L : Nat) (xs : Nat → Int32) (E : CallT) (back : BackT) (k : Nat) (i0 : Nat) (a2 : Int32) (a3 : Int32) (as0 : Int32) (M : Mem) (O : Int64) (T : Tmp) (c s : Nat) :
  BK L xs E mi_X1_readWall back (k + 6) 24 [some (.inr (.inr (3, i0))), some (.inr (.inr (1, 0))), some (.inl a2), some (.inl a3)] [.inl as0] M O T c s =
    if as0 = 0 then (BK L xs E mi_X1_readWall back (k + 5) 34 [some (.inr (.inr (3, i0))), some (.inr (.inr (1, 0))), some (.inl a2), some (.inl a3)] [] M O T c s) else (if 0 ≤ (a2 : Int32).toInt ∧ (a2 : Int32).toInt < 40 then (BK L xs E mi_X1_readWall back (k) 34 [some (.inr (.inr (3, i0))), some (.inr (.inr (1, 0))), some (.inl a2), some (.inl a3)] [] (mput M 6 i0 (a2 : Int32).toNatClampNeg a3) O T c s) else none) :=
  blk_of (fun q => Nat.beq q 24 || Nat.beq q 34) (f := fun kk => if as0 = 0 then (kk (k + 5) 34 [some (.inr (.inr (3, i0))), some (.inr (.inr (1, 0))), some (.inl a2), some (.inl a3)] [] M O T c s) else (if 0 ≤ (a2 : Int32).toInt ∧ (a2 : Int32).toInt < 40 then (kk (k) 34 [some (.inr (.inr (3, i0))), some (.inr (.inr (1, 0))), some (.inl a2), some (.inl a3)] [] (mput M 6 i0 (a2 : Int32).toNatClampNeg a3) O T c s) else none)) (fun kk => rfl)
set_option maxRecDepth 100000 in
theorem e_X1_readWall_34 (L : Nat) (xs : Nat → Int32) (E : CallT) (back : BackT) (k : Nat) (i0 : Nat) (a2 : Int32) (a3 : Int32) (M : Mem) (O : Int64) (T : Tmp) (c s : Nat) :
  BK L xs E mi_X1_readWall back (k + 1) 34 [some (.inr (.inr (3, i0))), some (.inr (.inr (1, 0))), some (.inl a2), some (.inl a3)] [] M O T c s =
    some (.inl none, M, O, c, s) :=
  blk_of (fun q => Nat.beq q 34) (f := fun kk => some (.inl none, M, O, c, s)) (fun kk => rfl)
set_option maxRecDepth 100000 in
theorem e_X1_readHouse_0 (L : Nat) (xs : Nat → Int32) (E : CallT) (back : BackT) (k : Nat) (i0 : Nat) (M : Mem) (O : Int64) (T : Tmp) (c s : Nat) :
  BK L xs E mi_X1_readHouse back (k + 7) 0 [some (.inr (.inr (3, i0))), some (.inr (.inr (1, 0))), none, none] [] M O T c s =
    xret tkT mi_X1_readHouse 1 (E q_X5_number [.inr (.inr (1, 0)), .inl 0, .inl ((M 3 i0 0) - 1)] M O) (BK L xs E mi_X1_readHouse back (k)) 8 [some (.inr (.inr (3, i0))), some (.inr (.inr (1, 0))), none, none] [] T c s :=
  blk_of (fun q => Nat.beq q 0 || Nat.beq q 57) (f := fun kk => xret tkT mi_X1_readHouse 1 (E q_X5_number [.inr (.inr (1, 0)), .inl 0, .inl ((M 3 i0 0) - 1)] M O) (kk (k)) 8 [some (.inr (.inr (3, i0))), some (.inr (.inr (1, 0))), none, none] [] T c s) (fun kk => rfl)
set_option maxRecDepth 100000 in
theorem e_X1_readHouse_11 (L : Nat) (xs : Nat → Int32) (E : CallT) (back : BackT) (k : Nat) (i0 : Nat) (u2 : Option AV) (u3 : Option AV) (as0 : Int32) (M : Mem) (O : Int64) (T : Tmp) (c s : Nat) :
  BK L xs E mi_X1_readHouse back (k + 5) 11 [some (.inr (.inr (3, i0))), some (.inr (.inr (1, 0))), u2, u3] [.inl as0] M O T c s =
    xret tkT mi_X1_readHouse 1 (E q_X5_number [.inr (.inr (1, 0)), .inl 0, .inl 60] M O) (BK L xs E mi_X1_readHouse back (k)) 16 [some (.inr (.inr (3, i0))), some (.inr (.inr (1, 0))), some (.inl as0), u3] [] T c s :=
  blk_of (fun q => Nat.beq q 11 || Nat.beq q 57) (f := fun kk => xret tkT mi_X1_readHouse 1 (E q_X5_number [.inr (.inr (1, 0)), .inl 0, .inl 60] M O) (kk (k)) 16 [some (.inr (.inr (3, i0))), some (.inr (.inr (1, 0))), some (.inl as0), u3] [] T c s) (fun kk => rfl)
set_option maxRecDepth 100000 in
theorem e_X1_readHouse_19 (L : Nat) (xs : Nat → Int32) (E : CallT) (back : BackT) (k : Nat) (i0 : Nat) (a2 : Int32) (u3 : Option AV) (as0 : Int32) (M : Mem) (O : Int64) (T : Tmp) (c s : Nat) :
  BK L xs E mi_X1_readHouse back (k + 3) 19 [some (.inr (.inr (3, i0))), some (.inr (.inr (1, 0))), some (.inl a2), u3] [.inl as0] M O T c s =
    xret tkT mi_X1_readHouse 1 (E q_X5_closes [.inr (.inr (1, 0))] M O) (BK L xs E mi_X1_readHouse back (k)) 21 [some (.inr (.inr (3, i0))), some (.inr (.inr (1, 0))), some (.inl a2), some (.inl as0)] [] T c s :=
  blk_of (fun q => Nat.beq q 19 || Nat.beq q 57) (f := fun kk => xret tkT mi_X1_readHouse 1 (E q_X5_closes [.inr (.inr (1, 0))] M O) (kk (k)) 21 [some (.inr (.inr (3, i0))), some (.inr (.inr (1, 0))), some (.inl a2), some (.inl as0)] [] T c s) (fun kk => rfl)
set_option maxRecDepth 100000 in
theorem e_X1_readHouse_24 (L : Nat) (xs : Nat → Int32) (E : CallT) (back : BackT) (k : Nat) (i0 : Nat) (a2 : Int32) (a3 : Int32) (as0 : Int32) (M : Mem) (O : Int64) (T : Tmp) (c s : Nat) :
  BK L xs E mi_X1_readHouse back (k + 19) 24 [some (.inr (.inr (3, i0))), some (.inr (.inr (1, 0))), some (.inl a2), some (.inl a3)] [.inl as0] M O T c s =
    if as0 = 0 then (BK L xs E mi_X1_readHouse back (k + 18) 57 [some (.inr (.inr (3, i0))), some (.inr (.inr (1, 0))), some (.inl a2), some (.inl a3)] [] M O T c s) else (if 0 ≤ ((M 3 i0 4) : Int32).toInt ∧ ((M 3 i0 4) : Int32).toInt < 8 then (if 0 ≤ ((M 3 i0 4) : Int32).toInt ∧ ((M 3 i0 4) : Int32).toInt < 8 then (BK L xs E mi_X1_readHouse back (k) 57 [some (.inr (.inr (3, i0))), some (.inr (.inr (1, 0))), some (.inl a2), some (.inl a3)] [] (mput (mput (mput M 7 i0 ((M 3 i0 4) : Int32).toNatClampNeg a2) 8 i0 ((M 3 i0 4) : Int32).toNatClampNeg a3) 3 i0 4 ((M 3 i0 4) + 1)) O T c s) else none) else none) :=
  blk_of (fun q => Nat.beq q 24 || Nat.beq q 57) (f := fun kk => if as0 = 0 then (kk (k + 18) 57 [some (.inr (.inr (3, i0))), some (.inr (.inr (1, 0))), some (.inl a2), some (.inl a3)] [] M O T c s) else (if 0 ≤ ((M 3 i0 4) : Int32).toInt ∧ ((M 3 i0 4) : Int32).toInt < 8 then (if 0 ≤ ((M 3 i0 4) : Int32).toInt ∧ ((M 3 i0 4) : Int32).toInt < 8 then (kk (k) 57 [some (.inr (.inr (3, i0))), some (.inr (.inr (1, 0))), some (.inl a2), some (.inl a3)] [] (mput (mput (mput M 7 i0 ((M 3 i0 4) : Int32).toNatClampNeg a2) 8 i0 ((M 3 i0 4) : Int32).toNatClampNeg a3) 3 i0 4 ((M 3 i0 4) + 1)) O T c s) else none) else none)) (fun kk => rfl)
set_option maxRecDepth 100000 in
theorem e_X1_readHouse_57 (L : Nat) (xs : Nat → Int32) (E : CallT) (back : BackT) (k : Nat) (i0 : Nat) (a2 : Int32) (a3 : Int32) (M : Mem) (O : Int64) (T : Tmp) (c s : Nat) :
  BK L xs E mi_X1_readHouse back (k + 1) 57 [some (.inr (.inr (3, i0))), some (.inr (.inr (1, 0))), some (.inl a2), some (.inl a3)] [] M O T c s =
    some (.inl none, M, O, c, s) :=
  blk_of (fun q => Nat.beq q 57) (f := fun kk => some (.inl none, M, O, c, s)) (fun kk => rfl)
set_option maxRecDepth 100000 in
theorem e_X1_readHum_0 (L : Nat) (xs : Nat → Int32) (E : CallT) (back : BackT) (k : Nat) (i0 : Nat) (M : Mem) (O : Int64) (T : Tmp) (c s : Nat) :
  BK L xs E mi_X1_readHum back (k + 4) 0 [some (.inr (.inr (3, i0))), some (.inr (.inr (1, 0))), none, none] [] M O T c s =
    xret tkT mi_X1_readHum 1 (E q_X5_number [.inr (.inr (1, 0)), .inl 0, .inl 23] M O) (BK L xs E mi_X1_readHum back (k)) 4 [some (.inr (.inr (3, i0))), some (.inr (.inr (1, 0))), none, none] [] T c s :=
  blk_of (fun q => Nat.beq q 0 || Nat.beq q 30) (f := fun kk => xret tkT mi_X1_readHum 1 (E q_X5_number [.inr (.inr (1, 0)), .inl 0, .inl 23] M O) (kk (k)) 4 [some (.inr (.inr (3, i0))), some (.inr (.inr (1, 0))), none, none] [] T c s) (fun kk => rfl)
set_option maxRecDepth 100000 in
theorem e_X1_readHum_7 (L : Nat) (xs : Nat → Int32) (E : CallT) (back : BackT) (k : Nat) (i0 : Nat) (u2 : Option AV) (u3 : Option AV) (as0 : Int32) (M : Mem) (O : Int64) (T : Tmp) (c s : Nat) :
  BK L xs E mi_X1_readHum back (k + 5) 7 [some (.inr (.inr (3, i0))), some (.inr (.inr (1, 0))), u2, u3] [.inl as0] M O T c s =
    xret tkT mi_X1_readHum 1 (E q_X5_number [.inr (.inr (1, 0)), .inl 0, .inl 40] M O) (BK L xs E mi_X1_readHum back (k)) 12 [some (.inr (.inr (3, i0))), some (.inr (.inr (1, 0))), some (.inl as0), u3] [] T c s :=
  blk_of (fun q => Nat.beq q 7 || Nat.beq q 30) (f := fun kk => xret tkT mi_X1_readHum 1 (E q_X5_number [.inr (.inr (1, 0)), .inl 0, .inl 40] M O) (kk (k)) 12 [some (.inr (.inr (3, i0))), some (.inr (.inr (1, 0))), some (.inl as0), u3] [] T c s) (fun kk => rfl)
set_option maxRecDepth 100000 in
theorem e_X1_readHum_15 (L : Nat) (xs : Nat → Int32) (E : CallT) (back : BackT) (k : Nat) (i0 : Nat) (a2 : Int32) (u3 : Option AV) (as0 : Int32) (M : Mem) (O : Int64) (T : Tmp) (c s : Nat) :
  BK L xs E mi_X1_readHum back (k + 3) 15 [some (.inr (.inr (3, i0))), some (.inr (.inr (1, 0))), some (.inl a2), u3] [.inl as0] M O T c s =
    xret tkT mi_X1_readHum 1 (E q_X5_closes [.inr (.inr (1, 0))] M O) (BK L xs E mi_X1_readHum back (k)) 17 [some (.inr (.inr (3, i0))), some (.inr (.inr (1, 0))), some (.inl a2), some (.inl as0)] [] T c s :=
  blk_of (fun q => Nat.beq q 15 || Nat.beq q 30) (f := fun kk => xret tkT mi_X1_readHum 1 (E q_X5_closes [.inr (.inr (1, 0))] M O) (kk (k)) 17 [some (.inr (.inr (3, i0))), some (.inr (.inr (1, 0))), some (.inl a2), some (.inl as0)] [] T c s) (fun kk => rfl)
set_option maxRecDepth 100000 in
theorem e_X1_readHum_20 (L : Nat) (xs : Nat → Int32) (E : CallT) (back : BackT) (k : Nat) (i0 : Nat) (a2 : Int32) (a3 : Int32) (as0 : Int32) (M : Mem) (O : Int64) (T : Tmp) (c s : Nat) :
  BK L xs E mi_X1_readHum back (k + 6) 20 [some (.inr (.inr (3, i0))), some (.inr (.inr (1, 0))), some (.inl a2), some (.inl a3)] [.inl as0] M O T c s =
    if as0 = 0 then (BK L xs E mi_X1_readHum back (k + 5) 30 [some (.inr (.inr (3, i0))), some (.inr (.inr (1, 0))), some (.inl a2), some (.inl a3)] [] M O T c s) else (if 0 ≤ (a2 : Int32).toInt ∧ (a2 : Int32).toInt < 24 then (BK L xs E mi_X1_readHum back (k) 30 [some (.inr (.inr (3, i0))), some (.inr (.inr (1, 0))), some (.inl a2), some (.inl a3)] [] (mput M 9 i0 (a2 : Int32).toNatClampNeg a3) O T c s) else none) :=
  blk_of (fun q => Nat.beq q 20 || Nat.beq q 30) (f := fun kk => if as0 = 0 then (kk (k + 5) 30 [some (.inr (.inr (3, i0))), some (.inr (.inr (1, 0))), some (.inl a2), some (.inl a3)] [] M O T c s) else (if 0 ≤ (a2 : Int32).toInt ∧ (a2 : Int32).toInt < 24 then (kk (k) 30 [some (.inr (.inr (3, i0))), some (.inr (.inr (1, 0))), some (.inl a2), some (.inl a3)] [] (mput M 9 i0 (a2 : Int32).toNatClampNeg a3) O T c s) else none)) (fun kk => rfl)
set_option maxRecDepth 100000 in
theorem e_X1_readHum_30 (L : Nat) (xs : Nat → Int32) (E : CallT) (back : BackT) (k : Nat) (i0 : Nat) (a2 : Int32) (a3 : Int32) (M : Mem) (O : Int64) (T : Tmp) (c s : Nat) :
  BK L xs E mi_X1_readHum back (k + 1) 30 [some (.inr (.inr (3, i0))), some (.inr (.inr (1, 0))), some (.inl a2), some (.inl a3)] [] M O T c s =
    some (.inl none, M, O, c, s) :=
  blk_of (fun q => Nat.beq q 30) (f := fun kk => some (.inl none, M, O, c, s)) (fun kk => rfl)
set_option maxRecDepth 100000 in
theorem e_X1_readSource_0 (L : Nat) (xs : Nat → Int32) (E : CallT) (back : BackT) (k : Nat) (i0 : Nat) (M : Mem) (O : Int64) (T : Tmp) (c s : Nat) :
  BK L xs E mi_X1_readSource back (k + 7) 0 [some (.inr (.inr (3, i0))), some (.inr (.inr (1, 0))), none, none, none, none] [] M O T c s =
    xret tkT mi_X1_readSource 1 (E q_X5_number [.inr (.inr (1, 0)), .inl 0, .inl ((M 3 i0 0) - 1)] M O) (BK L xs E mi_X1_readSource back (k)) 8 [some (.inr (.inr (3, i0))), some (.inr (.inr (1, 0))), none, none, none, none] [] T c s :=
  blk_of (fun q => Nat.beq q 0 || Nat.beq q 96) (f := fun kk => xret tkT mi_X1_readSource 1 (E q_X5_number [.inr (.inr (1, 0)), .inl 0, .inl ((M 3 i0 0) - 1)] M O) (kk (k)) 8 [some (.inr (.inr (3, i0))), some (.inr (.inr (1, 0))), none, none, none, none] [] T c s) (fun kk => rfl)
set_option maxRecDepth 100000 in
theorem e_X1_readSource_11 (L : Nat) (xs : Nat → Int32) (E : CallT) (back : BackT) (k : Nat) (i0 : Nat) (u2 : Option AV) (u3 : Option AV) (u4 : Option AV) (u5 : Option AV) (as0 : Int32) (M : Mem) (O : Int64) (T : Tmp) (c s : Nat) :
  BK L xs E mi_X1_readSource back (k + 5) 11 [some (.inr (.inr (3, i0))), some (.inr (.inr (1, 0))), u2, u3, u4, u5] [.inl as0] M O T c s =
    xret tkT mi_X1_readSource 1 (E q_X5_number [.inr (.inr (1, 0)), .inl 1, .inl 120] M O) (BK L xs E mi_X1_readSource back (k)) 16 [some (.inr (.inr (3, i0))), some (.inr (.inr (1, 0))), some (.inl as0), u3, u4, u5] [] T c s :=
  blk_of (fun q => Nat.beq q 11 || Nat.beq q 96) (f := fun kk => xret tkT mi_X1_readSource 1 (E q_X5_number [.inr (.inr (1, 0)), .inl 1, .inl 120] M O) (kk (k)) 16 [some (.inr (.inr (3, i0))), some (.inr (.inr (1, 0))), some (.inl as0), u3, u4, u5] [] T c s) (fun kk => rfl)
set_option maxRecDepth 100000 in
theorem e_X1_readSource_19 (L : Nat) (xs : Nat → Int32) (E : CallT) (back : BackT) (k : Nat) (i0 : Nat) (a2 : Int32) (u3 : Option AV) (u4 : Option AV) (u5 : Option AV) (as0 : Int32) (M : Mem) (O : Int64) (T : Tmp) (c s : Nat) :
  BK L xs E mi_X1_readSource back (k + 5) 19 [some (.inr (.inr (3, i0))), some (.inr (.inr (1, 0))), some (.inl a2), u3, u4, u5] [.inl as0] M O T c s =
    xret tkT mi_X1_readSource 1 (E q_X5_number [.inr (.inr (1, 0)), .inl 1, .inl 3] M O) (BK L xs E mi_X1_readSource back (k)) 23 [some (.inr (.inr (3, i0))), some (.inr (.inr (1, 0))), some (.inl a2), some (.inl as0), u4, u5] [] T c s :=
  blk_of (fun q => Nat.beq q 19 || Nat.beq q 96) (f := fun kk => xret tkT mi_X1_readSource 1 (E q_X5_number [.inr (.inr (1, 0)), .inl 1, .inl 3] M O) (kk (k)) 23 [some (.inr (.inr (3, i0))), some (.inr (.inr (1, 0))), some (.inl a2), some (.inl as0), u4, u5] [] T c s) (fun kk => rfl)
set_option maxRecDepth 100000 in
theorem e_X1_readSource_26 (L : Nat) (xs : Nat → Int32) (E : CallT) (back : BackT) (k : Nat) (i0 : Nat) (a2 : Int32) (a3 : Int32) (u4 : Option AV) (u5 : Option AV) (as0 : Int32) (M : Mem) (O : Int64) (T : Tmp) (c s : Nat) :
  BK L xs E mi_X1_readSource back (k + 5) 26 [some (.inr (.inr (3, i0))), some (.inr (.inr (1, 0))), some (.inl a2), some (.inl a3), u4, u5] [.inl as0] M O T c s =
    xret tkT mi_X1_readSource 1 (E q_X5_number [.inr (.inr (1, 0)), .inl 1, .inl 16777215] M O) (BK L xs E mi_X1_readSource back (k)) 32 [some (.inr (.inr (3, i0))), some (.inr (.inr (1, 0))), some (.inl a2), some (.inl a3), some (.inl as0), u5] [] T c s :=
  blk_of (fun q => Nat.beq q 26 || Nat.beq q 96) (f := fun kk => xret tkT mi_X1_readSource 1 (E q_X5_number [.inr (.inr (1, 0)), .inl 1, .inl 16777215] M O) (kk (k)) 32 [some (.inr (.inr (3, i0))), some (.inr (.inr (1, 0))), some (.inl a2), some (.inl a3), some (.inl as0), u5] [] T c s) (fun kk => rfl)
set_option maxRecDepth 100000 in
theorem e_X1_readSource_35 (L : Nat) (xs : Nat → Int32) (E : CallT) (back : BackT) (k : Nat) (i0 : Nat) (a2 : Int32) (a3 : Int32) (a4 : Int32) (u5 : Option AV) (as0 : Int32) (M : Mem) (O : Int64) (T : Tmp) (c s : Nat) :
  BK L xs E mi_X1_readSource back (k + 3) 35 [some (.inr (.inr (3, i0))), some (.inr (.inr (1, 0))), some (.inl a2), some (.inl a3), some (.inl a4), u5] [.inl as0] M O T c s =
    xret tkT mi_X1_readSource 1 (E q_X5_closes [.inr (.inr (1, 0))] M O) (BK L xs E mi_X1_readSource back (k)) 38 [some (.inr (.inr (3, i0))), some (.inr (.inr (1, 0))), some (.inl a2), some (.inl a3), some (.inl a4), some (.inl as0)] [] T c s :=
  blk_of (fun q => Nat.beq q 35 || Nat.beq q 96) (f := fun kk => xret tkT mi_X1_readSource 1 (E q_X5_closes [.inr (.inr (1, 0))] M O) (kk (k)) 38 [some (.inr (.inr (3, i0))), some (.inr (.inr (1, 0))), some (.inl a2), some (.inl a3), some (.inl a4), some (.inl as0)] [] T c s) (fun kk => rfl)
set_option maxRecDepth 100000 in
theorem e_X1_readSource_41 (L : Nat) (xs : Nat → Int32) (E : CallT) (back : BackT) (k : Nat) (i0 : Nat) (a2 : Int32) (a3 : Int32) (a4 : Int32) (a5 : Int32) (as0 : Int32) (M : Mem) (O : Int64) (T : Tmp) (c s : Nat) :
  BK L xs E mi_X1_readSource back (k + 31) 41 [some (.inr (.inr (3, i0))), some (.inr (.inr (1, 0))), some (.inl a2), some (.inl a3), some (.inl a4), some (.inl a5)] [.inl as0] M O T c s =
    if as0 = 0 then (BK L xs E mi_X1_readSource back (k + 30) 96 [some (.inr (.inr (3, i0))), some (.inr (.inr (1, 0))), some (.inl a2), some (.inl a3), some (.inl a4), some (.inl a5)] [] M O T c s) else (if 0 ≤ ((M 3 i0 8) : Int32).toInt ∧ ((M 3 i0 8) : Int32).toInt < 6 then (if 0 ≤ ((M 3 i0 8) : Int32).toInt ∧ ((M 3 i0 8) : Int32).toInt < 6 then (if 0 ≤ ((M 3 i0 8) : Int32).toInt ∧ ((M 3 i0 8) : Int32).toInt < 6 then (if 0 ≤ ((M 3 i0 8) : Int32).toInt ∧ ((M 3 i0 8) : Int32).toInt < 6 then (BK L xs E mi_X1_readSource back (k) 96 [some (.inr (.inr (3, i0))), some (.inr (.inr (1, 0))), some (.inl a2), some (.inl a3), some (.inl a4), some (.inl a5)] [] (mput (mput (mput (mput (mput M 10 i0 ((M 3 i0 8) : Int32).toNatClampNeg a2) 11 i0 ((M 3 i0 8) : Int32).toNatClampNeg a3) 12 i0 ((M 3 i0 8) : Int32).toNatClampNeg a4) 13 i0 ((M 3 i0 8) : Int32).toNatClampNeg a5) 3 i0 8 ((M 3 i0 8) + 1)) O T c s) else none) else none) else none) else none) :=
  blk_of (fun q => Nat.beq q 41 || Nat.beq q 96) (f := fun kk => if as0 = 0 then (kk (k + 30) 96 [some (.inr (.inr (3, i0))), some (.inr (.inr (1, 0))), some (.inl a2), some (.inl a3), some (.inl a4), some (.inl a5)] [] M O T c s) else (if 0 ≤ ((M 3 i0 8) : Int32).toInt ∧ ((M 3 i0 8) : Int32).toInt < 6 then (if 0 ≤ ((M 3 i0 8) : Int32).toInt ∧ ((M 3 i0 8) : Int32).toInt < 6 then (if 0 ≤ ((M 3 i0 8) : Int32).toInt ∧ ((M 3 i0 8) : Int32).toInt < 6 then (if 0 ≤ ((M 3 i0 8) : Int32).toInt ∧ ((M 3 i0 8) : Int32).toInt < 6 then (kk (k) 96 [some (.inr (.inr (3, i0))), some (.inr (.inr (1, 0))), some (.inl a2), some (.inl a3), some (.inl a4), some (.inl a5)] [] (mput (mput (mput (mput (mput M 10 i0 ((M 3 i0 8) : Int32).toNatClampNeg a2) 11 i0 ((M 3 i0 8) : Int32).toNatClampNeg a3) 12 i0 ((M 3 i0 8) : Int32).toNatClampNeg a4) 13 i0 ((M 3 i0 8) : Int32).toNatClampNeg a5) 3 i0 8 ((M 3 i0 8) + 1)) O T c s) else none) else none) else none) else none)) (fun kk => rfl)
set_option maxRecDepth 100000 in
theorem e_X1_readSource_96 (L : Nat) (xs : Nat → Int32) (E : CallT) (back : BackT) (k : Nat) (i0 : Nat) (a2 : Int32) (a3 : Int32) (a4 : Int32) (a5 : Int32) (M : Mem) (O : Int64) (T : Tmp) (c s : Nat) :
  BK L xs E mi_X1_readSource back (k + 1) 96 [some (.inr (.inr (3, i0))), some (.inr (.inr (1, 0))), some (.inl a2), some (.inl a3), some (.inl a4), some (.inl a5)] [] M O T c s =
    some (.inl none, M, O, c, s) :=
  blk_of (fun q => Nat.beq q 96) (f := fun kk => some (.inl none, M, O, c, s)) (fun kk => rfl)
set_option maxRecDepth 100000 in
theorem e_X1_readWork_0 (L : Nat) (xs : Nat → Int32) (E : CallT) (back : BackT) (k : Nat) (i0 : Nat) (a2 : Int32) (M : Mem) (O : Int64) (T : Tmp) (c s : Nat) :
  BK L xs E mi_X1_readWork back (k + 16) 0 [some (.inr (.inr (3, i0))), some (.inr (.inr (1, 0))), some (.inl a2), none, none, none] [] M O T c s =
    if a2 = 6 then (xret tkT mi_X1_readWork 1 (E q_X5_number [.inr (.inr (1, 0)), .inl 0, .inl ((M 3 i0 0) - 1)] M O) (BK L xs E mi_X1_readWork back (k + 6)) 14 [some (.inr (.inr (3, i0))), some (.inr (.inr (1, 0))), some (.inl a2), none, none, none] [] T c s) else (if a2 = 7 then (xret tkT mi_X1_readWork 1 (E q_X5_number [.inr (.inr (1, 0)), .inl 0, .inl ((M 3 i0 0) - 1)] M O) (BK L xs E mi_X1_readWork back (k + 3)) 44 [some (.inr (.inr (3, i0))), some (.inr (.inr (1, 0))), some (.inl a2), none, none, none] [] T c s) else (if a2 = 8 then (xret tkT mi_X1_readWork 1 (E q_X5_number [.inr (.inr (1, 0)), .inl 0, .inl ((M 3 i0 8) - 1)] M O) (BK L xs E mi_X1_readWork back (k)) 78 [some (.inr (.inr (3, i0))), some (.inr (.inr (1, 0))), some (.inl a2), none, none, none] [] T c s) else (xret tkT mi_X1_readWork 1 (E q_X5_number [.inr (.inr (1, 0)), .inl 0, .inl ((M 3 i0 4) - 1)] M O) (BK L xs E mi_X1_readWork back (k)) 102 [some (.inr (.inr (3, i0))), some (.inr (.inr (1, 0))), some (.inl a2), none, none, none] [] T c s))) :=
  blk_of (fun q => Nat.beq q 0 || Nat.beq q 115 || Nat.beq q 183) (f := fun kk => if a2 = 6 then (xret tkT mi_X1_readWork 1 (E q_X5_number [.inr (.inr (1, 0)), .inl 0, .inl ((M 3 i0 0) - 1)] M O) (kk (k + 6)) 14 [some (.inr (.inr (3, i0))), some (.inr (.inr (1, 0))), some (.inl a2), none, none, none] [] T c s) else (if a2 = 7 then (xret tkT mi_X1_readWork 1 (E q_X5_number [.inr (.inr (1, 0)), .inl 0, .inl ((M 3 i0 0) - 1)] M O) (kk (k + 3)) 44 [some (.inr (.inr (3, i0))), some (.inr (.inr (1, 0))), some (.inl a2), none, none, none] [] T c s) else (if a2 = 8 then (xret tkT mi_X1_readWork 1 (E q_X5_number [.inr (.inr (1, 0)), .inl 0, .inl ((M 3 i0 8) - 1)] M O) (kk (k)) 78 [some (.inr (.inr (3, i0))), some (.inr (.inr (1, 0))), some (.inl a2), none, none, none] [] T c s) else (xret tkT mi_X1_readWork 1 (E q_X5_number [.inr (.inr (1, 0)), .inl 0, .inl ((M 3 i0 4) - 1)] M O) (kk (k)) 102 [some (.inr (.inr (3, i0))), some (.inr (.inr (1, 0))), some (.inl a2), none, none, none] [] T c s)))) (fun kk => rfl)
set_option maxRecDepth 100000 in
theorem e_X1_readWork_17 (L : Nat) (xs : Nat → Int32) (E : CallT) (back : BackT) (k : Nat) (i0 : Nat) (a2 : Int32) (u3 : Option AV) (u4 : Option AV) (u5 : Option AV) (as0 : Int32) (M : Mem) (O : Int64) (T : Tmp) (c s : Nat) :
  BK L xs E mi_X1_readWork back (k + 5) 17 [some (.inr (.inr (3, i0))), some (.inr (.inr (1, 0))), some (.inl a2), u3, u4, u5] [.inl as0] M O T c s =
    xret tkT mi_X1_readWork 1 (E q_X5_number [.inr (.inr (1, 0)), .inl 1, .inl 9] M O) (BK L xs E mi_X1_readWork back (k)) 22 [some (.inr (.inr (3, i0))), some (.inr (.inr (1, 0))), some (.inl a2), some (.inl as0), u4, u5] [] T c s :=
  blk_of (fun q => Nat.beq q 17 || Nat.beq q 115 || Nat.beq q 183) (f := fun kk => xret tkT mi_X1_readWork 1 (E q_X5_number [.inr (.inr (1, 0)), .inl 1, .inl 9] M O) (kk (k)) 22 [some (.inr (.inr (3, i0))), some (.inr (.inr (1, 0))), some (.inl a2), some (.inl as0), u4, u5] [] T c s) (fun kk => rfl)
set_option maxRecDepth 100000 in
theorem e_X1_readWork_47 (L : Nat) (xs : Nat → Int32) (E : CallT) (back : BackT) (k : Nat) (i0 : Nat) (a2 : Int32) (u3 : Option AV) (u4 : Option AV) (u5 : Option AV) (as0 : Int32) (M : Mem) (O : Int64) (T : Tmp) (c s : Nat) :
  BK L xs E mi_X1_readWork back (k + 8) 47 [some (.inr (.inr (3, i0))), some (.inr (.inr (1, 0))), some (.inl a2), u3, u4, u5] [.inl as0] M O T c s =
    xret tkT mi_X1_readWork 1 (E q_X5_number [.inr (.inr (1, 0)), .inl as0, .inl ((M 3 i0 0) - 1)] M O) (BK L xs E mi_X1_readWork back (k)) 56 [some (.inr (.inr (3, i0))), some (.inr (.inr (1, 0))), some (.inl a2), some (.inl as0), u4, u5] [] T c s :=
  blk_of (fun q => Nat.beq q 47 || Nat.beq q 115 || Nat.beq q 183) (f := fun kk => xret tkT mi_X1_readWork 1 (E q_X5_number [.inr (.inr (1, 0)), .inl as0, .inl ((M 3 i0 0) - 1)] M O) (kk (k)) 56 [some (.inr (.inr (3, i0))), some (.inr (.inr (1, 0))), some (.inl a2), some (.inl as0), u4, u5] [] T c s) (fun kk => rfl)
set_option maxRecDepth 100000 in
theorem e_X1_readWork_81 (L : Nat) (xs : Nat → Int32) (E : CallT) (back : BackT) (k : Nat) (i0 : Nat) (a2 : Int32) (u3 : Option AV) (u4 : Option AV) (u5 : Option AV) (as0 : Int32) (M : Mem) (O : Int64) (T : Tmp) (c s : Nat) :
  BK L xs E mi_X1_readWork back (k + 5) 81 [some (.inr (.inr (3, i0))), some (.inr (.inr (1, 0))), some (.inl a2), u3, u4, u5] [.inl as0] M O T c s =
    xret tkT mi_X1_readWork 1 (E q_X5_number [.inr (.inr (1, 0)), .inl 1, .inl 99] M O) (BK L xs E mi_X1_readWork back (k)) 86 [some (.inr (.inr (3, i0))), some (.inr (.inr (1, 0))), some (.inl a2), some (.inl as0), u4, u5] [] T c s :=
  blk_of (fun q => Nat.beq q 81 || Nat.beq q 115 || Nat.beq q 183) (f := fun kk => xret tkT mi_X1_readWork 1 (E q_X5_number [.inr (.inr (1, 0)), .inl 1, .inl 99] M O) (kk (k)) 86 [some (.inr (.inr (3, i0))), some (.inr (.inr (1, 0))), some (.inl a2), some (.inl as0), u4, u5] [] T c s) (fun kk => rfl)
set_option maxRecDepth 100000 in
theorem e_X1_readWork_105 (L : Nat) (xs : Nat → Int32) (E : CallT) (back : BackT) (k : Nat) (i0 : Nat) (a2 : Int32) (u3 : Option AV) (u4 : Option AV) (u5 : Option AV) (as0 : Int32) (M : Mem) (O : Int64) (T : Tmp) (c s : Nat) :
  BK L xs E mi_X1_readWork back (k + 5) 105 [some (.inr (.inr (3, i0))), some (.inr (.inr (1, 0))), some (.inl a2), u3, u4, u5] [.inl as0] M O T c s =
    xret tkT mi_X1_readWork 1 (E q_X5_number [.inr (.inr (1, 0)), .inl 1, .inl 30] M O) (BK L xs E mi_X1_readWork back (k)) 110 [some (.inr (.inr (3, i0))), some (.inr (.inr (1, 0))), some (.inl a2), some (.inl as0), u4, u5] [] T c s :=
  blk_of (fun q => Nat.beq q 105 || Nat.beq q 115 || Nat.beq q 183) (f := fun kk => xret tkT mi_X1_readWork 1 (E q_X5_number [.inr (.inr (1, 0)), .inl 1, .inl 30] M O) (kk (k)) 110 [some (.inr (.inr (3, i0))), some (.inr (.inr (1, 0))), some (.inl a2), some (.inl as0), u4, u5] [] T c s) (fun kk => rfl)
set_option maxRecDepth 100000 in
theorem e_X1_readWork_25 (L : Nat) (xs : Nat → Int32) (E : CallT) (back : BackT) (k : Nat) (i0 : Nat) (a2 : Int32) (a3 : Int32) (u4 : Option AV) (u5 : Option AV) (as0 : Int32) (M : Mem) (O : Int64) (T : Tmp) (c s : Nat) :
  BK L xs E mi_X1_readWork back (k + 2) 25 [some (.inr (.inr (3, i0))), some (.inr (.inr (1, 0))), some (.inl a2), some (.inl a3), u4, u5] [.inl as0] M O T c s =
    BK L xs E mi_X1_readWork back (k) 115 [some (.inr (.inr (3, i0))), some (.inr (.inr (1, 0))), some (.inl a2), some (.inl a3), some (.inl as0), u5] [] M O T c s :=
  blk_of (fun q => Nat.beq q 25 || Nat.beq q 115 || Nat.beq q 183) (f := fun kk => kk (k) 115 [some (.inr (.inr (3, i0))), some (.inr (.inr (1, 0))), some (.inl a2), some (.inl a3), some (.inl as0), u5] [] M O T c s) (fun kk => rfl)
set_option maxRecDepth 100000 in
theorem e_X1_readWork_59 (L : Nat) (xs : Nat → Int32) (E : CallT) (back : BackT) (k : Nat) (i0 : Nat) (a2 : Int32) (a3 : Int32) (u4 : Option AV) (u5 : Option AV) (as0 : Int32) (M : Mem) (O : Int64) (T : Tmp) (c s : Nat) :
  BK L xs E mi_X1_readWork back (k + 2) 59 [some (.inr (.inr (3, i0))), some (.inr (.inr (1, 0))), some (.inl a2), some (.inl a3), u4, u5] [.inl as0] M O T c s =
    BK L xs E mi_X1_readWork back (k) 115 [some (.inr (.inr (3, i0))), some (.inr (.inr (1, 0))), some (.inl a2), some (.inl a3), some (.inl as0), u5] [] M O T c s :=
  blk_of (fun q => Nat.beq q 59 || Nat.beq q 115 || Nat.beq q 183) (f := fun kk => kk (k) 115 [some (.inr (.inr (3, i0))), some (.inr (.inr (1, 0))), some (.inl a2), some (.inl a3), some (.inl as0), u5] [] M O T c s) (fun kk => rfl)
set_option maxRecDepth 100000 in
theorem e_X1_readWork_89 (L : Nat) (xs : Nat → Int32) (E : CallT) (back : BackT) (k : Nat) (i0 : Nat) (a2 : Int32) (a3 : Int32) (u4 : Option AV) (u5 : Option AV) (as0 : Int32) (M : Mem) (O : Int64) (T : Tmp) (c s : Nat) :
  BK L xs E mi_X1_readWork back (k + 2) 89 [some (.inr (.inr (3, i0))), some (.inr (.inr (1, 0))), some (.inl a2), some (.inl a3), u4, u5] [.inl as0] M O T c s =
    BK L xs E mi_X1_readWork back (k) 115 [some (.inr (.inr (3, i0))), some (.inr (.inr (1, 0))), some (.inl a2), some (.inl a3), some (.inl as0), u5] [] M O T c s :=
  blk_of (fun q => Nat.beq q 89 || Nat.beq q 115 || Nat.beq q 183) (f := fun kk => kk (k) 115 [some (.inr (.inr (3, i0))), some (.inr (.inr (1, 0))), some (.inl a2), some (.inl a3), some (.inl as0), u5] [] M O T c s) (fun kk => rfl)
set_option maxRecDepth 100000 in
theorem e_X1_readWork_113 (L : Nat) (xs : Nat → Int32) (E : CallT) (back : BackT) (k : Nat) (i0 : Nat) (a2 : Int32) (a3 : Int32) (u4 : Option AV) (u5 : Option AV) (as0 : Int32) (M : Mem) (O : Int64) (T : Tmp) (c s : Nat) :
  BK L xs E mi_X1_readWork back (k + 1) 113 [some (.inr (.inr (3, i0))), some (.inr (.inr (1, 0))), some (.inl a2), some (.inl a3), u4, u5] [.inl as0] M O T c s =
    BK L xs E mi_X1_readWork back (k) 115 [some (.inr (.inr (3, i0))), some (.inr (.inr (1, 0))), some (.inl a2), some (.inl a3), some (.inl as0), u5] [] M O T c s :=
  blk_of (fun q => Nat.beq q 113 || Nat.beq q 115 || Nat.beq q 183) (f := fun kk => kk (k) 115 [some (.inr (.inr (3, i0))), some (.inr (.inr (1, 0))), some (.inl a2), some (.inl a3), some (.inl as0), u5] [] M O T c s) (fun kk => rfl)
set_option maxRecDepth 100000 in
theorem e_X1_readWork_115 (L : Nat) (xs : Nat → Int32) (E : CallT) (back : BackT) (k : Nat) (i0 : Nat) (a2 : Int32) (a3 : Int32) (a4 : Int32) (u5 : Option AV) (M : Mem) (O : Int64) (T : Tmp) (c s : Nat) :
  BK L xs E mi_X1_readWork back (k + 4) 115 [some (.inr (.inr (3, i0))), some (.inr (.inr (1, 0))), some (.inl a2), some (.inl a3), some (.inl a4), u5] [] M O T c s =
    xret tkT mi_X1_readWork 1 (E q_X5_number [.inr (.inr (1, 0)), .inl 1, .inl 99] M O) (BK L xs E mi_X1_readWork back (k)) 119 [some (.inr (.inr (3, i0))), some (.inr (.inr (1, 0))), some (.inl a2), some (.inl a3), some (.inl a4), u5] [] T c s :=
  blk_of (fun q => Nat.beq q 115 || Nat.beq q 183) (f := fun kk => xret tkT mi_X1_readWork 1 (E q_X5_number [.inr (.inr (1, 0)), .inl 1, .inl 99] M O) (kk (k)) 119 [some (.inr (.inr (3, i0))), some (.inr (.inr (1, 0))), some (.inl a2), some (.inl a3), some (.inl a4), u5] [] T c s) (fun kk => rfl)
set_option maxRecDepth 100000 in
theorem e_X1_readWork_122 (L : Nat) (xs : Nat → Int32) (E : CallT) (back : BackT) (k : Nat) (i0 : Nat) (a2 : Int32) (a3 : Int32) (a4 : Int32) (u5 : Option AV) (as0 : Int32) (M : Mem) (O : Int64) (T : Tmp) (c s : Nat) :
  BK L xs E mi_X1_readWork back (k + 3) 122 [some (.inr (.inr (3, i0))), some (.inr (.inr (1, 0))), some (.inl a2), some (.inl a3), some (.inl a4), u5] [.inl as0] M O T c s =
    xret tkT mi_X1_readWork 1 (E q_X5_closes [.inr (.inr (1, 0))] M O) (BK L xs E mi_X1_readWork back (k)) 125 [some (.inr (.inr (3, i0))), some (.inr (.inr (1, 0))), some (.inl a2), some (.inl a3), some (.inl a4), some (.inl as0)] [] T c s :=
  blk_of (fun q => Nat.beq q 115 || Nat.beq q 122 || Nat.beq q 183) (f := fun kk => xret tkT mi_X1_readWork 1 (E q_X5_closes [.inr (.inr (1, 0))] M O) (kk (k)) 125 [some (.inr (.inr (3, i0))), some (.inr (.inr (1, 0))), some (.inl a2), some (.inl a3), some (.inl a4), some (.inl as0)] [] T c s) (fun kk => rfl)
set_option maxRecDepth 100000 in
theorem e_X1_readWork_128 (L : Nat) (xs : Nat → Int32) (E : CallT) (back : BackT) (k : Nat) (i0 : Nat) (a2 : Int32) (a3 : Int32) (a4 : Int32) (a5 : Int32) (as0 : Int32) (M : Mem) (O : Int64) (T : Tmp) (c s : Nat) :
  BK L xs E mi_X1_readWork back (k + 31) 128 [some (.inr (.inr (3, i0))), some (.inr (.inr (1, 0))), some (.inl a2), some (.inl a3), some (.inl a4), some (.inl a5)] [.inl as0] M O T c s =
    if as0 = 0 then (BK L xs E mi_X1_readWork back (k + 30) 183 [some (.inr (.inr (3, i0))), some (.inr (.inr (1, 0))), some (.inl a2), some (.inl a3), some (.inl a4), some (.inl a5)] [] M O T c s) else (if 0 ≤ ((M 3 i0 13) : Int32).toInt ∧ ((M 3 i0 13) : Int32).toInt < 8 then (if 0 ≤ ((M 3 i0 13) : Int32).toInt ∧ ((M 3 i0 13) : Int32).toInt < 8 then (if 0 ≤ ((M 3 i0 13) : Int32).toInt ∧ ((M 3 i0 13) : Int32).toInt < 8 then (if 0 ≤ ((M 3 i0 13) : Int32).toInt ∧ ((M 3 i0 13) : Int32).toInt < 8 then (BK L xs E mi_X1_readWork back (k) 183 [some (.inr (.inr (3, i0))), some (.inr (.inr (1, 0))), some (.inl a2), some (.inl a3), some (.inl a4), some (.inl a5)] [] (mput (mput (mput (mput (mput M 14 i0 ((M 3 i0 13) : Int32).toNatClampNeg a2) 15 i0 ((M 3 i0 13) : Int32).toNatClampNeg a3) 16 i0 ((M 3 i0 13) : Int32).toNatClampNeg a4) 17 i0 ((M 3 i0 13) : Int32).toNatClampNeg a5) 3 i0 13 ((M 3 i0 13) + 1)) O T c s) else none) else none) else none) else none) :=
  blk_of (fun q => Nat.beq q 115 || Nat.beq q 128 || Nat.beq q 183) (f := fun kk => if as0 = 0 then (kk (k + 30) 183 [some (.inr (.inr (3, i0))), some (.inr (.inr (1, 0))), some (.inl a2), some (.inl a3), some (.inl a4), some (.inl a5)] [] M O T c s) else (if 0 ≤ ((M 3 i0 13) : Int32).toInt ∧ ((M 3 i0 13) : Int32).toInt < 8 then (if 0 ≤ ((M 3 i0 13) : Int32).toInt ∧ ((M 3 i0 13) : Int32).toInt < 8 then (if 0 ≤ ((M 3 i0 13) : Int32).toInt ∧ ((M 3 i0 13) : Int32).toInt < 8 then (if 0 ≤ ((M 3 i0 13) : Int32).toInt ∧ ((M 3 i0 13) : Int32).toInt < 8 then (kk (k) 183 [some (.inr (.inr (3, i0))), some (.inr (.inr (1, 0))), some (.inl a2), some (.inl a3), some (.inl a4), some (.inl a5)] [] (mput (mput (mput (mput (mput M 14 i0 ((M 3 i0 13) : Int32).toNatClampNeg a2) 15 i0 ((M 3 i0 13) : Int32).toNatClampNeg a3) 16 i0 ((M 3 i0 13) : Int32).toNatClampNeg a4) 17 i0 ((M 3 i0 13) : Int32).toNatClampNeg a5) 3 i0 13 ((M 3 i0 13) + 1)) O T c s) else none) else none) else none) else none)) (fun kk => rfl)
set_option maxRecDepth 100000 in
theorem e_X1_readWork_183 (L : Nat) (xs : Nat → Int32) (E : CallT) (back : BackT) (k : Nat) (i0 : Nat) (a2 : Int32) (a3 : Int32) (a4 : Int32) (a5 : Int32) (M : Mem) (O : Int64) (T : Tmp) (c s : Nat) :
  BK L xs E mi_X1_readWork back (k + 1) 183 [some (.inr (.inr (3, i0))), some (.inr (.inr (1, 0))), some (.inl a2), some (.inl a3), some (.inl a4), some (.inl a5)] [] M O T c s =
    some (.inl none, M, O, c, s) :=
  blk_of (fun q => Nat.beq q 115 || Nat.beq q 183) (f := fun kk => some (.inl none, M, O, c, s)) (fun kk => rfl)
set_option maxRecDepth 100000 in
theorem e_X5_isPart_0 (L : Nat) (xs : Nat → Int32) (E : CallT) (back : BackT) (k : Nat) (a2 : Int32) (a3 : Int32) (a4 : Int32) (M : Mem) (O : Int64) (T : Tmp) (c s : Nat) :
  BK L xs E mi_X5_isPart back (k + 10) 0 [some (.inr (.inr (1, 0))), some (.inr (.inr (93, 0))), some (.inl a2), some (.inl a3), some (.inl a4), none] [] M O T c s =
    if (a3 - a2) = ((M 1 0 3) - a4) then (BK L xs E mi_X5_isPart back (k) 18 [some (.inr (.inr (1, 0))), some (.inr (.inr (93, 0))), some (.inl a2), some (.inl a3), some (.inl a4), some (.inl a2)] [] M O T c s) else (some (.inl (some (.inl 0)), M, O, c, s)) :=
  blk_of (fun q => Nat.beq q 0 || Nat.beq q 18) (f := fun kk => if (a3 - a2) = ((M 1 0 3) - a4) then (kk (k) 18 [some (.inr (.inr (1, 0))), some (.inr (.inr (93, 0))), some (.inl a2), some (.inl a3), some (.inl a4), some (.inl a2)] [] M O T c s) else (some (.inl (some (.inl 0)), M, O, c, s))) (fun kk => rfl)
set_option maxRecDepth 100000 in
theorem e_X5_isPart_18 (L : Nat) (xs : Nat → Int32) (E : CallT) (back : BackT) (k : Nat) (a2 : Int32) (a3 : Int32) (a4 : Int32) (a5 : Int32) (M : Mem) (O : Int64) (T : Tmp) (c s : Nat) :
  BK L xs E mi_X5_isPart back (k + 6) 18 [some (.inr (.inr (1, 0))), some (.inr (.inr (93, 0))), some (.inl a2), some (.inl a3), some (.inl a4), some (.inl a5)] [] M O T c s =
    if a3 ≤ a5 then (some (.inl (some (.inl 1)), M, O, c, s)) else (xret tkT mi_X5_isPart 0 (E 901 [.inr (.inr (93, 0)), .inl a5] M O) (BK L xs E mi_X5_isPart back (k)) 27 [some (.inr (.inr (1, 0))), some (.inr (.inr (93, 0))), some (.inl a2), some (.inl a3), some (.inl a4), some (.inl a5)] [] T c s) :=
  blk_of (fun q => Nat.beq q 18) (f := fun kk => if a3 ≤ a5 then (some (.inl (some (.inl 1)), M, O, c, s)) else (xret tkT mi_X5_isPart 0 (E 901 [.inr (.inr (93, 0)), .inl a5] M O) (kk (k)) 27 [some (.inr (.inr (1, 0))), some (.inr (.inr (93, 0))), some (.inl a2), some (.inl a3), some (.inl a4), some (.inl a5)] [] T c s)) (fun kk => rfl)
set_option maxRecDepth 100000 in
theorem e_X5_isPart_30 (L : Nat) (xs : Nat → Int32) (E : CallT) (back : BackT) (k : Nat) (a2 : Int32) (a3 : Int32) (a4 : Int32) (a5 : Int32) (as0 : Int32) (M : Mem) (O : Int64) (T : Tmp) (c s : Nat) :
  BK L xs E mi_X5_isPart back (k + 11) 30 [some (.inr (.inr (1, 0))), some (.inr (.inr (93, 0))), some (.inl a2), some (.inl a3), some (.inl a4), some (.inl a5)] [.inl as0] M O T c s =
    if 0 ≤ (((a4 + a5) - a2) : Int32).toInt ∧ (((a4 + a5) - a2) : Int32).toInt < 600 then (if as0 = (M 2 0 (((a4 + a5) - a2) : Int32).toNatClampNeg) then (back 18 [some (.inr (.inr (1, 0))), some (.inr (.inr (93, 0))), some (.inl a2), some (.inl a3), some (.inl a4), some (.inl (a5 + 1))] M O T c s) else (some (.inl (some (.inl 0)), M, O, c, s))) else none :=
  blk_of (fun q => Nat.beq q 18 || Nat.beq q 30) (f := fun kk => if 0 ≤ (((a4 + a5) - a2) : Int32).toInt ∧ (((a4 + a5) - a2) : Int32).toInt < 600 then (if as0 = (M 2 0 (((a4 + a5) - a2) : Int32).toNatClampNeg) then (back 18 [some (.inr (.inr (1, 0))), some (.inr (.inr (93, 0))), some (.inl a2), some (.inl a3), some (.inl a4), some (.inl (a5 + 1))] M O T c s) else (some (.inl (some (.inl 0)), M, O, c, s))) else none) (fun kk => rfl)
set_option maxRecDepth 100000 in
theorem e_X5_word_0 (L : Nat) (xs : Nat → Int32) (E : CallT) (back : BackT) (k : Nat)  (M : Mem) (O : Int64) (T : Tmp) (c s : Nat) :
  BK L xs E mi_X5_word back (k + 3) 0 [some (.inr (.inr (1, 0))), some (.inr (.inr (93, 0))), none, none, none, none] [] M O T c s =
    BK L xs E mi_X5_word back (k) 5 [some (.inr (.inr (1, 0))), some (.inr (.inr (93, 0))), some (.inl (M 1 0 3)), none, none, none] [] M O T c s :=
  blk_of (fun q => Nat.beq q 0 || Nat.beq q 5 || Nat.beq q 40 || Nat.beq q 48 || Nat.beq q 92) (f := fun kk => kk (k) 5 [some (.inr (.inr (1, 0))), some (.inr (.inr (93, 0))), some (.inl (M 1 0 3)), none, none, none] [] M O T c s) (fun kk => rfl)
set_option maxRecDepth 100000 in
theorem e_X5_word_5 (L : Nat) (xs : Nat → Int32) (E : CallT) (back : BackT) (k : Nat) (a2 : Int32) (u3 : Option AV) (u4 : Option AV) (u5 : Option AV) (M : Mem) (O : Int64) (T : Tmp) (c s : Nat) :
  BK L xs E mi_X5_word back (k + 9) 5 [some (.inr (.inr (1, 0))), some (.inr (.inr (93, 0))), some (.inl a2), u3, u4, u5] [] M O T c s =
    if (M 1 0 2) ≤ (M 1 0 3) then (BK L xs E mi_X5_word back (k + 4) 40 [some (.inr (.inr (1, 0))), some (.inr (.inr (93, 0))), some (.inl a2), u3, u4, u5] [] M O T c s) else (xret tkT mi_X5_word 0 (E q_X5_isFrom [.inr (.inr (1, 0)), .inl 97, .inl 122] M O) (BK L xs E mi_X5_word back (k)) 21 [some (.inr (.inr (1, 0))), some (.inr (.inr (93, 0))), some (.inl a2), u3, u4, u5] [] T c s) :=
  blk_of (fun q => Nat.beq q 5 || Nat.beq q 40 || Nat.beq q 48 || Nat.beq q 92) (f := fun kk => if (M 1 0 2) ≤ (M 1 0 3) then (kk (k + 4) 40 [some (.inr (.inr (1, 0))), some (.inr (.inr (93, 0))), some (.inl a2), u3, u4, u5] [] M O T c s) else (xret tkT mi_X5_word 0 (E q_X5_isFrom [.inr (.inr (1, 0)), .inl 97, .inl 122] M O) (kk (k)) 21 [some (.inr (.inr (1, 0))), some (.inr (.inr (93, 0))), some (.inl a2), u3, u4, u5] [] T c s)) (fun kk => rfl)
set_option maxRecDepth 100000 in
theorem e_X5_word_40 (L : Nat) (xs : Nat → Int32) (E : CallT) (back : BackT) (k : Nat) (a2 : Int32) (u3 : Option AV) (u4 : Option AV) (u5 : Option AV) (M : Mem) (O : Int64) (T : Tmp) (c s : Nat) :
  BK L xs E mi_X5_word back (k + 6) 40 [some (.inr (.inr (1, 0))), some (.inr (.inr (93, 0))), some (.inl a2), u3, u4, u5] [] M O T c s =
    BK L xs E mi_X5_word back (k) 48 [some (.inr (.inr (1, 0))), some (.inr (.inr (93, 0))), some (.inl a2), some (.inl 0), some (.inl 0), some (.inl 0)] [] M O T c s :=
  blk_of (fun q => Nat.beq q 5 || Nat.beq q 40 || Nat.beq q 48 || Nat.beq q 92) (f := fun kk => kk (k) 48 [some (.inr (.inr (1, 0))), some (.inr (.inr (93, 0))), some (.inl a2), some (.inl 0), some (.inl 0), some (.inl 0)] [] M O T c s) (fun kk => rfl)
set_option maxRecDepth 100000 in
theorem e_X5_word_24 (L : Nat) (xs : Nat → Int32) (E : CallT) (back : BackT) (k : Nat) (a2 : Int32) (u3 : Option AV) (u4 : Option AV) (u5 : Option AV) (as0 : Int32) (M : Mem) (O : Int64) (T : Tmp) (c s : Nat) :
  BK L xs E mi_X5_word back (k + 8) 24 [some (.inr (.inr (1, 0))), some (.inr (.inr (93, 0))), some (.inl a2), u3, u4, u5] [.inl as0] M O T c s =
    if as0 = 0 then (BK L xs E mi_X5_word back (k + 7) 40 [some (.inr (.inr (1, 0))), some (.inr (.inr (93, 0))), some (.inl a2), u3, u4, u5] [] M O T c s) else (back 5 [some (.inr (.inr (1, 0))), some (.inr (.inr (93, 0))), some (.inl a2), u3, u4, u5] (mput M 1 0 3 ((M 1 0 3) + 1)) O T c s) :=
  blk_of (fun q => Nat.beq q 5 || Nat.beq q 24 || Nat.beq q 40 || Nat.beq q 48 || Nat.beq q 92) (f := fun kk => if as0 = 0 then (kk (k + 7) 40 [some (.inr (.inr (1, 0))), some (.inr (.inr (93, 0))), some (.inl a2), u3, u4, u5] [] M O T c s) else (back 5 [some (.inr (.inr (1, 0))), some (.inr (.inr (93, 0))), some (.inl a2), u3, u4, u5] (mput M 1 0 3 ((M 1 0 3) + 1)) O T c s)) (fun kk => rfl)
set_option maxRecDepth 100000 in
theorem e_X5_word_48 (L : Nat) (xs : Nat → Int32) (d : Nat) (back : BackT) (k : Nat) (a2 : Int32) (a3 : Int32) (a4 : Int32) (a5 : Int32) (M : Mem) (O : Int64) (T : Tmp) (c s : Nat) :
  BK L xs (EX L xs (d + 1)) mi_X5_word back (k + 3) 48 [some (.inr (.inr (1, 0))), some (.inr (.inr (93, 0))), some (.inl a2), some (.inl a3), some (.inl a4), some (.inl a5)] [] M O T c s =
    BK L xs (EX L xs (d + 1)) mi_X5_word back (k) 54 [some (.inr (.inr (1, 0))), some (.inr (.inr (93, 0))), some (.inl a2), some (.inl a3), some (.inl a4), some (.inl a5)] [.inl (Int32.ofNat 56), .inl a5] M O T c s :=
  blk_of (fun q => Nat.beq q 5 || Nat.beq q 40 || Nat.beq q 48 || Nat.beq q 92) (f := fun kk => kk (k) 54 [some (.inr (.inr (1, 0))), some (.inr (.inr (93, 0))), some (.inl a2), some (.inl a3), some (.inl a4), some (.inl a5)] [.inl (Int32.ofNat 56), .inl a5] M O T c s) (fun kk => rfl)
set_option maxRecDepth 100000 in
theorem e_X5_word_54 (L : Nat) (xs : Nat → Int32) (E : CallT) (back : BackT) (k : Nat) (a2 : Int32) (a3 : Int32) (a4 : Int32) (a5 : Int32) (as0 : Int32) (as1 : Int32) (M : Mem) (O : Int64) (T : Tmp) (c s : Nat) :
  BK L xs E mi_X5_word back (k + 5) 54 [some (.inr (.inr (1, 0))), some (.inr (.inr (93, 0))), some (.inl a2), some (.inl a3), some (.inl a4), some (.inl a5)] [.inl as0, .inl as1] M O T c s =
    if as0 ≤ as1 then (xret tkT mi_X5_word 0 (E q_X5_blame [.inr (.inr (1, 0)), .inl 1, .inl a2] M O) (BK L xs E mi_X5_word back (k)) 101 [some (.inr (.inr (1, 0))), some (.inr (.inr (93, 0))), some (.inl a2), some (.inl a3), some (.inl a4), some (.inl a5)] [] T c s) else (xret tkT mi_X5_word 0 (E 901 [.inr (.inr (93, 0)), .inl a5] M O) (BK L xs E mi_X5_word back (k + 1)) 60 [some (.inr (.inr (1, 0))), some (.inr (.inr (93, 0))), some (.inl a2), some (.inl a3), some (.inl a4), some (.inl a5)] [] T c s) :=
  blk_of (fun q => Nat.beq q 5 || Nat.beq q 40 || Nat.beq q 48 || Nat.beq q 54 || Nat.beq q 92) (f := fun kk => if as0 ≤ as1 then (xret tkT mi_X5_word 0 (E q_X5_blame [.inr (.inr (1, 0)), .inl 1, .inl a2] M O) (kk (k)) 101 [some (.inr (.inr (1, 0))), some (.inr (.inr (93, 0))), some (.inl a2), some (.inl a3), some (.inl a4), some (.inl a5)] [] T c s) else (xret tkT mi_X5_word 0 (E 901 [.inr (.inr (93, 0)), .inl a5] M O) (kk (k + 1)) 60 [some (.inr (.inr (1, 0))), some (.inr (.inr (93, 0))), some (.inl a2), some (.inl a3), some (.inl a4), some (.inl a5)] [] T c s)) (fun kk => rfl)
set_option maxRecDepth 100000 in
theorem e_X5_word_104 (L : Nat) (xs : Nat → Int32) (E : CallT) (back : BackT) (k : Nat) (a2 : Int32) (a3 : Int32) (a4 : Int32) (a5 : Int32) (M : Mem) (O : Int64) (T : Tmp) (c s : Nat) :
  BK L xs E mi_X5_word back (k + 2) 104 [some (.inr (.inr (1, 0))), some (.inr (.inr (93, 0))), some (.inl a2), some (.inl a3), some (.inl a4), some (.inl a5)] [] M O T c s =
    some (.inl (some (.inl (-1))), M, O, c, s) :=
  blk_of (fun q => Nat.beq q 5 || Nat.beq q 40 || Nat.beq q 48 || Nat.beq q 92 || Nat.beq q 104) (f := fun kk => some (.inl (some (.inl (-1))), M, O, c, s)) (fun kk => rfl)
set_option maxRecDepth 100000 in
theorem e_X5_word_63 (L : Nat) (xs : Nat → Int32) (E : CallT) (back : BackT) (k : Nat) (a2 : Int32) (a3 : Int32) (a4 : Int32) (a5 : Int32) (as0 : Int32) (M : Mem) (O : Int64) (T : Tmp) (c s : Nat) :
  BK L xs E mi_X5_word back (k + 8) 63 [some (.inr (.inr (1, 0))), some (.inr (.inr (93, 0))), some (.inl a2), some (.inl a3), some (.inl a4), some (.inl a5)] [.inl as0] M O T c s =
    if as0 = 32 then (xret tkT mi_X5_word 0 (E q_X5_isPart [.inr (.inr (1, 0)), .inr (.inr (93, 0)), .inl a4, .inl a5, .inl a2] M O) (BK L xs E mi_X5_word back (k)) 75 [some (.inr (.inr (1, 0))), some (.inr (.inr (93, 0))), some (.inl a2), some (.inl a3), some (.inl a4), some (.inl a5)] [] T c s) else (BK L xs E mi_X5_word back (k + 6) 92 [some (.inr (.inr (1, 0))), some (.inr (.inr (93, 0))), some (.inl a2), some (.inl a3), some (.inl a4), some (.inl a5)] [] M O T c s) :=
  blk_of (fun q => Nat.beq q 5 || Nat.beq q 40 || Nat.beq q 48 || Nat.beq q 63 || Nat.beq q 92) (f := fun kk => if as0 = 32 then (xret tkT mi_X5_word 0 (E q_X5_isPart [.inr (.inr (1, 0)), .inr (.inr (93, 0)), .inl a4, .inl a5, .inl a2] M O) (kk (k)) 75 [some (.inr (.inr (1, 0))), some (.inr (.inr (93, 0))), some (.inl a2), some (.inl a3), some (.inl a4), some (.inl a5)] [] T c s) else (kk (k + 6) 92 [some (.inr (.inr (1, 0))), some (.inr (.inr (93, 0))), some (.inl a2), some (.inl a3), some (.inl a4), some (.inl a5)] [] M O T c s)) (fun kk => rfl)
set_option maxRecDepth 100000 in
theorem e_X5_word_78 (L : Nat) (xs : Nat → Int32) (E : CallT) (back : BackT) (k : Nat) (a2 : Int32) (a3 : Int32) (a4 : Int32) (a5 : Int32) (as0 : Int32) (M : Mem) (O : Int64) (T : Tmp) (c s : Nat) :
  BK L xs E mi_X5_word back (k + 6) 78 [some (.inr (.inr (1, 0))), some (.inr (.inr (93, 0))), some (.inl a2), some (.inl a3), some (.inl a4), some (.inl a5)] [.inl as0] M O T c s =
    if as0 = 0 then (BK L xs E mi_X5_word back (k) 92 [some (.inr (.inr (1, 0))), some (.inr (.inr (93, 0))), some (.inl a2), some (.inl (a3 + 1)), some (.inl (a5 + 1)), some (.inl a5)] [] M O T c s) else (some (.inl (some (.inl a3)), M, O, c, s)) :=
  blk_of (fun q => Nat.beq q 5 || Nat.beq q 40 || Nat.beq q 48 || Nat.beq q 78 || Nat.beq q 92) (f := fun kk => if as0 = 0 then (kk (k) 92 [some (.inr (.inr (1, 0))), some (.inr (.inr (93, 0))), some (.inl a2), some (.inl (a3 + 1)), some (.inl (a5 + 1)), some (.inl a5)] [] M O T c s) else (some (.inl (some (.inl a3)), M, O, c, s))) (fun kk => rfl)
set_option maxRecDepth 100000 in
theorem e_X5_word_92 (L : Nat) (xs : Nat → Int32) (E : CallT) (back : BackT) (k : Nat) (a2 : Int32) (a3 : Int32) (a4 : Int32) (a5 : Int32) (M : Mem) (O : Int64) (T : Tmp) (c s : Nat) :
  BK L xs E mi_X5_word back (k + 2) 92 [some (.inr (.inr (1, 0))), some (.inr (.inr (93, 0))), some (.inl a2), some (.inl a3), some (.inl a4), some (.inl a5)] [] M O T c s =
    back 48 [some (.inr (.inr (1, 0))), some (.inr (.inr (93, 0))), some (.inl a2), some (.inl a3), some (.inl a4), some (.inl (a5 + 1))] M O T c s :=
  blk_of (fun q => Nat.beq q 5 || Nat.beq q 40 || Nat.beq q 48 || Nat.beq q 92) (f := fun kk => back 48 [some (.inr (.inr (1, 0))), some (.inr (.inr (93, 0))), some (.inl a2), some (.inl a3), some (.inl a4), some (.inl (a5 + 1))] M O T c s) (fun kk => rfl)
set_option maxRecDepth 100000 in
theorem e_X1_isFull_0 (L : Nat) (xs : Nat → Int32) (E : CallT) (back : BackT) (k : Nat) (i0 : Nat) (a1 : Int32) (M : Mem) (O : Int64) (T : Tmp) (c s : Nat) :
  BK L xs E mi_X1_isFull back (k + 7) 0 [some (.inr (.inr (3, i0))), some (.inl a1)] [] M O T c s =
    if a1 = 3 then (if (8 : Int32) ≤ (M 3 i0 4) then (BK L xs E mi_X1_isFull back (k) 43 [some (.inr (.inr (3, i0))), some (.inl a1)] [] M O T c s) else (BK L xs E mi_X1_isFull back (k) 14 [some (.inr (.inr (3, i0))), some (.inl a1)] [] M O T c s)) else (BK L xs E mi_X1_isFull back (k + 4) 14 [some (.inr (.inr (3, i0))), some (.inl a1)] [] M O T c s) :=
  blk_of (fun q => Nat.beq q 0 || Nat.beq q 14 || Nat.beq q 28 || Nat.beq q 43 || Nat.beq q 47 || Nat.beq q 48) (f := fun kk => if a1 = 3 then (if (8 : Int32) ≤ (M 3 i0 4) then (kk (k) 43 [some (.inr (.inr (3, i0))), some (.inl a1)] [] M O T c s) else (kk (k) 14 [some (.inr (.inr (3, i0))), some (.inl a1)] [] M O T c s)) else (kk (k + 4) 14 [some (.inr (.inr (3, i0))), some (.inl a1)] [] M O T c s)) (fun kk => rfl)
set_option maxRecDepth 100000 in
theorem e_X1_isFull_43 (L : Nat) (xs : Nat → Int32) (E : CallT) (back : BackT) (k : Nat) (i0 : Nat) (a1 : Int32) (M : Mem) (O : Int64) (T : Tmp) (c s : Nat) :
  BK L xs E mi_X1_isFull back (k + 2) 43 [some (.inr (.inr (3, i0))), some (.inl a1)] [] M O T c s =
    BK L xs E mi_X1_isFull back (k) 48 [some (.inr (.inr (3, i0))), some (.inl a1)] [.inl 1] M O T c s :=
  blk_of (fun q => Nat.beq q 14 || Nat.beq q 28 || Nat.beq q 43 || Nat.beq q 47 || Nat.beq q 48) (f := fun kk => kk (k) 48 [some (.inr (.inr (3, i0))), some (.inl a1)] [.inl 1] M O T c s) (fun kk => rfl)
set_option maxRecDepth 100000 in
theorem e_X1_isFull_14 (L : Nat) (xs : Nat → Int32) (E : CallT) (back : BackT) (k : Nat) (i0 : Nat) (a1 : Int32) (M : Mem) (O : Int64) (T : Tmp) (c s : Nat) :
  BK L xs E mi_X1_isFull back (k + 7) 14 [some (.inr (.inr (3, i0))), some (.inl a1)] [] M O T c s =
    if a1 = 5 then (if (6 : Int32) ≤ (M 3 i0 8) then (BK L xs E mi_X1_isFull back (k) 43 [some (.inr (.inr (3, i0))), some (.inl a1)] [] M O T c s) else (BK L xs E mi_X1_isFull back (k) 28 [some (.inr (.inr (3, i0))), some (.inl a1)] [] M O T c s)) else (BK L xs E mi_X1_isFull back (k + 4) 28 [some (.inr (.inr (3, i0))), some (.inl a1)] [] M O T c s) :=
  blk_of (fun q => Nat.beq q 14 || Nat.beq q 28 || Nat.beq q 43 || Nat.beq q 47 || Nat.beq q 48) (f := fun kk => if a1 = 5 then (if (6 : Int32) ≤ (M 3 i0 8) then (kk (k) 43 [some (.inr (.inr (3, i0))), some (.inl a1)] [] M O T c s) else (kk (k) 28 [some (.inr (.inr (3, i0))), some (.inl a1)] [] M O T c s)) else (kk (k + 4) 28 [some (.inr (.inr (3, i0))), some (.inl a1)] [] M O T c s)) (fun kk => rfl)
set_option maxRecDepth 100000 in
theorem e_X1_isFull_48 (L : Nat) (xs : Nat → Int32) (E : CallT) (back : BackT) (k : Nat) (i0 : Nat) (a1 : Int32) (as0 : Int32) (M : Mem) (O : Int64) (T : Tmp) (c s : Nat) :
  BK L xs E mi_X1_isFull back (k + 1) 48 [some (.inr (.inr (3, i0))), some (.inl a1)] [.inl as0] M O T c s =
    if (as0 : Int32) = 0 ∨ (as0 : Int32) = 1 then some (.inl (some (.inl as0)), M, O, c, s) else none :=
  blk_of (fun q => Nat.beq q 14 || Nat.beq q 28 || Nat.beq q 43 || Nat.beq q 47 || Nat.beq q 48) (f := fun kk => if (as0 : Int32) = 0 ∨ (as0 : Int32) = 1 then some (.inl (some (.inl as0)), M, O, c, s) else none) (fun kk => rfl)
set_option maxRecDepth 100000 in
theorem e_X1_isFull_28 (L : Nat) (xs : Nat → Int32) (E : CallT) (back : BackT) (k : Nat) (i0 : Nat) (a1 : Int32) (M : Mem) (O : Int64) (T : Tmp) (c s : Nat) :
  BK L xs E mi_X1_isFull back (k + 7) 28 [some (.inr (.inr (3, i0))), some (.inl a1)] [] M O T c s =
    if a1 < 6 then (BK L xs E mi_X1_isFull back (k + 4) 47 [some (.inr (.inr (3, i0))), some (.inl a1)] [] M O T c s) else (if (M 3 i0 13) < 8 then (BK L xs E mi_X1_isFull back (k) 47 [some (.inr (.inr (3, i0))), some (.inl a1)] [] M O T c s) else (BK L xs E mi_X1_isFull back (k) 43 [some (.inr (.inr (3, i0))), some (.inl a1)] [] M O T c s)) :=
  blk_of (fun q => Nat.beq q 14 || Nat.beq q 28 || Nat.beq q 43 || Nat.beq q 47 || Nat.beq q 48) (f := fun kk => if a1 < 6 then (kk (k + 4) 47 [some (.inr (.inr (3, i0))), some (.inl a1)] [] M O T c s) else (if (M 3 i0 13) < 8 then (kk (k) 47 [some (.inr (.inr (3, i0))), some (.inl a1)] [] M O T c s) else (kk (k) 43 [some (.inr (.inr (3, i0))), some (.inl a1)] [] M O T c s))) (fun kk => rfl)
set_option maxRecDepth 100000 in
theorem e_X1_isFull_47 (L : Nat) (xs : Nat → Int32) (E : CallT) (back : BackT) (k : Nat) (i0 : Nat) (a1 : Int32) (M : Mem) (O : Int64) (T : Tmp) (c s : Nat) :
  BK L xs E mi_X1_isFull back (k + 1) 47 [some (.inr (.inr (3, i0))), some (.inl a1)] [] M O T c s =
    BK L xs E mi_X1_isFull back (k) 48 [some (.inr (.inr (3, i0))), some (.inl a1)] [.inl 0] M O T c s :=
  blk_of (fun q => Nat.beq q 14 || Nat.beq q 28 || Nat.beq q 43 || Nat.beq q 47 || Nat.beq q 48) (f := fun kk => kk (k) 48 [some (.inr (.inr (3, i0))), some (.inl a1)] [.inl 0] M O T c s) (fun kk => rfl)
set_option maxRecDepth 100000 in
theorem e_X1_readCells_0 (L : Nat) (xs : Nat → Int32) (E : CallT) (back : BackT) (k : Nat) (i0 : Nat) (M : Mem) (O : Int64) (T : Tmp) (c s : Nat) :
  BK L xs E mi_X1_readCells back (k + 4) 0 [some (.inr (.inr (3, i0))), some (.inr (.inr (1, 0))), none] [] M O T c s =
    xret tkT mi_X1_readCells 1 (E q_X5_number [.inr (.inr (1, 0)), .inl 8, .inl 40] M O) (BK L xs E mi_X1_readCells back (k)) 5 [some (.inr (.inr (3, i0))), some (.inr (.inr (1, 0))), none] [] T c s :=
  blk_of (fun q => Nat.beq q 0 || Nat.beq q 21) (f := fun kk => xret tkT mi_X1_readCells 1 (E q_X5_number [.inr (.inr (1, 0)), .inl 8, .inl 40] M O) (kk (k)) 5 [some (.inr (.inr (3, i0))), some (.inr (.inr (1, 0))), none] [] T c s) (fun kk => rfl)
set_option maxRecDepth 100000 in
theorem e_X1_readCells_8 (L : Nat) (xs : Nat → Int32) (E : CallT) (back : BackT) (k : Nat) (i0 : Nat) (u2 : Option AV) (as0 : Int32) (M : Mem) (O : Int64) (T : Tmp) (c s : Nat) :
  BK L xs E mi_X1_readCells back (k + 3) 8 [some (.inr (.inr (3, i0))), some (.inr (.inr (1, 0))), u2] [.inl as0] M O T c s =
    xret tkT mi_X1_readCells 1 (E q_X5_closes [.inr (.inr (1, 0))] M O) (BK L xs E mi_X1_readCells back (k)) 10 [some (.inr (.inr (3, i0))), some (.inr (.inr (1, 0))), some (.inl as0)] [] T c s :=
  blk_of (fun q => Nat.beq q 8 || Nat.beq q 21) (f := fun kk => xret tkT mi_X1_readCells 1 (E q_X5_closes [.inr (.inr (1, 0))] M O) (kk (k)) 10 [some (.inr (.inr (3, i0))), some (.inr (.inr (1, 0))), some (.inl as0)] [] T c s) (fun kk => rfl)
set_option maxRecDepth 100000 in
theorem e_X1_readCells_13 (L : Nat) (xs : Nat → Int32) (E : CallT) (back : BackT) (k : Nat) (i0 : Nat) (a2 : Int32) (as0 : Int32) (M : Mem) (O : Int64) (T : Tmp) (c s : Nat) :
  BK L xs E mi_X1_readCells back (k + 4) 13 [some (.inr (.inr (3, i0))), some (.inr (.inr (1, 0))), some (.inl a2)] [.inl as0] M O T c s =
    if as0 = 0 then (BK L xs E mi_X1_readCells back (k + 3) 21 [some (.inr (.inr (3, i0))), some (.inr (.inr (1, 0))), some (.inl a2)] [] M O T c s) else (BK L xs E mi_X1_readCells back (k) 21 [some (.inr (.inr (3, i0))), some (.inr (.inr (1, 0))), some (.inl a2)] [] (mput M 3 i0 0 a2) O T c s) :=
  blk_of (fun q => Nat.beq q 13 || Nat.beq q 21) (f := fun kk => if as0 = 0 then (kk (k + 3) 21 [some (.inr (.inr (3, i0))), some (.inr (.inr (1, 0))), some (.inl a2)] [] M O T c s) else (kk (k) 21 [some (.inr (.inr (3, i0))), some (.inr (.inr (1, 0))), some (.inl a2)] [] (mput M 3 i0 0 a2) O T c s)) (fun kk => rfl)
set_option maxRecDepth 100000 in
theorem e_X1_readCells_21 (L : Nat) (xs : Nat → Int32) (E : CallT) (back : BackT) (k : Nat) (i0 : Nat) (a2 : Int32) (M : Mem) (O : Int64) (T : Tmp) (c s : Nat) :
  BK L xs E mi_X1_readCells back (k + 1) 21 [some (.inr (.inr (3, i0))), some (.inr (.inr (1, 0))), some (.inl a2)] [] M O T c s =
    some (.inl none, M, O, c, s) :=
  blk_of (fun q => Nat.beq q 21) (f := fun kk => some (.inl none, M, O, c, s)) (fun kk => rfl)
set_option maxRecDepth 100000 in
theorem e_X1_readClause_0 (L : Nat) (xs : Nat → Int32) (E : CallT) (back : BackT) (k : Nat) (i0 : Nat) (a2 : Int32) (M : Mem) (O : Int64) (T : Tmp) (c s : Nat) :
  BK L xs E mi_X1_readClause back (k + 6) 0 [some (.inr (.inr (3, i0))), some (.inr (.inr (1, 0))), some (.inl a2), none, none] [] M O T c s =
    xret tkT mi_X1_readClause 1 (E q_X5_word [.inr (.inr (1, 0)), .inr (.inr (93, 0))] M O) (BK L xs E mi_X1_readClause back (k)) 8 [some (.inr (.inr (3, i0))), some (.inr (.inr (1, 0))), some (.inl a2), some (.inl (M 1 0 3)), none] [] T c s :=
  blk_of (fun q => Nat.beq q 0 || Nat.beq q 28 || Nat.beq q 52 || Nat.beq q 62 || Nat.beq q 155) (f := fun kk => xret tkT mi_X1_readClause 1 (E q_X5_word [.inr (.inr (1, 0)), .inr (.inr (93, 0))] M O) (kk (k)) 8 [some (.inr (.inr (3, i0))), some (.inr (.inr (1, 0))), some (.inl a2), some (.inl (M 1 0 3)), none] [] T c s) (fun kk => rfl)
set_option maxRecDepth 100000 in
theorem e_X1_readClause_11 (L : Nat) (xs : Nat → Int32) (E : CallT) (back : BackT) (k : Nat) (i0 : Nat) (a2 : Int32) (a3 : Int32) (u4 : Option AV) (as0 : Int32) (M : Mem) (O : Int64) (T : Tmp) (c s : Nat) :
  BK L xs E mi_X1_readClause back (k + 7) 11 [some (.inr (.inr (3, i0))), some (.inr (.inr (1, 0))), some (.inl a2), some (.inl a3), u4] [.inl as0] M O T c s =
    if (60 : Int32) ≤ a2 then (BK L xs E mi_X1_readClause back (k + 3) 28 [some (.inr (.inr (3, i0))), some (.inr (.inr (1, 0))), some (.inl a2), some (.inl a3), some (.inl as0)] [] M O T c s) else (xret tkT mi_X1_readClause 0 (E q_X1_isFull [.inr (.inr (3, i0)), .inl as0] M O) (BK L xs E mi_X1_readClause back (k)) 22 [some (.inr (.inr (3, i0))), some (.inr (.inr (1, 0))), some (.inl a2), some (.inl a3), some (.inl as0)] [] T c s) :=
  blk_of (fun q => Nat.beq q 11 || Nat.beq q 28 || Nat.beq q 52 || Nat.beq q 62 || Nat.beq q 155) (f := fun kk => if (60 : Int32) ≤ a2 then (kk (k + 3) 28 [some (.inr (.inr (3, i0))), some (.inr (.inr (1, 0))), some (.inl a2), some (.inl a3), some (.inl as0)] [] M O T c s) else (xret tkT mi_X1_readClause 0 (E q_X1_isFull [.inr (.inr (3, i0)), .inl as0] M O) (kk (k)) 22 [some (.inr (.inr (3, i0))), some (.inr (.inr (1, 0))), some (.inl a2), some (.inl a3), some (.inl as0)] [] T c s)) (fun kk => rfl)
set_option maxRecDepth 100000 in
theorem e_X1_readClause_28 (L : Nat) (xs : Nat → Int32) (E : CallT) (back : BackT) (k : Nat) (i0 : Nat) (a2 : Int32) (a3 : Int32) (a4 : Int32) (M : Mem) (O : Int64) (T : Tmp) (c s : Nat) :
  BK L xs E mi_X1_readClause back (k + 4) 28 [some (.inr (.inr (3, i0))), some (.inr (.inr (1, 0))), some (.inl a2), some (.inl a3), some (.inl a4)] [] M O T c s =
    xret tkT mi_X1_readClause 1 (E q_X5_blame [.inr (.inr (1, 0)), .inl 3, .inl a3] M O) (BK L xs E mi_X1_readClause back (k)) 31 [some (.inr (.inr (3, i0))), some (.inr (.inr (1, 0))), some (.inl a2), some (.inl a3), some (.inl a4)] [] T c s :=
  blk_of (fun q => Nat.beq q 28 || Nat.beq q 52 || Nat.beq q 62 || Nat.beq q 155) (f := fun kk => xret tkT mi_X1_readClause 1 (E q_X5_blame [.inr (.inr (1, 0)), .inl 3, .inl a3] M O) (kk (k)) 31 [some (.inr (.inr (3, i0))), some (.inr (.inr (1, 0))), some (.inl a2), some (.inl a3), some (.inl a4)] [] T c s) (fun kk => rfl)
set_option maxRecDepth 100000 in
theorem e_X1_readClause_25 (L : Nat) (xs : Nat → Int32) (E : CallT) (back : BackT) (k : Nat) (i0 : Nat) (a2 : Int32) (a3 : Int32) (a4 : Int32) (as0 : Int32) (M : Mem) (O : Int64) (T : Tmp) (c s : Nat) :
  BK L xs E mi_X1_readClause back (k + 9) 25 [some (.inr (.inr (3, i0))), some (.inr (.inr (1, 0))), some (.inl a2), some (.inl a3), some (.inl a4)] [.inl as0] M O T c s =
    if as0 = 0 then (if a4 = 0 then (if a2 ≤ 0 then (BK L xs E mi_X1_readClause back (k + 4) 52 [some (.inr (.inr (3, i0))), some (.inr (.inr (1, 0))), some (.inl a2), some (.inl a3), some (.inl a4)] [] M O T c s) else (xret tkT mi_X1_readClause 1 (E q_X5_blame [.inr (.inr (1, 0)), .inl 4, .inl a3] M O) (BK L xs E mi_X1_readClause back (k)) 49 [some (.inr (.inr (3, i0))), some (.inr (.inr (1, 0))), some (.inl a2), some (.inl a3), some (.inl a4)] [] T c s)) else (BK L xs E mi_X1_readClause back (k + 6) 52 [some (.inr (.inr (3, i0))), some (.inr (.inr (1, 0))), some (.inl a2), some (.inl a3), some (.inl a4)] [] M O T c s)) else (BK L xs E mi_X1_readClause back (k + 8) 28 [some (.inr (.inr (3, i0))), some (.inr (.inr (1, 0))), some (.inl a2), some (.inl a3), some (.inl a4)] [] M O T c s) :=
  blk_of (fun q => Nat.beq q 25 || Nat.beq q 28 || Nat.beq q 52 || Nat.beq q 62 || Nat.beq q 155) (f := fun kk => if as0 = 0 then (if a4 = 0 then (if a2 ≤ 0 then (kk (k + 4) 52 [some (.inr (.inr (3, i0))), some (.inr (.inr (1, 0))), some (.inl a2), some (.inl a3), some (.inl a4)] [] M O T c s) else (xret tkT mi_X1_readClause 1 (E q_X5_blame [.inr (.inr (1, 0)), .inl 4, .inl a3] M O) (kk (k)) 49 [some (.inr (.inr (3, i0))), some (.inr (.inr (1, 0))), some (.inl a2), some (.inl a3), some (.inl a4)] [] T c s)) else (kk (k + 6) 52 [some (.inr (.inr (3, i0))), some (.inr (.inr (1, 0))), some (.inl a2), some (.inl a3), some (.inl a4)] [] M O T c s)) else (kk (k + 8) 28 [some (.inr (.inr (3, i0))), some (.inr (.inr (1, 0))), some (.inl a2), some (.inl a3), some (.inl a4)] [] M O T c s)) (fun kk => rfl)
set_option maxRecDepth 100000 in
theorem e_X1_readClause_34 (L : Nat) (xs : Nat → Int32) (E : CallT) (back : BackT) (k : Nat) (i0 : Nat) (a2 : Int32) (a3 : Int32) (a4 : Int32) (M : Mem) (O : Int64) (T : Tmp) (c s : Nat) :
  BK L xs E mi_X1_readClause back (k + 1) 34 [some (.inr (.inr (3, i0))), some (.inr (.inr (1, 0))), some (.inl a2), some (.inl a3), some (.inl a4)] [] M O T c s =
    BK L xs E mi_X1_readClause back (k) 52 [some (.inr (.inr (3, i0))), some (.inr (.inr (1, 0))), some (.inl a2), some (.inl a3), some (.inl a4)] [] M O T c s :=
  blk_of (fun q => Nat.beq q 28 || Nat.beq q 34 || Nat.beq q 52 || Nat.beq q 62 || Nat.beq q 155) (f := fun kk => kk (k) 52 [some (.inr (.inr (3, i0))), some (.inr (.inr (1, 0))), some (.inl a2), some (.inl a3), some (.inl a4)] [] M O T c s) (fun kk => rfl)
set_option maxRecDepth 100000 in
theorem e_X1_readClause_52 (L : Nat) (xs : Nat → Int32) (E : CallT) (back : BackT) (k : Nat) (i0 : Nat) (a2 : Int32) (a3 : Int32) (a4 : Int32) (M : Mem) (O : Int64) (T : Tmp) (c s : Nat) :
  BK L xs E mi_X1_readClause back (k + 4) 52 [some (.inr (.inr (3, i0))), some (.inr (.inr (1, 0))), some (.inl a2), some (.inl a3), some (.inl a4)] [] M O T c s =
    if (M 1 0 4) = 0 then (BK L xs E mi_X1_readClause back (k) 62 [some (.inr (.inr (3, i0))), some (.inr (.inr (1, 0))), some (.inl a2), some (.inl a3), some (.inl a4)] [.inl a4] M O T c s) else (some (.inl none, M, O, c, s)) :=
  blk_of (fun q => Nat.beq q 28 || Nat.beq q 52 || Nat.beq q 62 || Nat.beq q 155) (f := fun kk => if (M 1 0 4) = 0 then (kk (k) 62 [some (.inr (.inr (3, i0))), some (.inr (.inr (1, 0))), some (.inl a2), some (.inl a3), some (.inl a4)] [.inl a4] M O T c s) else (some (.inl none, M, O, c, s))) (fun kk => rfl)
set_option maxRecDepth 100000 in
theorem e_X1_readClause_62_c0 (L : Nat) (xs : Nat → Int32) (E : CallT) (back : BackT) (k : Nat) (i0 : Nat) (a2 : Int32) (a3 : Int32) (a4 : Int32) (M : Mem) (O : Int64) (T : Tmp) (c s : Nat) :
  BK L xs E mi_X1_readClause back (k + 1) 62 [some (.inr (.inr (3, i0))), some (.inr (.inr (1, 0))), some (.inl a2), some (.inl a3), some (.inl a4)] [.inl 0] M O T c s = BK L xs E mi_X1_readClause back k 100 [some (.inr (.inr (3, i0))), some (.inr (.inr (1, 0))), some (.inl a2), some (.inl a3), some (.inl a4)] [] M O T c s :=
  blk_of (fun q => true) (f := fun kk => kk k 100 [some (.inr (.inr (3, i0))), some (.inr (.inr (1, 0))), some (.inl a2), some (.inl a3), some (.inl a4)] [] M O T c s) (fun kk => rfl)
set_option maxRecDepth 100000 in
theorem e_X1_readClause_62_c1 (L : Nat) (xs : Nat → Int32) (E : CallT) (back : BackT) (k : Nat) (i0 : Nat) (a2 : Int32) (a3 : Int32) (a4 : Int32) (M : Mem) (O : Int64) (T : Tmp) (c s : Nat) :
  BK L xs E mi_X1_readClause back (k + 1) 62 [some (.inr (.inr (3, i0))), some (.inr (.inr (1, 0))), some (.inl a2), some (.inl a3), some (.inl a4)] [.inl 1] M O T c s = BK L xs E mi_X1_readClause back k 108 [some (.inr (.inr (3, i0))), some (.inr (.inr (1, 0))), some (.inl a2), some (.inl a3), some (.inl a4)] [] M O T c s :=
  blk_of (fun q => true) (f := fun kk => kk k 108 [some (.inr (.inr (3, i0))), some (.inr (.inr (1, 0))), some (.inl a2), some (.inl a3), some (.inl a4)] [] M O T c s) (fun kk => rfl)
set_option maxRecDepth 100000 in
theorem e_X1_readClause_62_c2 (L : Nat) (xs : Nat → Int32) (E : CallT) (back : BackT) (k : Nat) (i0 : Nat) (a2 : Int32) (a3 : Int32) (a4 : Int32) (M : Mem) (O : Int64) (T : Tmp) (c s : Nat) :
  BK L xs E mi_X1_readClause back (k + 1) 62 [some (.inr (.inr (3, i0))), some (.inr (.inr (1, 0))), some (.inl a2), some (.inl a3), some (.inl a4)] [.inl 2] M O T c s = BK L xs E mi_X1_readClause back k 116 [some (.inr (.inr (3, i0))), some (.inr (.inr (1, 0))), some (.inl a2), some (.inl a3), some (.inl a4)] [] M O T c s :=
  blk_of (fun q => true) (f := fun kk => kk k 116 [some (.inr (.inr (3, i0))), some (.inr (.inr (1, 0))), some (.inl a2), some (.inl a3), some (.inl a4)] [] M O T c s) (fun kk => rfl)
set_option maxRecDepth 100000 in
theorem e_X1_readClause_62_c3 (L : Nat) (xs : Nat → Int32) (E : CallT) (back : BackT) (k : Nat) (i0 : Nat) (a2 : Int32) (a3 : Int32) (a4 : Int32) (M : Mem) (O : Int64) (T : Tmp) (c s : Nat) :
  BK L xs E mi_X1_readClause back (k + 1) 62 [some (.inr (.inr (3, i0))), some (.inr (.inr (1, 0))), some (.inl a2), some (.inl a3), some (.inl a4)] [.inl 3] M O T c s = BK L xs E mi_X1_readClause back k 124 [some (.inr (.inr (3, i0))), some (.inr (.inr (1, 0))), some (.inl a2), some (.inl a3), some (.inl a4)] [] M O T c s :=
  blk_of (fun q => true) (f := fun kk => kk k 124 [some (.inr (.inr (3, i0))), some (.inr (.inr (1, 0))), some (.inl a2), some (.inl a3), some (.inl a4)] [] M O T c s) (fun kk => rfl)
set_option maxRecDepth 100000 in
theorem e_X1_readClause_62_c4 (L : Nat) (xs : Nat → Int32) (E : CallT) (back : BackT) (k : Nat) (i0 : Nat) (a2 : Int32) (a3 : Int32) (a4 : Int32) (M : Mem) (O : Int64) (T : Tmp) (c s : Nat) :
  BK L xs E mi_X1_readClause back (k + 1) 62 [some (.inr (.inr (3, i0))), some (.inr (.inr (1, 0))), some (.inl a2), some (.inl a3), some (.inl a4)] [.inl 4] M O T c s = BK L xs E mi_X1_readClause back k 132 [some (.inr (.inr (3, i0))), some (.inr (.inr (1, 0))), some (.inl a2), some (.inl a3), some (.inl a4)] [] M O T c s :=
  blk_of (fun q => true) (f := fun kk => kk k 132 [some (.inr (.inr (3, i0))), some (.inr (.inr (1, 0))), some (.inl a2), some (.inl a3), some (.inl a4)] [] M O T c s) (fun kk => rfl)
set_option maxRecDepth 100000 in
theorem e_X1_readClause_62_c5 (L : Nat) (xs : Nat → Int32) (E : CallT) (back : BackT) (k : Nat) (i0 : Nat) (a2 : Int32) (a3 : Int32) (a4 : Int32) (M : Mem) (O : Int64) (T : Tmp) (c s : Nat) :
  BK L xs E mi_X1_readClause back (k + 1) 62 [some (.inr (.inr (3, i0))), some (.inr (.inr (1, 0))), some (.inl a2), some (.inl a3), some (.inl a4)] [.inl 5] M O T c s = BK L xs E mi_X1_readClause back k 140 [some (.inr (.inr (3, i0))), some (.inr (.inr (1, 0))), some (.inl a2), some (.inl a3), some (.inl a4)] [] M O T c s :=
  blk_of (fun q => true) (f := fun kk => kk k 140 [some (.inr (.inr (3, i0))), some (.inr (.inr (1, 0))), some (.inl a2), some (.inl a3), some (.inl a4)] [] M O T c s) (fun kk => rfl)
set_option maxRecDepth 100000 in
theorem e_X1_readClause_62_d (L : Nat) (xs : Nat → Int32) (E : CallT) (back : BackT) (k : Nat) (i0 : Nat) (a2 : Int32) (a3 : Int32) (a4 : Int32) (M : Mem) (O : Int64) (T : Tmp) (c s : Nat) (a : Int32) (h : a.toInt < 0 ∨ 5 < a.toInt) :
  BK L xs E mi_X1_readClause back (k + 1) 62 [some (.inr (.inr (3, i0))), some (.inr (.inr (1, 0))), some (.inl a2), some (.inl a3), some (.inl a4)] [.inl a] M O T c s = BK L xs E mi_X1_readClause back k 148 [some (.inr (.inr (3, i0))), some (.inr (.inr (1, 0))), some (.inl a2), some (.inl a3), some (.inl a4)] [] M O T c s :=
  blk_of (fun q => true) (f := fun kk => kk k 148 [some (.inr (.inr (3, i0))), some (.inr (.inr (1, 0))), some (.inl a2), some (.inl a3), some (.inl a4)] [] M O T c s) (fun kk => (show _ = (if a.toInt < 0 ∨ 5 < a.toInt then kk k 148 [some (.inr (.inr (3, i0))), some (.inr (.inr (1, 0))), some (.inl a2), some (.inl a3), some (.inl a4)] [] M O T c s else (match (#[38, 46, 54, 62, 70, 78] : Array Int)[(a.toInt - (0)).toNat]? with
    | some off => xgo (cK (fun q => true) (kk k) (blkC L xs E mi_X1_readClause back (fun q => true) kk k)) back 62 off [some (.inr (.inr (3, i0))), some (.inr (.inr (1, 0))), some (.inl a2), some (.inl a3), some (.inl a4)] [] M O T c s
    | none => none)) from rfl).trans (if_pos h))
set_option maxRecDepth 100000 in
theorem e_X1_readClause_132 (L : Nat) (xs : Nat → Int32) (E : CallT) (back : BackT) (k : Nat) (i0 : Nat) (a2 : Int32) (a3 : Int32) (a4 : Int32) (M : Mem) (O : Int64) (T : Tmp) (c s : Nat) :
  BK L xs E mi_X1_readClause back (k + 3) 132 [some (.inr (.inr (3, i0))), some (.inr (.inr (1, 0))), some (.inl a2), some (.inl a3), some (.inl a4)] [] M O T c s =
    xret tkT mi_X1_readClause 0 (E q_X1_readHum [.inr (.inr (3, i0)), .inr (.inr (1, 0))] M O) (BK L xs E mi_X1_readClause back (k)) 134 [some (.inr (.inr (3, i0))), some (.inr (.inr (1, 0))), some (.inl a2), some (.inl a3), some (.inl a4)] [] T c s :=
  blk_of (fun q => Nat.beq q 28 || Nat.beq q 52 || Nat.beq q 62 || Nat.beq q 132 || Nat.beq q 155) (f := fun kk => xret tkT mi_X1_readClause 0 (E q_X1_readHum [.inr (.inr (3, i0)), .inr (.inr (1, 0))] M O) (kk (k)) 134 [some (.inr (.inr (3, i0))), some (.inr (.inr (1, 0))), some (.inl a2), some (.inl a3), some (.inl a4)] [] T c s) (fun kk => rfl)
set_option maxRecDepth 100000 in
theorem e_X1_readClause_100 (L : Nat) (xs : Nat → Int32) (E : CallT) (back : BackT) (k : Nat) (i0 : Nat) (a2 : Int32) (a3 : Int32) (a4 : Int32) (M : Mem) (O : Int64) (T : Tmp) (c s : Nat) :
  BK L xs E mi_X1_readClause back (k + 3) 100 [some (.inr (.inr (3, i0))), some (.inr (.inr (1, 0))), some (.inl a2), some (.inl a3), some (.inl a4)] [] M O T c s =
    xret tkT mi_X1_readClause 0 (E q_X1_readCells [.inr (.inr (3, i0)), .inr (.inr (1, 0))] M O) (BK L xs E mi_X1_readClause back (k)) 102 [some (.inr (.inr (3, i0))), some (.inr (.inr (1, 0))), some (.inl a2), some (.inl a3), some (.inl a4)] [] T c s :=
  blk_of (fun q => Nat.beq q 28 || Nat.beq q 52 || Nat.beq q 62 || Nat.beq q 100 || Nat.beq q 155) (f := fun kk => xret tkT mi_X1_readClause 0 (E q_X1_readCells [.inr (.inr (3, i0)), .inr (.inr (1, 0))] M O) (kk (k)) 102 [some (.inr (.inr (3, i0))), some (.inr (.inr (1, 0))), some (.inl a2), some (.inl a3), some (.inl a4)] [] T c s) (fun kk => rfl)
set_option maxRecDepth 100000 in
theorem e_X1_readClause_108 (L : Nat) (xs : Nat → Int32) (E : CallT) (back : BackT) (k : Nat) (i0 : Nat) (a2 : Int32) (a3 : Int32) (a4 : Int32) (M : Mem) (O : Int64) (T : Tmp) (c s : Nat) :
  BK L xs E mi_X1_readClause back (k + 3) 108 [some (.inr (.inr (3, i0))), some (.inr (.inr (1, 0))), some (.inl a2), some (.inl a3), some (.inl a4)] [] M O T c s =
    xret tkT mi_X1_readClause 0 (E q_X1_readGround [.inr (.inr (3, i0)), .inr (.inr (1, 0))] M O) (BK L xs E mi_X1_readClause back (k)) 110 [some (.inr (.inr (3, i0))), some (.inr (.inr (1, 0))), some (.inl a2), some (.inl a3), some (.inl a4)] [] T c s :=
  blk_of (fun q => Nat.beq q 28 || Nat.beq q 52 || Nat.beq q 62 || Nat.beq q 108 || Nat.beq q 155) (f := fun kk => xret tkT mi_X1_readClause 0 (E q_X1_readGround [.inr (.inr (3, i0)), .inr (.inr (1, 0))] M O) (kk (k)) 110 [some (.inr (.inr (3, i0))), some (.inr (.inr (1, 0))), some (.inl a2), some (.inl a3), some (.inl a4)] [] T c s) (fun kk => rfl)
set_option maxRecDepth 100000 in
theorem e_X1_readClause_140 (L : Nat) (xs : Nat → Int32) (E : CallT) (back : BackT) (k : Nat) (i0 : Nat) (a2 : Int32) (a3 : Int32) (a4 : Int32) (M : Mem) (O : Int64) (T : Tmp) (c s : Nat) :
  BK L xs E mi_X1_readClause back (k + 3) 140 [some (.inr (.inr (3, i0))), some (.inr (.inr (1, 0))), some (.inl a2), some (.inl a3), some (.inl a4)] [] M O T c s =
    xret tkT mi_X1_readClause 0 (E q_X1_readSource [.inr (.inr (3, i0)), .inr (.inr (1, 0))] M O) (BK L xs E mi_X1_readClause back (k)) 142 [some (.inr (.inr (3, i0))), some (.inr (.inr (1, 0))), some (.inl a2), some (.inl a3), some (.inl a4)] [] T c s :=
  blk_of (fun q => Nat.beq q 28 || Nat.beq q 52 || Nat.beq q 62 || Nat.beq q 140 || Nat.beq q 155) (f := fun kk => xret tkT mi_X1_readClause 0 (E q_X1_readSource [.inr (.inr (3, i0)), .inr (.inr (1, 0))] M O) (kk (k)) 142 [some (.inr (.inr (3, i0))), some (.inr (.inr (1, 0))), some (.inl a2), some (.inl a3), some (.inl a4)] [] T c s) (fun kk => rfl)
set_option maxRecDepth 100000 in
theorem e_X1_readClause_116 (L : Nat) (xs : Nat → Int32) (E : CallT) (back : BackT) (k : Nat) (i0 : Nat) (a2 : Int32) (a3 : Int32) (a4 : Int32) (M : Mem) (O : Int64) (T : Tmp) (c s : Nat) :
  BK L xs E mi_X1_readClause back (k + 3) 116 [some (.inr (.inr (3, i0))), some (.inr (.inr (1, 0))), some (.inl a2), some (.inl a3), some (.inl a4)] [] M O T c s =
    xret tkT mi_X1_readClause 0 (E q_X1_readWall [.inr (.inr (3, i0)), .inr (.inr (1, 0))] M O) (BK L xs E mi_X1_readClause back (k)) 118 [some (.inr (.inr (3, i0))), some (.inr (.inr (1, 0))), some (.inl a2), some (.inl a3), some (.inl a4)] [] T c s :=
  blk_of (fun q => Nat.beq q 28 || Nat.beq q 52 || Nat.beq q 62 || Nat.beq q 116 || Nat.beq q 155) (f := fun kk => xret tkT mi_X1_readClause 0 (E q_X1_readWall [.inr (.inr (3, i0)), .inr (.inr (1, 0))] M O) (kk (k)) 118 [some (.inr (.inr (3, i0))), some (.inr (.inr (1, 0))), some (.inl a2), some (.inl a3), some (.inl a4)] [] T c s) (fun kk => rfl)
set_option maxRecDepth 100000 in
theorem e_X1_readClause_148 (L : Nat) (xs : Nat → Int32) (E : CallT) (back : BackT) (k : Nat) (i0 : Nat) (a2 : Int32) (a3 : Int32) (a4 : Int32) (M : Mem) (O : Int64) (T : Tmp) (c s : Nat) :
  BK L xs E mi_X1_readClause back (k + 4) 148 [some (.inr (.inr (3, i0))), some (.inr (.inr (1, 0))), some (.inl a2), some (.inl a3), some (.inl a4)] [] M O T c s =
    xret tkT mi_X1_readClause 0 (E q_X1_readWork [.inr (.inr (3, i0)), .inr (.inr (1, 0)), .inl a4] M O) (BK L xs E mi_X1_readClause back (k)) 152 [some (.inr (.inr (3, i0))), some (.inr (.inr (1, 0))), some (.inl a2), some (.inl a3), some (.inl a4)] [] T c s :=
  blk_of (fun q => Nat.beq q 28 || Nat.beq q 52 || Nat.beq q 62 || Nat.beq q 148 || Nat.beq q 155) (f := fun kk => xret tkT mi_X1_readClause 0 (E q_X1_readWork [.inr (.inr (3, i0)), .inr (.inr (1, 0)), .inl a4] M O) (kk (k)) 152 [some (.inr (.inr (3, i0))), some (.inr (.inr (1, 0))), some (.inl a2), some (.inl a3), some (.inl a4)] [] T c s) (fun kk => rfl)
set_option maxRecDepth 100000 in
theorem e_X1_readClause_124 (L : Nat) (xs : Nat → Int32) (E : CallT) (back : BackT) (k : Nat) (i0 : Nat) (a2 : Int32) (a3 : Int32) (a4 : Int32) (M : Mem) (O : Int64) (T : Tmp) (c s : Nat) :
  BK L xs E mi_X1_readClause back (k + 3) 124 [some (.inr (.inr (3, i0))), some (.inr (.inr (1, 0))), some (.inl a2), some (.inl a3), some (.inl a4)] [] M O T c s =
    xret tkT mi_X1_readClause 0 (E q_X1_readHouse [.inr (.inr (3, i0)), .inr (.inr (1, 0))] M O) (BK L xs E mi_X1_readClause back (k)) 126 [some (.inr (.inr (3, i0))), some (.inr (.inr (1, 0))), some (.inl a2), some (.inl a3), some (.inl a4)] [] T c s :=
  blk_of (fun q => Nat.beq q 28 || Nat.beq q 52 || Nat.beq q 62 || Nat.beq q 124 || Nat.beq q 155) (f := fun kk => xret tkT mi_X1_readClause 0 (E q_X1_readHouse [.inr (.inr (3, i0)), .inr (.inr (1, 0))] M O) (kk (k)) 126 [some (.inr (.inr (3, i0))), some (.inr (.inr (1, 0))), some (.inl a2), some (.inl a3), some (.inl a4)] [] T c s) (fun kk => rfl)
set_option maxRecDepth 100000 in
theorem e_X1_readClause_137 (L : Nat) (xs : Nat → Int32) (E : CallT) (back : BackT) (k : Nat) (i0 : Nat) (a2 : Int32) (a3 : Int32) (a4 : Int32) (M : Mem) (O : Int64) (T : Tmp) (c s : Nat) :
  BK L xs E mi_X1_readClause back (k + 1) 137 [some (.inr (.inr (3, i0))), some (.inr (.inr (1, 0))), some (.inl a2), some (.inl a3), some (.inl a4)] [] M O T c s =
    BK L xs E mi_X1_readClause back (k) 155 [some (.inr (.inr (3, i0))), some (.inr (.inr (1, 0))), some (.inl a2), some (.inl a3), some (.inl a4)] [] M O T c s :=
  blk_of (fun q => Nat.beq q 28 || Nat.beq q 52 || Nat.beq q 62 || Nat.beq q 137 || Nat.beq q 155) (f := fun kk => kk (k) 155 [some (.inr (.inr (3, i0))), some (.inr (.inr (1, 0))), some (.inl a2), some (.inl a3), some (.inl a4)] [] M O T c s) (fun kk => rfl)
set_option maxRecDepth 100000 in
theorem e_X1_readClause_105 (L : Nat) (xs : Nat → Int32) (E : CallT) (back : BackT) (k : Nat) (i0 : Nat) (a2 : Int32) (a3 : Int32) (a4 : Int32) (M : Mem) (O : Int64) (T : Tmp) (c s : Nat) :
  BK L xs E mi_X1_readClause back (k + 1) 105 [some (.inr (.inr (3, i0))), some (.inr (.inr (1, 0))), some (.inl a2), some (.inl a3), some (.inl a4)] [] M O T c s =
    BK L xs E mi_X1_readClause back (k) 155 [some (.inr (.inr (3, i0))), some (.inr (.inr (1, 0))), some (.inl a2), some (.inl a3), some (.inl a4)] [] M O T c s :=
  blk_of (fun q => Nat.beq q 28 || Nat.beq q 52 || Nat.beq q 62 || Nat.beq q 105 || Nat.beq q 155) (f := fun kk => kk (k) 155 [some (.inr (.inr (3, i0))), some (.inr (.inr (1, 0))), some (.inl a2), some (.inl a3), some (.inl a4)] [] M O T c s) (fun kk => rfl)
set_option maxRecDepth 100000 in
theorem e_X1_readClause_113 (L : Nat) (xs : Nat → Int32) (E : CallT) (back : BackT) (k : Nat) (i0 : Nat) (a2 : Int32) (a3 : Int32) (a4 : Int32) (M : Mem) (O : Int64) (T : Tmp) (c s : Nat) :
  BK L xs E mi_X1_readClause back (k + 1) 113 [some (.inr (.inr (3, i0))), some (.inr (.inr (1, 0))), some (.inl a2), some (.inl a3), some (.inl a4)] [] M O T c s =
    BK L xs E mi_X1_readClause back (k) 155 [some (.inr (.inr (3, i0))), some (.inr (.inr (1, 0))), some (.inl a2), some (.inl a3), some (.inl a4)] [] M O T c s :=
  blk_of (fun q => Nat.beq q 28 || Nat.beq q 52 || Nat.beq q 62 || Nat.beq q 113 || Nat.beq q 155) (f := fun kk => kk (k) 155 [some (.inr (.inr (3, i0))), some (.inr (.inr (1, 0))), some (.inl a2), some (.inl a3), some (.inl a4)] [] M O T c s) (fun kk => rfl)
set_option maxRecDepth 100000 in
theorem e_X1_readClause_145 (L : Nat) (xs : Nat → Int32) (E : CallT) (back : BackT) (k : Nat) (i0 : Nat) (a2 : Int32) (a3 : Int32) (a4 : Int32) (M : Mem) (O : Int64) (T : Tmp) (c s : Nat) :
  BK L xs E mi_X1_readClause back (k + 1) 145 [some (.inr (.inr (3, i0))), some (.inr (.inr (1, 0))), some (.inl a2), some (.inl a3), some (.inl a4)] [] M O T c s =
    BK L xs E mi_X1_readClause back (k) 155 [some (.inr (.inr (3, i0))), some (.inr (.inr (1, 0))), some (.inl a2), some (.inl a3), some (.inl a4)] [] M O T c s :=
  blk_of (fun q => Nat.beq q 28 || Nat.beq q 52 || Nat.beq q 62 || Nat.beq q 145 || Nat.beq q 155) (f := fun kk => kk (k) 155 [some (.inr (.inr (3, i0))), some (.inr (.inr (1, 0))), some (.inl a2), some (.inl a3), some (.inl a4)] [] M O T c s) (fun kk => rfl)
set_option maxRecDepth 100000 in
theorem e_X1_readClause_121 (L : Nat) (xs : Nat → Int32) (E : CallT) (back : BackT) (k : Nat) (i0 : Nat) (a2 : Int32) (a3 : Int32) (a4 : Int32) (M : Mem) (O : Int64) (T : Tmp) (c s : Nat) :
  BK L xs E mi_X1_readClause back (k + 1) 121 [some (.inr (.inr (3, i0))), some (.inr (.inr (1, 0))), some (.inl a2), some (.inl a3), some (.inl a4)] [] M O T c s =
    BK L xs E mi_X1_readClause back (k) 155 [some (.inr (.inr (3, i0))), some (.inr (.inr (1, 0))), some (.inl a2), some (.inl a3), some (.inl a4)] [] M O T c s :=
  blk_of (fun q => Nat.beq q 28 || Nat.beq q 52 || Nat.beq q 62 || Nat.beq q 121 || Nat.beq q 155) (f := fun kk => kk (k) 155 [some (.inr (.inr (3, i0))), some (.inr (.inr (1, 0))), some (.inl a2), some (.inl a3), some (.inl a4)] [] M O T c s) (fun kk => rfl)
set_option maxRecDepth 100000 in
theorem e_X1_readClause_155 (L : Nat) (xs : Nat → Int32) (E : CallT) (back : BackT) (k : Nat) (i0 : Nat) (a2 : Int32) (a3 : Int32) (a4 : Int32) (M : Mem) (O : Int64) (T : Tmp) (c s : Nat) :
  BK L xs E mi_X1_readClause back (k + 1) 155 [some (.inr (.inr (3, i0))), some (.inr (.inr (1, 0))), some (.inl a2), some (.inl a3), some (.inl a4)] [] M O T c s =
    some (.inl none, M, O, c, s) :=
  blk_of (fun q => Nat.beq q 28 || Nat.beq q 52 || Nat.beq q 62 || Nat.beq q 155) (f := fun kk => some (.inl none, M, O, c, s)) (fun kk => rfl)
set_option maxRecDepth 100000 in
theorem e_X1_readClause_129 (L : Nat) (xs : Nat → Int32) (E : CallT) (back : BackT) (k : Nat) (i0 : Nat) (a2 : Int32) (a3 : Int32) (a4 : Int32) (M : Mem) (O : Int64) (T : Tmp) (c s : Nat) :
  BK L xs E mi_X1_readClause back (k + 1) 129 [some (.inr (.inr (3, i0))), some (.inr (.inr (1, 0))), some (.inl a2), some (.inl a3), some (.inl a4)] [] M O T c s =
    BK L xs E mi_X1_readClause back (k) 155 [some (.inr (.inr (3, i0))), some (.inr (.inr (1, 0))), some (.inl a2), some (.inl a3), some (.inl a4)] [] M O T c s :=
  blk_of (fun q => Nat.beq q 28 || Nat.beq q 52 || Nat.beq q 62 || Nat.beq q 129 || Nat.beq q 155) (f := fun kk => kk (k) 155 [some (.inr (.inr (3, i0))), some (.inr (.inr (1, 0))), some (.inl a2), some (.inl a3), some (.inl a4)] [] M O T c s) (fun kk => rfl)
