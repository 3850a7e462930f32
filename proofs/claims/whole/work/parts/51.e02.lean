/-! block equations: printed by wip/gen/gen9.py -/
set_option maxRecDepth 100000 in
theorem e6_J7_fill_53178_0 (L : Nat) (xs : Nat → Int32) (E : CallT) (back : BackT) (k : Nat) (i0 : Nat) (a1 : Int32) (M : Mem) (O : Int64) (T : Tmp) (c s : Nat) :
  BK L xs E mi_J7_fill_53178 back (k + 5) 0 [some (.inr (.inr (19, i0))), some (.inl a1), none, none] [] M O T c s =
    BK L xs E mi_J7_fill_53178 back (k) 5 [some (.inr (.inr (19, i0))), some (.inl a1), some (.inl 0), some (.inl (Int32.ofNat 12))] [] M O T c s :=
  blk_of (fun q => Nat.beq q 0 || Nat.beq q 5) (f := fun kk => kk (k) 5 [some (.inr (.inr (19, i0))), some (.inl a1), some (.inl 0), some (.inl (Int32.ofNat 12))] [] M O T c s) (fun kk => rfl)
set_option maxRecDepth 100000 in
theorem e6_J7_fill_53178_5 (L : Nat) (xs : Nat → Int32) (E : CallT) (back : BackT) (k : Nat) (i0 : Nat) (a1 : Int32) (a2 : Int32) (a3 : Int32) (M : Mem) (O : Int64) (T : Tmp) (c s : Nat) :
  BK L xs E mi_J7_fill_53178 back (k + 9) 5 [some (.inr (.inr (19, i0))), some (.inl a1), some (.inl a2), some (.inl a3)] [] M O T c s =
    if a3 ≤ a2 then (some (.inl none, M, O, c, s)) else (if 0 ≤ (a2 : Int32).toInt ∧ (a2 : Int32).toInt < 12 then (back 5 [some (.inr (.inr (19, i0))), some (.inl a1), some (.inl (a2 + 1)), some (.inl a3)] (mput M 19 i0 (a2 : Int32).toNatClampNeg a1) O T c s) else none) :=
  blk_of (fun q => Nat.beq q 5) (f := fun kk => if a3 ≤ a2 then (some (.inl none, M, O, c, s)) else (if 0 ≤ (a2 : Int32).toInt ∧ (a2 : Int32).toInt < 12 then (back 5 [some (.inr (.inr (19, i0))), some (.inl a1), some (.inl (a2 + 1)), some (.inl a3)] (mput M 19 i0 (a2 : Int32).toNatClampNeg a1) O T c s) else none)) (fun kk => rfl)
set_option maxRecDepth 100000 in
theorem e_X0_read_0 (L : Nat) (xs : Nat → Int32) (E : CallT) (back : BackT) (k : Nat) (i0 : Nat) (M : Mem) (O : Int64) (T : Tmp) (c s : Nat) :
  BK L xs E mi_X0_read back (k + 4) 0 [some (.inr (.inr (18, i0))), some (.inr (.inr (1, 0))), none] [] M O T c s =
    xret tkT mi_X0_read 2 (E q_J7_fill_53178 [.inr (.inr (19, i0)), .inl 0] M O) (BK L xs E mi_X0_read back (k)) 5 [some (.inr (.inr (18, i0))), some (.inr (.inr (1, 0))), none] [] T c s :=
  blk_of (fun q => Nat.beq q 0 || Nat.beq q 25 || Nat.beq q 50) (f := fun kk => xret tkT mi_X0_read 2 (E q_J7_fill_53178 [.inr (.inr (19, i0)), .inl 0] M O) (kk (k)) 5 [some (.inr (.inr (18, i0))), some (.inr (.inr (1, 0))), none] [] T c s) (fun kk => rfl)
set_option maxRecDepth 100000 in
theorem e_X0_read_8 (L : Nat) (xs : Nat → Int32) (E : CallT) (back : BackT) (k : Nat) (i0 : Nat) (u2 : Option AV) (M : Mem) (O : Int64) (T : Tmp) (c s : Nat) :
  BK L xs E mi_X0_read back (k + 11) 8 [some (.inr (.inr (18, i0))), some (.inr (.inr (1, 0))), u2] [] M O T c s =
    BK L xs E mi_X0_read back (k) 25 [some (.inr (.inr (18, i0))), some (.inr (.inr (1, 0))), some (.inl 0)] [] (mput (mput (mput M 18 i0 1 0) 18 i0 2 1) 18 i0 3 4) O T c s :=
  blk_of (fun q => Nat.beq q 8 || Nat.beq q 25 || Nat.beq q 50) (f := fun kk => kk (k) 25 [some (.inr (.inr (18, i0))), some (.inr (.inr (1, 0))), some (.inl 0)] [] (mput (mput (mput M 18 i0 1 0) 18 i0 2 1) 18 i0 3 4) O T c s) (fun kk => rfl)
set_option maxRecDepth 100000 in
theorem e_X0_read_25 (L : Nat) (xs : Nat → Int32) (E : CallT) (back : BackT) (k : Nat) (i0 : Nat) (a2 : Int32) (M : Mem) (O : Int64) (T : Tmp) (c s : Nat) :
  BK L xs E mi_X0_read back (k + 5) 25 [some (.inr (.inr (18, i0))), some (.inr (.inr (1, 0))), some (.inl a2)] [] M O T c s =
    if (20 : Int32) < a2 then (BK L xs E mi_X0_read back (k + 2) 50 [some (.inr (.inr (18, i0))), some (.inr (.inr (1, 0))), some (.inl a2)] [] M O T c s) else (xret tkT mi_X0_read 1 (E q_X5_hasMore [.inr (.inr (1, 0))] M O) (BK L xs E mi_X0_read back (k)) 32 [some (.inr (.inr (18, i0))), some (.inr (.inr (1, 0))), some (.inl a2)] [] T c s) :=
  blk_of (fun q => Nat.beq q 25 || Nat.beq q 50) (f := fun kk => if (20 : Int32) < a2 then (kk (k + 2) 50 [some (.inr (.inr (18, i0))), some (.inr (.inr (1, 0))), some (.inl a2)] [] M O T c s) else (xret tkT mi_X0_read 1 (E q_X5_hasMore [.inr (.inr (1, 0))] M O) (kk (k)) 32 [some (.inr (.inr (18, i0))), some (.inr (.inr (1, 0))), some (.inl a2)] [] T c s)) (fun kk => rfl)
set_option maxRecDepth 100000 in
theorem e_X0_read_50 (L : Nat) (xs : Nat → Int32) (E : CallT) (back : BackT) (k : Nat) (i0 : Nat) (a2 : Int32) (M : Mem) (O : Int64) (T : Tmp) (c s : Nat) :
  BK L xs E mi_X0_read back (k + 1) 50 [some (.inr (.inr (18, i0))), some (.inr (.inr (1, 0))), some (.inl a2)] [] M O T c s =
    some (.inl none, M, O, c, s) :=
  blk_of (fun q => Nat.beq q 25 || Nat.beq q 50) (f := fun kk => some (.inl none, M, O, c, s)) (fun kk => rfl)
set_option maxRecDepth 100000 in
theorem e_X0_read_35 (L : Nat) (xs : Nat → Int32) (E : CallT) (back : BackT) (k : Nat) (i0 : Nat) (a2 : Int32) (as0 : Int32) (M : Mem) (O : Int64) (T : Tmp) (c s : Nat) :
  BK L xs E mi_X0_read back (k + 5) 35 [some (.inr (.inr (18, i0))), some (.inr (.inr (1, 0))), some (.inl a2)] [.inl as0] M O T c s =
    if as0 = 0 then (BK L xs E mi_X0_read back (k + 4) 50 [some (.inr (.inr (18, i0))), some (.inr (.inr (1, 0))), some (.inl a2)] [] M O T c s) else (xret tkT mi_X0_read 0 (E q_X0_readRule [.inr (.inr (18, i0)), .inr (.inr (1, 0)), .inl a2] M O) (BK L xs E mi_X0_read back (k)) 41 [some (.inr (.inr (18, i0))), some (.inr (.inr (1, 0))), some (.inl a2)] [] T c s) :=
  blk_of (fun q => Nat.beq q 25 || Nat.beq q 35 || Nat.beq q 50) (f := fun kk => if as0 = 0 then (kk (k + 4) 50 [some (.inr (.inr (18, i0))), some (.inr (.inr (1, 0))), some (.inl a2)] [] M O T c s) else (xret tkT mi_X0_read 0 (E q_X0_readRule [.inr (.inr (18, i0)), .inr (.inr (1, 0)), .inl a2] M O) (kk (k)) 41 [some (.inr (.inr (18, i0))), some (.inr (.inr (1, 0))), some (.inl a2)] [] T c s)) (fun kk => rfl)
set_option maxRecDepth 100000 in
theorem e_X0_read_44 (L : Nat) (xs : Nat → Int32) (E : CallT) (back : BackT) (k : Nat) (i0 : Nat) (a2 : Int32) (M : Mem) (O : Int64) (T : Tmp) (c s : Nat) :
  BK L xs E mi_X0_read back (k + 2) 44 [some (.inr (.inr (18, i0))), some (.inr (.inr (1, 0))), some (.inl a2)] [] M O T c s =
    back 25 [some (.inr (.inr (18, i0))), some (.inr (.inr (1, 0))), some (.inl (a2 + 1))] M O T c s :=
  blk_of (fun q => Nat.beq q 25 || Nat.beq q 44 || Nat.beq q 50) (f := fun kk => back 25 [some (.inr (.inr (18, i0))), some (.inr (.inr (1, 0))), some (.inl (a2 + 1))] M O T c s) (fun kk => rfl)
set_option maxRecDepth 100000 in
theorem e_X6_air_0 (L : Nat) (xs : Nat → Int32) (d : Nat) (back : BackT) (k : Nat) (a1 : Int32) (M : Mem) (O : Int64) (T : Tmp) (c s : Nat) :
  BK L xs (EX L xs (d + 1)) mi_X6_air back (k + 9) 0 [some (.inr (.inr (0, 0))), some (.inl a1)] [] M O T c s =
    if a1 < 0 then (BK L xs (EX L xs (d + 1)) mi_X6_air back (k + 6) 26 [some (.inr (.inr (0, 0))), some (.inl a1)] [.inr (.inr (0, 0))] M O T c s) else (BK L xs (EX L xs (d + 1)) mi_X6_air back (k) 19 [some (.inr (.inr (0, 0))), some (.inl a1)] [.inl (if 200 < (M 1 0 1) then 200 else (M 1 0 1)), .inl a1, .inr (.inr (0, 0))] M O T c s) :=
  blk_of (fun q => Nat.beq q 0 || Nat.beq q 26 || Nat.beq q 27) (f := fun kk => if a1 < 0 then (kk (k + 6) 26 [some (.inr (.inr (0, 0))), some (.inl a1)] [.inr (.inr (0, 0))] M O T c s) else (kk (k) 19 [some (.inr (.inr (0, 0))), some (.inl a1)] [.inl (if 200 < (M 1 0 1) then 200 else (M 1 0 1)), .inl a1, .inr (.inr (0, 0))] M O T c s)) (fun kk => rfl)
set_option maxRecDepth 100000 in
theorem e_X6_air_26 (L : Nat) (xs : Nat → Int32) (E : CallT) (back : BackT) (k : Nat) (a1 : Int32) (M : Mem) (O : Int64) (T : Tmp) (c s : Nat) :
  BK L xs E mi_X6_air back (k + 1) 26 [some (.inr (.inr (0, 0))), some (.inl a1)] [.inr (.inr (0, 0))] M O T c s =
    BK L xs E mi_X6_air back (k) 27 [some (.inr (.inr (0, 0))), some (.inl a1)] [.inl 0, .inr (.inr (0, 0))] M O T c s :=
  blk_of (fun q => Nat.beq q 26 || Nat.beq q 27) (f := fun kk => kk (k) 27 [some (.inr (.inr (0, 0))), some (.inl a1)] [.inl 0, .inr (.inr (0, 0))] M O T c s) (fun kk => rfl)
set_option maxRecDepth 100000 in
theorem e_X6_air_19 (L : Nat) (xs : Nat → Int32) (E : CallT) (back : BackT) (k : Nat) (a1 : Int32) (as0 : Int32) (as1 : Int32) (M : Mem) (O : Int64) (T : Tmp) (c s : Nat) :
  BK L xs E mi_X6_air back (k + 3) 19 [some (.inr (.inr (0, 0))), some (.inl a1)] [.inl as0, .inl as1, .inr (.inr (0, 0))] M O T c s =
    if as0 < as1 then (BK L xs E mi_X6_air back (k + 2) 26 [some (.inr (.inr (0, 0))), some (.inl a1)] [.inr (.inr (0, 0))] M O T c s) else (BK L xs E mi_X6_air back (k) 27 [some (.inr (.inr (0, 0))), some (.inl a1)] [.inl 1, .inr (.inr (0, 0))] M O T c s) :=
  blk_of (fun q => Nat.beq q 19 || Nat.beq q 26 || Nat.beq q 27) (f := fun kk => if as0 < as1 then (kk (k + 2) 26 [some (.inr (.inr (0, 0))), some (.inl a1)] [.inr (.inr (0, 0))] M O T c s) else (kk (k) 27 [some (.inr (.inr (0, 0))), some (.inl a1)] [.inl 1, .inr (.inr (0, 0))] M O T c s)) (fun kk => rfl)
set_option maxRecDepth 100000 in
theorem e_X6_air_27 (L : Nat) (xs : Nat → Int32) (E : CallT) (back : BackT) (k : Nat) (a1 : Int32) (as0 : Int32) (M : Mem) (O : Int64) (T : Tmp) (c s : Nat) :
  BK L xs E mi_X6_air back (k + 1) 27 [some (.inr (.inr (0, 0))), some (.inl a1)] [.inl as0, .inr (.inr (0, 0))] M O T c s =
    xret tkT mi_X6_air 0 (E q_X6_needArgument [.inr (.inr (0, 0)), .inl as0] M O) (BK L xs E mi_X6_air back (k)) 27 [some (.inr (.inr (0, 0))), some (.inl a1)] [] T c s :=
  blk_of (fun q => Nat.beq q 26 || Nat.beq q 27) (f := fun kk => xret tkT mi_X6_air 0 (E q_X6_needArgument [.inr (.inr (0, 0)), .inl as0] M O) (kk (k)) 27 [some (.inr (.inr (0, 0))), some (.inl a1)] [] T c s) (fun kk => rfl)
set_option maxRecDepth 100000 in
theorem e_X6_air_30 (L : Nat) (xs : Nat → Int32) (E : CallT) (back : BackT) (k : Nat) (a1 : Int32) (M : Mem) (O : Int64) (T : Tmp) (c s : Nat) :
  BK L xs E mi_X6_air back (k + 4) 30 [some (.inr (.inr (0, 0))), some (.inl a1)] [] M O T c s =
    xret tkT mi_X6_air 1 (E q_X5_open [.inr (.inr (1, 0)), .inl a1] M O) (BK L xs E mi_X6_air back (k)) 35 [some (.inr (.inr (0, 0))), some (.inl a1)] [] T c s :=
  blk_of (fun q => Nat.beq q 26 || Nat.beq q 27 || Nat.beq q 30) (f := fun kk => xret tkT mi_X6_air 1 (E q_X5_open [.inr (.inr (1, 0)), .inl a1] M O) (kk (k)) 35 [some (.inr (.inr (0, 0))), some (.inl a1)] [] T c s) (fun kk => rfl)
set_option maxRecDepth 100000 in
theorem e_X6_air_38 (L : Nat) (xs : Nat → Int32) (E : CallT) (back : BackT) (k : Nat) (a1 : Int32) (M : Mem) (O : Int64) (T : Tmp) (c s : Nat) :
  BK L xs E mi_X6_air back (k + 12) 38 [some (.inr (.inr (0, 0))), some (.inl a1)] [] M O T c s =
    if (M 0 0 6) < 6 then (if 0 ≤ ((M 0 0 6) : Int32).toInt ∧ ((M 0 0 6) : Int32).toInt < 6 then (xret tkT mi_X6_air 1 (E q_X0_read [.inr (.inr (18, (0 + ((M 0 0 6) : Int32).toNatClampNeg))), .inr (.inr (1, 0))] M O) (BK L xs E mi_X6_air back (k)) 62 [some (.inr (.inr (0, 0))), some (.inl a1)] [] T c s) else none) else (some (.inl (some (.inl (-1))), M, O, c, s)) :=
  blk_of (fun q => Nat.beq q 26 || Nat.beq q 27 || Nat.beq q 38) (f := fun kk => if (M 0 0 6) < 6 then (if 0 ≤ ((M 0 0 6) : Int32).toInt ∧ ((M 0 0 6) : Int32).toInt < 6 then (xret tkT mi_X6_air 1 (E q_X0_read [.inr (.inr (18, (0 + ((M 0 0 6) : Int32).toNatClampNeg))), .inr (.inr (1, 0))] M O) (kk (k)) 62 [some (.inr (.inr (0, 0))), some (.inl a1)] [] T c s) else none) else (some (.inl (some (.inl (-1))), M, O, c, s))) (fun kk => rfl)
set_option maxRecDepth 100000 in
theorem e_X6_air_65 (L : Nat) (xs : Nat → Int32) (E : CallT) (back : BackT) (k : Nat) (a1 : Int32) (M : Mem) (O : Int64) (T : Tmp) (c s : Nat) :
  BK L xs E mi_X6_air back (k + 15) 65 [some (.inr (.inr (0, 0))), some (.inl a1)] [] M O T c s =
    if (M 1 0 4) = 0 then (some (.inl (some (.inl (((M 0 0 6) + 1) - 1))), (mput M 0 0 6 ((M 0 0 6) + 1)), O, c, s)) else (some (.inl (some (.inl ((M 1 0 4) - 10))), M, O, c, s)) :=
  blk_of (fun q => Nat.beq q 26 || Nat.beq q 27 || Nat.beq q 65) (f := fun kk => if (M 1 0 4) = 0 then (some (.inl (some (.inl (((M 0 0 6) + 1) - 1))), (mput M 0 0 6 ((M 0 0 6) + 1)), O, c, s)) else (some (.inl (some (.inl ((M 1 0 4) - 10))), M, O, c, s))) (fun kk => rfl)
set_option maxRecDepth 100000 in
theorem e_L_air_0 (L : Nat) (xs : Nat → Int32) (E : CallT) (back : BackT) (k : Nat) (a1 : Int32) (M : Mem) (O : Int64) (T : Tmp) (c s : Nat) :
  BK L xs E mi_L_air back (k + 5) 0 [some (.inr (.inr (0, 0))), some (.inl a1), some (.inr (.inr (83, 0))), none] [] M O T c s =
    xret tkT mi_L_air 0 (E q_X6_air [.inr (.inr (0, 0)), .inl a1] M O) (BK L xs E mi_L_air back (k)) 4 [some (.inr (.inr (0, 0))), some (.inl a1), some (.inr (.inr (83, 0))), none] [.inl 0, .inr (.inr (83, 0))] T c s :=
  blk_of (fun q => Nat.beq q 0) (f := fun kk => xret tkT mi_L_air 0 (E q_X6_air [.inr (.inr (0, 0)), .inl a1] M O) (kk (k)) 4 [some (.inr (.inr (0, 0))), some (.inl a1), some (.inr (.inr (83, 0))), none] [.inl 0, .inr (.inr (83, 0))] T c s) (fun kk => rfl)
set_option maxRecDepth 100000 in
theorem e_L_air_7 (L : Nat) (xs : Nat → Int32) (E : CallT) (back : BackT) (k : Nat) (a1 : Int32) (u3 : Option AV) (as0 : Int32) (as1 : Int32) (M : Mem) (O : Int64) (T : Tmp) (c s : Nat) :
  BK L xs E mi_L_air back (k + 5) 7 [some (.inr (.inr (0, 0))), some (.inl a1), some (.inr (.inr (83, 0))), u3] [.inl as0, .inl as1, .inr (.inr (83, 0))] M O T c s =
    if (as1 : Int32) = 0 then (some (.inl (some (.inl 0)), M, (as0).toInt64, c, s)) else none :=
  blk_of (fun q => Nat.beq q 7) (f := fun kk => if (as1 : Int32) = 0 then (some (.inl (some (.inl 0)), M, (as0).toInt64, c, s)) else none) (fun kk => rfl)
set_option maxRecDepth 100000 in
theorem e_X6_needWhat_0 (L : Nat) (xs : Nat → Int32) (E : CallT) (back : BackT) (k : Nat) (a1 : Int32) (a2 : Int32) (M : Mem) (O : Int64) (T : Tmp) (c s : Nat) :
  BK L xs E mi_X6_needWhat back (k + 8) 0 [some (.inr (.inr (0, 0))), some (.inl a1), some (.inl a2)] [] M O T c s =
    if a1 < 0 then (BK L xs E mi_X6_needWhat back (k + 5) 14 [some (.inr (.inr (0, 0))), some (.inl a1), some (.inl a2)] [.inr (.inr (0, 0))] M O T c s) else (if a2 ≤ a1 then (BK L xs E mi_X6_needWhat back (k + 2) 14 [some (.inr (.inr (0, 0))), some (.inl a1), some (.inl a2)] [.inr (.inr (0, 0))] M O T c s) else (BK L xs E mi_X6_needWhat back (k) 15 [some (.inr (.inr (0, 0))), some (.inl a1), some (.inl a2)] [.inl 1, .inr (.inr (0, 0))] M O T c s)) :=
  blk_of (fun q => Nat.beq q 0 || Nat.beq q 14 || Nat.beq q 15) (f := fun kk => if a1 < 0 then (kk (k + 5) 14 [some (.inr (.inr (0, 0))), some (.inl a1), some (.inl a2)] [.inr (.inr (0, 0))] M O T c s) else (if a2 ≤ a1 then (kk (k + 2) 14 [some (.inr (.inr (0, 0))), some (.inl a1), some (.inl a2)] [.inr (.inr (0, 0))] M O T c s) else (kk (k) 15 [some (.inr (.inr (0, 0))), some (.inl a1), some (.inl a2)] [.inl 1, .inr (.inr (0, 0))] M O T c s))) (fun kk => rfl)
set_option maxRecDepth 100000 in
theorem e_X6_needWhat_14 (L : Nat) (xs : Nat → Int32) (E : CallT) (back : BackT) (k : Nat) (a1 : Int32) (a2 : Int32) (M : Mem) (O : Int64) (T : Tmp) (c s : Nat) :
  BK L xs E mi_X6_needWhat back (k + 1) 14 [some (.inr (.inr (0, 0))), some (.inl a1), some (.inl a2)] [.inr (.inr (0, 0))] M O T c s =
    BK L xs E mi_X6_needWhat back (k) 15 [some (.inr (.inr (0, 0))), some (.inl a1), some (.inl a2)] [.inl 0, .inr (.inr (0, 0))] M O T c s :=
  blk_of (fun q => Nat.beq q 14 || Nat.beq q 15) (f := fun kk => kk (k) 15 [some (.inr (.inr (0, 0))), some (.inl a1), some (.inl a2)] [.inl 0, .inr (.inr (0, 0))] M O T c s) (fun kk => rfl)
set_option maxRecDepth 100000 in
theorem e_X6_needWhat_15 (L : Nat) (xs : Nat → Int32) (E : CallT) (back : BackT) (k : Nat) (a1 : Int32) (a2 : Int32) (as0 : Int32) (M : Mem) (O : Int64) (T : Tmp) (c s : Nat) :
  BK L xs E mi_X6_needWhat back (k + 1) 15 [some (.inr (.inr (0, 0))), some (.inl a1), some (.inl a2)] [.inl as0, .inr (.inr (0, 0))] M O T c s =
    xret tkT mi_X6_needWhat 0 (E q_X6_needArgument [.inr (.inr (0, 0)), .inl as0] M O) (BK L xs E mi_X6_needWhat back (k)) 15 [some (.inr (.inr (0, 0))), some (.inl a1), some (.inl a2)] [] T c s :=
  blk_of (fun q => Nat.beq q 14 || Nat.beq q 15) (f := fun kk => xret tkT mi_X6_needWhat 0 (E q_X6_needArgument [.inr (.inr (0, 0)), .inl as0] M O) (kk (k)) 15 [some (.inr (.inr (0, 0))), some (.inl a1), some (.inl a2)] [] T c s) (fun kk => rfl)
set_option maxRecDepth 100000 in
theorem e_X6_needWhat_18 (L : Nat) (xs : Nat → Int32) (E : CallT) (back : BackT) (k : Nat) (a1 : Int32) (a2 : Int32) (M : Mem) (O : Int64) (T : Tmp) (c s : Nat) :
  BK L xs E mi_X6_needWhat back (k + 1) 18 [some (.inr (.inr (0, 0))), some (.inl a1), some (.inl a2)] [] M O T c s =
    some (.inl none, M, O, c, s) :=
  blk_of (fun q => Nat.beq q 14 || Nat.beq q 15 || Nat.beq q 18) (f := fun kk => some (.inl none, M, O, c, s)) (fun kk => rfl)
set_option maxRecDepth 100000 in
theorem e_X6_told_0 (L : Nat) (xs : Nat → Int32) (E : CallT) (back : BackT) (k : Nat) (a1 : Int32) (M : Mem) (O : Int64) (T : Tmp) (c s : Nat) :
  BK L xs E mi_X6_told back (k + 4) 0 [some (.inr (.inr (0, 0))), some (.inl a1)] [] M O T c s =
    xret tkT mi_X6_told 0 (E q_X6_needWhat [.inr (.inr (0, 0)), .inl a1, .inl 5] M O) (BK L xs E mi_X6_told back (k)) 3 [some (.inr (.inr (0, 0))), some (.inl a1)] [] T c s :=
  blk_of (fun q => Nat.beq q 0 || Nat.beq q 7) (f := fun kk => xret tkT mi_X6_told 0 (E q_X6_needWhat [.inr (.inr (0, 0)), .inl a1, .inl 5] M O) (kk (k)) 3 [some (.inr (.inr (0, 0))), some (.inl a1)] [] T c s) (fun kk => rfl)
set_option maxRecDepth 100000 in
theorem e_X6_told_6 (L : Nat) (xs : Nat → Int32) (E : CallT) (back : BackT) (k : Nat) (a1 : Int32) (M : Mem) (O : Int64) (T : Tmp) (c s : Nat) :
  BK L xs E mi_X6_told back (k + 1) 6 [some (.inr (.inr (0, 0))), some (.inl a1)] [] M O T c s =
    BK L xs E mi_X6_told back (k) 7 [some (.inr (.inr (0, 0))), some (.inl a1)] [.inl a1] M O T c s :=
  blk_of (fun q => Nat.beq q 6 || Nat.beq q 7) (f := fun kk => kk (k) 7 [some (.inr (.inr (0, 0))), some (.inl a1)] [.inl a1] M O T c s) (fun kk => rfl)
set_option maxRecDepth 100000 in
theorem e_X6_told_7_c0 (L : Nat) (xs : Nat → Int32) (E : CallT) (back : BackT) (k : Nat) (a1 : Int32) (M : Mem) (O : Int64) (T : Tmp) (c s : Nat) :
  BK L xs E mi_X6_told back (k + 1) 7 [some (.inr (.inr (0, 0))), some (.inl a1)] [.inl 0] M O T c s = BK L xs E mi_X6_told back k 36 [some (.inr (.inr (0, 0))), some (.inl a1)] [] M O T c s :=
  blk_of (fun q => true) (f := fun kk => kk k 36 [some (.inr (.inr (0, 0))), some (.inl a1)] [] M O T c s) (fun kk => rfl)
set_option maxRecDepth 100000 in
theorem e_X6_told_7_c1 (L : Nat) (xs : Nat → Int32) (E : CallT) (back : BackT) (k : Nat) (a1 : Int32) (M : Mem) (O : Int64) (T : Tmp) (c s : Nat) :
  BK L xs E mi_X6_told back (k + 1) 7 [some (.inr (.inr (0, 0))), some (.inl a1)] [.inl 1] M O T c s = BK L xs E mi_X6_told back k 44 [some (.inr (.inr (0, 0))), some (.inl a1)] [] M O T c s :=
  blk_of (fun q => true) (f := fun kk => kk k 44 [some (.inr (.inr (0, 0))), some (.inl a1)] [] M O T c s) (fun kk => rfl)
set_option maxRecDepth 100000 in
theorem e_X6_told_7_c2 (L : Nat) (xs : Nat → Int32) (E : CallT) (back : BackT) (k : Nat) (a1 : Int32) (M : Mem) (O : Int64) (T : Tmp) (c s : Nat) :
  BK L xs E mi_X6_told back (k + 1) 7 [some (.inr (.inr (0, 0))), some (.inl a1)] [.inl 2] M O T c s = BK L xs E mi_X6_told back k 52 [some (.inr (.inr (0, 0))), some (.inl a1)] [] M O T c s :=
  blk_of (fun q => true) (f := fun kk => kk k 52 [some (.inr (.inr (0, 0))), some (.inl a1)] [] M O T c s) (fun kk => rfl)
set_option maxRecDepth 100000 in
theorem e_X6_told_7_c3 (L : Nat) (xs : Nat → Int32) (E : CallT) (back : BackT) (k : Nat) (a1 : Int32) (M : Mem) (O : Int64) (T : Tmp) (c s : Nat) :
  BK L xs E mi_X6_told back (k + 1) 7 [some (.inr (.inr (0, 0))), some (.inl a1)] [.inl 3] M O T c s = BK L xs E mi_X6_told back k 60 [some (.inr (.inr (0, 0))), some (.inl a1)] [] M O T c s :=
  blk_of (fun q => true) (f := fun kk => kk k 60 [some (.inr (.inr (0, 0))), some (.inl a1)] [] M O T c s) (fun kk => rfl)
set_option maxRecDepth 100000 in
theorem e_X6_told_7_d (L : Nat) (xs : Nat → Int32) (E : CallT) (back : BackT) (k : Nat) (a1 : Int32) (M : Mem) (O : Int64) (T : Tmp) (c s : Nat) (a : Int32) (h : a.toInt < 0 ∨ 3 < a.toInt) :
  BK L xs E mi_X6_told back (k + 1) 7 [some (.inr (.inr (0, 0))), some (.inl a1)] [.inl a] M O T c s = BK L xs E mi_X6_told back k 68 [some (.inr (.inr (0, 0))), some (.inl a1)] [] M O T c s :=
  blk_of (fun q => true) (f := fun kk => kk k 68 [some (.inr (.inr (0, 0))), some (.inl a1)] [] M O T c s) (fun kk => (show _ = (if a.toInt < 0 ∨ 3 < a.toInt then kk k 68 [some (.inr (.inr (0, 0))), some (.inl a1)] [] M O T c s else (match (#[29, 37, 45, 53] : Array Int)[(a.toInt - (0)).toNat]? with
    | some off => xgo (cK (fun q => true) (kk k) (blkC L xs E mi_X6_told back (fun q => true) kk k)) back 7 off [some (.inr (.inr (0, 0))), some (.inl a1)] [] M O T c s
    | none => none)) from rfl).trans (if_pos h))
set_option maxRecDepth 100000 in
theorem e_X6_told_44 (L : Nat) (xs : Nat → Int32) (E : CallT) (back : BackT) (k : Nat) (a1 : Int32) (M : Mem) (O : Int64) (T : Tmp) (c s : Nat) :
  BK L xs E mi_X6_told back (k + 4) 44 [some (.inr (.inr (0, 0))), some (.inl a1)] [] M O T c s =
    some (.inl (some (.inl (M 3 2 4))), M, O, c, s) :=
  blk_of (fun q => Nat.beq q 7 || Nat.beq q 44) (f := fun kk => some (.inl (some (.inl (M 3 2 4))), M, O, c, s)) (fun kk => rfl)
set_option maxRecDepth 100000 in
theorem e_X6_told_52 (L : Nat) (xs : Nat → Int32) (E : CallT) (back : BackT) (k : Nat) (a1 : Int32) (M : Mem) (O : Int64) (T : Tmp) (c s : Nat) :
  BK L xs E mi_X6_told back (k + 4) 52 [some (.inr (.inr (0, 0))), some (.inl a1)] [] M O T c s =
    some (.inl (some (.inl (M 3 2 8))), M, O, c, s) :=
  blk_of (fun q => Nat.beq q 7 || Nat.beq q 52) (f := fun kk => some (.inl (some (.inl (M 3 2 8))), M, O, c, s)) (fun kk => rfl)
set_option maxRecDepth 100000 in
theorem e_X6_told_68 (L : Nat) (xs : Nat → Int32) (E : CallT) (back : BackT) (k : Nat) (a1 : Int32) (M : Mem) (O : Int64) (T : Tmp) (c s : Nat) :
  BK L xs E mi_X6_told back (k + 3) 68 [some (.inr (.inr (0, 0))), some (.inl a1)] [] M O T c s =
    some (.inl (some (.inl (M 0 0 6))), M, O, c, s) :=
  blk_of (fun q => Nat.beq q 7 || Nat.beq q 68) (f := fun kk => some (.inl (some (.inl (M 0 0 6))), M, O, c, s)) (fun kk => rfl)
set_option maxRecDepth 100000 in
theorem e_X6_told_60 (L : Nat) (xs : Nat → Int32) (E : CallT) (back : BackT) (k : Nat) (a1 : Int32) (M : Mem) (O : Int64) (T : Tmp) (c s : Nat) :
  BK L xs E mi_X6_told back (k + 4) 60 [some (.inr (.inr (0, 0))), some (.inl a1)] [] M O T c s =
    some (.inl (some (.inl (M 3 2 13))), M, O, c, s) :=
  blk_of (fun q => Nat.beq q 7 || Nat.beq q 60) (f := fun kk => some (.inl (some (.inl (M 3 2 13))), M, O, c, s)) (fun kk => rfl)
set_option maxRecDepth 100000 in
theorem e_X6_told_36 (L : Nat) (xs : Nat → Int32) (E : CallT) (back : BackT) (k : Nat) (a1 : Int32) (M : Mem) (O : Int64) (T : Tmp) (c s : Nat) :
  BK L xs E mi_X6_told back (k + 4) 36 [some (.inr (.inr (0, 0))), some (.inl a1)] [] M O T c s =
    some (.inl (some (.inl (M 3 2 0))), M, O, c, s) :=
  blk_of (fun q => Nat.beq q 7 || Nat.beq q 36) (f := fun kk => some (.inl (some (.inl (M 3 2 0))), M, O, c, s)) (fun kk => rfl)
set_option maxRecDepth 100000 in
theorem e_L_told_0 (L : Nat) (xs : Nat → Int32) (E : CallT) (back : BackT) (k : Nat) (a1 : Int32) (M : Mem) (O : Int64) (T : Tmp) (c s : Nat) :
  BK L xs E mi_L_told back (k + 5) 0 [some (.inr (.inr (0, 0))), some (.inl a1), some (.inr (.inr (83, 0))), none] [] M O T c s =
    xret tkT mi_L_told 0 (E q_X6_told [.inr (.inr (0, 0)), .inl a1] M O) (BK L xs E mi_L_told back (k)) 4 [some (.inr (.inr (0, 0))), some (.inl a1), some (.inr (.inr (83, 0))), none] [.inl 0, .inr (.inr (83, 0))] T c s :=
  blk_of (fun q => Nat.beq q 0) (f := fun kk => xret tkT mi_L_told 0 (E q_X6_told [.inr (.inr (0, 0)), .inl a1] M O) (kk (k)) 4 [some (.inr (.inr (0, 0))), some (.inl a1), some (.inr (.inr (83, 0))), none] [.inl 0, .inr (.inr (83, 0))] T c s) (fun kk => rfl)
set_option maxRecDepth 100000 in
theorem e_L_told_7 (L : Nat) (xs : Nat → Int32) (E : CallT) (back : BackT) (k : Nat) (a1 : Int32) (u3 : Option AV) (as0 : Int32) (as1 : Int32) (M : Mem) (O : Int64) (T : Tmp) (c s : Nat) :
  BK L xs E mi_L_told back (k + 5) 7 [some (.inr (.inr (0, 0))), some (.inl a1), some (.inr (.inr (83, 0))), u3] [.inl as0, .inl as1, .inr (.inr (83, 0))] M O T c s =
    if (as1 : Int32) = 0 then (some (.inl (some (.inl 0)), M, (as0).toInt64, c, s)) else none :=
  blk_of (fun q => Nat.beq q 7) (f := fun kk => if (as1 : Int32) = 0 then (some (.inl (some (.inl 0)), M, (as0).toInt64, c, s)) else none) (fun kk => rfl)
set_option maxRecDepth 100000 in
theorem e_X6_needCell_0 (L : Nat) (xs : Nat → Int32) (E : CallT) (back : BackT) (k : Nat) (a1 : Int32) (M : Mem) (O : Int64) (T : Tmp) (c s : Nat) :
  BK L xs E mi_X6_needCell back (k + 8) 0 [some (.inr (.inr (0, 0))), some (.inl a1)] [] M O T c s =
    if a1 < 0 then (BK L xs E mi_X6_needCell back (k + 6) 15 [some (.inr (.inr (0, 0))), some (.inl a1)] [] M O T c s) else (if a1 < (M 3 2 0) then (some (.inl none, M, O, c, s)) else (BK L xs E mi_X6_needCell back (k + 1) 15 [some (.inr (.inr (0, 0))), some (.inl a1)] [] M O T c s)) :=
  blk_of (fun q => Nat.beq q 0 || Nat.beq q 15) (f := fun kk => if a1 < 0 then (kk (k + 6) 15 [some (.inr (.inr (0, 0))), some (.inl a1)] [] M O T c s) else (if a1 < (M 3 2 0) then (some (.inl none, M, O, c, s)) else (kk (k + 1) 15 [some (.inr (.inr (0, 0))), some (.inl a1)] [] M O T c s))) (fun kk => rfl)
set_option maxRecDepth 100000 in
theorem e_X6_needCell_15 (L : Nat) (xs : Nat → Int32) (E : CallT) (back : BackT) (k : Nat) (a1 : Int32) (M : Mem) (O : Int64) (T : Tmp) (c s : Nat) :
  BK L xs E mi_X6_needCell back (k + 9) 15 [some (.inr (.inr (0, 0))), some (.inl a1)] [] M O T c s =
    some (.inr 0, (mput M 34 0 0 ((M 34 0 0) + 1)), O, c + 1, s + 6) :=
  blk_of (fun q => Nat.beq q 15) (f := fun kk => some (.inr 0, (mput M 34 0 0 ((M 34 0 0) + 1)), O, c + 1, s + 6)) (fun kk => rfl)
set_option maxRecDepth 100000 in
theorem e_X6_cell_0 (L : Nat) (xs : Nat → Int32) (E : CallT) (back : BackT) (k : Nat) (a1 : Int32) (a2 : Int32) (M : Mem) (O : Int64) (T : Tmp) (c s : Nat) :
  BK L xs E mi_X6_cell back (k + 3) 0 [some (.inr (.inr (0, 0))), some (.inl a1), some (.inl a2)] [] M O T c s =
    xret tkT mi_X6_cell 0 (E q_X6_needCell [.inr (.inr (0, 0)), .inl a1] M O) (BK L xs E mi_X6_cell back (k)) 2 [some (.inr (.inr (0, 0))), some (.inl a1), some (.inl a2)] [] T c s :=
  blk_of (fun q => Nat.beq q 0 || Nat.beq q 12) (f := fun kk => xret tkT mi_X6_cell 0 (E q_X6_needCell [.inr (.inr (0, 0)), .inl a1] M O) (kk (k)) 2 [some (.inr (.inr (0, 0))), some (.inl a1), some (.inl a2)] [] T c s) (fun kk => rfl)
set_option maxRecDepth 100000 in
theorem e_X6_cell_5 (L : Nat) (xs : Nat → Int32) (E : CallT) (back : BackT) (k : Nat) (a1 : Int32) (a2 : Int32) (M : Mem) (O : Int64) (T : Tmp) (c s : Nat) :
  BK L xs E mi_X6_cell back (k + 4) 5 [some (.inr (.inr (0, 0))), some (.inl a1), some (.inl a2)] [] M O T c s =
    xret tkT mi_X6_cell 0 (E q_X6_needWhat [.inr (.inr (0, 0)), .inl a2, .inl 3] M O) (BK L xs E mi_X6_cell back (k)) 8 [some (.inr (.inr (0, 0))), some (.inl a1), some (.inl a2)] [] T c s :=
  blk_of (fun q => Nat.beq q 5 || Nat.beq q 12) (f := fun kk => xret tkT mi_X6_cell 0 (E q_X6_needWhat [.inr (.inr (0, 0)), .inl a2, .inl 3] M O) (kk (k)) 8 [some (.inr (.inr (0, 0))), some (.inl a1), some (.inl a2)] [] T c s) (fun kk => rfl)
set_option maxRecDepth 100000 in
theorem e_X6_cell_11 (L : Nat) (xs : Nat → Int32) (E : CallT) (back : BackT) (k : Nat) (a1 : Int32) (a2 : Int32) (M : Mem) (O : Int64) (T : Tmp) (c s : Nat) :
  BK L xs E mi_X6_cell back (k + 1) 11 [some (.inr (.inr (0, 0))), some (.inl a1), some (.inl a2)] [] M O T c s =
    BK L xs E mi_X6_cell back (k) 12 [some (.inr (.inr (0, 0))), some (.inl a1), some (.inl a2)] [.inl a2] M O T c s :=
  blk_of (fun q => Nat.beq q 11 || Nat.beq q 12) (f := fun kk => kk (k) 12 [some (.inr (.inr (0, 0))), some (.inl a1), some (.inl a2)] [.inl a2] M O T c s) (fun kk => rfl)
set_option maxRecDepth 100000 in
theorem e_X6_cell_12_c0 (L : Nat) (xs : Nat → Int32) (E : CallT) (back : BackT) (k : Nat) (a1 : Int32) (a2 : Int32) (M : Mem) (O : Int64) (T : Tmp) (c s : Nat) :
  BK L xs E mi_X6_cell back (k + 1) 12 [some (.inr (.inr (0, 0))), some (.inl a1), some (.inl a2)] [.inl 0] M O T c s = BK L xs E mi_X6_cell back k 40 [some (.inr (.inr (0, 0))), some (.inl a1), some (.inl a2)] [] M O T c s :=
  blk_of (fun q => true) (f := fun kk => kk k 40 [some (.inr (.inr (0, 0))), some (.inl a1), some (.inl a2)] [] M O T c s) (fun kk => rfl)
set_option maxRecDepth 100000 in
theorem e_X6_cell_12_c1 (L : Nat) (xs : Nat → Int32) (E : CallT) (back : BackT) (k : Nat) (a1 : Int32) (a2 : Int32) (M : Mem) (O : Int64) (T : Tmp) (c s : Nat) :
  BK L xs E mi_X6_cell back (k + 1) 12 [some (.inr (.inr (0, 0))), some (.inl a1), some (.inl a2)] [.inl 1] M O T c s = BK L xs E mi_X6_cell back k 50 [some (.inr (.inr (0, 0))), some (.inl a1), some (.inl a2)] [] M O T c s :=
  blk_of (fun q => true) (f := fun kk => kk k 50 [some (.inr (.inr (0, 0))), some (.inl a1), some (.inl a2)] [] M O T c s) (fun kk => rfl)
set_option maxRecDepth 100000 in
theorem e_X6_cell_12_d (L : Nat) (xs : Nat → Int32) (E : CallT) (back : BackT) (k : Nat) (a1 : Int32) (a2 : Int32) (M : Mem) (O : Int64) (T : Tmp) (c s : Nat) (a : Int32) (h : Op.lookupswitch.offset (Array.toList #[(0, 28), (1, 38)]) (48) a.toInt = 48) :
  BK L xs E mi_X6_cell back (k + 1) 12 [some (.inr (.inr (0, 0))), some (.inl a1), some (.inl a2)] [.inl a] M O T c s = BK L xs E mi_X6_cell back k 60 [some (.inr (.inr (0, 0))), some (.inl a1), some (.inl a2)] [] M O T c s :=
  blk_of (fun q => true) (f := fun kk => kk k 60 [some (.inr (.inr (0, 0))), some (.inl a1), some (.inl a2)] [] M O T c s) (fun kk => (show _ = xgo (cK (fun q => true) (kk k) (blkC L xs E mi_X6_cell back (fun q => true) kk k)) back 12 (Op.lookupswitch.offset (Array.toList #[(0, 28), (1, 38)]) (48) a.toInt) [some (.inr (.inr (0, 0))), some (.inl a1), some (.inl a2)] [] M O T c s from rfl).trans (by rw [h]; rfl))
set_option maxRecDepth 100000 in
theorem e_X6_cell_60 (L : Nat) (xs : Nat → Int32) (E : CallT) (back : BackT) (k : Nat) (a1 : Int32) (a2 : Int32) (M : Mem) (O : Int64) (T : Tmp) (c s : Nat) :
  BK L xs E mi_X6_cell back (k + 6) 60 [some (.inr (.inr (0, 0))), some (.inl a1), some (.inl a2)] [] M O T c s =
    if 0 ≤ (a1 : Int32).toInt ∧ (a1 : Int32).toInt < 40 then (some (.inl (some (.inl (M 6 2 (a1 : Int32).toNatClampNeg))), M, O, c, s)) else none :=
  blk_of (fun q => Nat.beq q 12 || Nat.beq q 60) (f := fun kk => if 0 ≤ (a1 : Int32).toInt ∧ (a1 : Int32).toInt < 40 then (some (.inl (some (.inl (M 6 2 (a1 : Int32).toNatClampNeg))), M, O, c, s)) else none) (fun kk => rfl)
set_option maxRecDepth 100000 in
theorem e_X6_cell_40 (L : Nat) (xs : Nat → Int32) (E : CallT) (back : BackT) (k : Nat) (a1 : Int32) (a2 : Int32) (M : Mem) (O : Int64) (T : Tmp) (c s : Nat) :
  BK L xs E mi_X6_cell back (k + 6) 40 [some (.inr (.inr (0, 0))), some (.inl a1), some (.inl a2)] [] M O T c s =
    if 0 ≤ (a1 : Int32).toInt ∧ (a1 : Int32).toInt < 40 then (some (.inl (some (.inl (M 4 2 (a1 : Int32).toNatClampNeg))), M, O, c, s)) else none :=
  blk_of (fun q => Nat.beq q 12 || Nat.beq q 40) (f := fun kk => if 0 ≤ (a1 : Int32).toInt ∧ (a1 : Int32).toInt < 40 then (some (.inl (some (.inl (M 4 2 (a1 : Int32).toNatClampNeg))), M, O, c, s)) else none) (fun kk => rfl)
set_option maxRecDepth 100000 in
theorem e_X6_cell_50 (L : Nat) (xs : Nat → Int32) (E : CallT) (back : BackT) (k : Nat) (a1 : Int32) (a2 : Int32) (M : Mem) (O : Int64) (T : Tmp) (c s : Nat) :
  BK L xs E mi_X6_cell back (k + 6) 50 [some (.inr (.inr (0, 0))), some (.inl a1), some (.inl a2)] [] M O T c s =
    if 0 ≤ (a1 : Int32).toInt ∧ (a1 : Int32).toInt < 40 then (some (.inl (some (.inl (M 5 2 (a1 : Int32).toNatClampNeg))), M, O, c, s)) else none :=
  blk_of (fun q => Nat.beq q 12 || Nat.beq q 50) (f := fun kk => if 0 ≤ (a1 : Int32).toInt ∧ (a1 : Int32).toInt < 40 then (some (.inl (some (.inl (M 5 2 (a1 : Int32).toNatClampNeg))), M, O, c, s)) else none) (fun kk => rfl)
set_option maxRecDepth 100000 in
theorem e_L_cell_0 (L : Nat) (xs : Nat → Int32) (E : CallT) (back : BackT) (k : Nat) (a1 : Int32) (a2 : Int32) (M : Mem) (O : Int64) (T : Tmp) (c s : Nat) :
  BK L xs E mi_L_cell back (k + 6) 0 [some (.inr (.inr (0, 0))), some (.inl a1), some (.inl a2), some (.inr (.inr (83, 0))), none] [] M O T c s =
    xret tkT mi_L_cell 0 (E q_X6_cell [.inr (.inr (0, 0)), .inl a1, .inl a2] M O) (BK L xs E mi_L_cell back (k)) 5 [some (.inr (.inr (0, 0))), some (.inl a1), some (.inl a2), some (.inr (.inr (83, 0))), none] [.inl 0, .inr (.inr (83, 0))] T c s :=
  blk_of (fun q => Nat.beq q 0) (f := fun kk => xret tkT mi_L_cell 0 (E q_X6_cell [.inr (.inr (0, 0)), .inl a1, .inl a2] M O) (kk (k)) 5 [some (.inr (.inr (0, 0))), some (.inl a1), some (.inl a2), some (.inr (.inr (83, 0))), none] [.inl 0, .inr (.inr (83, 0))] T c s) (fun kk => rfl)
set_option maxRecDepth 100000 in
theorem e_L_cell_8 (L : Nat) (xs : Nat → Int32) (E : CallT) (back : BackT) (k : Nat) (a1 : Int32) (a2 : Int32) (u4 : Option AV) (as0 : Int32) (as1 : Int32) (M : Mem) (O : Int64) (T : Tmp) (c s : Nat) :
  BK L xs E mi_L_cell back (k + 5) 8 [some (.inr (.inr (0, 0))), some (.inl a1), some (.inl a2), some (.inr (.inr (83, 0))), u4] [.inl as0, .inl as1, .inr (.inr (83, 0))] M O T c s =
    if (as1 : Int32) = 0 then (some (.inl (some (.inl 0)), M, (as0).toInt64, c, s)) else none :=
  blk_of (fun q => Nat.beq q 8) (f := fun kk => if (as1 : Int32) = 0 then (some (.inl (some (.inl 0)), M, (as0).toInt64, c, s)) else none) (fun kk => rfl)
set_option maxRecDepth 100000 in
theorem e_X1_humOf_0 (L : Nat) (xs : Nat → Int32) (E : CallT) (back : BackT) (k : Nat) (i0 : Nat) (a1 : Int32) (M : Mem) (O : Int64) (T : Tmp) (c s : Nat) :
  BK L xs E mi_X1_humOf back (k + 2) 0 [some (.inr (.inr (3, i0))), some (.inl a1), none, none] [] M O T c s =
    BK L xs E mi_X1_humOf back (k) 2 [some (.inr (.inr (3, i0))), some (.inl a1), some (.inl 0), none] [] M O T c s :=
  blk_of (fun q => Nat.beq q 0 || Nat.beq q 2) (f := fun kk => kk (k) 2 [some (.inr (.inr (3, i0))), some (.inl a1), some (.inl 0), none] [] M O T c s) (fun kk => rfl)
set_option maxRecDepth 100000 in
theorem e_X1_humOf_2 (L : Nat) (xs : Nat → Int32) (E : CallT) (back : BackT) (k : Nat) (i0 : Nat) (a1 : Int32) (a2 : Int32) (u3 : Option AV) (M : Mem) (O : Int64) (T : Tmp) (c s : Nat) :
  BK L xs E mi_X1_humOf back (k + 19) 2 [some (.inr (.inr (3, i0))), some (.inl a1), some (.inl a2), u3] [] M O T c s =
    if (24 : Int32) ≤ a2 then (some (.inl (some (.inl 0)), M, O, c, s)) else (if 0 ≤ ((((a1 + 24) - a2) - ((a1 + 24) - a2) / 24 * 24) : Int32).toInt ∧ ((((a1 + 24) - a2) - ((a1 + 24) - a2) / 24 * 24) : Int32).toInt < 24 then (if (M 9 i0 ((((a1 + 24) - a2) - ((a1 + 24) - a2) / 24 * 24) : Int32).toNatClampNeg) = (-1) then (back 2 [some (.inr (.inr (3, i0))), some (.inl a1), some (.inl (a2 + 1)), some (.inl (M 9 i0 ((((a1 + 24) - a2) - ((a1 + 24) - a2) / 24 * 24) : Int32).toNatClampNeg))] M O T c s) else (some (.inl (some (.inl (M 9 i0 ((((a1 + 24) - a2) - ((a1 + 24) - a2) / 24 * 24) : Int32).toNatClampNeg))), M, O, c, s))) else none) :=
  blk_of (fun q => Nat.beq q 2) (f := fun kk => if (24 : Int32) ≤ a2 then (some (.inl (some (.inl 0)), M, O, c, s)) else (if 0 ≤ ((((a1 + 24) - a2) - ((a1 + 24) - a2) / 24 * 24) : Int32).toInt ∧ ((((a1 + 24) - a2) - ((a1 + 24) - a2) / 24 * 24) : Int32).toInt < 24 then (if (M 9 i0 ((((a1 + 24) - a2) - ((a1 + 24) - a2) / 24 * 24) : Int32).toNatClampNeg) = (-1) then (back 2 [some (.inr (.inr (3, i0))), some (.inl a1), some (.inl (a2 + 1)), some (.inl (M 9 i0 ((((a1 + 24) - a2) - ((a1 + 24) - a2) / 24 * 24) : Int32).toNatClampNeg))] M O T c s) else (some (.inl (some (.inl (M 9 i0 ((((a1 + 24) - a2) - ((a1 + 24) - a2) / 24 * 24) : Int32).toNatClampNeg))), M, O, c, s))) else none)) (fun kk => rfl)
set_option maxRecDepth 100000 in
theorem e_X6_needHour_0 (L : Nat) (xs : Nat → Int32) (E : CallT) (back : BackT) (k : Nat) (a1 : Int32) (M : Mem) (O : Int64) (T : Tmp) (c s : Nat) :
  BK L xs E mi_X6_needHour back (k + 8) 0 [some (.inr (.inr (0, 0))), some (.inl a1)] [] M O T c s =
    if a1 < 0 then (BK L xs E mi_X6_needHour back (k + 5) 15 [some (.inr (.inr (0, 0))), some (.inl a1)] [.inr (.inr (0, 0))] M O T c s) else (if (24 : Int32) ≤ a1 then (BK L xs E mi_X6_needHour back (k + 2) 15 [some (.inr (.inr (0, 0))), some (.inl a1)] [.inr (.inr (0, 0))] M O T c s) else (BK L xs E mi_X6_needHour back (k) 16 [some (.inr (.inr (0, 0))), some (.inl a1)] [.inl 1, .inr (.inr (0, 0))] M O T c s)) :=
  blk_of (fun q => Nat.beq q 0 || Nat.beq q 15 || Nat.beq q 16) (f := fun kk => if a1 < 0 then (kk (k + 5) 15 [some (.inr (.inr (0, 0))), some (.inl a1)] [.inr (.inr (0, 0))] M O T c s) else (if (24 : Int32) ≤ a1 then (kk (k + 2) 15 [some (.inr (.inr (0, 0))), some (.inl a1)] [.inr (.inr (0, 0))] M O T c s) else (kk (k) 16 [some (.inr (.inr (0, 0))), some (.inl a1)] [.inl 1, .inr (.inr (0, 0))] M O T c s))) (fun kk => rfl)
set_option maxRecDepth 100000 in
theorem e_X6_needHour_15 (L : Nat) (xs : Nat → Int32) (E : CallT) (back : BackT) (k : Nat) (a1 : Int32) (M : Mem) (O : Int64) (T : Tmp) (c s : Nat) :
  BK L xs E mi_X6_needHour back (k + 1) 15 [some (.inr (.inr (0, 0))), some (.inl a1)] [.inr (.inr (0, 0))] M O T c s =
    BK L xs E mi_X6_needHour back (k) 16 [some (.inr (.inr (0, 0))), some (.inl a1)] [.inl 0, .inr (.inr (0, 0))] M O T c s :=
  blk_of (fun q => Nat.beq q 15 || Nat.beq q 16) (f := fun kk => kk (k) 16 [some (.inr (.inr (0, 0))), some (.inl a1)] [.inl 0, .inr (.inr (0, 0))] M O T c s) (fun kk => rfl)
set_option maxRecDepth 100000 in
theorem e_X6_needHour_16 (L : Nat) (xs : Nat → Int32) (E : CallT) (back : BackT) (k : Nat) (a1 : Int32) (as0 : Int32) (M : Mem) (O : Int64) (T : Tmp) (c s : Nat) :
  BK L xs E mi_X6_needHour back (k + 1) 16 [some (.inr (.inr (0, 0))), some (.inl a1)] [.inl as0, .inr (.inr (0, 0))] M O T c s =
    xret tkT mi_X6_needHour 0 (E q_X6_needArgument [.inr (.inr (0, 0)), .inl as0] M O) (BK L xs E mi_X6_needHour back (k)) 16 [some (.inr (.inr (0, 0))), some (.inl a1)] [] T c s :=
  blk_of (fun q => Nat.beq q 15 || Nat.beq q 16) (f := fun kk => xret tkT mi_X6_needHour 0 (E q_X6_needArgument [.inr (.inr (0, 0)), .inl as0] M O) (kk (k)) 16 [some (.inr (.inr (0, 0))), some (.inl a1)] [] T c s) (fun kk => rfl)
set_option maxRecDepth 100000 in
theorem e_X6_needHour_19 (L : Nat) (xs : Nat → Int32) (E : CallT) (back : BackT) (k : Nat) (a1 : Int32) (M : Mem) (O : Int64) (T : Tmp) (c s : Nat) :
  BK L xs E mi_X6_needHour back (k + 1) 19 [some (.inr (.inr (0, 0))), some (.inl a1)] [] M O T c s =
    some (.inl none, M, O, c, s) :=
  blk_of (fun q => Nat.beq q 15 || Nat.beq q 16 || Nat.beq q 19) (f := fun kk => some (.inl none, M, O, c, s)) (fun kk => rfl)
set_option maxRecDepth 100000 in
theorem e_X6_hum_0 (L : Nat) (xs : Nat → Int32) (E : CallT) (back : BackT) (k : Nat) (a1 : Int32) (M : Mem) (O : Int64) (T : Tmp) (c s : Nat) :
  BK L xs E mi_X6_hum back (k + 3) 0 [some (.inr (.inr (0, 0))), some (.inl a1)] [] M O T c s =
    xret tkT mi_X6_hum 0 (E q_X6_needHour [.inr (.inr (0, 0)), .inl a1] M O) (BK L xs E mi_X6_hum back (k)) 2 [some (.inr (.inr (0, 0))), some (.inl a1)] [] T c s :=
  blk_of (fun q => Nat.beq q 0) (f := fun kk => xret tkT mi_X6_hum 0 (E q_X6_needHour [.inr (.inr (0, 0)), .inl a1] M O) (kk (k)) 2 [some (.inr (.inr (0, 0))), some (.inl a1)] [] T c s) (fun kk => rfl)
set_option maxRecDepth 100000 in
theorem e_X6_hum_5 (L : Nat) (xs : Nat → Int32) (E : CallT) (back : BackT) (k : Nat) (a1 : Int32) (M : Mem) (O : Int64) (T : Tmp) (c s : Nat) :
  BK L xs E mi_X6_hum back (k + 4) 5 [some (.inr (.inr (0, 0))), some (.inl a1)] [] M O T c s =
    xret tkT mi_X6_hum 1 (E q_X1_humOf [.inr (.inr (3, 2)), .inl a1] M O) (BK L xs E mi_X6_hum back (k)) 10 [some (.inr (.inr (0, 0))), some (.inl a1)] [] T c s :=
  blk_of (fun q => Nat.beq q 5) (f := fun kk => xret tkT mi_X6_hum 1 (E q_X1_humOf [.inr (.inr (3, 2)), .inl a1] M O) (kk (k)) 10 [some (.inr (.inr (0, 0))), some (.inl a1)] [] T c s) (fun kk => rfl)
set_option maxRecDepth 100000 in
theorem e_X6_hum_13 (L : Nat) (xs : Nat → Int32) (E : CallT) (back : BackT) (k : Nat) (a1 : Int32) (as0 : Int32) (M : Mem) (O : Int64) (T : Tmp) (c s : Nat) :
  BK L xs E mi_X6_hum back (k + 1) 13 [some (.inr (.inr (0, 0))), some (.inl a1)] [.inl as0] M O T c s =
    some (.inl (some (.inl as0)), M, O, c, s) :=
  blk_of (fun q => Nat.beq q 13) (f := fun kk => some (.inl (some (.inl as0)), M, O, c, s)) (fun kk => rfl)
set_option maxRecDepth 100000 in
theorem e_L_hum_0 (L : Nat) (xs : Nat → Int32) (E : CallT) (back : BackT) (k : Nat) (a1 : Int32) (M : Mem) (O : Int64) (T : Tmp) (c s : Nat) :
  BK L xs E mi_L_hum back (k + 5) 0 [some (.inr (.inr (0, 0))), some (.inl a1), some (.inr (.inr (83, 0))), none] [] M O T c s =
    xret tkT mi_L_hum 0 (E q_X6_hum [.inr (.inr (0, 0)), .inl a1] M O) (BK L xs E mi_L_hum back (k)) 4 [some (.inr (.inr (0, 0))), some (.inl a1), some (.inr (.inr (83, 0))), none] [.inl 0, .inr (.inr (83, 0))] T c s :=
  blk_of (fun q => Nat.beq q 0) (f := fun kk => xret tkT mi_L_hum 0 (E q_X6_hum [.inr (.inr (0, 0)), .inl a1] M O) (kk (k)) 4 [some (.inr (.inr (0, 0))), some (.inl a1), some (.inr (.inr (83, 0))), none] [.inl 0, .inr (.inr (83, 0))] T c s) (fun kk => rfl)
set_option maxRecDepth 100000 in
theorem e_L_hum_7 (L : Nat) (xs : Nat → Int32) (E : CallT) (back : BackT) (k : Nat) (a1 : Int32) (u3 : Option AV) (as0 : Int32) (as1 : Int32) (M : Mem) (O : Int64) (T : Tmp) (c s : Nat) :
  BK L xs E mi_L_hum back (k + 5) 7 [some (.inr (.inr (0, 0))), some (.inl a1), some (.inr (.inr (83, 0))), u3] [.inl as0, .inl as1, .inr (.inr (83, 0))] M O T c s =
    if (as1 : Int32) = 0 then (some (.inl (some (.inl 0)), M, (as0).toInt64, c, s)) else none :=
  blk_of (fun q => Nat.beq q 7) (f := fun kk => if (as1 : Int32) = 0 then (some (.inl (some (.inl 0)), M, (as0).toInt64, c, s)) else none) (fun kk => rfl)
set_option maxRecDepth 100000 in
theorem e_X6_needElement_0 (L : Nat) (xs : Nat → Int32) (E : CallT) (back : BackT) (k : Nat) (a1 : Int32) (a2 : Int32) (M : Mem) (O : Int64) (T : Tmp) (c s : Nat) :
  BK L xs E mi_X6_needElement back (k + 6) 0 [some (.inr (.inr (0, 0))), some (.inl a1), some (.inl a2)] [] M O T c s =
    if a1 < 0 then (BK L xs E mi_X6_needElement back (k + 4) 9 [some (.inr (.inr (0, 0))), some (.inl a1), some (.inl a2)] [] M O T c s) else (if a1 < a2 then (some (.inl none, M, O, c, s)) else (BK L xs E mi_X6_needElement back (k + 1) 9 [some (.inr (.inr (0, 0))), some (.inl a1), some (.inl a2)] [] M O T c s)) :=
  blk_of (fun q => Nat.beq q 0 || Nat.beq q 9) (f := fun kk => if a1 < 0 then (kk (k + 4) 9 [some (.inr (.inr (0, 0))), some (.inl a1), some (.inl a2)] [] M O T c s) else (if a1 < a2 then (some (.inl none, M, O, c, s)) else (kk (k + 1) 9 [some (.inr (.inr (0, 0))), some (.inl a1), some (.inl a2)] [] M O T c s))) (fun kk => rfl)
set_option maxRecDepth 100000 in
theorem e_X6_needElement_9 (L : Nat) (xs : Nat → Int32) (E : CallT) (back : BackT) (k : Nat) (a1 : Int32) (a2 : Int32) (M : Mem) (O : Int64) (T : Tmp) (c s : Nat) :
  BK L xs E mi_X6_needElement back (k + 9) 9 [some (.inr (.inr (0, 0))), some (.inl a1), some (.inl a2)] [] M O T c s =
    some (.inr 1, (mput M 34 0 1 ((M 34 0 1) + 1)), O, c + 1, s + 6) :=
  blk_of (fun q => Nat.beq q 9) (f := fun kk => some (.inr 1, (mput M 34 0 1 ((M 34 0 1) + 1)), O, c + 1, s + 6)) (fun kk => rfl)
set_option maxRecDepth 100000 in
theorem e_X6_needHouse_0 (L : Nat) (xs : Nat → Int32) (E : CallT) (back : BackT) (k : Nat) (a1 : Int32) (M : Mem) (O : Int64) (T : Tmp) (c s : Nat) :
  BK L xs E mi_X6_needHouse back (k + 6) 0 [some (.inr (.inr (0, 0))), some (.inl a1)] [] M O T c s =
    xret tkT mi_X6_needHouse 0 (E q_X6_needElement [.inr (.inr (0, 0)), .inl a1, .inl (M 3 2 4)] M O) (BK L xs E mi_X6_needHouse back (k)) 9 [some (.inr (.inr (0, 0))), some (.inl a1)] [] T c s :=
  blk_of (fun q => Nat.beq q 0) (f := fun kk => xret tkT mi_X6_needHouse 0 (E q_X6_needElement [.inr (.inr (0, 0)), .inl a1, .inl (M 3 2 4)] M O) (kk (k)) 9 [some (.inr (.inr (0, 0))), some (.inl a1)] [] T c s) (fun kk => rfl)
set_option maxRecDepth 100000 in
theorem e_X6_needHouse_12 (L : Nat) (xs : Nat → Int32) (E : CallT) (back : BackT) (k : Nat) (a1 : Int32) (M : Mem) (O : Int64) (T : Tmp) (c s : Nat) :
  BK L xs E mi_X6_needHouse back (k + 1) 12 [some (.inr (.inr (0, 0))), some (.inl a1)] [] M O T c s =
    some (.inl none, M, O, c, s) :=
  blk_of (fun q => Nat.beq q 12) (f := fun kk => some (.inl none, M, O, c, s)) (fun kk => rfl)
set_option maxRecDepth 100000 in
theorem e_X6_ear_0 (L : Nat) (xs : Nat → Int32) (E : CallT) (back : BackT) (k : Nat) (a1 : Int32) (M : Mem) (O : Int64) (T : Tmp) (c s : Nat) :
  BK L xs E mi_X6_ear back (k + 3) 0 [some (.inr (.inr (0, 0))), some (.inl a1)] [] M O T c s =
    xret tkT mi_X6_ear 0 (E q_X6_needHouse [.inr (.inr (0, 0)), .inl a1] M O) (BK L xs E mi_X6_ear back (k)) 2 [some (.inr (.inr (0, 0))), some (.inl a1)] [] T c s :=
  blk_of (fun q => Nat.beq q 0) (f := fun kk => xret tkT mi_X6_ear 0 (E q_X6_needHouse [.inr (.inr (0, 0)), .inl a1] M O) (kk (k)) 2 [some (.inr (.inr (0, 0))), some (.inl a1)] [] T c s) (fun kk => rfl)
set_option maxRecDepth 100000 in
theorem e_X6_ear_5 (L : Nat) (xs : Nat → Int32) (E : CallT) (back : BackT) (k : Nat) (a1 : Int32) (M : Mem) (O : Int64) (T : Tmp) (c s : Nat) :
  BK L xs E mi_X6_ear back (k + 6) 5 [some (.inr (.inr (0, 0))), some (.inl a1)] [] M O T c s =
    if 0 ≤ (a1 : Int32).toInt ∧ (a1 : Int32).toInt < 8 then (some (.inl (some (.inl (M 8 2 (a1 : Int32).toNatClampNeg))), M, O, c, s)) else none :=
  blk_of (fun q => Nat.beq q 5) (f := fun kk => if 0 ≤ (a1 : Int32).toInt ∧ (a1 : Int32).toInt < 8 then (some (.inl (some (.inl (M 8 2 (a1 : Int32).toNatClampNeg))), M, O, c, s)) else none) (fun kk => rfl)
set_option maxRecDepth 100000 in
theorem e_L_ear_0 (L : Nat) (xs : Nat → Int32) (E : CallT) (back : BackT) (k : Nat) (a1 : Int32) (M : Mem) (O : Int64) (T : Tmp) (c s : Nat) :
  BK L xs E mi_L_ear back (k + 5) 0 [some (.inr (.inr (0, 0))), some (.inl a1), some (.inr (.inr (83, 0))), none] [] M O T c s =
    xret tkT mi_L_ear 0 (E q_X6_ear [.inr (.inr (0, 0)), .inl a1] M O) (BK L xs E mi_L_ear back (k)) 4 [some (.inr (.inr (0, 0))), some (.inl a1), some (.inr (.inr (83, 0))), none] [.inl 0, .inr (.inr (83, 0))] T c s :=
  blk_of (fun q => Nat.beq q 0) (f := fun kk => xret tkT mi_L_ear 0 (E q_X6_ear [.inr (.inr (0, 0)), .inl a1] M O) (kk (k)) 4 [some (.inr (.inr (0, 0))), some (.inl a1), some (.inr (.inr (83, 0))), none] [.inl 0, .inr (.inr (83, 0))] T c s) (fun kk => rfl)
set_option maxRecDepth 100000 in
theorem e_L_ear_7 (L : Nat) (xs : Nat → Int32) (E : CallT) (back : BackT) (k : Nat) (a1 : Int32) (u3 : Option AV) (as0 : Int32) (as1 : Int32) (M : Mem) (O : Int64) (T : Tmp) (c s : Nat) :
  BK L xs E mi_L_ear back (k + 5) 7 [some (.inr (.inr (0, 0))), some (.inl a1), some (.inr (.inr (83, 0))), u3] [.inl as0, .inl as1, .inr (.inr (83, 0))] M O T c s =
    if (as1 : Int32) = 0 then (some (.inl (some (.inl 0)), M, (as0).toInt64, c, s)) else none :=
  blk_of (fun q => Nat.beq q 7) (f := fun kk => if (as1 : Int32) = 0 then (some (.inl (some (.inl 0)), M, (as0).toInt64, c, s)) else none) (fun kk => rfl)
set_option maxRecDepth 100000 in
theorem e_X2_noteDone_0 (L : Nat) (xs : Nat → Int32) (E : CallT) (back : BackT) (k : Nat) (i0 : Nat) (a1 : Int32) (M : Mem) (O : Int64) (T : Tmp) (c s : Nat) :
  BK L xs E mi_X2_noteDone back (k + 18) 0 [some (.inr (.inr (20, i0))), some (.inl a1)] [] M O T c s =
    if (Int32.ofNat 8) ≤ (M 20 i0 1) then (BK L xs E mi_X2_noteDone back (k + 12) 32 [some (.inr (.inr (20, i0))), some (.inl a1)] [] M O T c s) else (if 0 ≤ ((M 20 i0 1) : Int32).toInt ∧ ((M 20 i0 1) : Int32).toInt < 8 then (BK L xs E mi_X2_noteDone back (k) 32 [some (.inr (.inr (20, i0))), some (.inl a1)] [] (mput (mput M 21 i0 ((M 20 i0 1) : Int32).toNatClampNeg a1) 20 i0 1 ((M 20 i0 1) + 1)) O T c s) else none) :=
  blk_of (fun q => Nat.beq q 0 || Nat.beq q 32) (f := fun kk => if (Int32.ofNat 8) ≤ (M 20 i0 1) then (kk (k + 12) 32 [some (.inr (.inr (20, i0))), some (.inl a1)] [] M O T c s) else (if 0 ≤ ((M 20 i0 1) : Int32).toInt ∧ ((M 20 i0 1) : Int32).toInt < 8 then (kk (k) 32 [some (.inr (.inr (20, i0))), some (.inl a1)] [] (mput (mput M 21 i0 ((M 20 i0 1) : Int32).toNatClampNeg a1) 20 i0 1 ((M 20 i0 1) + 1)) O T c s) else none)) (fun kk => rfl)
set_option maxRecDepth 100000 in
theorem e_X2_noteDone_32 (L : Nat) (xs : Nat → Int32) (E : CallT) (back : BackT) (k : Nat) (i0 : Nat) (a1 : Int32) (M : Mem) (O : Int64) (T : Tmp) (c s : Nat) :
  BK L xs E mi_X2_noteDone back (k + 1) 32 [some (.inr (.inr (20, i0))), some (.inl a1)] [] M O T c s =
    some (.inl none, M, O, c, s) :=
  blk_of (fun q => Nat.beq q 32) (f := fun kk => some (.inl none, M, O, c, s)) (fun kk => rfl)
set_option maxRecDepth 100000 in
theorem e_X2_doneBits_0 (L : Nat) (xs : Nat → Int32) (E : CallT) (back : BackT) (k : Nat) (i0 : Nat) (M : Mem) (O : Int64) (T : Tmp) (c s : Nat) :
  BK L xs E mi_X2_doneBits back (k + 4) 0 [some (.inr (.inr (20, i0))), none, none] [] M O T c s =
    BK L xs E mi_X2_doneBits back (k) 4 [some (.inr (.inr (20, i0))), some (.inl 0), some (.inl 0)] [] M O T c s :=
  blk_of (fun q => Nat.beq q 0 || Nat.beq q 4) (f := fun kk => kk (k) 4 [some (.inr (.inr (20, i0))), some (.inl 0), some (.inl 0)] [] M O T c s) (fun kk => rfl)
set_option maxRecDepth 100000 in
theorem e_X2_doneBits_4 (L : Nat) (xs : Nat → Int32) (E : CallT) (back : BackT) (k : Nat) (i0 : Nat) (a1 : Int32) (a2 : Int32) (M : Mem) (O : Int64) (T : Tmp) (c s : Nat) :
  BK L xs E mi_X2_doneBits back (k + 15) 4 [some (.inr (.inr (20, i0))), some (.inl a1), some (.inl a2)] [] M O T c s =
    if (M 20 i0 1) ≤ a2 then (some (.inl (some (.inl a1)), M, O, c, s)) else (if 0 ≤ (a2 : Int32).toInt ∧ (a2 : Int32).toInt < 8 then (back 4 [some (.inr (.inr (20, i0))), some (.inl (a1 ||| (1 <<< ((M 21 i0 (a2 : Int32).toNatClampNeg) &&& 31)))), some (.inl (a2 + 1))] M O T c s) else none) :=
  blk_of (fun q => Nat.beq q 4) (f := fun kk => if (M 20 i0 1) ≤ a2 then (some (.inl (some (.inl a1)), M, O, c, s)) else (if 0 ≤ (a2 : Int32).toInt ∧ (a2 : Int32).toInt < 8 then (back 4 [some (.inr (.inr (20, i0))), some (.inl (a1 ||| (1 <<< ((M 21 i0 (a2 : Int32).toNatClampNeg) &&& 31)))), some (.inl (a2 + 1))] M O T c s) else none)) (fun kk => rfl)
set_option maxRecDepth 100000 in
theorem e_X6_hasBit_0 (L : Nat) (xs : Nat → Int32) (E : CallT) (back : BackT) (k : Nat) (a0 : Int32) (a1 : Int32) (M : Mem) (O : Int64) (T : Tmp) (c s : Nat) :
  BK L xs E mi_X6_hasBit back (k + 9) 0 [some (.inl a0), some (.inl a1)] [] M O T c s =
    if ((a0 >>> (a1 &&& 31)) &&& 1) = 1 then (BK L xs E mi_X6_hasBit back (k) 14 [some (.inl a0), some (.inl a1)] [.inl 1] M O T c s) else (BK L xs E mi_X6_hasBit back (k + 1) 14 [some (.inl a0), some (.inl a1)] [.inl 0] M O T c s) :=
  blk_of (fun q => Nat.beq q 0 || Nat.beq q 14) (f := fun kk => if ((a0 >>> (a1 &&& 31)) &&& 1) = 1 then (kk (k) 14 [some (.inl a0), some (.inl a1)] [.inl 1] M O T c s) else (kk (k + 1) 14 [some (.inl a0), some (.inl a1)] [.inl 0] M O T c s)) (fun kk => rfl)
set_option maxRecDepth 100000 in
theorem e_X6_hasBit_14 (L : Nat) (xs : Nat → Int32) (E : CallT) (back : BackT) (k : Nat) (a0 : Int32) (a1 : Int32) (as0 : Int32) (M : Mem) (O : Int64) (T : Tmp) (c s : Nat) :
  BK L xs E mi_X6_hasBit back (k + 1) 14 [some (.inl a0), some (.inl a1)] [.inl as0] M O T c s =
    if (as0 : Int32) = 0 ∨ (as0 : Int32) = 1 then some (.inl (some (.inl as0)), M, O, c, s) else none :=
  blk_of (fun q => Nat.beq q 14) (f := fun kk => if (as0 : Int32) = 0 ∨ (as0 : Int32) = 1 then some (.inl (some (.inl as0)), M, O, c, s) else none) (fun kk => rfl)
set_option maxRecDepth 100000 in
theorem e_X6_does_0 (L : Nat) (xs : Nat → Int32) (E : CallT) (back : BackT) (k : Nat) (a1 : Int32) (M : Mem) (O : Int64) (T : Tmp) (c s : Nat) :
  BK L xs E mi_X6_does back (k + 6) 0 [some (.inr (.inr (0, 0))), some (.inl a1)] [] M O T c s =
    xret tkT mi_X6_does 0 (E q_X6_needElement [.inr (.inr (0, 0)), .inl a1, .inl (M 3 2 13)] M O) (BK L xs E mi_X6_does back (k)) 9 [some (.inr (.inr (0, 0))), some (.inl a1)] [] T c s :=
  blk_of (fun q => Nat.beq q 0) (f := fun kk => xret tkT mi_X6_does 0 (E q_X6_needElement [.inr (.inr (0, 0)), .inl a1, .inl (M 3 2 13)] M O) (kk (k)) 9 [some (.inr (.inr (0, 0))), some (.inl a1)] [] T c s) (fun kk => rfl)
set_option maxRecDepth 100000 in
theorem e_X6_does_12 (L : Nat) (xs : Nat → Int32) (E : CallT) (back : BackT) (k : Nat) (a1 : Int32) (M : Mem) (O : Int64) (T : Tmp) (c s : Nat) :
  BK L xs E mi_X6_does back (k + 3) 12 [some (.inr (.inr (0, 0))), some (.inl a1)] [] M O T c s =
    xret tkT mi_X6_does 1 (E q_X2_doneBits [.inr (.inr (20, 0))] M O) (BK L xs E mi_X6_does back (k)) 16 [some (.inr (.inr (0, 0))), some (.inl a1)] [] T c s :=
  blk_of (fun q => Nat.beq q 12) (f := fun kk => xret tkT mi_X6_does 1 (E q_X2_doneBits [.inr (.inr (20, 0))] M O) (kk (k)) 16 [some (.inr (.inr (0, 0))), some (.inl a1)] [] T c s) (fun kk => rfl)
set_option maxRecDepth 100000 in
theorem e_X6_does_19 (L : Nat) (xs : Nat → Int32) (E : CallT) (back : BackT) (k : Nat) (a1 : Int32) (as0 : Int32) (M : Mem) (O : Int64) (T : Tmp) (c s : Nat) :
  BK L xs E mi_X6_does back (k + 2) 19 [some (.inr (.inr (0, 0))), some (.inl a1)] [.inl as0] M O T c s =
    xret tkT mi_X6_does 2 (E q_X6_hasBit [.inl as0, .inl a1] M O) (BK L xs E mi_X6_does back (k)) 20 [some (.inr (.inr (0, 0))), some (.inl a1)] [] T c s :=
  blk_of (fun q => Nat.beq q 19) (f := fun kk => xret tkT mi_X6_does 2 (E q_X6_hasBit [.inl as0, .inl a1] M O) (kk (k)) 20 [some (.inr (.inr (0, 0))), some (.inl a1)] [] T c s) (fun kk => rfl)
set_option maxRecDepth 100000 in
theorem e_X6_does_23 (L : Nat) (xs : Nat → Int32) (E : CallT) (back : BackT) (k : Nat) (a1 : Int32) (as0 : Int32) (M : Mem) (O : Int64) (T : Tmp) (c s : Nat) :
  BK L xs E mi_X6_does back (k + 5) 23 [some (.inr (.inr (0, 0))), some (.inl a1)] [.inl as0] M O T c s =
    if as0 = 0 then (xret tkT mi_X6_does 1 (E q_X2_noteDone [.inr (.inr (20, 0)), .inl a1] M O) (BK L xs E mi_X6_does back (k)) 33 [some (.inr (.inr (0, 0))), some (.inl a1)] [] T c s) else (some (.inl (some (.inl 0)), M, O, c, s)) :=
  blk_of (fun q => Nat.beq q 23) (f := fun kk => if as0 = 0 then (xret tkT mi_X6_does 1 (E q_X2_noteDone [.inr (.inr (20, 0)), .inl a1] M O) (kk (k)) 33 [some (.inr (.inr (0, 0))), some (.inl a1)] [] T c s) else (some (.inl (some (.inl 0)), M, O, c, s))) (fun kk => rfl)
set_option maxRecDepth 100000 in
theorem e_X6_does_36 (L : Nat) (xs : Nat → Int32) (E : CallT) (back : BackT) (k : Nat) (a1 : Int32) (M : Mem) (O : Int64) (T : Tmp) (c s : Nat) :
  BK L xs E mi_X6_does back (k + 4) 36 [some (.inr (.inr (0, 0))), some (.inl a1)] [] M O T c s =
    xret tkT mi_X6_does 1 (E q_X1_perform [.inr (.inr (3, 2)), .inl a1] M O) (BK L xs E mi_X6_does back (k)) 41 [some (.inr (.inr (0, 0))), some (.inl a1)] [] T c s :=
  blk_of (fun q => Nat.beq q 36) (f := fun kk => xret tkT mi_X6_does 1 (E q_X1_perform [.inr (.inr (3, 2)), .inl a1] M O) (kk (k)) 41 [some (.inr (.inr (0, 0))), some (.inl a1)] [] T c s) (fun kk => rfl)
set_option maxRecDepth 100000 in
theorem e_X6_does_44 (L : Nat) (xs : Nat → Int32) (E : CallT) (back : BackT) (k : Nat) (a1 : Int32) (M : Mem) (O : Int64) (T : Tmp) (c s : Nat) :
  BK L xs E mi_X6_does back (k + 2) 44 [some (.inr (.inr (0, 0))), some (.inl a1)] [] M O T c s =
    xret tkT mi_X6_does 0 (E q_X6_unhear [.inr (.inr (0, 0))] M O) (BK L xs E mi_X6_does back (k)) 45 [some (.inr (.inr (0, 0))), some (.inl a1)] [] T c s :=
  blk_of (fun q => Nat.beq q 44) (f := fun kk => xret tkT mi_X6_does 0 (E q_X6_unhear [.inr (.inr (0, 0))] M O) (kk (k)) 45 [some (.inr (.inr (0, 0))), some (.inl a1)] [] T c s) (fun kk => rfl)
set_option maxRecDepth 100000 in
theorem e_X6_does_48 (L : Nat) (xs : Nat → Int32) (E : CallT) (back : BackT) (k : Nat) (a1 : Int32) (M : Mem) (O : Int64) (T : Tmp) (c s : Nat) :
  BK L xs E mi_X6_does back (k + 2) 48 [some (.inr (.inr (0, 0))), some (.inl a1)] [] M O T c s =
    some (.inl (some (.inl 1)), M, O, c, s) :=
  blk_of (fun q => Nat.beq q 48) (f := fun kk => some (.inl (some (.inl 1)), M, O, c, s)) (fun kk => rfl)
set_option maxRecDepth 100000 in
theorem e_L_does_0 (L : Nat) (xs : Nat → Int32) (E : CallT) (back : BackT) (k : Nat) (a1 : Int32) (M : Mem) (O : Int64) (T : Tmp) (c s : Nat) :
  BK L xs E mi_L_does back (k + 5) 0 [some (.inr (.inr (0, 0))), some (.inl a1), some (.inr (.inr (83, 0))), none] [] M O T c s =
    xret tkT mi_L_does 0 (E q_X6_does [.inr (.inr (0, 0)), .inl a1] M O) (BK L xs E mi_L_does back (k)) 4 [some (.inr (.inr (0, 0))), some (.inl a1), some (.inr (.inr (83, 0))), none] [.inl 0, .inr (.inr (83, 0))] T c s :=
  blk_of (fun q => Nat.beq q 0) (f := fun kk => xret tkT mi_L_does 0 (E q_X6_does [.inr (.inr (0, 0)), .inl a1] M O) (kk (k)) 4 [some (.inr (.inr (0, 0))), some (.inl a1), some (.inr (.inr (83, 0))), none] [.inl 0, .inr (.inr (83, 0))] T c s) (fun kk => rfl)
set_option maxRecDepth 100000 in
theorem e_L_does_7 (L : Nat) (xs : Nat → Int32) (E : CallT) (back : BackT) (k : Nat) (a1 : Int32) (u3 : Option AV) (as0 : Int32) (as1 : Int32) (M : Mem) (O : Int64) (T : Tmp) (c s : Nat) :
  BK L xs E mi_L_does back (k + 5) 7 [some (.inr (.inr (0, 0))), some (.inl a1), some (.inr (.inr (83, 0))), u3] [.inl as0, .inl as1, .inr (.inr (83, 0))] M O T c s =
    if (as1 : Int32) = 0 then (some (.inl (some (.inl 0)), M, (as0).toInt64, c, s)) else none :=
  blk_of (fun q => Nat.beq q 7) (f := fun kk => if (as1 : Int32) = 0 then (some (.inl (some (.inl 0)), M, (as0).toInt64, c, s)) else none) (fun kk => rfl)
set_option maxRecDepth 100000 in
theorem e_X3_setSound_0 (L : Nat) (xs : Nat → Int32) (E : CallT) (back : BackT) (k : Nat) (a1 : Int32) (a2 : Int32) (a3 : Int32) (a4 : Int32) (M : Mem) (O : Int64) (T : Tmp) (c s : Nat) :
  BK L xs E mi_X3_setSound back (k + 13) 0 [some (.inr (.inr (25, 0))), some (.inl a1), some (.inl a2), some (.inl a3), some (.inl a4)] [] M O T c s =
    some (.inl none, (mput (mput (mput (mput M 25 0 0 a1) 25 0 1 a2) 25 0 2 a3) 25 0 3 a4), O, c, s) :=
  blk_of (fun q => Nat.beq q 0) (f := fun kk => some (.inl none, (mput (mput (mput (mput M 25 0 0 a1) 25 0 1 a2) 25 0 2 a3) 25 0 3 a4), O, c, s)) (fun kk => rfl)
set_option maxRecDepth 100000 in
theorem e_X3_setSource_0 (L : Nat) (xs : Nat → Int32) (E : CallT) (back : BackT) (k : Nat) (i1 : Nat) (a2 : Int32) (M : Mem) (O : Int64) (T : Tmp) (c s : Nat) :
  BK L xs E mi_X3_setSource back (k + 15) 0 [some (.inr (.inr (25, 0))), some (.inr (.inr (3, i1))), some (.inl a2)] [] M O T c s =
    if 0 ≤ (a2 : Int32).toInt ∧ (a2 : Int32).toInt < 6 then (if 0 ≤ (a2 : Int32).toInt ∧ (a2 : Int32).toInt < 6 then (if 0 ≤ (a2 : Int32).toInt ∧ (a2 : Int32).toInt < 6 then (xret tkT mi_X3_setSource 0 (E q_X3_setSound [.inr (.inr (25, 0)), .inl (M 10 i1 (a2 : Int32).toNatClampNeg), .inl 1, .inl (M 11 i1 (a2 : Int32).toNatClampNeg), .inl (M 12 i1 (a2 : Int32).toNatClampNeg)] M O) (BK L xs E mi_X3_setSource back (k)) 20 [some (.inr (.inr (25, 0))), some (.inr (.inr (3, i1))), some (.inl a2)] [] T c s) else none) else none) else none :=
  blk_of (fun q => Nat.beq q 0) (f := fun kk => if 0 ≤ (a2 : Int32).toInt ∧ (a2 : Int32).toInt < 6 then (if 0 ≤ (a2 : Int32).toInt ∧ (a2 : Int32).toInt < 6 then (if 0 ≤ (a2 : Int32).toInt ∧ (a2 : Int32).toInt < 6 then (xret tkT mi_X3_setSource 0 (E q_X3_setSound [.inr (.inr (25, 0)), .inl (M 10 i1 (a2 : Int32).toNatClampNeg), .inl 1, .inl (M 11 i1 (a2 : Int32).toNatClampNeg), .inl (M 12 i1 (a2 : Int32).toNatClampNeg)] M O) (kk (k)) 20 [some (.inr (.inr (25, 0))), some (.inr (.inr (3, i1))), some (.inl a2)] [] T c s) else none) else none) else none) (fun kk => rfl)
set_option maxRecDepth 100000 in
theorem e_X3_setSource_23 (L : Nat) (xs : Nat → Int32) (E : CallT) (back : BackT) (k : Nat) (i1 : Nat) (a2 : Int32) (M : Mem) (O : Int64) (T : Tmp) (c s : Nat) :
  BK L xs E mi_X3_setSource back (k + 1) 23 [some (.inr (.inr (25, 0))), some (.inr (.inr (3, i1))), some (.inl a2)] [] M O T c s =
    some (.inl none, M, O, c, s) :=
  blk_of (fun q => Nat.beq q 23) (f := fun kk => some (.inl none, M, O, c, s)) (fun kk => rfl)
set_option maxRecDepth 100000 in
theorem e_X3_start_0 (L : Nat) (xs : Nat → Int32) (E : CallT) (back : BackT) (k : Nat) (i1 : Nat) (a2 : Int32) (a3 : Int32) (M : Mem) (O : Int64) (T : Tmp) (c s : Nat) :
  BK L xs E mi_X3_start back (k + 5) 0 [some (.inr (.inr (25, 0))), some (.inr (.inr (3, i1))), some (.inl a2), some (.inl a3)] [] M O T c s =
    if a2 = 0 then (BK L xs E mi_X3_start back (k) 10 [some (.inr (.inr (25, 0))), some (.inr (.inr (3, i1))), some (.inl a2), some (.inl a3)] [.inl 1, .inr (.inr (25, 0))] M O T c s) else (BK L xs E mi_X3_start back (k + 1) 10 [some (.inr (.inr (25, 0))), some (.inr (.inr (3, i1))), some (.inl a2), some (.inl a3)] [.inl (-1), .inr (.inr (25, 0))] M O T c s) :=
  blk_of (fun q => Nat.beq q 0 || Nat.beq q 10) (f := fun kk => if a2 = 0 then (kk (k) 10 [some (.inr (.inr (25, 0))), some (.inr (.inr (3, i1))), some (.inl a2), some (.inl a3)] [.inl 1, .inr (.inr (25, 0))] M O T c s) else (kk (k + 1) 10 [some (.inr (.inr (25, 0))), some (.inr (.inr (3, i1))), some (.inl a2), some (.inl a3)] [.inl (-1), .inr (.inr (25, 0))] M O T c s)) (fun kk => rfl)
set_option maxRecDepth 100000 in
theorem e_X3_start_10 (L : Nat) (xs : Nat → Int32) (E : CallT) (back : BackT) (k : Nat) (i1 : Nat) (a2 : Int32) (a3 : Int32) (as0 : Int32) (M : Mem) (O : Int64) (T : Tmp) (c s : Nat) :
  BK L xs E mi_X3_start back (k + 26) 10 [some (.inr (.inr (25, 0))), some (.inr (.inr (3, i1))), some (.inl a2), some (.inl a3)] [.inl as0, .inr (.inr (25, 0))] M O T c s =
    if 0 ≤ ((M 25 0 0) : Int32).toInt ∧ ((M 25 0 0) : Int32).toInt < 40 then (some (.inl none, (mput (mput (mput (mput (mput (mput M 25 0 4 as0) 25 0 5 (M 25 0 0)) 25 0 6 0) 25 0 7 ((M 5 i1 ((M 25 0 0) : Int32).toNatClampNeg) + (M 25 0 1))) 25 0 8 a3) 25 0 9 (M 25 0 2)), O, c, s)) else none :=
  blk_of (fun q => Nat.beq q 10) (f := fun kk => if 0 ≤ ((M 25 0 0) : Int32).toInt ∧ ((M 25 0 0) : Int32).toInt < 40 then (some (.inl none, (mput (mput (mput (mput (mput (mput M 25 0 4 as0) 25 0 5 (M 25 0 0)) 25 0 6 0) 25 0 7 ((M 5 i1 ((M 25 0 0) : Int32).toNatClampNeg) + (M 25 0 1))) 25 0 8 a3) 25 0 9 (M 25 0 2)), O, c, s)) else none) (fun kk => rfl)
set_option maxRecDepth 100000 in
theorem e_X3_goes_0 (L : Nat) (xs : Nat → Int32) (d : Nat) (back : BackT) (k : Nat) (i1 : Nat) (i2 : Nat) (M : Mem) (O : Int64) (T : Tmp) (c s : Nat) :
  BK L xs (EX L xs (d + 1)) mi_X3_goes back (k + 45) 0 [some (.inr (.inr (25, 0))), some (.inr (.inr (3, i1))), some (.inr (.inr (18, i2))), none, none, none] [] M O T c s =
    if ((M 25 0 5) + (M 25 0 4)) < 0 then (BK L xs (EX L xs (d + 1)) mi_X3_goes back (k + 29) 41 [some (.inr (.inr (25, 0))), some (.inr (.inr (3, i1))), some (.inr (.inr (18, i2))), none, none, none] [] (mput (mput M 25 0 5 ((M 25 0 5) + (M 25 0 4))) 25 0 6 ((M 25 0 6) + 1)) O T c s) else (if ((M 25 0 5) + (M 25 0 4)) < (M 3 i1 0) then (if 0 ≤ (((M 25 0 5) + (M 25 0 4)) : Int32).toInt ∧ (((M 25 0 5) + (M 25 0 4)) : Int32).toInt < 40 then (if (M 5 i1 (((M 25 0 5) + (M 25 0 4)) : Int32).toNatClampNeg) < ((M 25 0 7) + (M 25 0 8)) then (BK L xs (EX L xs (d + 1)) mi_X3_goes back (k + 7) 112 [some (.inr (.inr (25, 0))), some (.inr (.inr (3, i1))), some (.inr (.inr (18, i2))), some (.inl (M 5 i1 (((M 25 0 5) + (M 25 0 4)) : Int32).toNatClampNeg)), none, none] [] (mput (mput (mput M 25 0 5 ((M 25 0 5) + (M 25 0 4))) 25 0 6 ((M 25 0 6) + 1)) 25 0 7 ((M 25 0 7) + (M 25 0 8))) O T c s) else (BK L xs (EX L xs (d + 1)) mi_X3_goes back (k) 87 [some (.inr (.inr (25, 0))), some (.inr (.inr (3, i1))), some (.inr (.inr (18, i2))), some (.inl (M 5 i1 (((M 25 0 5) + (M 25 0 4)) : Int32).toNatClampNeg)), none, none] [.inl (if (0 : Int32) ≤ (M 25 0 8) then (M 25 0 8) else 0 - (M 25 0 8)), .inr (.inr (25, 0))] (mput (mput (mput (mput M 25 0 5 ((M 25 0 5) + (M 25 0 4))) 25 0 6 ((M 25 0 6) + 1)) 25 0 7 ((M 25 0 7) + (M 25 0 8))) 25 0 7 (M 5 i1 (((M 25 0 5) + (M 25 0 4)) : Int32).toNatClampNeg)) O T c s)) else none) else (BK L xs (EX L xs (d + 1)) mi_X3_goes back (k + 24) 41 [some (.inr (.inr (25, 0))), some (.inr (.inr (3, i1))), some (.inr (.inr (18, i2))), none, none, none] [] (mput (mput M 25 0 5 ((M 25 0 5) + (M 25 0 4))) 25 0 6 ((M 25 0 6) + 1)) O T c s)) :=
  blk_of (fun q => Nat.beq q 0 || Nat.beq q 41 || Nat.beq q 112 || Nat.beq q 151 || Nat.beq q 153 || Nat.beq q 172 || Nat.beq q 198) (f := fun kk => if ((M 25 0 5) + (M 25 0 4)) < 0 then (kk (k + 29) 41 [some (.inr (.inr (25, 0))), some (.inr (.inr (3, i1))), some (.inr (.inr (18, i2))), none, none, none] [] (mput (mput M 25 0 5 ((M 25 0 5) + (M 25 0 4))) 25 0 6 ((M 25 0 6) + 1)) O T c s) else (if ((M 25 0 5) + (M 25 0 4)) < (M 3 i1 0) then (if 0 ≤ (((M 25 0 5) + (M 25 0 4)) : Int32).toInt ∧ (((M 25 0 5) + (M 25 0 4)) : Int32).toInt < 40 then (if (M 5 i1 (((M 25 0 5) + (M 25 0 4)) : Int32).toNatClampNeg) < ((M 25 0 7) + (M 25 0 8)) then (kk (k + 7) 112 [some (.inr (.inr (25, 0))), some (.inr (.inr (3, i1))), some (.inr (.inr (18, i2))), some (.inl (M 5 i1 (((M 25 0 5) + (M 25 0 4)) : Int32).toNatClampNeg)), none, none] [] (mput (mput (mput M 25 0 5 ((M 25 0 5) + (M 25 0 4))) 25 0 6 ((M 25 0 6) + 1)) 25 0 7 ((M 25 0 7) + (M 25 0 8))) O T c s) else (kk (k) 87 [some (.inr (.inr (25, 0))), some (.inr (.inr (3, i1))), some (.inr (.inr (18, i2))), some (.inl (M 5 i1 (((M 25 0 5) + (M 25 0 4)) : Int32).toNatClampNeg)), none, none] [.inl (if (0 : Int32) ≤ (M 25 0 8) then (M 25 0 8) else 0 - (M 25 0 8)), .inr (.inr (25, 0))] (mput (mput (mput (mput M 25 0 5 ((M 25 0 5) + (M 25 0 4))) 25 0 6 ((M 25 0 6) + 1)) 25 0 7 ((M 25 0 7) + (M 25 0 8))) 25 0 7 (M 5 i1 (((M 25 0 5) + (M 25 0 4)) : Int32).toNatClampNeg)) O T c s)) else none) else (kk (k + 24) 41 [some (.inr (.inr (25, 0))), some (.inr (.inr (3, i1))), some (.inr (.inr (18, i2))), none, none, none] [] (mput (mput M 25 0 5 ((M 25 0 5) + (M 25 0 4))) 25 0 6 ((M 25 0 6) + 1)) O T c s))) (fun kk => rfl)
set_option maxRecDepth 100000 in
theorem e_X3_goes_41 (L : Nat) (xs : Nat → Int32) (E : CallT) (back : BackT) (k : Nat) (i1 : Nat) (i2 : Nat) (u3 : Option AV) (u4 : Option AV) (u5 : Option AV) (M : Mem) (O : Int64) (T : Tmp) (c s : Nat) :
  BK L xs E mi_X3_goes back (k + 2) 41 [some (.inr (.inr (25, 0))), some (.inr (.inr (3, i1))), some (.inr (.inr (18, i2))), u3, u4, u5] [] M O T c s =
    some (.inl (some (.inl 0)), M, O, c, s) :=
  blk_of (fun q => Nat.beq q 41 || Nat.beq q 112 || Nat.beq q 151 || Nat.beq q 153 || Nat.beq q 172 || Nat.beq q 198) (f := fun kk => some (.inl (some (.inl 0)), M, O, c, s)) (fun kk => rfl)
set_option maxRecDepth 100000 in
theorem e_X3_goes_112 (L : Nat) (xs : Nat → Int32) (E : CallT) (back : BackT) (k : Nat) (i1 : Nat) (i2 : Nat) (a3 : Int32) (u4 : Option AV) (u5 : Option AV) (M : Mem) (O : Int64) (T : Tmp) (c s : Nat) :
  BK L xs E mi_X3_goes back (k + 20) 112 [some (.inr (.inr (25, 0))), some (.inr (.inr (3, i1))), some (.inr (.inr (18, i2))), some (.inl a3), u4, u5] [] M O T c s =
    if (24 : Int32) < (M 25 0 7) then (BK L xs E mi_X3_goes back (k + 16) 151 [some (.inr (.inr (25, 0))), some (.inr (.inr (3, i1))), some (.inr (.inr (18, i2))), some (.inl a3), u4, u5] [] M O T c s) else (if 0 ≤ ((M 25 0 5) : Int32).toInt ∧ ((M 25 0 5) : Int32).toInt < 40 then (if (M 6 i1 ((M 25 0 5) : Int32).toNatClampNeg) ≤ 0 then (BK L xs E mi_X3_goes back (k + 10) 153 [some (.inr (.inr (25, 0))), some (.inr (.inr (3, i1))), some (.inr (.inr (18, i2))), some (.inl a3), u4, u5] [] M O T c s) else (if 0 ≤ ((M 25 0 5) : Int32).toInt ∧ ((M 25 0 5) : Int32).toInt < 40 then (if (a3 + (M 6 i1 ((M 25 0 5) : Int32).toNatClampNeg)) ≤ (M 25 0 7) then (BK L xs E mi_X3_goes back (k) 153 [some (.inr (.inr (25, 0))), some (.inr (.inr (3, i1))), some (.inr (.inr (18, i2))), some (.inl a3), u4, u5] [] M O T c s) else (BK L xs E mi_X3_goes back (k) 151 [some (.inr (.inr (25, 0))), some (.inr (.inr (3, i1))), some (.inr (.inr (18, i2))), some (.inl a3), u4, u5] [] M O T c s)) else none)) else none) :=
  blk_of (fun q => Nat.beq q 41 || Nat.beq q 112 || Nat.beq q 151 || Nat.beq q 153 || Nat.beq q 172 || Nat.beq q 198) (f := fun kk => if (24 : Int32) < (M 25 0 7) then (kk (k + 16) 151 [some (.inr (.inr (25, 0))), some (.inr (.inr (3, i1))), some (.inr (.inr (18, i2))), some (.inl a3), u4, u5] [] M O T c s) else (if 0 ≤ ((M 25 0 5) : Int32).toInt ∧ ((M 25 0 5) : Int32).toInt < 40 then (if (M 6 i1 ((M 25 0 5) : Int32).toNatClampNeg) ≤ 0 then (kk (k + 10) 153 [some (.inr (.inr (25, 0))), some (.inr (.inr (3, i1))), some (.inr (.inr (18, i2))), some (.inl a3), u4, u5] [] M O T c s) else (if 0 ≤ ((M 25 0 5) : Int32).toInt ∧ ((M 25 0 5) : Int32).toInt < 40 then (if (a3 + (M 6 i1 ((M 25 0 5) : Int32).toNatClampNeg)) ≤ (M 25 0 7) then (kk (k) 153 [some (.inr (.inr (25, 0))), some (.inr (.inr (3, i1))), some (.inr (.inr (18, i2))), some (.inl a3), u4, u5] [] M O T c s) else (kk (k) 151 [some (.inr (.inr (25, 0))), some (.inr (.inr (3, i1))), some (.inr (.inr (18, i2))), some (.inl a3), u4, u5] [] M O T c s)) else none)) else none)) (fun kk => rfl)
set_option maxRecDepth 100000 in
theorem e_X3_goes_87 (L : Nat) (xs : Nat → Int32) (E : CallT) (back : BackT) (k : Nat) (i1 : Nat) (i2 : Nat) (a3 : Int32) (u4 : Option AV) (u5 : Option AV) (as0 : Int32) (M : Mem) (O : Int64) (T : Tmp) (c s : Nat) :
  BK L xs E mi_X3_goes back (k + 13) 87 [some (.inr (.inr (25, 0))), some (.inr (.inr (3, i1))), some (.inr (.inr (18, i2))), some (.inl a3), u4, u5] [.inl as0, .inr (.inr (25, 0))] M O T c s =
    if 0 ≤ ((M 25 0 5) : Int32).toInt ∧ ((M 25 0 5) : Int32).toInt < 40 then (if 0 ≤ ((M 4 i1 ((M 25 0 5) : Int32).toNatClampNeg) : Int32).toInt ∧ ((M 4 i1 ((M 25 0 5) : Int32).toNatClampNeg) : Int32).toInt < 4 then (BK L xs E mi_X3_goes back (k) 112 [some (.inr (.inr (25, 0))), some (.inr (.inr (3, i1))), some (.inr (.inr (18, i2))), some (.inl a3), u4, u5] [] (mput (mput M 25 0 8 as0) 25 0 9 ((M 25 0 9) - (geats ((M 4 i1 ((M 25 0 5) : Int32).toNatClampNeg) : Int32).toNatClampNeg))) O T c s) else none) else none :=
  blk_of (fun q => Nat.beq q 41 || Nat.beq q 87 || Nat.beq q 112 || Nat.beq q 151 || Nat.beq q 153 || Nat.beq q 172 || Nat.beq q 198) (f := fun kk => if 0 ≤ ((M 25 0 5) : Int32).toInt ∧ ((M 25 0 5) : Int32).toInt < 40 then (if 0 ≤ ((M 4 i1 ((M 25 0 5) : Int32).toNatClampNeg) : Int32).toInt ∧ ((M 4 i1 ((M 25 0 5) : Int32).toNatClampNeg) : Int32).toInt < 4 then (kk (k) 112 [some (.inr (.inr (25, 0))), some (.inr (.inr (3, i1))), some (.inr (.inr (18, i2))), some (.inl a3), u4, u5] [] (mput (mput M 25 0 8 as0) 25 0 9 ((M 25 0 9) - (geats ((M 4 i1 ((M 25 0 5) : Int32).toNatClampNeg) : Int32).toNatClampNeg))) O T c s) else none) else none) (fun kk => rfl)
set_option maxRecDepth 100000 in
theorem e_X3_goes_151 (L : Nat) (xs : Nat → Int32) (E : CallT) (back : BackT) (k : Nat) (i1 : Nat) (i2 : Nat) (a3 : Int32) (u4 : Option AV) (u5 : Option AV) (M : Mem) (O : Int64) (T : Tmp) (c s : Nat) :
  BK L xs E mi_X3_goes back (k + 2) 151 [some (.inr (.inr (25, 0))), some (.inr (.inr (3, i1))), some (.inr (.inr (18, i2))), some (.inl a3), u4, u5] [] M O T c s =
    some (.inl (some (.inl 0)), M, O, c, s) :=
  blk_of (fun q => Nat.beq q 41 || Nat.beq q 112 || Nat.beq q 151 || Nat.beq q 153 || Nat.beq q 172 || Nat.beq q 198) (f := fun kk => some (.inl (some (.inl 0)), M, O, c, s)) (fun kk => rfl)
set_option maxRecDepth 100000 in
theorem e_X3_goes_153 (L : Nat) (xs : Nat → Int32) (E : CallT) (back : BackT) (k : Nat) (i1 : Nat) (i2 : Nat) (a3 : Int32) (u4 : Option AV) (u5 : Option AV) (M : Mem) (O : Int64) (T : Tmp) (c s : Nat) :
  BK L xs E mi_X3_goes back (k + 10) 153 [some (.inr (.inr (25, 0))), some (.inr (.inr (3, i1))), some (.inr (.inr (18, i2))), some (.inl a3), u4, u5] [] M O T c s =
    if ((M 25 0 6) &&& ((M 25 0 6) - 1)) = 0 then (BK L xs E mi_X3_goes back (k) 172 [some (.inr (.inr (25, 0))), some (.inr (.inr (3, i1))), some (.inr (.inr (18, i2))), some (.inl a3), u4, u5] [.inl 1] M O T c s) else (BK L xs E mi_X3_goes back (k + 1) 172 [some (.inr (.inr (25, 0))), some (.inr (.inr (3, i1))), some (.inr (.inr (18, i2))), some (.inl a3), u4, u5] [.inl 0] M O T c s) :=
  blk_of (fun q => Nat.beq q 41 || Nat.beq q 112 || Nat.beq q 151 || Nat.beq q 153 || Nat.beq q 172 || Nat.beq q 198) (f := fun kk => if ((M 25 0 6) &&& ((M 25 0 6) - 1)) = 0 then (kk (k) 172 [some (.inr (.inr (25, 0))), some (.inr (.inr (3, i1))), some (.inr (.inr (18, i2))), some (.inl a3), u4, u5] [.inl 1] M O T c s) else (kk (k + 1) 172 [some (.inr (.inr (25, 0))), some (.inr (.inr (3, i1))), some (.inr (.inr (18, i2))), some (.inl a3), u4, u5] [.inl 0] M O T c s)) (fun kk => rfl)
set_option maxRecDepth 100000 in
theorem e_X3_goes_172 (L : Nat) (xs : Nat → Int32) (E : CallT) (back : BackT) (k : Nat) (i1 : Nat) (i2 : Nat) (a3 : Int32) (u4 : Option AV) (u5 : Option AV) (as0 : Int32) (M : Mem) (O : Int64) (T : Tmp) (c s : Nat) :
  BK L xs E mi_X3_goes back (k + 11) 172 [some (.inr (.inr (25, 0))), some (.inr (.inr (3, i1))), some (.inr (.inr (18, i2))), some (.inl a3), u4, u5] [.inl as0] M O T c s =
    if as0 = 0 then (BK L xs E mi_X3_goes back (k + 3) 198 [some (.inr (.inr (25, 0))), some (.inr (.inr (3, i1))), some (.inr (.inr (18, i2))), some (.inl a3), some (.inl as0), u5] [.inl (M 25 0 3), .inl (M 25 0 9), .inr (.inr (25, 0))] M O T c s) else (BK L xs E mi_X3_goes back (k) 198 [some (.inr (.inr (25, 0))), some (.inr (.inr (3, i1))), some (.inr (.inr (18, i2))), some (.inl a3), some (.inl as0), u5] [.inl ((M 25 0 3) + 6), .inl (M 25 0 9), .inr (.inr (25, 0))] M O T c s) :=
  blk_of (fun q => Nat.beq q 41 || Nat.beq q 112 || Nat.beq q 151 || Nat.beq q 153 || Nat.beq q 172 || Nat.beq q 198) (f := fun kk => if as0 = 0 then (kk (k + 3) 198 [some (.inr (.inr (25, 0))), some (.inr (.inr (3, i1))), some (.inr (.inr (18, i2))), some (.inl a3), some (.inl as0), u5] [.inl (M 25 0 3), .inl (M 25 0 9), .inr (.inr (25, 0))] M O T c s) else (kk (k) 198 [some (.inr (.inr (25, 0))), some (.inr (.inr (3, i1))), some (.inr (.inr (18, i2))), some (.inl a3), some (.inl as0), u5] [.inl ((M 25 0 3) + 6), .inl (M 25 0 9), .inr (.inr (25, 0))] M O T c s)) (fun kk => rfl)
set_option maxRecDepth 100000 in
theorem e_X3_goes_198 (L : Nat) (xs : Nat → Int32) (d : Nat) (back : BackT) (k : Nat) (i1 : Nat) (i2 : Nat) (a3 : Int32) (a4 : Int32) (u5 : Option AV) (as0 : Int32) (as1 : Int32) (M : Mem) (O : Int64) (T : Tmp) (c s : Nat) :
  BK L xs (EX L xs (d + 1)) mi_X3_goes back (k + 13) 198 [some (.inr (.inr (25, 0))), some (.inr (.inr (3, i1))), some (.inr (.inr (18, i2))), some (.inl a3), some (.inl a4), u5] [.inl as0, .inl as1, .inr (.inr (25, 0))] M O T c s =
    if (0 : Int32) < (as1 - as0) then (BK L xs (EX L xs (d + 1)) mi_X3_goes back (k) 226 [some (.inr (.inr (25, 0))), some (.inr (.inr (3, i1))), some (.inr (.inr (18, i2))), some (.inl a3), some (.inl a4), u5] [.inl (if 11 < ((M 25 0 7) / 2) then 11 else ((M 25 0 7) / 2)), .inr (.inr (19, i2))] (mput M 25 0 9 (as1 - as0)) O T c s) else (some (.inl (some (.inl 0)), (mput M 25 0 9 (as1 - as0)), O, c, s)) :=
  blk_of (fun q => Nat.beq q 41 || Nat.beq q 112 || Nat.beq q 151 || Nat.beq q 153 || Nat.beq q 172 || Nat.beq q 198) (f := fun kk => if (0 : Int32) < (as1 - as0) then (kk (k) 226 [some (.inr (.inr (25, 0))), some (.inr (.inr (3, i1))), some (.inr (.inr (18, i2))), some (.inl a3), some (.inl a4), u5] [.inl (if 11 < ((M 25 0 7) / 2) then 11 else ((M 25 0 7) / 2)), .inr (.inr (19, i2))] (mput M 25 0 9 (as1 - as0)) O T c s) else (some (.inl (some (.inl 0)), (mput M 25 0 9 (as1 - as0)), O, c, s))) (fun kk => rfl)
set_option maxRecDepth 100000 in
theorem e_X3_goes_226 (L : Nat) (xs : Nat → Int32) (d : Nat) (back : BackT) (k : Nat) (i1 : Nat) (i2 : Nat) (a3 : Int32) (a4 : Int32) (u5 : Option AV) (as0 : Int32) (is1 : Nat) (M : Mem) (O : Int64) (T : Tmp) (c s : Nat) :
  BK L xs (EX L xs (d + 1)) mi_X3_goes back (k + 16) 226 [some (.inr (.inr (25, 0))), some (.inr (.inr (3, i1))), some (.inr (.inr (18, i2))), some (.inl a3), some (.inl a4), u5] [.inl as0, .inr (.inr (19, is1))] M O T c s =
    if 0 ≤ (as0 : Int32).toInt ∧ (as0 : Int32).toInt < 12 then (BK L xs (EX L xs (d + 1)) mi_X3_goes back (k) 254 [some (.inr (.inr (25, 0))), some (.inr (.inr (3, i1))), some (.inr (.inr (18, i2))), some (.inl a3), some (.inl a4), some (.inl ((M 19 is1 (as0 : Int32).toNatClampNeg) + ((M 25 0 4) * (M 18 i2 1))))] [.inl (if ((M 25 0 8) + ((M 19 is1 (as0 : Int32).toNatClampNeg) + ((M 25 0 4) * (M 18 i2 1)))) < 6 then ((M 25 0 8) + ((M 19 is1 (as0 : Int32).toNatClampNeg) + ((M 25 0 4) * (M 18 i2 1)))) else 6), .inl (-6), .inr (.inr (25, 0))] M O T c s) else none :=
  blk_of (fun q => Nat.beq q 41 || Nat.beq q 112 || Nat.beq q 151 || Nat.beq q 153 || Nat.beq q 172 || Nat.beq q 198 || Nat.beq q 226) (f := fun kk => if 0 ≤ (as0 : Int32).toInt ∧ (as0 : Int32).toInt < 12 then (kk (k) 254 [some (.inr (.inr (25, 0))), some (.inr (.inr (3, i1))), some (.inr (.inr (18, i2))), some (.inl a3), some (.inl a4), some (.inl ((M 19 is1 (as0 : Int32).toNatClampNeg) + ((M 25 0 4) * (M 18 i2 1))))] [.inl (if ((M 25 0 8) + ((M 19 is1 (as0 : Int32).toNatClampNeg) + ((M 25 0 4) * (M 18 i2 1)))) < 6 then ((M 25 0 8) + ((M 19 is1 (as0 : Int32).toNatClampNeg) + ((M 25 0 4) * (M 18 i2 1)))) else 6), .inl (-6), .inr (.inr (25, 0))] M O T c s) else none) (fun kk => rfl)
set_option maxRecDepth 100000 in
theorem e_X3_goes_254 (L : Nat) (xs : Nat → Int32) (d : Nat) (back : BackT) (k : Nat) (i1 : Nat) (i2 : Nat) (a3 : Int32) (a4 : Int32) (a5 : Int32) (as0 : Int32) (as1 : Int32) (M : Mem) (O : Int64) (T : Tmp) (c s : Nat) :
  BK L xs (EX L xs (d + 1)) mi_X3_goes back (k + 1) 254 [some (.inr (.inr (25, 0))), some (.inr (.inr (3, i1))), some (.inr (.inr (18, i2))), some (.inl a3), some (.inl a4), some (.inl a5)] [.inl as0, .inl as1, .inr (.inr (25, 0))] M O T c s =
    BK L xs (EX L xs (d + 1)) mi_X3_goes back (k) 257 [some (.inr (.inr (25, 0))), some (.inr (.inr (3, i1))), some (.inr (.inr (18, i2))), some (.inl a3), some (.inl a4), some (.inl a5)] [.inl (if as1 < as0 then as0 else as1), .inr (.inr (25, 0))] M O T c s :=
  blk_of (fun q => Nat.beq q 41 || Nat.beq q 112 || Nat.beq q 151 || Nat.beq q 153 || Nat.beq q 172 || Nat.beq q 198 || Nat.beq q 254) (f := fun kk => kk (k) 257 [some (.inr (.inr (25, 0))), some (.inr (.inr (3, i1))), some (.inr (.inr (18, i2))), some (.inl a3), some (.inl a4), some (.inl a5)] [.inl (if as1 < as0 then as0 else as1), .inr (.inr (25, 0))] M O T c s) (fun kk => rfl)
set_option maxRecDepth 100000 in
theorem e_X3_goes_257 (L : Nat) (xs : Nat → Int32) (E : CallT) (back : BackT) (k : Nat) (i1 : Nat) (i2 : Nat) (a3 : Int32) (a4 : Int32) (a5 : Int32) (as0 : Int32) (M : Mem) (O : Int64) (T : Tmp) (c s : Nat) :
  BK L xs E mi_X3_goes back (k + 3) 257 [some (.inr (.inr (25, 0))), some (.inr (.inr (3, i1))), some (.inr (.inr (18, i2))), some (.inl a3), some (.inl a4), some (.inl a5)] [.inl as0, .inr (.inr (25, 0))] M O T c s =
    some (.inl (some (.inl 1)), (mput M 25 0 8 as0), O, c, s) :=
  blk_of (fun q => Nat.beq q 41 || Nat.beq q 112 || Nat.beq q 151 || Nat.beq q 153 || Nat.beq q 172 || Nat.beq q 198 || Nat.beq q 257) (f := fun kk => some (.inl (some (.inl 1)), (mput M 25 0 8 as0), O, c, s)) (fun kk => rfl)
set_option maxRecDepth 100000 in
theorem e_X4_follow_0 (L : Nat) (xs : Nat → Int32) (E : CallT) (back : BackT) (k : Nat) (i1 : Nat) (i2 : Nat) (a3 : Int32) (a4 : Int32) (a5 : Int32) (a6 : Int32) (M : Mem) (O : Int64) (T : Tmp) (c s : Nat) :
  BK L xs E mi_X4_follow back (k + 5) 0 [some (.inr (.inr (24, 0))), some (.inr (.inr (3, i1))), some (.inr (.inr (18, i2))), some (.inl a3), some (.inl a4), some (.inl a5), some (.inl a6), none, none] [] M O T c s =
    xret tkT mi_X4_follow 1 (E q_X3_setSource [.inr (.inr (25, 0)), .inr (.inr (3, i1)), .inl a3] M O) (BK L xs E mi_X4_follow back (k)) 6 [some (.inr (.inr (24, 0))), some (.inr (.inr (3, i1))), some (.inr (.inr (18, i2))), some (.inl a3), some (.inl a4), some (.inl a5), some (.inl a6), none, none] [] T c s :=
  blk_of (fun q => Nat.beq q 0 || Nat.beq q 36 || Nat.beq q 41 || Nat.beq q 70) (f := fun kk => xret tkT mi_X4_follow 1 (E q_X3_setSource [.inr (.inr (25, 0)), .inr (.inr (3, i1)), .inl a3] M O) (kk (k)) 6 [some (.inr (.inr (24, 0))), some (.inr (.inr (3, i1))), some (.inr (.inr (18, i2))), some (.inl a3), some (.inl a4), some (.inl a5), some (.inl a6), none, none] [] T c s) (fun kk => rfl)
set_option maxRecDepth 100000 in
theorem e_X4_follow_9 (L : Nat) (xs : Nat → Int32) (E : CallT) (back : BackT) (k : Nat) (i1 : Nat) (i2 : Nat) (a3 : Int32) (a4 : Int32) (a5 : Int32) (a6 : Int32) (u7 : Option AV) (u8 : Option AV) (M : Mem) (O : Int64) (T : Tmp) (c s : Nat) :
  BK L xs E mi_X4_follow back (k + 6) 9 [some (.inr (.inr (24, 0))), some (.inr (.inr (3, i1))), some (.inr (.inr (18, i2))), some (.inl a3), some (.inl a4), some (.inl a5), some (.inl a6), u7, u8] [] M O T c s =
    xret tkT mi_X4_follow 1 (E q_X3_start [.inr (.inr (25, 0)), .inr (.inr (3, i1)), .inl a4, .inl a5] M O) (BK L xs E mi_X4_follow back (k)) 18 [some (.inr (.inr (24, 0))), some (.inr (.inr (3, i1))), some (.inr (.inr (18, i2))), some (.inl a3), some (.inl a4), some (.inl a5), some (.inl a6), u7, u8] [] T c s :=
  blk_of (fun q => Nat.beq q 9 || Nat.beq q 36 || Nat.beq q 41 || Nat.beq q 70) (f := fun kk => xret tkT mi_X4_follow 1 (E q_X3_start [.inr (.inr (25, 0)), .inr (.inr (3, i1)), .inl a4, .inl a5] M O) (kk (k)) 18 [some (.inr (.inr (24, 0))), some (.inr (.inr (3, i1))), some (.inr (.inr (18, i2))), some (.inl a3), some (.inl a4), some (.inl a5), some (.inl a6), u7, u8] [] T c s) (fun kk => rfl)
set_option maxRecDepth 100000 in
theorem e_X4_follow_21 (L : Nat) (xs : Nat → Int32) (E : CallT) (back : BackT) (k : Nat) (i1 : Nat) (i2 : Nat) (a3 : Int32) (a4 : Int32) (a5 : Int32) (a6 : Int32) (u7 : Option AV) (u8 : Option AV) (M : Mem) (O : Int64) (T : Tmp) (c s : Nat) :
  BK L xs E mi_X4_follow back (k + 6) 21 [some (.inr (.inr (24, 0))), some (.inr (.inr (3, i1))), some (.inr (.inr (18, i2))), some (.inl a3), some (.inl a4), some (.inl a5), some (.inl a6), u7, u8] [] M O T c s =
    if (M 25 0 2) ≤ 0 then (BK L xs E mi_X4_follow back (k + 1) 36 [some (.inr (.inr (24, 0))), some (.inr (.inr (3, i1))), some (.inr (.inr (18, i2))), some (.inl a3), some (.inl a4), some (.inl a5), some (.inl a6), u7, u8] [.inl 0] M O T c s) else (BK L xs E mi_X4_follow back (k) 36 [some (.inr (.inr (24, 0))), some (.inr (.inr (3, i1))), some (.inr (.inr (18, i2))), some (.inl a3), some (.inl a4), some (.inl a5), some (.inl a6), u7, u8] [.inl 1] M O T c s) :=
  blk_of (fun q => Nat.beq q 21 || Nat.beq q 36 || Nat.beq q 41 || Nat.beq q 70) (f := fun kk => if (M 25 0 2) ≤ 0 then (kk (k + 1) 36 [some (.inr (.inr (24, 0))), some (.inr (.inr (3, i1))), some (.inr (.inr (18, i2))), some (.inl a3), some (.inl a4), some (.inl a5), some (.inl a6), u7, u8] [.inl 0] M O T c s) else (kk (k) 36 [some (.inr (.inr (24, 0))), some (.inr (.inr (3, i1))), some (.inr (.inr (18, i2))), some (.inl a3), some (.inl a4), some (.inl a5), some (.inl a6), u7, u8] [.inl 1] M O T c s)) (fun kk => rfl)
set_option maxRecDepth 100000 in
theorem e_X4_follow_36 (L : Nat) (xs : Nat → Int32) (E : CallT) (back : BackT) (k : Nat) (i1 : Nat) (i2 : Nat) (a3 : Int32) (a4 : Int32) (a5 : Int32) (a6 : Int32) (u7 : Option AV) (u8 : Option AV) (as0 : Int32) (M : Mem) (O : Int64) (T : Tmp) (c s : Nat) :
  BK L xs E mi_X4_follow back (k + 3) 36 [some (.inr (.inr (24, 0))), some (.inr (.inr (3, i1))), some (.inr (.inr (18, i2))), some (.inl a3), some (.inl a4), some (.inl a5), some (.inl a6), u7, u8] [.inl as0] M O T c s =
    BK L xs E mi_X4_follow back (k) 41 [some (.inr (.inr (24, 0))), some (.inr (.inr (3, i1))), some (.inr (.inr (18, i2))), some (.inl a3), some (.inl a4), some (.inl a5), some (.inl a6), some (.inl as0), some (.inl 0)] [] M O T c s :=
  blk_of (fun q => Nat.beq q 36 || Nat.beq q 41 || Nat.beq q 70) (f := fun kk => kk (k) 41 [some (.inr (.inr (24, 0))), some (.inr (.inr (3, i1))), some (.inr (.inr (18, i2))), some (.inl a3), some (.inl a4), some (.inl a5), some (.inl a6), some (.inl as0), some (.inl 0)] [] M O T c s) (fun kk => rfl)
set_option maxRecDepth 100000 in
theorem e_X4_follow_41 (L : Nat) (xs : Nat → Int32) (E : CallT) (back : BackT) (k : Nat) (i1 : Nat) (i2 : Nat) (a3 : Int32) (a4 : Int32) (a5 : Int32) (a6 : Int32) (a7 : Int32) (a8 : Int32) (M : Mem) (O : Int64) (T : Tmp) (c s : Nat) :
  BK L xs E mi_X4_follow back (k + 10) 41 [some (.inr (.inr (24, 0))), some (.inr (.inr (3, i1))), some (.inr (.inr (18, i2))), some (.inl a3), some (.inl a4), some (.inl a5), some (.inl a6), some (.inl a7), some (.inl a8)] [] M O T c s =
    if a6 ≤ a8 then (BK L xs E mi_X4_follow back (k + 7) 70 [some (.inr (.inr (24, 0))), some (.inr (.inr (3, i1))), some (.inr (.inr (18, i2))), some (.inl a3), some (.inl a4), some (.inl a5), some (.inl a6), some (.inl a7), some (.inl a8)] [] M O T c s) else (if a7 = 0 then (BK L xs E mi_X4_follow back (k + 5) 70 [some (.inr (.inr (24, 0))), some (.inr (.inr (3, i1))), some (.inr (.inr (18, i2))), some (.inl a3), some (.inl a4), some (.inl a5), some (.inl a6), some (.inl a7), some (.inl a8)] [] M O T c s) else (xret tkT mi_X4_follow 1 (E q_X3_goes [.inr (.inr (25, 0)), .inr (.inr (3, i1)), .inr (.inr (18, i2))] M O) (BK L xs E mi_X4_follow back (k)) 59 [some (.inr (.inr (24, 0))), some (.inr (.inr (3, i1))), some (.inr (.inr (18, i2))), some (.inl a3), some (.inl a4), some (.inl a5), some (.inl a6), some (.inl a7), some (.inl a8)] [] T c s)) :=
  blk_of (fun q => Nat.beq q 36 || Nat.beq q 41 || Nat.beq q 70) (f := fun kk => if a6 ≤ a8 then (kk (k + 7) 70 [some (.inr (.inr (24, 0))), some (.inr (.inr (3, i1))), some (.inr (.inr (18, i2))), some (.inl a3), some (.inl a4), some (.inl a5), some (.inl a6), some (.inl a7), some (.inl a8)] [] M O T c s) else (if a7 = 0 then (kk (k + 5) 70 [some (.inr (.inr (24, 0))), some (.inr (.inr (3, i1))), some (.inr (.inr (18, i2))), some (.inl a3), some (.inl a4), some (.inl a5), some (.inl a6), some (.inl a7), some (.inl a8)] [] M O T c s) else (xret tkT mi_X4_follow 1 (E q_X3_goes [.inr (.inr (25, 0)), .inr (.inr (3, i1)), .inr (.inr (18, i2))] M O) (kk (k)) 59 [some (.inr (.inr (24, 0))), some (.inr (.inr (3, i1))), some (.inr (.inr (18, i2))), some (.inl a3), some (.inl a4), some (.inl a5), some (.inl a6), some (.inl a7), some (.inl a8)] [] T c s))) (fun kk => rfl)
set_option maxRecDepth 100000 in
theorem e_X4_follow_70 (L : Nat) (xs : Nat → Int32) (E : CallT) (back : BackT) (k : Nat) (i1 : Nat) (i2 : Nat) (a3 : Int32) (a4 : Int32) (a5 : Int32) (a6 : Int32) (a7 : Int32) (a8 : Int32) (M : Mem) (O : Int64) (T : Tmp) (c s : Nat) :
  BK L xs E mi_X4_follow back (k + 2) 70 [some (.inr (.inr (24, 0))), some (.inr (.inr (3, i1))), some (.inr (.inr (18, i2))), some (.inl a3), some (.inl a4), some (.inl a5), some (.inl a6), some (.inl a7), some (.inl a8)] [] M O T c s =
    if (a7 : Int32) = 0 ∨ (a7 : Int32) = 1 then some (.inl (some (.inl a7)), M, O, c, s) else none :=
  blk_of (fun q => Nat.beq q 36 || Nat.beq q 41 || Nat.beq q 70) (f := fun kk => if (a7 : Int32) = 0 ∨ (a7 : Int32) = 1 then some (.inl (some (.inl a7)), M, O, c, s) else none) (fun kk => rfl)
set_option maxRecDepth 100000 in
theorem e_X4_follow_62 (L : Nat) (xs : Nat → Int32) (E : CallT) (back : BackT) (k : Nat) (i1 : Nat) (i2 : Nat) (a3 : Int32) (a4 : Int32) (a5 : Int32) (a6 : Int32) (a7 : Int32) (a8 : Int32) (as0 : Int32) (M : Mem) (O : Int64) (T : Tmp) (c s : Nat) :
  BK L xs E mi_X4_follow back (k + 3) 62 [some (.inr (.inr (24, 0))), some (.inr (.inr (3, i1))), some (.inr (.inr (18, i2))), some (.inl a3), some (.inl a4), some (.inl a5), some (.inl a6), some (.inl a7), some (.inl a8)] [.inl as0] M O T c s =
    back 41 [some (.inr (.inr (24, 0))), some (.inr (.inr (3, i1))), some (.inr (.inr (18, i2))), some (.inl a3), some (.inl a4), some (.inl a5), some (.inl a6), some (.inl as0), some (.inl (a8 + 1))] M O T c s :=
  blk_of (fun q => Nat.beq q 36 || Nat.beq q 41 || Nat.beq q 62 || Nat.beq q 70) (f := fun kk => back 41 [some (.inr (.inr (24, 0))), some (.inr (.inr (3, i1))), some (.inr (.inr (18, i2))), some (.inl a3), some (.inl a4), some (.inl a5), some (.inl a6), some (.inl as0), some (.inl (a8 + 1))] M O T c s) (fun kk => rfl)
set_option maxRecDepth 100000 in
theorem e_X6_needSource_0 (L : Nat) (xs : Nat → Int32) (E : CallT) (back : BackT) (k : Nat) (a1 : Int32) (M : Mem) (O : Int64) (T : Tmp) (c s : Nat) :
  BK L xs E mi_X6_needSource back (k + 6) 0 [some (.inr (.inr (0, 0))), some (.inl a1)] [] M O T c s =
    xret tkT mi_X6_needSource 0 (E q_X6_needElement [.inr (.inr (0, 0)), .inl a1, .inl (M 3 2 8)] M O) (BK L xs E mi_X6_needSource back (k)) 9 [some (.inr (.inr (0, 0))), some (.inl a1)] [] T c s :=
  blk_of (fun q => Nat.beq q 0) (f := fun kk => xret tkT mi_X6_needSource 0 (E q_X6_needElement [.inr (.inr (0, 0)), .inl a1, .inl (M 3 2 8)] M O) (kk (k)) 9 [some (.inr (.inr (0, 0))), some (.inl a1)] [] T c s) (fun kk => rfl)
set_option maxRecDepth 100000 in
theorem e_X6_needSource_12 (L : Nat) (xs : Nat → Int32) (E : CallT) (back : BackT) (k : Nat) (a1 : Int32) (M : Mem) (O : Int64) (T : Tmp) (c s : Nat) :
  BK L xs E mi_X6_needSource back (k + 1) 12 [some (.inr (.inr (0, 0))), some (.inl a1)] [] M O T c s =
    some (.inl none, M, O, c, s) :=
  blk_of (fun q => Nat.beq q 12) (f := fun kk => some (.inl none, M, O, c, s)) (fun kk => rfl)
set_option maxRecDepth 100000 in
theorem e_X6_needAir_0 (L : Nat) (xs : Nat → Int32) (E : CallT) (back : BackT) (k : Nat) (a1 : Int32) (M : Mem) (O : Int64) (T : Tmp) (c s : Nat) :
  BK L xs E mi_X6_needAir back (k + 5) 0 [some (.inr (.inr (0, 0))), some (.inl a1)] [] M O T c s =
    xret tkT mi_X6_needAir 0 (E q_X6_needElement [.inr (.inr (0, 0)), .inl a1, .inl (M 0 0 6)] M O) (BK L xs E mi_X6_needAir back (k)) 6 [some (.inr (.inr (0, 0))), some (.inl a1)] [] T c s :=
  blk_of (fun q => Nat.beq q 0) (f := fun kk => xret tkT mi_X6_needAir 0 (E q_X6_needElement [.inr (.inr (0, 0)), .inl a1, .inl (M 0 0 6)] M O) (kk (k)) 6 [some (.inr (.inr (0, 0))), some (.inl a1)] [] T c s) (fun kk => rfl)
set_option maxRecDepth 100000 in
theorem e_X6_needAir_9 (L : Nat) (xs : Nat → Int32) (E : CallT) (back : BackT) (k : Nat) (a1 : Int32) (M : Mem) (O : Int64) (T : Tmp) (c s : Nat) :
  BK L xs E mi_X6_needAir back (k + 1) 9 [some (.inr (.inr (0, 0))), some (.inl a1)] [] M O T c s =
    some (.inl none, M, O, c, s) :=
  blk_of (fun q => Nat.beq q 9) (f := fun kk => some (.inl none, M, O, c, s)) (fun kk => rfl)
set_option maxRecDepth 100000 in
theorem e_X6_needRay_0 (L : Nat) (xs : Nat → Int32) (E : CallT) (back : BackT) (k : Nat) (a1 : Int32) (a2 : Int32) (a3 : Int32) (a4 : Int32) (a5 : Int32) (M : Mem) (O : Int64) (T : Tmp) (c s : Nat) :
  BK L xs E mi_X6_needRay back (k + 3) 0 [some (.inr (.inr (0, 0))), some (.inl a1), some (.inl a2), some (.inl a3), some (.inl a4), some (.inl a5)] [] M O T c s =
    xret tkT mi_X6_needRay 0 (E q_X6_needAir [.inr (.inr (0, 0)), .inl a1] M O) (BK L xs E mi_X6_needRay back (k)) 2 [some (.inr (.inr (0, 0))), some (.inl a1), some (.inl a2), some (.inl a3), some (.inl a4), some (.inl a5)] [] T c s :=
  blk_of (fun q => Nat.beq q 0 || Nat.beq q 24 || Nat.beq q 25 || Nat.beq q 47 || Nat.beq q 48 || Nat.beq q 68 || Nat.beq q 69) (f := fun kk => xret tkT mi_X6_needRay 0 (E q_X6_needAir [.inr (.inr (0, 0)), .inl a1] M O) (kk (k)) 2 [some (.inr (.inr (0, 0))), some (.inl a1), some (.inl a2), some (.inl a3), some (.inl a4), some (.inl a5)] [] T c s) (fun kk => rfl)
set_option maxRecDepth 100000 in
theorem e_X6_needRay_5 (L : Nat) (xs : Nat → Int32) (E : CallT) (back : BackT) (k : Nat) (a1 : Int32) (a2 : Int32) (a3 : Int32) (a4 : Int32) (a5 : Int32) (M : Mem) (O : Int64) (T : Tmp) (c s : Nat) :
  BK L xs E mi_X6_needRay back (k + 3) 5 [some (.inr (.inr (0, 0))), some (.inl a1), some (.inl a2), some (.inl a3), some (.inl a4), some (.inl a5)] [] M O T c s =
    xret tkT mi_X6_needRay 0 (E q_X6_needSource [.inr (.inr (0, 0)), .inl a2] M O) (BK L xs E mi_X6_needRay back (k)) 7 [some (.inr (.inr (0, 0))), some (.inl a1), some (.inl a2), some (.inl a3), some (.inl a4), some (.inl a5)] [] T c s :=
  blk_of (fun q => Nat.beq q 5 || Nat.beq q 24 || Nat.beq q 25 || Nat.beq q 47 || Nat.beq q 48 || Nat.beq q 68 || Nat.beq q 69) (f := fun kk => xret tkT mi_X6_needRay 0 (E q_X6_needSource [.inr (.inr (0, 0)), .inl a2] M O) (kk (k)) 7 [some (.inr (.inr (0, 0))), some (.inl a1), some (.inl a2), some (.inl a3), some (.inl a4), some (.inl a5)] [] T c s) (fun kk => rfl)
set_option maxRecDepth 100000 in
theorem e_X6_needRay_10 (L : Nat) (xs : Nat → Int32) (E : CallT) (back : BackT) (k : Nat) (a1 : Int32) (a2 : Int32) (a3 : Int32) (a4 : Int32) (a5 : Int32) (M : Mem) (O : Int64) (T : Tmp) (c s : Nat) :
  BK L xs E mi_X6_needRay back (k + 8) 10 [some (.inr (.inr (0, 0))), some (.inl a1), some (.inl a2), some (.inl a3), some (.inl a4), some (.inl a5)] [] M O T c s =
    if a3 < 0 then (BK L xs E mi_X6_needRay back (k + 5) 24 [some (.inr (.inr (0, 0))), some (.inl a1), some (.inl a2), some (.inl a3), some (.inl a4), some (.inl a5)] [.inr (.inr (0, 0))] M O T c s) else (if (1 : Int32) < a3 then (BK L xs E mi_X6_needRay back (k + 2) 24 [some (.inr (.inr (0, 0))), some (.inl a1), some (.inl a2), some (.inl a3), some (.inl a4), some (.inl a5)] [.inr (.inr (0, 0))] M O T c s) else (BK L xs E mi_X6_needRay back (k) 25 [some (.inr (.inr (0, 0))), some (.inl a1), some (.inl a2), some (.inl a3), some (.inl a4), some (.inl a5)] [.inl 1, .inr (.inr (0, 0))] M O T c s)) :=
  blk_of (fun q => Nat.beq q 10 || Nat.beq q 24 || Nat.beq q 25 || Nat.beq q 47 || Nat.beq q 48 || Nat.beq q 68 || Nat.beq q 69) (f := fun kk => if a3 < 0 then (kk (k + 5) 24 [some (.inr (.inr (0, 0))), some (.inl a1), some (.inl a2), some (.inl a3), some (.inl a4), some (.inl a5)] [.inr (.inr (0, 0))] M O T c s) else (if (1 : Int32) < a3 then (kk (k + 2) 24 [some (.inr (.inr (0, 0))), some (.inl a1), some (.inl a2), some (.inl a3), some (.inl a4), some (.inl a5)] [.inr (.inr (0, 0))] M O T c s) else (kk (k) 25 [some (.inr (.inr (0, 0))), some (.inl a1), some (.inl a2), some (.inl a3), some (.inl a4), some (.inl a5)] [.inl 1, .inr (.inr (0, 0))] M O T c s))) (fun kk => rfl)
set_option maxRecDepth 100000 in
theorem e_X6_needRay_24 (L : Nat) (xs : Nat → Int32) (E : CallT) (back : BackT) (k : Nat) (a1 : Int32) (a2 : Int32) (a3 : Int32) (a4 : Int32) (a5 : Int32) (M : Mem) (O : Int64) (T : Tmp) (c s : Nat) :
  BK L xs E mi_X6_needRay back (k + 1) 24 [some (.inr (.inr (0, 0))), some (.inl a1), some (.inl a2), some (.inl a3), some (.inl a4), some (.inl a5)] [.inr (.inr (0, 0))] M O T c s =
    BK L xs E mi_X6_needRay back (k) 25 [some (.inr (.inr (0, 0))), some (.inl a1), some (.inl a2), some (.inl a3), some (.inl a4), some (.inl a5)] [.inl 0, .inr (.inr (0, 0))] M O T c s :=
  blk_of (fun q => Nat.beq q 24 || Nat.beq q 25 || Nat.beq q 47 || Nat.beq q 48 || Nat.beq q 68 || Nat.beq q 69) (f := fun kk => kk (k) 25 [some (.inr (.inr (0, 0))), some (.inl a1), some (.inl a2), some (.inl a3), some (.inl a4), some (.inl a5)] [.inl 0, .inr (.inr (0, 0))] M O T c s) (fun kk => rfl)
set_option maxRecDepth 100000 in
theorem e_X6_needRay_25 (L : Nat) (xs : Nat → Int32) (E : CallT) (back : BackT) (k : Nat) (a1 : Int32) (a2 : Int32) (a3 : Int32) (a4 : Int32) (a5 : Int32) (as0 : Int32) (M : Mem) (O : Int64) (T : Tmp) (c s : Nat) :
  BK L xs E mi_X6_needRay back (k + 1) 25 [some (.inr (.inr (0, 0))), some (.inl a1), some (.inl a2), some (.inl a3), some (.inl a4), some (.inl a5)] [.inl as0, .inr (.inr (0, 0))] M O T c s =
    xret tkT mi_X6_needRay 0 (E q_X6_needArgument [.inr (.inr (0, 0)), .inl as0] M O) (BK L xs E mi_X6_needRay back (k)) 25 [some (.inr (.inr (0, 0))), some (.inl a1), some (.inl a2), some (.inl a3), some (.inl a4), some (.inl a5)] [] T c s :=
  blk_of (fun q => Nat.beq q 24 || Nat.beq q 25 || Nat.beq q 47 || Nat.beq q 48 || Nat.beq q 68 || Nat.beq q 69) (f := fun kk => xret tkT mi_X6_needRay 0 (E q_X6_needArgument [.inr (.inr (0, 0)), .inl as0] M O) (kk (k)) 25 [some (.inr (.inr (0, 0))), some (.inl a1), some (.inl a2), some (.inl a3), some (.inl a4), some (.inl a5)] [] T c s) (fun kk => rfl)
set_option maxRecDepth 100000 in
theorem e_X6_needRay_28 (L : Nat) (xs : Nat → Int32) (E : CallT) (back : BackT) (k : Nat) (a1 : Int32) (a2 : Int32) (a3 : Int32) (a4 : Int32) (a5 : Int32) (M : Mem) (O : Int64) (T : Tmp) (c s : Nat) :
  BK L xs E mi_X6_needRay back (k + 9) 28 [some (.inr (.inr (0, 0))), some (.inl a1), some (.inl a2), some (.inl a3), some (.inl a4), some (.inl a5)] [] M O T c s =
    if a4 < (-3) then (BK L xs E mi_X6_needRay back (k + 5) 47 [some (.inr (.inr (0, 0))), some (.inl a1), some (.inl a2), some (.inl a3), some (.inl a4), some (.inl a5)] [.inr (.inr (0, 0))] M O T c s) else (if (6 : Int32) < a4 then (BK L xs E mi_X6_needRay back (k + 2) 47 [some (.inr (.inr (0, 0))), some (.inl a1), some (.inl a2), some (.inl a3), some (.inl a4), some (.inl a5)] [.inr (.inr (0, 0))] M O T c s) else (BK L xs E mi_X6_needRay back (k) 48 [some (.inr (.inr (0, 0))), some (.inl a1), some (.inl a2), some (.inl a3), some (.inl a4), some (.inl a5)] [.inl 1, .inr (.inr (0, 0))] M O T c s)) :=
  blk_of (fun q => Nat.beq q 24 || Nat.beq q 25 || Nat.beq q 28 || Nat.beq q 47 || Nat.beq q 48 || Nat.beq q 68 || Nat.beq q 69) (f := fun kk => if a4 < (-3) then (kk (k + 5) 47 [some (.inr (.inr (0, 0))), some (.inl a1), some (.inl a2), some (.inl a3), some (.inl a4), some (.inl a5)] [.inr (.inr (0, 0))] M O T c s) else (if (6 : Int32) < a4 then (kk (k + 2) 47 [some (.inr (.inr (0, 0))), some (.inl a1), some (.inl a2), some (.inl a3), some (.inl a4), some (.inl a5)] [.inr (.inr (0, 0))] M O T c s) else (kk (k) 48 [some (.inr (.inr (0, 0))), some (.inl a1), some (.inl a2), some (.inl a3), some (.inl a4), some (.inl a5)] [.inl 1, .inr (.inr (0, 0))] M O T c s))) (fun kk => rfl)
set_option maxRecDepth 100000 in
theorem e_X6_needRay_47 (L : Nat) (xs : Nat → Int32) (E : CallT) (back : BackT) (k : Nat) (a1 : Int32) (a2 : Int32) (a3 : Int32) (a4 : Int32) (a5 : Int32) (M : Mem) (O : Int64) (T : Tmp) (c s : Nat) :
  BK L xs E mi_X6_needRay back (k + 1) 47 [some (.inr (.inr (0, 0))), some (.inl a1), some (.inl a2), some (.inl a3), some (.inl a4), some (.inl a5)] [.inr (.inr (0, 0))] M O T c s =
    BK L xs E mi_X6_needRay back (k) 48 [some (.inr (.inr (0, 0))), some (.inl a1), some (.inl a2), some (.inl a3), some (.inl a4), some (.inl a5)] [.inl 0, .inr (.inr (0, 0))] M O T c s :=
  blk_of (fun q => Nat.beq q 24 || Nat.beq q 25 || Nat.beq q 47 || Nat.beq q 48 || Nat.beq q 68 || Nat.beq q 69) (f := fun kk => kk (k) 48 [some (.inr (.inr (0, 0))), some (.inl a1), some (.inl a2), some (.inl a3), some (.inl a4), some (.inl a5)] [.inl 0, .inr (.inr (0, 0))] M O T c s) (fun kk => rfl)
set_option maxRecDepth 100000 in
theorem e_X6_needRay_48 (L : Nat) (xs : Nat → Int32) (E : CallT) (back : BackT) (k : Nat) (a1 : Int32) (a2 : Int32) (a3 : Int32) (a4 : Int32) (a5 : Int32) (as0 : Int32) (M : Mem) (O : Int64) (T : Tmp) (c s : Nat) :
  BK L xs E mi_X6_needRay back (k + 1) 48 [some (.inr (.inr (0, 0))), some (.inl a1), some (.inl a2), some (.inl a3), some (.inl a4), some (.inl a5)] [.inl as0, .inr (.inr (0, 0))] M O T c s =
    xret tkT mi_X6_needRay 0 (E q_X6_needArgument [.inr (.inr (0, 0)), .inl as0] M O) (BK L xs E mi_X6_needRay back (k)) 48 [some (.inr (.inr (0, 0))), some (.inl a1), some (.inl a2), some (.inl a3), some (.inl a4), some (.inl a5)] [] T c s :=
  blk_of (fun q => Nat.beq q 24 || Nat.beq q 25 || Nat.beq q 47 || Nat.beq q 48 || Nat.beq q 68 || Nat.beq q 69) (f := fun kk => xret tkT mi_X6_needRay 0 (E q_X6_needArgument [.inr (.inr (0, 0)), .inl as0] M O) (kk (k)) 48 [some (.inr (.inr (0, 0))), some (.inl a1), some (.inl a2), some (.inl a3), some (.inl a4), some (.inl a5)] [] T c s) (fun kk => rfl)
set_option maxRecDepth 100000 in
theorem e_X6_needRay_51 (L : Nat) (xs : Nat → Int32) (E : CallT) (back : BackT) (k : Nat) (a1 : Int32) (a2 : Int32) (a3 : Int32) (a4 : Int32) (a5 : Int32) (M : Mem) (O : Int64) (T : Tmp) (c s : Nat) :
  BK L xs E mi_X6_needRay back (k + 8) 51 [some (.inr (.inr (0, 0))), some (.inl a1), some (.inl a2), some (.inl a3), some (.inl a4), some (.inl a5)] [] M O T c s =
    if a5 < 0 then (BK L xs E mi_X6_needRay back (k + 5) 68 [some (.inr (.inr (0, 0))), some (.inl a1), some (.inl a2), some (.inl a3), some (.inl a4), some (.inl a5)] [.inr (.inr (0, 0))] M O T c s) else (if (40 : Int32) ≤ a5 then (BK L xs E mi_X6_needRay back (k + 2) 68 [some (.inr (.inr (0, 0))), some (.inl a1), some (.inl a2), some (.inl a3), some (.inl a4), some (.inl a5)] [.inr (.inr (0, 0))] M O T c s) else (BK L xs E mi_X6_needRay back (k) 69 [some (.inr (.inr (0, 0))), some (.inl a1), some (.inl a2), some (.inl a3), some (.inl a4), some (.inl a5)] [.inl 1, .inr (.inr (0, 0))] M O T c s)) :=
  blk_of (fun q => Nat.beq q 24 || Nat.beq q 25 || Nat.beq q 47 || Nat.beq q 48 || Nat.beq q 51 || Nat.beq q 68 || Nat.beq q 69) (f := fun kk => if a5 < 0 then (kk (k + 5) 68 [some (.inr (.inr (0, 0))), some (.inl a1), some (.inl a2), some (.inl a3), some (.inl a4), some (.inl a5)] [.inr (.inr (0, 0))] M O T c s) else (if (40 : Int32) ≤ a5 then (kk (k + 2) 68 [some (.inr (.inr (0, 0))), some (.inl a1), some (.inl a2), some (.inl a3), some (.inl a4), some (.inl a5)] [.inr (.inr (0, 0))] M O T c s) else (kk (k) 69 [some (.inr (.inr (0, 0))), some (.inl a1), some (.inl a2), some (.inl a3), some (.inl a4), some (.inl a5)] [.inl 1, .inr (.inr (0, 0))] M O T c s))) (fun kk => rfl)
set_option maxRecDepth 100000 in
theorem e_X6_needRay_68 (L : Nat) (xs : Nat → Int32) (E : CallT) (back : BackT) (k : Nat) (a1 : Int32) (a2 : Int32) (a3 : Int32) (a4 : Int32) (a5 : Int32) (M : Mem) (O : Int64) (T : Tmp) (c s : Nat) :
  BK L xs E mi_X6_needRay back (k + 1) 68 [some (.inr (.inr (0, 0))), some (.inl a1), some (.inl a2), some (.inl a3), some (.inl a4), some (.inl a5)] [.inr (.inr (0, 0))] M O T c s =
    BK L xs E mi_X6_needRay back (k) 69 [some (.inr (.inr (0, 0))), some (.inl a1), some (.inl a2), some (.inl a3), some (.inl a4), some (.inl a5)] [.inl 0, .inr (.inr (0, 0))] M O T c s :=
  blk_of (fun q => Nat.beq q 24 || Nat.beq q 25 || Nat.beq q 47 || Nat.beq q 48 || Nat.beq q 68 || Nat.beq q 69) (f := fun kk => kk (k) 69 [some (.inr (.inr (0, 0))), some (.inl a1), some (.inl a2), some (.inl a3), some (.inl a4), some (.inl a5)] [.inl 0, .inr (.inr (0, 0))] M O T c s) (fun kk => rfl)
set_option maxRecDepth 100000 in
theorem e_X6_needRay_69 (L : Nat) (xs : Nat → Int32) (E : CallT) (back : BackT) (k : Nat) (a1 : Int32) (a2 : Int32) (a3 : Int32) (a4 : Int32) (a5 : Int32) (as0 : Int32) (M : Mem) (O : Int64) (T : Tmp) (c s : Nat) :
  BK L xs E mi_X6_needRay back (k + 1) 69 [some (.inr (.inr (0, 0))), some (.inl a1), some (.inl a2), some (.inl a3), some (.inl a4), some (.inl a5)] [.inl as0, .inr (.inr (0, 0))] M O T c s =
    xret tkT mi_X6_needRay 0 (E q_X6_needArgument [.inr (.inr (0, 0)), .inl as0] M O) (BK L xs E mi_X6_needRay back (k)) 69 [some (.inr (.inr (0, 0))), some (.inl a1), some (.inl a2), some (.inl a3), some (.inl a4), some (.inl a5)] [] T c s :=
  blk_of (fun q => Nat.beq q 24 || Nat.beq q 25 || Nat.beq q 47 || Nat.beq q 48 || Nat.beq q 68 || Nat.beq q 69) (f := fun kk => xret tkT mi_X6_needRay 0 (E q_X6_needArgument [.inr (.inr (0, 0)), .inl as0] M O) (kk (k)) 69 [some (.inr (.inr (0, 0))), some (.inl a1), some (.inl a2), some (.inl a3), some (.inl a4), some (.inl a5)] [] T c s) (fun kk => rfl)
set_option maxRecDepth 100000 in
theorem e_X6_needRay_72 (L : Nat) (xs : Nat → Int32) (E : CallT) (back : BackT) (k : Nat) (a1 : Int32) (a2 : Int32) (a3 : Int32) (a4 : Int32) (a5 : Int32) (M : Mem) (O : Int64) (T : Tmp) (c s : Nat) :
  BK L xs E mi_X6_needRay back (k + 1) 72 [some (.inr (.inr (0, 0))), some (.inl a1), some (.inl a2), some (.inl a3), some (.inl a4), some (.inl a5)] [] M O T c s =
    some (.inl none, M, O, c, s) :=
  blk_of (fun q => Nat.beq q 24 || Nat.beq q 25 || Nat.beq q 47 || Nat.beq q 48 || Nat.beq q 68 || Nat.beq q 69 || Nat.beq q 72) (f := fun kk => some (.inl none, M, O, c, s)) (fun kk => rfl)
