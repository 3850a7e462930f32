/-! block equations: printed by wip/gen/gen9.py -/
set_option maxRecDepth 100000 in
theorem e_X6_wagons_0 (L : Nat) (xs : Nat → Int32) (E : CallT) (back : BackT) (k : Nat) (a1 : Int32) (a2 : Int32) (M : Mem) (O : Int64) (T : Tmp) (c s : Nat) :
  BK L xs E mi_X6_wagons back (k + 9) 0 [some (.inr (.inr (0, 0))), some (.inl a1), some (.inl a2), none] [] M O T c s =
    if a1 < 1 then (BK L xs E mi_X6_wagons back (k + 5) 16 [some (.inr (.inr (0, 0))), some (.inl a1), some (.inl a2), none] [.inr (.inr (0, 0))] M O T c s) else (if (99 : Int32) < a1 then (BK L xs E mi_X6_wagons back (k + 2) 16 [some (.inr (.inr (0, 0))), some (.inl a1), some (.inl a2), none] [.inr (.inr (0, 0))] M O T c s) else (BK L xs E mi_X6_wagons back (k) 17 [some (.inr (.inr (0, 0))), some (.inl a1), some (.inl a2), none] [.inl 1, .inr (.inr (0, 0))] M O T c s)) :=
  blk_of (fun q => Nat.beq q 0 || Nat.beq q 16 || Nat.beq q 17 || Nat.beq q 64) (f := fun kk => if a1 < 1 then (kk (k + 5) 16 [some (.inr (.inr (0, 0))), some (.inl a1), some (.inl a2), none] [.inr (.inr (0, 0))] M O T c s) else (if (99 : Int32) < a1 then (kk (k + 2) 16 [some (.inr (.inr (0, 0))), some (.inl a1), some (.inl a2), none] [.inr (.inr (0, 0))] M O T c s) else (kk (k) 17 [some (.inr (.inr (0, 0))), some (.inl a1), some (.inl a2), none] [.inl 1, .inr (.inr (0, 0))] M O T c s))) (fun kk => rfl)
set_option maxRecDepth 100000 in
theorem e_X6_wagons_16 (L : Nat) (xs : Nat → Int32) (E : CallT) (back : BackT) (k : Nat) (a1 : Int32) (a2 : Int32) (u3 : Option AV) (M : Mem) (O : Int64) (T : Tmp) (c s : Nat) :
  BK L xs E mi_X6_wagons back (k + 1) 16 [some (.inr (.inr (0, 0))), some (.inl a1), some (.inl a2), u3] [.inr (.inr (0, 0))] M O T c s =
    BK L xs E mi_X6_wagons back (k) 17 [some (.inr (.inr (0, 0))), some (.inl a1), some (.inl a2), u3] [.inl 0, .inr (.inr (0, 0))] M O T c s :=
  blk_of (fun q => Nat.beq q 16 || Nat.beq q 17 || Nat.beq q 64) (f := fun kk => kk (k) 17 [some (.inr (.inr (0, 0))), some (.inl a1), some (.inl a2), u3] [.inl 0, .inr (.inr (0, 0))] M O T c s) (fun kk => rfl)
set_option maxRecDepth 100000 in
theorem e_X6_wagons_17 (L : Nat) (xs : Nat → Int32) (E : CallT) (back : BackT) (k : Nat) (a1 : Int32) (a2 : Int32) (u3 : Option AV) (as0 : Int32) (M : Mem) (O : Int64) (T : Tmp) (c s : Nat) :
  BK L xs E mi_X6_wagons back (k + 1) 17 [some (.inr (.inr (0, 0))), some (.inl a1), some (.inl a2), u3] [.inl as0, .inr (.inr (0, 0))] M O T c s =
    xret tkT mi_X6_wagons 0 (E q_X6_needArgument [.inr (.inr (0, 0)), .inl as0] M O) (BK L xs E mi_X6_wagons back (k)) 17 [some (.inr (.inr (0, 0))), some (.inl a1), some (.inl a2), u3] [] T c s :=
  blk_of (fun q => Nat.beq q 16 || Nat.beq q 17 || Nat.beq q 64) (f := fun kk => xret tkT mi_X6_wagons 0 (E q_X6_needArgument [.inr (.inr (0, 0)), .inl as0] M O) (kk (k)) 17 [some (.inr (.inr (0, 0))), some (.inl a1), some (.inl a2), u3] [] T c s) (fun kk => rfl)
set_option maxRecDepth 100000 in
theorem e_X6_wagons_20 (L : Nat) (xs : Nat → Int32) (E : CallT) (back : BackT) (k : Nat) (a1 : Int32) (a2 : Int32) (u3 : Option AV) (M : Mem) (O : Int64) (T : Tmp) (c s : Nat) :
  BK L xs E mi_X6_wagons back (k + 4) 20 [some (.inr (.inr (0, 0))), some (.inl a1), some (.inl a2), u3] [] M O T c s =
    xret tkT mi_X6_wagons 0 (E q_X6_needWhat [.inr (.inr (0, 0)), .inl a2, .inl 2] M O) (BK L xs E mi_X6_wagons back (k)) 23 [some (.inr (.inr (0, 0))), some (.inl a1), some (.inl a2), u3] [] T c s :=
  blk_of (fun q => Nat.beq q 16 || Nat.beq q 17 || Nat.beq q 20 || Nat.beq q 64) (f := fun kk => xret tkT mi_X6_wagons 0 (E q_X6_needWhat [.inr (.inr (0, 0)), .inl a2, .inl 2] M O) (kk (k)) 23 [some (.inr (.inr (0, 0))), some (.inl a1), some (.inl a2), u3] [] T c s) (fun kk => rfl)
set_option maxRecDepth 100000 in
theorem e_X6_wagons_26 (L : Nat) (xs : Nat → Int32) (E : CallT) (back : BackT) (k : Nat) (a1 : Int32) (a2 : Int32) (u3 : Option AV) (M : Mem) (O : Int64) (T : Tmp) (c s : Nat) :
  BK L xs E mi_X6_wagons back (k + 18) 26 [some (.inr (.inr (0, 0))), some (.inl a1), some (.inl a2), u3] [] M O T c s =
    if ((M 20 0 4) - (M 20 0 4) / 4 * 4) = 0 then (if a2 = 0 then (BK L xs E mi_X6_wagons back (k + 2) 64 [some (.inr (.inr (0, 0))), some (.inl a1), some (.inl a2), some (.inl ((M 20 0 4) / 4))] [.inl ((M 20 0 4) / 4)] M O T c s) else (xret tkT mi_X6_wagons 0 (E q_X6_pace [.inr (.inr (0, 0)), .inl a1, .inl ((M 20 0 4) / 4)] M O) (BK L xs E mi_X6_wagons back (k)) 61 [some (.inr (.inr (0, 0))), some (.inl a1), some (.inl a2), some (.inl ((M 20 0 4) / 4))] [] T c s)) else (some (.inl (some (.inl (-1))), M, O, c, s)) :=
  blk_of (fun q => Nat.beq q 16 || Nat.beq q 17 || Nat.beq q 26 || Nat.beq q 64) (f := fun kk => if ((M 20 0 4) - (M 20 0 4) / 4 * 4) = 0 then (if a2 = 0 then (kk (k + 2) 64 [some (.inr (.inr (0, 0))), some (.inl a1), some (.inl a2), some (.inl ((M 20 0 4) / 4))] [.inl ((M 20 0 4) / 4)] M O T c s) else (xret tkT mi_X6_wagons 0 (E q_X6_pace [.inr (.inr (0, 0)), .inl a1, .inl ((M 20 0 4) / 4)] M O) (kk (k)) 61 [some (.inr (.inr (0, 0))), some (.inl a1), some (.inl a2), some (.inl ((M 20 0 4) / 4))] [] T c s)) else (some (.inl (some (.inl (-1))), M, O, c, s))) (fun kk => rfl)
set_option maxRecDepth 100000 in
theorem e_X6_wagons_64 (L : Nat) (xs : Nat → Int32) (E : CallT) (back : BackT) (k : Nat) (a1 : Int32) (a2 : Int32) (a3 : Int32) (as0 : Int32) (M : Mem) (O : Int64) (T : Tmp) (c s : Nat) :
  BK L xs E mi_X6_wagons back (k + 1) 64 [some (.inr (.inr (0, 0))), some (.inl a1), some (.inl a2), some (.inl a3)] [.inl as0] M O T c s =
    some (.inl (some (.inl as0)), M, O, c, s) :=
  blk_of (fun q => Nat.beq q 16 || Nat.beq q 17 || Nat.beq q 64) (f := fun kk => some (.inl (some (.inl as0)), M, O, c, s)) (fun kk => rfl)
set_option maxRecDepth 100000 in
theorem e_L_wagons_0 (L : Nat) (xs : Nat → Int32) (E : CallT) (back : BackT) (k : Nat) (a1 : Int32) (a2 : Int32) (M : Mem) (O : Int64) (T : Tmp) (c s : Nat) :
  BK L xs E mi_L_wagons back (k + 6) 0 [some (.inr (.inr (0, 0))), some (.inl a1), some (.inl a2), some (.inr (.inr (83, 0))), none] [] M O T c s =
    xret tkT mi_L_wagons 0 (E q_X6_wagons [.inr (.inr (0, 0)), .inl a1, .inl a2] M O) (BK L xs E mi_L_wagons back (k)) 5 [some (.inr (.inr (0, 0))), some (.inl a1), some (.inl a2), some (.inr (.inr (83, 0))), none] [.inl 0, .inr (.inr (83, 0))] T c s :=
  blk_of (fun q => Nat.beq q 0) (f := fun kk => xret tkT mi_L_wagons 0 (E q_X6_wagons [.inr (.inr (0, 0)), .inl a1, .inl a2] M O) (kk (k)) 5 [some (.inr (.inr (0, 0))), some (.inl a1), some (.inl a2), some (.inr (.inr (83, 0))), none] [.inl 0, .inr (.inr (83, 0))] T c s) (fun kk => rfl)
set_option maxRecDepth 100000 in
theorem e_L_wagons_8 (L : Nat) (xs : Nat → Int32) (E : CallT) (back : BackT) (k : Nat) (a1 : Int32) (a2 : Int32) (u4 : Option AV) (as0 : Int32) (as1 : Int32) (M : Mem) (O : Int64) (T : Tmp) (c s : Nat) :
  BK L xs E mi_L_wagons back (k + 5) 8 [some (.inr (.inr (0, 0))), some (.inl a1), some (.inl a2), some (.inr (.inr (83, 0))), u4] [.inl as0, .inl as1, .inr (.inr (83, 0))] M O T c s =
    if (as1 : Int32) = 0 then (some (.inl (some (.inl 0)), M, (as0).toInt64, c, s)) else none :=
  blk_of (fun q => Nat.beq q 8) (f := fun kk => if (as1 : Int32) = 0 then (some (.inl (some (.inl 0)), M, (as0).toInt64, c, s)) else none) (fun kk => rfl)
set_option maxRecDepth 100000 in
theorem e_X5_put_0 (L : Nat) (xs : Nat → Int32) (E : CallT) (back : BackT) (k : Nat) (a1 : Int32) (M : Mem) (O : Int64) (T : Tmp) (c s : Nat) :
  BK L xs E mi_X5_put back (k + 2) 0 [some (.inr (.inr (1, 0))), some (.inl a1), none] [] M O T c s =
    BK L xs E mi_X5_put back (k) 3 [some (.inr (.inr (1, 0))), some (.inl a1), some (.inl 24)] [] M O T c s :=
  blk_of (fun q => Nat.beq q 0 || Nat.beq q 3 || Nat.beq q 51) (f := fun kk => kk (k) 3 [some (.inr (.inr (1, 0))), some (.inl a1), some (.inl 24)] [] M O T c s) (fun kk => rfl)
set_option maxRecDepth 100000 in
theorem e_X5_put_3 (L : Nat) (xs : Nat → Int32) (E : CallT) (back : BackT) (k : Nat) (a1 : Int32) (a2 : Int32) (M : Mem) (O : Int64) (T : Tmp) (c s : Nat) :
  BK L xs E mi_X5_put back (k + 26) 3 [some (.inr (.inr (1, 0))), some (.inl a1), some (.inl a2)] [] M O T c s =
    if a2 < 0 then (BK L xs E mi_X5_put back (k + 24) 51 [some (.inr (.inr (1, 0))), some (.inl a1), some (.inl a2)] [] M O T c s) else (if (Int32.ofNat 600) ≤ (M 1 0 1) then (BK L xs E mi_X5_put back (k + 18) 51 [some (.inr (.inr (1, 0))), some (.inl a1), some (.inl a2)] [] M O T c s) else (if 0 ≤ ((M 1 0 1) : Int32).toInt ∧ ((M 1 0 1) : Int32).toInt < 600 then (back 3 [some (.inr (.inr (1, 0))), some (.inl a1), some (.inl (a2 + (-8)))] (mput (mput M 2 0 ((M 1 0 1) : Int32).toNatClampNeg ((a1 >>> (a2 &&& 31)) &&& 255)) 1 0 1 ((M 1 0 1) + 1)) O T c s) else none)) :=
  blk_of (fun q => Nat.beq q 3 || Nat.beq q 51) (f := fun kk => if a2 < 0 then (kk (k + 24) 51 [some (.inr (.inr (1, 0))), some (.inl a1), some (.inl a2)] [] M O T c s) else (if (Int32.ofNat 600) ≤ (M 1 0 1) then (kk (k + 18) 51 [some (.inr (.inr (1, 0))), some (.inl a1), some (.inl a2)] [] M O T c s) else (if 0 ≤ ((M 1 0 1) : Int32).toInt ∧ ((M 1 0 1) : Int32).toInt < 600 then (back 3 [some (.inr (.inr (1, 0))), some (.inl a1), some (.inl (a2 + (-8)))] (mput (mput M 2 0 ((M 1 0 1) : Int32).toNatClampNeg ((a1 >>> (a2 &&& 31)) &&& 255)) 1 0 1 ((M 1 0 1) + 1)) O T c s) else none))) (fun kk => rfl)
set_option maxRecDepth 100000 in
theorem e_X5_put_51 (L : Nat) (xs : Nat → Int32) (E : CallT) (back : BackT) (k : Nat) (a1 : Int32) (a2 : Int32) (M : Mem) (O : Int64) (T : Tmp) (c s : Nat) :
  BK L xs E mi_X5_put back (k + 1) 51 [some (.inr (.inr (1, 0))), some (.inl a1), some (.inl a2)] [] M O T c s =
    some (.inl none, M, O, c, s) :=
  blk_of (fun q => Nat.beq q 3 || Nat.beq q 51) (f := fun kk => some (.inl none, M, O, c, s)) (fun kk => rfl)
set_option maxRecDepth 100000 in
theorem e_X6_feed_0 (L : Nat) (xs : Nat → Int32) (E : CallT) (back : BackT) (k : Nat) (a1 : Int32) (a2 : Int32) (a3 : Int32) (a4 : Int32) (a5 : Int32) (M : Mem) (O : Int64) (T : Tmp) (c s : Nat) :
  BK L xs E mi_X6_feed back (k + 11) 0 [some (.inr (.inr (0, 0))), some (.inl a1), some (.inl a2), some (.inl a3), some (.inl a4), some (.inl a5)] [] M O T c s =
    if ((M 1 0 1) + 20) ≤ 600 then (xret tkT mi_X6_feed 1 (E q_X5_put [.inr (.inr (1, 0)), .inl a1] M O) (BK L xs E mi_X6_feed back (k)) 23 [some (.inr (.inr (0, 0))), some (.inl a1), some (.inl a2), some (.inl a3), some (.inl a4), some (.inl a5)] [] T c s) else (some (.inl (some (.inl (-1))), M, O, c, s)) :=
  blk_of (fun q => Nat.beq q 0) (f := fun kk => if ((M 1 0 1) + 20) ≤ 600 then (xret tkT mi_X6_feed 1 (E q_X5_put [.inr (.inr (1, 0)), .inl a1] M O) (kk (k)) 23 [some (.inr (.inr (0, 0))), some (.inl a1), some (.inl a2), some (.inl a3), some (.inl a4), some (.inl a5)] [] T c s) else (some (.inl (some (.inl (-1))), M, O, c, s))) (fun kk => rfl)
set_option maxRecDepth 100000 in
theorem e_X6_feed_26 (L : Nat) (xs : Nat → Int32) (E : CallT) (back : BackT) (k : Nat) (a1 : Int32) (a2 : Int32) (a3 : Int32) (a4 : Int32) (a5 : Int32) (M : Mem) (O : Int64) (T : Tmp) (c s : Nat) :
  BK L xs E mi_X6_feed back (k + 4) 26 [some (.inr (.inr (0, 0))), some (.inl a1), some (.inl a2), some (.inl a3), some (.inl a4), some (.inl a5)] [] M O T c s =
    xret tkT mi_X6_feed 1 (E q_X5_put [.inr (.inr (1, 0)), .inl a2] M O) (BK L xs E mi_X6_feed back (k)) 31 [some (.inr (.inr (0, 0))), some (.inl a1), some (.inl a2), some (.inl a3), some (.inl a4), some (.inl a5)] [] T c s :=
  blk_of (fun q => Nat.beq q 26) (f := fun kk => xret tkT mi_X6_feed 1 (E q_X5_put [.inr (.inr (1, 0)), .inl a2] M O) (kk (k)) 31 [some (.inr (.inr (0, 0))), some (.inl a1), some (.inl a2), some (.inl a3), some (.inl a4), some (.inl a5)] [] T c s) (fun kk => rfl)
set_option maxRecDepth 100000 in
theorem e_X6_feed_34 (L : Nat) (xs : Nat → Int32) (E : CallT) (back : BackT) (k : Nat) (a1 : Int32) (a2 : Int32) (a3 : Int32) (a4 : Int32) (a5 : Int32) (M : Mem) (O : Int64) (T : Tmp) (c s : Nat) :
  BK L xs E mi_X6_feed back (k + 4) 34 [some (.inr (.inr (0, 0))), some (.inl a1), some (.inl a2), some (.inl a3), some (.inl a4), some (.inl a5)] [] M O T c s =
    xret tkT mi_X6_feed 1 (E q_X5_put [.inr (.inr (1, 0)), .inl a3] M O) (BK L xs E mi_X6_feed back (k)) 39 [some (.inr (.inr (0, 0))), some (.inl a1), some (.inl a2), some (.inl a3), some (.inl a4), some (.inl a5)] [] T c s :=
  blk_of (fun q => Nat.beq q 34) (f := fun kk => xret tkT mi_X6_feed 1 (E q_X5_put [.inr (.inr (1, 0)), .inl a3] M O) (kk (k)) 39 [some (.inr (.inr (0, 0))), some (.inl a1), some (.inl a2), some (.inl a3), some (.inl a4), some (.inl a5)] [] T c s) (fun kk => rfl)
set_option maxRecDepth 100000 in
theorem e_X6_feed_42 (L : Nat) (xs : Nat → Int32) (E : CallT) (back : BackT) (k : Nat) (a1 : Int32) (a2 : Int32) (a3 : Int32) (a4 : Int32) (a5 : Int32) (M : Mem) (O : Int64) (T : Tmp) (c s : Nat) :
  BK L xs E mi_X6_feed back (k + 4) 42 [some (.inr (.inr (0, 0))), some (.inl a1), some (.inl a2), some (.inl a3), some (.inl a4), some (.inl a5)] [] M O T c s =
    xret tkT mi_X6_feed 1 (E q_X5_put [.inr (.inr (1, 0)), .inl a4] M O) (BK L xs E mi_X6_feed back (k)) 48 [some (.inr (.inr (0, 0))), some (.inl a1), some (.inl a2), some (.inl a3), some (.inl a4), some (.inl a5)] [] T c s :=
  blk_of (fun q => Nat.beq q 42) (f := fun kk => xret tkT mi_X6_feed 1 (E q_X5_put [.inr (.inr (1, 0)), .inl a4] M O) (kk (k)) 48 [some (.inr (.inr (0, 0))), some (.inl a1), some (.inl a2), some (.inl a3), some (.inl a4), some (.inl a5)] [] T c s) (fun kk => rfl)
set_option maxRecDepth 100000 in
theorem e_X6_feed_51 (L : Nat) (xs : Nat → Int32) (E : CallT) (back : BackT) (k : Nat) (a1 : Int32) (a2 : Int32) (a3 : Int32) (a4 : Int32) (a5 : Int32) (M : Mem) (O : Int64) (T : Tmp) (c s : Nat) :
  BK L xs E mi_X6_feed back (k + 4) 51 [some (.inr (.inr (0, 0))), some (.inl a1), some (.inl a2), some (.inl a3), some (.inl a4), some (.inl a5)] [] M O T c s =
    xret tkT mi_X6_feed 1 (E q_X5_put [.inr (.inr (1, 0)), .inl a5] M O) (BK L xs E mi_X6_feed back (k)) 57 [some (.inr (.inr (0, 0))), some (.inl a1), some (.inl a2), some (.inl a3), some (.inl a4), some (.inl a5)] [] T c s :=
  blk_of (fun q => Nat.beq q 51) (f := fun kk => xret tkT mi_X6_feed 1 (E q_X5_put [.inr (.inr (1, 0)), .inl a5] M O) (kk (k)) 57 [some (.inr (.inr (0, 0))), some (.inl a1), some (.inl a2), some (.inl a3), some (.inl a4), some (.inl a5)] [] T c s) (fun kk => rfl)
set_option maxRecDepth 100000 in
theorem e_X6_feed_60 (L : Nat) (xs : Nat → Int32) (E : CallT) (back : BackT) (k : Nat) (a1 : Int32) (a2 : Int32) (a3 : Int32) (a4 : Int32) (a5 : Int32) (M : Mem) (O : Int64) (T : Tmp) (c s : Nat) :
  BK L xs E mi_X6_feed back (k + 4) 60 [some (.inr (.inr (0, 0))), some (.inl a1), some (.inl a2), some (.inl a3), some (.inl a4), some (.inl a5)] [] M O T c s =
    some (.inl (some (.inl (M 1 0 1))), M, O, c, s) :=
  blk_of (fun q => Nat.beq q 60) (f := fun kk => some (.inl (some (.inl (M 1 0 1))), M, O, c, s)) (fun kk => rfl)
set_option maxRecDepth 100000 in
theorem e_X6_fault_0 (L : Nat) (xs : Nat → Int32) (E : CallT) (back : BackT) (k : Nat)  (M : Mem) (O : Int64) (T : Tmp) (c s : Nat) :
  BK L xs E mi_X6_fault back (k + 4) 0 [some (.inr (.inr (0, 0)))] [] M O T c s =
    some (.inl (some (.inl (M 1 0 5))), M, O, c, s) :=
  blk_of (fun q => Nat.beq q 0) (f := fun kk => some (.inl (some (.inl (M 1 0 5))), M, O, c, s)) (fun kk => rfl)
set_option maxRecDepth 100000 in
theorem e_X6_forget_0 (L : Nat) (xs : Nat → Int32) (E : CallT) (back : BackT) (k : Nat)  (M : Mem) (O : Int64) (T : Tmp) (c s : Nat) :
  BK L xs E mi_X6_forget back (k + 10) 0 [some (.inr (.inr (0, 0))), none] [] M O T c s =
    some (.inl (some (.inl (M 20 0 4))), (mput M 20 0 4 0), O, c, s) :=
  blk_of (fun q => Nat.beq q 0) (f := fun kk => some (.inl (some (.inl (M 20 0 4))), (mput M 20 0 4 0), O, c, s)) (fun kk => rfl)
set_option maxRecDepth 100000 in
theorem e_X2_copyFrom_0 (L : Nat) (xs : Nat → Int32) (E : CallT) (back : BackT) (k : Nat) (i0 : Nat) (i1 : Nat) (M : Mem) (O : Int64) (T : Tmp) (c s : Nat) :
  BK L xs E mi_X2_copyFrom back (k + 14) 0 [some (.inr (.inr (20, i0))), some (.inr (.inr (20, i1)))] [] M O T c s =
    xret tkT mi_X2_copyFrom 2 (E 902 [.inr (.inr (21, i1)), .inl 0, .inr (.inr (21, i0)), .inl 0, .inl (Int32.ofNat 8)] (mput M 20 i0 1 (M 20 i1 1)) O) (BK L xs E mi_X2_copyFrom back (k)) 23 [some (.inr (.inr (20, i0))), some (.inr (.inr (20, i1)))] [] T c s :=
  blk_of (fun q => Nat.beq q 0) (f := fun kk => xret tkT mi_X2_copyFrom 2 (E 902 [.inr (.inr (21, i1)), .inl 0, .inr (.inr (21, i0)), .inl 0, .inl (Int32.ofNat 8)] (mput M 20 i0 1 (M 20 i1 1)) O) (kk (k)) 23 [some (.inr (.inr (20, i0))), some (.inr (.inr (20, i1)))] [] T c s) (fun kk => rfl)
set_option maxRecDepth 100000 in
theorem e_X2_copyFrom_26 (L : Nat) (xs : Nat → Int32) (E : CallT) (back : BackT) (k : Nat) (i0 : Nat) (i1 : Nat) (M : Mem) (O : Int64) (T : Tmp) (c s : Nat) :
  BK L xs E mi_X2_copyFrom back (k + 10) 26 [some (.inr (.inr (20, i0))), some (.inr (.inr (20, i1)))] [] M O T c s =
    xret tkT mi_X2_copyFrom 2 (E 902 [.inr (.inr (22, i1)), .inl 0, .inr (.inr (22, i0)), .inl 0, .inl (Int32.ofNat 8)] M O) (BK L xs E mi_X2_copyFrom back (k)) 41 [some (.inr (.inr (20, i0))), some (.inr (.inr (20, i1)))] [] T c s :=
  blk_of (fun q => Nat.beq q 26) (f := fun kk => xret tkT mi_X2_copyFrom 2 (E 902 [.inr (.inr (22, i1)), .inl 0, .inr (.inr (22, i0)), .inl 0, .inl (Int32.ofNat 8)] M O) (kk (k)) 41 [some (.inr (.inr (20, i0))), some (.inr (.inr (20, i1)))] [] T c s) (fun kk => rfl)
set_option maxRecDepth 100000 in
theorem e_X2_copyFrom_44 (L : Nat) (xs : Nat → Int32) (E : CallT) (back : BackT) (k : Nat) (i0 : Nat) (i1 : Nat) (M : Mem) (O : Int64) (T : Tmp) (c s : Nat) :
  BK L xs E mi_X2_copyFrom back (k + 14) 44 [some (.inr (.inr (20, i0))), some (.inr (.inr (20, i1)))] [] M O T c s =
    xret tkT mi_X2_copyFrom 2 (E 902 [.inr (.inr (23, i1)), .inl 0, .inr (.inr (23, i0)), .inl 0, .inl (Int32.ofNat 80)] (mput M 20 i0 4 (M 20 i1 4)) O) (BK L xs E mi_X2_copyFrom back (k)) 67 [some (.inr (.inr (20, i0))), some (.inr (.inr (20, i1)))] [] T c s :=
  blk_of (fun q => Nat.beq q 44) (f := fun kk => xret tkT mi_X2_copyFrom 2 (E 902 [.inr (.inr (23, i1)), .inl 0, .inr (.inr (23, i0)), .inl 0, .inl (Int32.ofNat 80)] (mput M 20 i0 4 (M 20 i1 4)) O) (kk (k)) 67 [some (.inr (.inr (20, i0))), some (.inr (.inr (20, i1)))] [] T c s) (fun kk => rfl)
set_option maxRecDepth 100000 in
theorem e_X2_copyFrom_70 (L : Nat) (xs : Nat → Int32) (E : CallT) (back : BackT) (k : Nat) (i0 : Nat) (i1 : Nat) (M : Mem) (O : Int64) (T : Tmp) (c s : Nat) :
  BK L xs E mi_X2_copyFrom back (k + 1) 70 [some (.inr (.inr (20, i0))), some (.inr (.inr (20, i1)))] [] M O T c s =
    some (.inl none, M, O, c, s) :=
  blk_of (fun q => Nat.beq q 70) (f := fun kk => some (.inl none, M, O, c, s)) (fun kk => rfl)
set_option maxRecDepth 100000 in
theorem e_X6_image_0 (L : Nat) (xs : Nat → Int32) (E : CallT) (back : BackT) (k : Nat)  (M : Mem) (O : Int64) (T : Tmp) (c s : Nat) :
  BK L xs E mi_X6_image back (k + 12) 0 [some (.inr (.inr (0, 0)))] [] M O T c s =
    if (M 0 0 9) < 3 then (if 0 ≤ ((M 0 0 9) : Int32).toInt ∧ ((M 0 0 9) : Int32).toInt < 3 then (xret tkT mi_X6_image 1 (E q_X2_copyFrom [.inr (.inr (20, (1 + ((M 0 0 9) : Int32).toNatClampNeg))), .inr (.inr (20, 0))] M O) (BK L xs E mi_X6_image back (k)) 23 [some (.inr (.inr (0, 0)))] [] T c s) else none) else (some (.inl (some (.inl (-1))), M, O, c, s)) :=
  blk_of (fun q => Nat.beq q 0) (f := fun kk => if (M 0 0 9) < 3 then (if 0 ≤ ((M 0 0 9) : Int32).toInt ∧ ((M 0 0 9) : Int32).toInt < 3 then (xret tkT mi_X6_image 1 (E q_X2_copyFrom [.inr (.inr (20, (1 + ((M 0 0 9) : Int32).toNatClampNeg))), .inr (.inr (20, 0))] M O) (kk (k)) 23 [some (.inr (.inr (0, 0)))] [] T c s) else none) else (some (.inl (some (.inl (-1))), M, O, c, s))) (fun kk => rfl)
set_option maxRecDepth 100000 in
theorem e_X6_image_26 (L : Nat) (xs : Nat → Int32) (E : CallT) (back : BackT) (k : Nat)  (M : Mem) (O : Int64) (T : Tmp) (c s : Nat) :
  BK L xs E mi_X6_image back (k + 9) 26 [some (.inr (.inr (0, 0)))] [] M O T c s =
    some (.inl (some (.inl ((M 0 0 9) + 1))), (mput M 0 0 9 ((M 0 0 9) + 1)), O, c, s) :=
  blk_of (fun q => Nat.beq q 26) (f := fun kk => some (.inl (some (.inl ((M 0 0 9) + 1))), (mput M 0 0 9 ((M 0 0 9) + 1)), O, c, s)) (fun kk => rfl)
set_option maxRecDepth 100000 in
theorem e_X6_restore_0 (L : Nat) (xs : Nat → Int32) (E : CallT) (back : BackT) (k : Nat)  (M : Mem) (O : Int64) (T : Tmp) (c s : Nat) :
  BK L xs E mi_X6_restore back (k + 17) 0 [some (.inr (.inr (0, 0)))] [] M O T c s =
    if (0 : Int32) < (M 0 0 9) then (if 0 ≤ (((M 0 0 9) - 1) : Int32).toInt ∧ (((M 0 0 9) - 1) : Int32).toInt < 3 then (xret tkT mi_X6_restore 1 (E q_X2_copyFrom [.inr (.inr (20, 0)), .inr (.inr (20, (1 + (((M 0 0 9) - 1) : Int32).toNatClampNeg)))] (mput M 0 0 9 ((M 0 0 9) - 1)) O) (BK L xs E mi_X6_restore back (k)) 32 [some (.inr (.inr (0, 0)))] [] T c s) else none) else (some (.inl (some (.inl (-1))), M, O, c, s)) :=
  blk_of (fun q => Nat.beq q 0) (f := fun kk => if (0 : Int32) < (M 0 0 9) then (if 0 ≤ (((M 0 0 9) - 1) : Int32).toInt ∧ (((M 0 0 9) - 1) : Int32).toInt < 3 then (xret tkT mi_X6_restore 1 (E q_X2_copyFrom [.inr (.inr (20, 0)), .inr (.inr (20, (1 + (((M 0 0 9) - 1) : Int32).toNatClampNeg)))] (mput M 0 0 9 ((M 0 0 9) - 1)) O) (kk (k)) 32 [some (.inr (.inr (0, 0)))] [] T c s) else none) else (some (.inl (some (.inl (-1))), M, O, c, s))) (fun kk => rfl)
set_option maxRecDepth 100000 in
theorem e_X6_restore_35 (L : Nat) (xs : Nat → Int32) (E : CallT) (back : BackT) (k : Nat)  (M : Mem) (O : Int64) (T : Tmp) (c s : Nat) :
  BK L xs E mi_X6_restore back (k + 2) 35 [some (.inr (.inr (0, 0)))] [] M O T c s =
    xret tkT mi_X6_restore 0 (E q_X6_rebuild [.inr (.inr (0, 0))] M O) (BK L xs E mi_X6_restore back (k)) 36 [some (.inr (.inr (0, 0)))] [] T c s :=
  blk_of (fun q => Nat.beq q 35) (f := fun kk => xret tkT mi_X6_restore 0 (E q_X6_rebuild [.inr (.inr (0, 0))] M O) (kk (k)) 36 [some (.inr (.inr (0, 0)))] [] T c s) (fun kk => rfl)
set_option maxRecDepth 100000 in
theorem e_X6_restore_39 (L : Nat) (xs : Nat → Int32) (E : CallT) (back : BackT) (k : Nat)  (M : Mem) (O : Int64) (T : Tmp) (c s : Nat) :
  BK L xs E mi_X6_restore back (k + 3) 39 [some (.inr (.inr (0, 0)))] [] M O T c s =
    some (.inl (some (.inl (M 0 0 9))), M, O, c, s) :=
  blk_of (fun q => Nat.beq q 39) (f := fun kk => some (.inl (some (.inl (M 0 0 9))), M, O, c, s)) (fun kk => rfl)
set_option maxRecDepth 100000 in
theorem e_X6_status_0 (L : Nat) (xs : Nat → Int32) (E : CallT) (back : BackT) (k : Nat) (a1 : Int32) (M : Mem) (O : Int64) (T : Tmp) (c s : Nat) :
  BK L xs E mi_X6_status back (k + 12) 0 [some (.inr (.inr (0, 0))), some (.inl a1)] [] M O T c s =
    if a1 < 0 then (BK L xs E mi_X6_status back (k + 10) 22 [some (.inr (.inr (0, 0))), some (.inl a1)] [] M O T c s) else (if (Int32.ofNat 3) ≤ a1 then (BK L xs E mi_X6_status back (k + 5) 22 [some (.inr (.inr (0, 0))), some (.inl a1)] [] M O T c s) else (if 0 ≤ (a1 : Int32).toInt ∧ (a1 : Int32).toInt < 3 then (BK L xs E mi_X6_status back (k) 23 [some (.inr (.inr (0, 0))), some (.inl a1)] [.inl (M 34 0 (a1 : Int32).toNatClampNeg)] M O T c s) else none)) :=
  blk_of (fun q => Nat.beq q 0 || Nat.beq q 22 || Nat.beq q 23) (f := fun kk => if a1 < 0 then (kk (k + 10) 22 [some (.inr (.inr (0, 0))), some (.inl a1)] [] M O T c s) else (if (Int32.ofNat 3) ≤ a1 then (kk (k + 5) 22 [some (.inr (.inr (0, 0))), some (.inl a1)] [] M O T c s) else (if 0 ≤ (a1 : Int32).toInt ∧ (a1 : Int32).toInt < 3 then (kk (k) 23 [some (.inr (.inr (0, 0))), some (.inl a1)] [.inl (M 34 0 (a1 : Int32).toNatClampNeg)] M O T c s) else none))) (fun kk => rfl)
set_option maxRecDepth 100000 in
theorem e_X6_status_22 (L : Nat) (xs : Nat → Int32) (E : CallT) (back : BackT) (k : Nat) (a1 : Int32) (M : Mem) (O : Int64) (T : Tmp) (c s : Nat) :
  BK L xs E mi_X6_status back (k + 1) 22 [some (.inr (.inr (0, 0))), some (.inl a1)] [] M O T c s =
    BK L xs E mi_X6_status back (k) 23 [some (.inr (.inr (0, 0))), some (.inl a1)] [.inl (-1)] M O T c s :=
  blk_of (fun q => Nat.beq q 22 || Nat.beq q 23) (f := fun kk => kk (k) 23 [some (.inr (.inr (0, 0))), some (.inl a1)] [.inl (-1)] M O T c s) (fun kk => rfl)
set_option maxRecDepth 100000 in
theorem e_X6_status_23 (L : Nat) (xs : Nat → Int32) (E : CallT) (back : BackT) (k : Nat) (a1 : Int32) (as0 : Int32) (M : Mem) (O : Int64) (T : Tmp) (c s : Nat) :
  BK L xs E mi_X6_status back (k + 1) 23 [some (.inr (.inr (0, 0))), some (.inl a1)] [.inl as0] M O T c s =
    some (.inl (some (.inl as0)), M, O, c, s) :=
  blk_of (fun q => Nat.beq q 22 || Nat.beq q 23) (f := fun kk => some (.inl (some (.inl as0)), M, O, c, s)) (fun kk => rfl)
set_option maxRecDepth 100000 in
theorem e_X6_count_0 (L : Nat) (xs : Nat → Int32) (E : CallT) (back : BackT) (k : Nat) (a1 : Int32) (M : Mem) (O : Int64) (T : Tmp) (c s : Nat) :
  BK L xs E mi_X6_count back (k + 1) 0 [some (.inr (.inr (0, 0))), some (.inl a1)] [] M O T c s =
    BK L xs E mi_X6_count back (k) 1 [some (.inr (.inr (0, 0))), some (.inl a1)] [.inl a1] M O T c s :=
  blk_of (fun q => Nat.beq q 0 || Nat.beq q 1) (f := fun kk => kk (k) 1 [some (.inr (.inr (0, 0))), some (.inl a1)] [.inl a1] M O T c s) (fun kk => rfl)
set_option maxRecDepth 100000 in
theorem e_X6_count_1_c0 (L : Nat) (xs : Nat → Int32) (E : CallT) (back : BackT) (k : Nat) (a1 : Int32) (M : Mem) (O : Int64) (T : Tmp) (c s : Nat) :
  BK L xs E mi_X6_count back (k + 1) 1 [some (.inr (.inr (0, 0))), some (.inl a1)] [.inl 0] M O T c s = BK L xs E mi_X6_count back k 32 [some (.inr (.inr (0, 0))), some (.inl a1)] [] M O T c s :=
  blk_of (fun q => true) (f := fun kk => kk k 32 [some (.inr (.inr (0, 0))), some (.inl a1)] [] M O T c s) (fun kk => rfl)
set_option maxRecDepth 100000 in
theorem e_X6_count_1_c1 (L : Nat) (xs : Nat → Int32) (E : CallT) (back : BackT) (k : Nat) (a1 : Int32) (M : Mem) (O : Int64) (T : Tmp) (c s : Nat) :
  BK L xs E mi_X6_count back (k + 1) 1 [some (.inr (.inr (0, 0))), some (.inl a1)] [.inl 1] M O T c s = BK L xs E mi_X6_count back k 40 [some (.inr (.inr (0, 0))), some (.inl a1)] [] M O T c s :=
  blk_of (fun q => true) (f := fun kk => kk k 40 [some (.inr (.inr (0, 0))), some (.inl a1)] [] M O T c s) (fun kk => rfl)
set_option maxRecDepth 100000 in
theorem e_X6_count_1_c2 (L : Nat) (xs : Nat → Int32) (E : CallT) (back : BackT) (k : Nat) (a1 : Int32) (M : Mem) (O : Int64) (T : Tmp) (c s : Nat) :
  BK L xs E mi_X6_count back (k + 1) 1 [some (.inr (.inr (0, 0))), some (.inl a1)] [.inl 2] M O T c s = BK L xs E mi_X6_count back k 48 [some (.inr (.inr (0, 0))), some (.inl a1)] [] M O T c s :=
  blk_of (fun q => true) (f := fun kk => kk k 48 [some (.inr (.inr (0, 0))), some (.inl a1)] [] M O T c s) (fun kk => rfl)
set_option maxRecDepth 100000 in
theorem e_X6_count_1_c3 (L : Nat) (xs : Nat → Int32) (E : CallT) (back : BackT) (k : Nat) (a1 : Int32) (M : Mem) (O : Int64) (T : Tmp) (c s : Nat) :
  BK L xs E mi_X6_count back (k + 1) 1 [some (.inr (.inr (0, 0))), some (.inl a1)] [.inl 3] M O T c s = BK L xs E mi_X6_count back k 53 [some (.inr (.inr (0, 0))), some (.inl a1)] [] M O T c s :=
  blk_of (fun q => true) (f := fun kk => kk k 53 [some (.inr (.inr (0, 0))), some (.inl a1)] [] M O T c s) (fun kk => rfl)
set_option maxRecDepth 100000 in
theorem e_X6_count_1_d (L : Nat) (xs : Nat → Int32) (E : CallT) (back : BackT) (k : Nat) (a1 : Int32) (M : Mem) (O : Int64) (T : Tmp) (c s : Nat) (a : Int32) (h : a.toInt < 0 ∨ 3 < a.toInt) :
  BK L xs E mi_X6_count back (k + 1) 1 [some (.inr (.inr (0, 0))), some (.inl a1)] [.inl a] M O T c s = BK L xs E mi_X6_count back k 61 [some (.inr (.inr (0, 0))), some (.inl a1)] [] M O T c s :=
  blk_of (fun q => true) (f := fun kk => kk k 61 [some (.inr (.inr (0, 0))), some (.inl a1)] [] M O T c s) (fun kk => (show _ = (if a.toInt < 0 ∨ 3 < a.toInt then kk k 61 [some (.inr (.inr (0, 0))), some (.inl a1)] [] M O T c s else (match (#[31, 39, 47, 52] : Array Int)[(a.toInt - (0)).toNat]? with
    | some off => xgo (cK (fun q => true) (kk k) (blkC L xs E mi_X6_count back (fun q => true) kk k)) back 1 off [some (.inr (.inr (0, 0))), some (.inl a1)] [] M O T c s
    | none => none)) from rfl).trans (if_pos h))
set_option maxRecDepth 100000 in
theorem e_X6_count_40 (L : Nat) (xs : Nat → Int32) (E : CallT) (back : BackT) (k : Nat) (a1 : Int32) (M : Mem) (O : Int64) (T : Tmp) (c s : Nat) :
  BK L xs E mi_X6_count back (k + 4) 40 [some (.inr (.inr (0, 0))), some (.inl a1)] [] M O T c s =
    some (.inl (some (.inl (M 20 0 4))), M, O, c, s) :=
  blk_of (fun q => Nat.beq q 1 || Nat.beq q 40) (f := fun kk => some (.inl (some (.inl (M 20 0 4))), M, O, c, s)) (fun kk => rfl)
set_option maxRecDepth 100000 in
theorem e_X6_count_48 (L : Nat) (xs : Nat → Int32) (E : CallT) (back : BackT) (k : Nat) (a1 : Int32) (M : Mem) (O : Int64) (T : Tmp) (c s : Nat) :
  BK L xs E mi_X6_count back (k + 3) 48 [some (.inr (.inr (0, 0))), some (.inl a1)] [] M O T c s =
    some (.inl (some (.inl (M 0 0 9))), M, O, c, s) :=
  blk_of (fun q => Nat.beq q 1 || Nat.beq q 48) (f := fun kk => some (.inl (some (.inl (M 0 0 9))), M, O, c, s)) (fun kk => rfl)
set_option maxRecDepth 100000 in
theorem e_X6_count_53 (L : Nat) (xs : Nat → Int32) (E : CallT) (back : BackT) (k : Nat) (a1 : Int32) (M : Mem) (O : Int64) (T : Tmp) (c s : Nat) :
  BK L xs E mi_X6_count back (k + 4) 53 [some (.inr (.inr (0, 0))), some (.inl a1)] [] M O T c s =
    some (.inl (some (.inl (M 1 0 1))), M, O, c, s) :=
  blk_of (fun q => Nat.beq q 1 || Nat.beq q 53) (f := fun kk => some (.inl (some (.inl (M 1 0 1))), M, O, c, s)) (fun kk => rfl)
set_option maxRecDepth 100000 in
theorem e_X6_count_61 (L : Nat) (xs : Nat → Int32) (E : CallT) (back : BackT) (k : Nat) (a1 : Int32) (M : Mem) (O : Int64) (T : Tmp) (c s : Nat) :
  BK L xs E mi_X6_count back (k + 2) 61 [some (.inr (.inr (0, 0))), some (.inl a1)] [] M O T c s =
    some (.inl (some (.inl (-1))), M, O, c, s) :=
  blk_of (fun q => Nat.beq q 1 || Nat.beq q 61) (f := fun kk => some (.inl (some (.inl (-1))), M, O, c, s)) (fun kk => rfl)
set_option maxRecDepth 100000 in
theorem e_X6_count_32 (L : Nat) (xs : Nat → Int32) (E : CallT) (back : BackT) (k : Nat) (a1 : Int32) (M : Mem) (O : Int64) (T : Tmp) (c s : Nat) :
  BK L xs E mi_X6_count back (k + 4) 32 [some (.inr (.inr (0, 0))), some (.inl a1)] [] M O T c s =
    some (.inl (some (.inl (M 20 0 1))), M, O, c, s) :=
  blk_of (fun q => Nat.beq q 1 || Nat.beq q 32) (f := fun kk => some (.inl (some (.inl (M 20 0 1))), M, O, c, s)) (fun kk => rfl)
set_option maxRecDepth 100000 in
theorem e_X7_thrown_0 (L : Nat) (xs : Nat → Int32) (E : CallT) (back : BackT) (k : Nat)  (M : Mem) (O : Int64) (T : Tmp) (c s : Nat) :
  BK L xs E mi_X7_thrown back (k + 3) 0 [some (.inr (.inr (40, 0)))] [] M O T c s =
    some (.inl (some (.inl (M 40 0 0))), M, O, c, s) :=
  blk_of (fun q => Nat.beq q 0) (f := fun kk => some (.inl (some (.inl (M 40 0 0))), M, O, c, s)) (fun kk => rfl)
set_option maxRecDepth 100000 in
theorem e_X7_feed_0 (L : Nat) (xs : Nat → Int32) (E : CallT) (back : BackT) (k : Nat) (a1 : Int32) (a2 : Int32) (a3 : Int32) (a4 : Int32) (a5 : Int32) (M : Mem) (O : Int64) (T : Tmp) (c s : Nat) :
  BK L xs E mi_X7_feed back (k + 11) 0 [some (.inr (.inr (40, 0))), some (.inl a1), some (.inl a2), some (.inl a3), some (.inl a4), some (.inl a5), none, none] [] M O T c s =
    if ((M 40 0 1) + 20) ≤ 600 then (BK L xs E mi_X7_feed back (k) 23 [some (.inr (.inr (40, 0))), some (.inl a1), some (.inl a2), some (.inl a3), some (.inl a4), some (.inl a5), some (.inl 0), none] [] (mput M 40 0 0 0) O T c s) else (some (.inl (some (.inl (-1))), (mput M 40 0 0 0), O, c, s)) :=
  blk_of (fun q => Nat.beq q 0 || Nat.beq q 23 || Nat.beq q 76) (f := fun kk => if ((M 40 0 1) + 20) ≤ 600 then (kk (k) 23 [some (.inr (.inr (40, 0))), some (.inl a1), some (.inl a2), some (.inl a3), some (.inl a4), some (.inl a5), some (.inl 0), none] [] (mput M 40 0 0 0) O T c s) else (some (.inl (some (.inl (-1))), (mput M 40 0 0 0), O, c, s))) (fun kk => rfl)
set_option maxRecDepth 100000 in
theorem e_X7_feed_23 (L : Nat) (xs : Nat → Int32) (E : CallT) (back : BackT) (k : Nat) (a1 : Int32) (a2 : Int32) (a3 : Int32) (a4 : Int32) (a5 : Int32) (a6 : Int32) (u7 : Option AV) (M : Mem) (O : Int64) (T : Tmp) (c s : Nat) :
  BK L xs E mi_X7_feed back (k + 17) 23 [some (.inr (.inr (40, 0))), some (.inl a1), some (.inl a2), some (.inl a3), some (.inl a4), some (.inl a5), some (.inl a6), u7] [] M O T c s =
    if (20 : Int32) ≤ a6 then (some (.inl (some (.inl (M 40 0 1))), M, O, c, s)) else (if (4 : Int32) ≤ a6 then (if (8 : Int32) ≤ a6 then (if (12 : Int32) ≤ a6 then (if (16 : Int32) ≤ a6 then (BK L xs E mi_X7_feed back (k + 1) 76 [some (.inr (.inr (40, 0))), some (.inl a1), some (.inl a2), some (.inl a3), some (.inl a4), some (.inl a5), some (.inl a6), u7] [.inl a5] M O T c s) else (BK L xs E mi_X7_feed back (k) 76 [some (.inr (.inr (40, 0))), some (.inl a1), some (.inl a2), some (.inl a3), some (.inl a4), some (.inl a5), some (.inl a6), u7] [.inl a4] M O T c s)) else (BK L xs E mi_X7_feed back (k + 3) 76 [some (.inr (.inr (40, 0))), some (.inl a1), some (.inl a2), some (.inl a3), some (.inl a4), some (.inl a5), some (.inl a6), u7] [.inl a3] M O T c s)) else (BK L xs E mi_X7_feed back (k + 6) 76 [some (.inr (.inr (40, 0))), some (.inl a1), some (.inl a2), some (.inl a3), some (.inl a4), some (.inl a5), some (.inl a6), u7] [.inl a2] M O T c s)) else (BK L xs E mi_X7_feed back (k + 9) 76 [some (.inr (.inr (40, 0))), some (.inl a1), some (.inl a2), some (.inl a3), some (.inl a4), some (.inl a5), some (.inl a6), u7] [.inl a1] M O T c s)) :=
  blk_of (fun q => Nat.beq q 23 || Nat.beq q 76) (f := fun kk => if (20 : Int32) ≤ a6 then (some (.inl (some (.inl (M 40 0 1))), M, O, c, s)) else (if (4 : Int32) ≤ a6 then (if (8 : Int32) ≤ a6 then (if (12 : Int32) ≤ a6 then (if (16 : Int32) ≤ a6 then (kk (k + 1) 76 [some (.inr (.inr (40, 0))), some (.inl a1), some (.inl a2), some (.inl a3), some (.inl a4), some (.inl a5), some (.inl a6), u7] [.inl a5] M O T c s) else (kk (k) 76 [some (.inr (.inr (40, 0))), some (.inl a1), some (.inl a2), some (.inl a3), some (.inl a4), some (.inl a5), some (.inl a6), u7] [.inl a4] M O T c s)) else (kk (k + 3) 76 [some (.inr (.inr (40, 0))), some (.inl a1), some (.inl a2), some (.inl a3), some (.inl a4), some (.inl a5), some (.inl a6), u7] [.inl a3] M O T c s)) else (kk (k + 6) 76 [some (.inr (.inr (40, 0))), some (.inl a1), some (.inl a2), some (.inl a3), some (.inl a4), some (.inl a5), some (.inl a6), u7] [.inl a2] M O T c s)) else (kk (k + 9) 76 [some (.inr (.inr (40, 0))), some (.inl a1), some (.inl a2), some (.inl a3), some (.inl a4), some (.inl a5), some (.inl a6), u7] [.inl a1] M O T c s))) (fun kk => rfl)
set_option maxRecDepth 100000 in
theorem e_X7_feed_76 (L : Nat) (xs : Nat → Int32) (E : CallT) (back : BackT) (k : Nat) (a1 : Int32) (a2 : Int32) (a3 : Int32) (a4 : Int32) (a5 : Int32) (a6 : Int32) (u7 : Option AV) (as0 : Int32) (M : Mem) (O : Int64) (T : Tmp) (c s : Nat) :
  BK L xs E mi_X7_feed back (k + 25) 76 [some (.inr (.inr (40, 0))), some (.inl a1), some (.inl a2), some (.inl a3), some (.inl a4), some (.inl a5), some (.inl a6), u7] [.inl as0] M O T c s =
    if 0 ≤ ((M 40 0 1) : Int32).toInt ∧ ((M 40 0 1) : Int32).toInt < 600 then (back 23 [some (.inr (.inr (40, 0))), some (.inl a1), some (.inl a2), some (.inl a3), some (.inl a4), some (.inl a5), some (.inl (a6 + 1)), some (.inl as0)] (mput (mput M 41 0 ((M 40 0 1) : Int32).toNatClampNeg ((as0 >>> ((24 - (8 * (a6 - a6 / 4 * 4))) &&& 31)) &&& 255)) 40 0 1 ((M 40 0 1) + 1)) O T c s) else none :=
  blk_of (fun q => Nat.beq q 23 || Nat.beq q 76) (f := fun kk => if 0 ≤ ((M 40 0 1) : Int32).toInt ∧ ((M 40 0 1) : Int32).toInt < 600 then (back 23 [some (.inr (.inr (40, 0))), some (.inl a1), some (.inl a2), some (.inl a3), some (.inl a4), some (.inl a5), some (.inl (a6 + 1)), some (.inl as0)] (mput (mput M 41 0 ((M 40 0 1) : Int32).toNatClampNeg ((as0 >>> ((24 - (8 * (a6 - a6 / 4 * 4))) &&& 31)) &&& 255)) 40 0 1 ((M 40 0 1) + 1)) O T c s) else none) (fun kk => rfl)
set_option maxRecDepth 100000 in
theorem e_X7_bad_0 (L : Nat) (xs : Nat → Int32) (E : CallT) (back : BackT) (k : Nat) (a1 : Int32) (a2 : Int32) (a3 : Int32) (M : Mem) (O : Int64) (T : Tmp) (c s : Nat) :
  BK L xs E mi_X7_bad back (k + 16) 0 [some (.inr (.inr (40, 0))), some (.inl a1), some (.inl a2), some (.inl a3)] [] M O T c s =
    if a1 = 0 then (BK L xs E mi_X7_bad back (k + 14) 26 [some (.inr (.inr (40, 0))), some (.inl a1), some (.inl a2), some (.inl a3)] [] M O T c s) else (if (M 40 0 0) = 0 then (if 0 ≤ (a3 : Int32).toInt ∧ (a3 : Int32).toInt < 3 then (if 0 ≤ (a3 : Int32).toInt ∧ (a3 : Int32).toInt < 3 then (BK L xs E mi_X7_bad back (k) 26 [some (.inr (.inr (40, 0))), some (.inl a1), some (.inl a2), some (.inl a3)] [] (mput (mput M 40 0 0 a2) 42 0 (a3 : Int32).toNatClampNeg ((M 42 0 (a3 : Int32).toNatClampNeg) + 1)) O T c s) else none) else none) else (BK L xs E mi_X7_bad back (k + 11) 26 [some (.inr (.inr (40, 0))), some (.inl a1), some (.inl a2), some (.inl a3)] [] M O T c s)) :=
  blk_of (fun q => Nat.beq q 0 || Nat.beq q 26 || Nat.beq q 38) (f := fun kk => if a1 = 0 then (kk (k + 14) 26 [some (.inr (.inr (40, 0))), some (.inl a1), some (.inl a2), some (.inl a3)] [] M O T c s) else (if (M 40 0 0) = 0 then (if 0 ≤ (a3 : Int32).toInt ∧ (a3 : Int32).toInt < 3 then (if 0 ≤ (a3 : Int32).toInt ∧ (a3 : Int32).toInt < 3 then (kk (k) 26 [some (.inr (.inr (40, 0))), some (.inl a1), some (.inl a2), some (.inl a3)] [] (mput (mput M 40 0 0 a2) 42 0 (a3 : Int32).toNatClampNeg ((M 42 0 (a3 : Int32).toNatClampNeg) + 1)) O T c s) else none) else none) else (kk (k + 11) 26 [some (.inr (.inr (40, 0))), some (.inl a1), some (.inl a2), some (.inl a3)] [] M O T c s))) (fun kk => rfl)
set_option maxRecDepth 100000 in
theorem e_X7_bad_26 (L : Nat) (xs : Nat → Int32) (E : CallT) (back : BackT) (k : Nat) (a1 : Int32) (a2 : Int32) (a3 : Int32) (M : Mem) (O : Int64) (T : Tmp) (c s : Nat) :
  BK L xs E mi_X7_bad back (k + 5) 26 [some (.inr (.inr (40, 0))), some (.inl a1), some (.inl a2), some (.inl a3)] [] M O T c s =
    if (M 40 0 0) = 0 then (BK L xs E mi_X7_bad back (k + 1) 38 [some (.inr (.inr (40, 0))), some (.inl a1), some (.inl a2), some (.inl a3)] [.inl 0] M O T c s) else (BK L xs E mi_X7_bad back (k) 38 [some (.inr (.inr (40, 0))), some (.inl a1), some (.inl a2), some (.inl a3)] [.inl 1] M O T c s) :=
  blk_of (fun q => Nat.beq q 26 || Nat.beq q 38) (f := fun kk => if (M 40 0 0) = 0 then (kk (k + 1) 38 [some (.inr (.inr (40, 0))), some (.inl a1), some (.inl a2), some (.inl a3)] [.inl 0] M O T c s) else (kk (k) 38 [some (.inr (.inr (40, 0))), some (.inl a1), some (.inl a2), some (.inl a3)] [.inl 1] M O T c s)) (fun kk => rfl)
set_option maxRecDepth 100000 in
theorem e_X7_bad_38 (L : Nat) (xs : Nat → Int32) (E : CallT) (back : BackT) (k : Nat) (a1 : Int32) (a2 : Int32) (a3 : Int32) (as0 : Int32) (M : Mem) (O : Int64) (T : Tmp) (c s : Nat) :
  BK L xs E mi_X7_bad back (k + 1) 38 [some (.inr (.inr (40, 0))), some (.inl a1), some (.inl a2), some (.inl a3)] [.inl as0] M O T c s =
    if (as0 : Int32) = 0 ∨ (as0 : Int32) = 1 then some (.inl (some (.inl as0)), M, O, c, s) else none :=
  blk_of (fun q => Nat.beq q 26 || Nat.beq q 38) (f := fun kk => if (as0 : Int32) = 0 ∨ (as0 : Int32) = 1 then some (.inl (some (.inl as0)), M, O, c, s) else none) (fun kk => rfl)
set_option maxRecDepth 100000 in
theorem e_X7_in_0 (L : Nat) (xs : Nat → Int32) (E : CallT) (back : BackT) (k : Nat) (a0 : Int32) (a1 : Int32) (a2 : Int32) (M : Mem) (O : Int64) (T : Tmp) (c s : Nat) :
  BK L xs E mi_X7_in back (k + 8) 0 [some (.inl a0), some (.inl a1), some (.inl a2)] [] M O T c s =
    if a0 < a1 then (BK L xs E mi_X7_in back (k + 5) 14 [some (.inl a0), some (.inl a1), some (.inl a2)] [] M O T c s) else (if a2 < a0 then (BK L xs E mi_X7_in back (k + 2) 14 [some (.inl a0), some (.inl a1), some (.inl a2)] [] M O T c s) else (BK L xs E mi_X7_in back (k) 15 [some (.inl a0), some (.inl a1), some (.inl a2)] [.inl 1] M O T c s)) :=
  blk_of (fun q => Nat.beq q 0 || Nat.beq q 14 || Nat.beq q 15) (f := fun kk => if a0 < a1 then (kk (k + 5) 14 [some (.inl a0), some (.inl a1), some (.inl a2)] [] M O T c s) else (if a2 < a0 then (kk (k + 2) 14 [some (.inl a0), some (.inl a1), some (.inl a2)] [] M O T c s) else (kk (k) 15 [some (.inl a0), some (.inl a1), some (.inl a2)] [.inl 1] M O T c s))) (fun kk => rfl)
set_option maxRecDepth 100000 in
theorem e_X7_in_14 (L : Nat) (xs : Nat → Int32) (E : CallT) (back : BackT) (k : Nat) (a0 : Int32) (a1 : Int32) (a2 : Int32) (M : Mem) (O : Int64) (T : Tmp) (c s : Nat) :
  BK L xs E mi_X7_in back (k + 1) 14 [some (.inl a0), some (.inl a1), some (.inl a2)] [] M O T c s =
    BK L xs E mi_X7_in back (k) 15 [some (.inl a0), some (.inl a1), some (.inl a2)] [.inl 0] M O T c s :=
  blk_of (fun q => Nat.beq q 14 || Nat.beq q 15) (f := fun kk => kk (k) 15 [some (.inl a0), some (.inl a1), some (.inl a2)] [.inl 0] M O T c s) (fun kk => rfl)
set_option maxRecDepth 100000 in
theorem e_X7_in_15 (L : Nat) (xs : Nat → Int32) (E : CallT) (back : BackT) (k : Nat) (a0 : Int32) (a1 : Int32) (a2 : Int32) (as0 : Int32) (M : Mem) (O : Int64) (T : Tmp) (c s : Nat) :
  BK L xs E mi_X7_in back (k + 1) 15 [some (.inl a0), some (.inl a1), some (.inl a2)] [.inl as0] M O T c s =
    if (as0 : Int32) = 0 ∨ (as0 : Int32) = 1 then some (.inl (some (.inl as0)), M, O, c, s) else none :=
  blk_of (fun q => Nat.beq q 14 || Nat.beq q 15) (f := fun kk => if (as0 : Int32) = 0 ∨ (as0 : Int32) = 1 then some (.inl (some (.inl as0)), M, O, c, s) else none) (fun kk => rfl)
set_option maxRecDepth 100000 in
theorem e_X7_byteAt_0 (L : Nat) (xs : Nat → Int32) (E : CallT) (back : BackT) (k : Nat) (a1 : Int32) (M : Mem) (O : Int64) (T : Tmp) (c s : Nat) :
  BK L xs E mi_X7_byteAt back (k + 8) 0 [some (.inr (.inr (40, 0))), some (.inl a1)] [] M O T c s =
    if a1 < (M 40 0 2) then (if 0 ≤ (a1 : Int32).toInt ∧ (a1 : Int32).toInt < 600 then (BK L xs E mi_X7_byteAt back (k) 18 [some (.inr (.inr (40, 0))), some (.inl a1)] [.inl (M 41 0 (a1 : Int32).toNatClampNeg)] M O T c s) else none) else (BK L xs E mi_X7_byteAt back (k + 2) 18 [some (.inr (.inr (40, 0))), some (.inl a1)] [.inl (-1)] M O T c s) :=
  blk_of (fun q => Nat.beq q 0 || Nat.beq q 18) (f := fun kk => if a1 < (M 40 0 2) then (if 0 ≤ (a1 : Int32).toInt ∧ (a1 : Int32).toInt < 600 then (kk (k) 18 [some (.inr (.inr (40, 0))), some (.inl a1)] [.inl (M 41 0 (a1 : Int32).toNatClampNeg)] M O T c s) else none) else (kk (k + 2) 18 [some (.inr (.inr (40, 0))), some (.inl a1)] [.inl (-1)] M O T c s)) (fun kk => rfl)
set_option maxRecDepth 100000 in
theorem e_X7_byteAt_18 (L : Nat) (xs : Nat → Int32) (E : CallT) (back : BackT) (k : Nat) (a1 : Int32) (as0 : Int32) (M : Mem) (O : Int64) (T : Tmp) (c s : Nat) :
  BK L xs E mi_X7_byteAt back (k + 1) 18 [some (.inr (.inr (40, 0))), some (.inl a1)] [.inl as0] M O T c s =
    some (.inl (some (.inl as0)), M, O, c, s) :=
  blk_of (fun q => Nat.beq q 18) (f := fun kk => some (.inl (some (.inl as0)), M, O, c, s)) (fun kk => rfl)
set_option maxRecDepth 100000 in
theorem e_X7_blanks_0 (L : Nat) (xs : Nat → Int32) (E : CallT) (back : BackT) (k : Nat)  (M : Mem) (O : Int64) (T : Tmp) (c s : Nat) :
  BK L xs E mi_X7_blanks back (k + 4) 0 [some (.inr (.inr (40, 0)))] [] M O T c s =
    xret tkT mi_X7_blanks 0 (E q_X7_byteAt [.inr (.inr (40, 0)), .inl (M 40 0 4)] M O) (BK L xs E mi_X7_blanks back (k)) 5 [some (.inr (.inr (40, 0)))] [] T c s :=
  blk_of (fun q => Nat.beq q 0) (f := fun kk => xret tkT mi_X7_blanks 0 (E q_X7_byteAt [.inr (.inr (40, 0)), .inl (M 40 0 4)] M O) (kk (k)) 5 [some (.inr (.inr (40, 0)))] [] T c s) (fun kk => rfl)
set_option maxRecDepth 100000 in
theorem e_X7_blanks_8 (L : Nat) (xs : Nat → Int32) (E : CallT) (back : BackT) (k : Nat) (as0 : Int32) (M : Mem) (O : Int64) (T : Tmp) (c s : Nat) :
  BK L xs E mi_X7_blanks back (k + 9) 8 [some (.inr (.inr (40, 0)))] [.inl as0] M O T c s =
    if as0 = 32 then (back 0 [some (.inr (.inr (40, 0)))] (mput M 40 0 4 ((M 40 0 4) + 1)) O T c s) else (some (.inl none, M, O, c, s)) :=
  blk_of (fun q => Nat.beq q 0 || Nat.beq q 8) (f := fun kk => if as0 = 32 then (back 0 [some (.inr (.inr (40, 0)))] (mput M 40 0 4 ((M 40 0 4) + 1)) O T c s) else (some (.inl none, M, O, c, s))) (fun kk => rfl)
set_option maxRecDepth 100000 in
theorem e_X7_starts_0 (L : Nat) (xs : Nat → Int32) (E : CallT) (back : BackT) (k : Nat) (a1 : Int32) (M : Mem) (O : Int64) (T : Tmp) (c s : Nat) :
  BK L xs E mi_X7_starts back (k + 20) 0 [some (.inr (.inr (40, 0))), some (.inl a1)] [] M O T c s =
    xret tkT mi_X7_starts 0 (E q_X7_blanks [.inr (.inr (40, 0))] (mput (mput (mput (mput (mput (mput M 40 0 1 0) 40 0 2 a1) 40 0 4 0) 40 0 5 0) 40 0 6 (-1)) 40 0 7 0) O) (BK L xs E mi_X7_starts back (k)) 31 [some (.inr (.inr (40, 0))), some (.inl a1)] [] T c s :=
  blk_of (fun q => Nat.beq q 0) (f := fun kk => xret tkT mi_X7_starts 0 (E q_X7_blanks [.inr (.inr (40, 0))] (mput (mput (mput (mput (mput (mput M 40 0 1 0) 40 0 2 a1) 40 0 4 0) 40 0 5 0) 40 0 6 (-1)) 40 0 7 0) O) (kk (k)) 31 [some (.inr (.inr (40, 0))), some (.inl a1)] [] T c s) (fun kk => rfl)
set_option maxRecDepth 100000 in
theorem e_X7_starts_34 (L : Nat) (xs : Nat → Int32) (E : CallT) (back : BackT) (k : Nat) (a1 : Int32) (M : Mem) (O : Int64) (T : Tmp) (c s : Nat) :
  BK L xs E mi_X7_starts back (k + 1) 34 [some (.inr (.inr (40, 0))), some (.inl a1)] [] M O T c s =
    some (.inl none, M, O, c, s) :=
  blk_of (fun q => Nat.beq q 34) (f := fun kk => some (.inl none, M, O, c, s)) (fun kk => rfl)
set_option maxRecDepth 100000 in
theorem e_X7_wrong_0 (L : Nat) (xs : Nat → Int32) (E : CallT) (back : BackT) (k : Nat) (a1 : Int32) (a2 : Int32) (M : Mem) (O : Int64) (T : Tmp) (c s : Nat) :
  BK L xs E mi_X7_wrong back (k + 9) 0 [some (.inr (.inr (40, 0))), some (.inl a1), some (.inl a2)] [] M O T c s =
    if (M 40 0 5) = 0 then (BK L xs E mi_X7_wrong back (k) 17 [some (.inr (.inr (40, 0))), some (.inl a1), some (.inl a2)] [] (mput (mput M 40 0 5 a1) 40 0 6 a2) O T c s) else (BK L xs E mi_X7_wrong back (k + 6) 17 [some (.inr (.inr (40, 0))), some (.inl a1), some (.inl a2)] [] M O T c s) :=
  blk_of (fun q => Nat.beq q 0 || Nat.beq q 17) (f := fun kk => if (M 40 0 5) = 0 then (kk (k) 17 [some (.inr (.inr (40, 0))), some (.inl a1), some (.inl a2)] [] (mput (mput M 40 0 5 a1) 40 0 6 a2) O T c s) else (kk (k + 6) 17 [some (.inr (.inr (40, 0))), some (.inl a1), some (.inl a2)] [] M O T c s)) (fun kk => rfl)
set_option maxRecDepth 100000 in
theorem e_X7_wrong_17 (L : Nat) (xs : Nat → Int32) (E : CallT) (back : BackT) (k : Nat) (a1 : Int32) (a2 : Int32) (M : Mem) (O : Int64) (T : Tmp) (c s : Nat) :
  BK L xs E mi_X7_wrong back (k + 1) 17 [some (.inr (.inr (40, 0))), some (.inl a1), some (.inl a2)] [] M O T c s =
    some (.inl none, M, O, c, s) :=
  blk_of (fun q => Nat.beq q 17) (f := fun kk => some (.inl none, M, O, c, s)) (fun kk => rfl)
set_option maxRecDepth 100000 in
theorem e_X7_isDigit_0 (L : Nat) (xs : Nat → Int32) (E : CallT) (back : BackT) (k : Nat) (a0 : Int32) (M : Mem) (O : Int64) (T : Tmp) (c s : Nat) :
  BK L xs E mi_X7_isDigit back (k + 8) 0 [some (.inl a0)] [] M O T c s =
    if a0 < 48 then (BK L xs E mi_X7_isDigit back (k + 5) 16 [some (.inl a0)] [] M O T c s) else (if (57 : Int32) < a0 then (BK L xs E mi_X7_isDigit back (k + 2) 16 [some (.inl a0)] [] M O T c s) else (BK L xs E mi_X7_isDigit back (k) 17 [some (.inl a0)] [.inl 1] M O T c s)) :=
  blk_of (fun q => Nat.beq q 0 || Nat.beq q 16 || Nat.beq q 17) (f := fun kk => if a0 < 48 then (kk (k + 5) 16 [some (.inl a0)] [] M O T c s) else (if (57 : Int32) < a0 then (kk (k + 2) 16 [some (.inl a0)] [] M O T c s) else (kk (k) 17 [some (.inl a0)] [.inl 1] M O T c s))) (fun kk => rfl)
set_option maxRecDepth 100000 in
theorem e_X7_isDigit_16 (L : Nat) (xs : Nat → Int32) (E : CallT) (back : BackT) (k : Nat) (a0 : Int32) (M : Mem) (O : Int64) (T : Tmp) (c s : Nat) :
  BK L xs E mi_X7_isDigit back (k + 1) 16 [some (.inl a0)] [] M O T c s =
    BK L xs E mi_X7_isDigit back (k) 17 [some (.inl a0)] [.inl 0] M O T c s :=
  blk_of (fun q => Nat.beq q 16 || Nat.beq q 17) (f := fun kk => kk (k) 17 [some (.inl a0)] [.inl 0] M O T c s) (fun kk => rfl)
set_option maxRecDepth 100000 in
theorem e_X7_isDigit_17 (L : Nat) (xs : Nat → Int32) (E : CallT) (back : BackT) (k : Nat) (a0 : Int32) (as0 : Int32) (M : Mem) (O : Int64) (T : Tmp) (c s : Nat) :
  BK L xs E mi_X7_isDigit back (k + 1) 17 [some (.inl a0)] [.inl as0] M O T c s =
    if (as0 : Int32) = 0 ∨ (as0 : Int32) = 1 then some (.inl (some (.inl as0)), M, O, c, s) else none :=
  blk_of (fun q => Nat.beq q 16 || Nat.beq q 17) (f := fun kk => if (as0 : Int32) = 0 ∨ (as0 : Int32) = 1 then some (.inl (some (.inl as0)), M, O, c, s) else none) (fun kk => rfl)
set_option maxRecDepth 100000 in
theorem e_X7_number_0 (L : Nat) (xs : Nat → Int32) (E : CallT) (back : BackT) (k : Nat) (a1 : Int32) (a2 : Int32) (M : Mem) (O : Int64) (T : Tmp) (c s : Nat) :
  BK L xs E mi_X7_number back (k + 5) 0 [some (.inr (.inr (40, 0))), some (.inl a1), some (.inl a2), none, none] [] M O T c s =
    if (M 40 0 5) = 0 then (xret tkT mi_X7_number 0 (E q_X7_blanks [.inr (.inr (40, 0))] M O) (BK L xs E mi_X7_number back (k)) 10 [some (.inr (.inr (40, 0))), some (.inl a1), some (.inl a2), none, none] [] T c s) else (some (.inl (some (.inl 0)), M, O, c, s)) :=
  blk_of (fun q => Nat.beq q 0 || Nat.beq q 44 || Nat.beq q 91 || Nat.beq q 122 || Nat.beq q 135) (f := fun kk => if (M 40 0 5) = 0 then (xret tkT mi_X7_number 0 (E q_X7_blanks [.inr (.inr (40, 0))] M O) (kk (k)) 10 [some (.inr (.inr (40, 0))), some (.inl a1), some (.inl a2), none, none] [] T c s) else (some (.inl (some (.inl 0)), M, O, c, s))) (fun kk => rfl)
set_option maxRecDepth 100000 in
theorem e_X7_number_13 (L : Nat) (xs : Nat → Int32) (E : CallT) (back : BackT) (k : Nat) (a1 : Int32) (a2 : Int32) (u3 : Option AV) (u4 : Option AV) (M : Mem) (O : Int64) (T : Tmp) (c s : Nat) :
  BK L xs E mi_X7_number back (k + 9) 13 [some (.inr (.inr (40, 0))), some (.inl a1), some (.inl a2), u3, u4] [] M O T c s =
    xret tkT mi_X7_number 0 (E q_X7_byteAt [.inr (.inr (40, 0)), .inl (M 40 0 4)] M O) (BK L xs E mi_X7_number back (k)) 26 [some (.inr (.inr (40, 0))), some (.inl a1), some (.inl a2), some (.inl (M 40 0 4)), some (.inl 0)] [] T c s :=
  blk_of (fun q => Nat.beq q 13 || Nat.beq q 44 || Nat.beq q 91 || Nat.beq q 122 || Nat.beq q 135) (f := fun kk => xret tkT mi_X7_number 0 (E q_X7_byteAt [.inr (.inr (40, 0)), .inl (M 40 0 4)] M O) (kk (k)) 26 [some (.inr (.inr (40, 0))), some (.inl a1), some (.inl a2), some (.inl (M 40 0 4)), some (.inl 0)] [] T c s) (fun kk => rfl)
set_option maxRecDepth 100000 in
theorem e_X7_number_29 (L : Nat) (xs : Nat → Int32) (E : CallT) (back : BackT) (k : Nat) (a1 : Int32) (a2 : Int32) (a3 : Int32) (a4 : Int32) (as0 : Int32) (M : Mem) (O : Int64) (T : Tmp) (c s : Nat) :
  BK L xs E mi_X7_number back (k + 1) 29 [some (.inr (.inr (40, 0))), some (.inl a1), some (.inl a2), some (.inl a3), some (.inl a4)] [.inl as0] M O T c s =
    xret tkT mi_X7_number 2 (E q_X7_isDigit [.inl as0] M O) (BK L xs E mi_X7_number back (k)) 29 [some (.inr (.inr (40, 0))), some (.inl a1), some (.inl a2), some (.inl a3), some (.inl a4)] [] T c s :=
  blk_of (fun q => Nat.beq q 29 || Nat.beq q 44 || Nat.beq q 91 || Nat.beq q 122 || Nat.beq q 135) (f := fun kk => xret tkT mi_X7_number 2 (E q_X7_isDigit [.inl as0] M O) (kk (k)) 29 [some (.inr (.inr (40, 0))), some (.inl a1), some (.inl a2), some (.inl a3), some (.inl a4)] [] T c s) (fun kk => rfl)
set_option maxRecDepth 100000 in
theorem e_X7_number_32 (L : Nat) (xs : Nat → Int32) (E : CallT) (back : BackT) (k : Nat) (a1 : Int32) (a2 : Int32) (a3 : Int32) (a4 : Int32) (as0 : Int32) (M : Mem) (O : Int64) (T : Tmp) (c s : Nat) :
  BK L xs E mi_X7_number back (k + 6) 32 [some (.inr (.inr (40, 0))), some (.inl a1), some (.inl a2), some (.inl a3), some (.inl a4)] [.inl as0] M O T c s =
    if as0 = 0 then (xret tkT mi_X7_number 0 (E q_X7_wrong [.inr (.inr (40, 0)), .inl 1, .inl (M 40 0 4)] M O) (BK L xs E mi_X7_number back (k)) 41 [some (.inr (.inr (40, 0))), some (.inl a1), some (.inl a2), some (.inl a3), some (.inl a4)] [] T c s) else (BK L xs E mi_X7_number back (k + 5) 44 [some (.inr (.inr (40, 0))), some (.inl a1), some (.inl a2), some (.inl a3), some (.inl a4)] [] M O T c s) :=
  blk_of (fun q => Nat.beq q 32 || Nat.beq q 44 || Nat.beq q 91 || Nat.beq q 122 || Nat.beq q 135) (f := fun kk => if as0 = 0 then (xret tkT mi_X7_number 0 (E q_X7_wrong [.inr (.inr (40, 0)), .inl 1, .inl (M 40 0 4)] M O) (kk (k)) 41 [some (.inr (.inr (40, 0))), some (.inl a1), some (.inl a2), some (.inl a3), some (.inl a4)] [] T c s) else (kk (k + 5) 44 [some (.inr (.inr (40, 0))), some (.inl a1), some (.inl a2), some (.inl a3), some (.inl a4)] [] M O T c s)) (fun kk => rfl)
set_option maxRecDepth 100000 in
theorem e_X7_number_44 (L : Nat) (xs : Nat → Int32) (E : CallT) (back : BackT) (k : Nat) (a1 : Int32) (a2 : Int32) (a3 : Int32) (a4 : Int32) (M : Mem) (O : Int64) (T : Tmp) (c s : Nat) :
  BK L xs E mi_X7_number back (k + 4) 44 [some (.inr (.inr (40, 0))), some (.inl a1), some (.inl a2), some (.inl a3), some (.inl a4)] [] M O T c s =
    xret tkT mi_X7_number 0 (E q_X7_byteAt [.inr (.inr (40, 0)), .inl (M 40 0 4)] M O) (BK L xs E mi_X7_number back (k)) 49 [some (.inr (.inr (40, 0))), some (.inl a1), some (.inl a2), some (.inl a3), some (.inl a4)] [] T c s :=
  blk_of (fun q => Nat.beq q 44 || Nat.beq q 91 || Nat.beq q 122 || Nat.beq q 135) (f := fun kk => xret tkT mi_X7_number 0 (E q_X7_byteAt [.inr (.inr (40, 0)), .inl (M 40 0 4)] M O) (kk (k)) 49 [some (.inr (.inr (40, 0))), some (.inl a1), some (.inl a2), some (.inl a3), some (.inl a4)] [] T c s) (fun kk => rfl)
set_option maxRecDepth 100000 in
theorem e_X7_number_52 (L : Nat) (xs : Nat → Int32) (E : CallT) (back : BackT) (k : Nat) (a1 : Int32) (a2 : Int32) (a3 : Int32) (a4 : Int32) (as0 : Int32) (M : Mem) (O : Int64) (T : Tmp) (c s : Nat) :
  BK L xs E mi_X7_number back (k + 1) 52 [some (.inr (.inr (40, 0))), some (.inl a1), some (.inl a2), some (.inl a3), some (.inl a4)] [.inl as0] M O T c s =
    xret tkT mi_X7_number 2 (E q_X7_isDigit [.inl as0] M O) (BK L xs E mi_X7_number back (k)) 52 [some (.inr (.inr (40, 0))), some (.inl a1), some (.inl a2), some (.inl a3), some (.inl a4)] [] T c s :=
  blk_of (fun q => Nat.beq q 44 || Nat.beq q 52 || Nat.beq q 91 || Nat.beq q 122 || Nat.beq q 135) (f := fun kk => xret tkT mi_X7_number 2 (E q_X7_isDigit [.inl as0] M O) (kk (k)) 52 [some (.inr (.inr (40, 0))), some (.inl a1), some (.inl a2), some (.inl a3), some (.inl a4)] [] T c s) (fun kk => rfl)
set_option maxRecDepth 100000 in
theorem e_X7_number_55 (L : Nat) (xs : Nat → Int32) (E : CallT) (back : BackT) (k : Nat) (a1 : Int32) (a2 : Int32) (a3 : Int32) (a4 : Int32) (as0 : Int32) (M : Mem) (O : Int64) (T : Tmp) (c s : Nat) :
  BK L xs E mi_X7_number back (k + 8) 55 [some (.inr (.inr (40, 0))), some (.inl a1), some (.inl a2), some (.inl a3), some (.inl a4)] [.inl as0] M O T c s =
    if as0 = 0 then (xret tkT mi_X7_number 2 (E q_X7_in [.inl a4, .inl a1, .inl a2] M O) (BK L xs E mi_X7_number back (k + 3)) 110 [some (.inr (.inr (40, 0))), some (.inl a1), some (.inl a2), some (.inl a3), some (.inl a4)] [] T c s) else (xret tkT mi_X7_number 0 (E q_X7_byteAt [.inr (.inr (40, 0)), .inl (M 40 0 4)] M O) (BK L xs E mi_X7_number back (k)) 68 [some (.inr (.inr (40, 0))), some (.inl a1), some (.inl a2), some (.inl a3), some (.inl a4)] [.inl (10 * a4)] T c s) :=
  blk_of (fun q => Nat.beq q 44 || Nat.beq q 55 || Nat.beq q 91 || Nat.beq q 122 || Nat.beq q 135) (f := fun kk => if as0 = 0 then (xret tkT mi_X7_number 2 (E q_X7_in [.inl a4, .inl a1, .inl a2] M O) (kk (k + 3)) 110 [some (.inr (.inr (40, 0))), some (.inl a1), some (.inl a2), some (.inl a3), some (.inl a4)] [] T c s) else (xret tkT mi_X7_number 0 (E q_X7_byteAt [.inr (.inr (40, 0)), .inl (M 40 0 4)] M O) (kk (k)) 68 [some (.inr (.inr (40, 0))), some (.inl a1), some (.inl a2), some (.inl a3), some (.inl a4)] [.inl (10 * a4)] T c s)) (fun kk => rfl)
set_option maxRecDepth 100000 in
theorem e_X7_number_113 (L : Nat) (xs : Nat → Int32) (E : CallT) (back : BackT) (k : Nat) (a1 : Int32) (a2 : Int32) (a3 : Int32) (a4 : Int32) (as0 : Int32) (M : Mem) (O : Int64) (T : Tmp) (c s : Nat) :
  BK L xs E mi_X7_number back (k + 5) 113 [some (.inr (.inr (40, 0))), some (.inl a1), some (.inl a2), some (.inl a3), some (.inl a4)] [.inl as0] M O T c s =
    if as0 = 0 then (xret tkT mi_X7_number 0 (E q_X7_wrong [.inr (.inr (40, 0)), .inl 2, .inl a3] M O) (BK L xs E mi_X7_number back (k)) 119 [some (.inr (.inr (40, 0))), some (.inl a1), some (.inl a2), some (.inl a3), some (.inl a4)] [] T c s) else (BK L xs E mi_X7_number back (k + 4) 122 [some (.inr (.inr (40, 0))), some (.inl a1), some (.inl a2), some (.inl a3), some (.inl a4)] [] M O T c s) :=
  blk_of (fun q => Nat.beq q 44 || Nat.beq q 91 || Nat.beq q 113 || Nat.beq q 122 || Nat.beq q 135) (f := fun kk => if as0 = 0 then (xret tkT mi_X7_number 0 (E q_X7_wrong [.inr (.inr (40, 0)), .inl 2, .inl a3] M O) (kk (k)) 119 [some (.inr (.inr (40, 0))), some (.inl a1), some (.inl a2), some (.inl a3), some (.inl a4)] [] T c s) else (kk (k + 4) 122 [some (.inr (.inr (40, 0))), some (.inl a1), some (.inl a2), some (.inl a3), some (.inl a4)] [] M O T c s)) (fun kk => rfl)
set_option maxRecDepth 100000 in
theorem e_X7_number_71 (L : Nat) (xs : Nat → Int32) (E : CallT) (back : BackT) (k : Nat) (a1 : Int32) (a2 : Int32) (a3 : Int32) (a4 : Int32) (as0 : Int32) (as1 : Int32) (M : Mem) (O : Int64) (T : Tmp) (c s : Nat) :
  BK L xs E mi_X7_number back (k + 9) 71 [some (.inr (.inr (40, 0))), some (.inl a1), some (.inl a2), some (.inl a3), some (.inl a4)] [.inl as0, .inl as1] M O T c s =
    if ((as1 + as0) - 48) ≤ 100000000 then (BK L xs E mi_X7_number back (k + 1) 91 [some (.inr (.inr (40, 0))), some (.inl a1), some (.inl a2), some (.inl a3), some (.inl ((as1 + as0) - 48))] [.inl ((as1 + as0) - 48)] M O T c s) else (BK L xs E mi_X7_number back (k) 91 [some (.inr (.inr (40, 0))), some (.inl a1), some (.inl a2), some (.inl a3), some (.inl ((as1 + as0) - 48))] [.inl 100000000] M O T c s) :=
  blk_of (fun q => Nat.beq q 44 || Nat.beq q 71 || Nat.beq q 91 || Nat.beq q 122 || Nat.beq q 135) (f := fun kk => if ((as1 + as0) - 48) ≤ 100000000 then (kk (k + 1) 91 [some (.inr (.inr (40, 0))), some (.inl a1), some (.inl a2), some (.inl a3), some (.inl ((as1 + as0) - 48))] [.inl ((as1 + as0) - 48)] M O T c s) else (kk (k) 91 [some (.inr (.inr (40, 0))), some (.inl a1), some (.inl a2), some (.inl a3), some (.inl ((as1 + as0) - 48))] [.inl 100000000] M O T c s)) (fun kk => rfl)
set_option maxRecDepth 100000 in
theorem e_X7_number_122 (L : Nat) (xs : Nat → Int32) (E : CallT) (back : BackT) (k : Nat) (a1 : Int32) (a2 : Int32) (a3 : Int32) (a4 : Int32) (M : Mem) (O : Int64) (T : Tmp) (c s : Nat) :
  BK L xs E mi_X7_number back (k + 5) 122 [some (.inr (.inr (40, 0))), some (.inl a1), some (.inl a2), some (.inl a3), some (.inl a4)] [] M O T c s =
    if (M 40 0 5) = 0 then (BK L xs E mi_X7_number back (k) 135 [some (.inr (.inr (40, 0))), some (.inl a1), some (.inl a2), some (.inl a3), some (.inl a4)] [.inl a4] M O T c s) else (BK L xs E mi_X7_number back (k + 1) 135 [some (.inr (.inr (40, 0))), some (.inl a1), some (.inl a2), some (.inl a3), some (.inl a4)] [.inl 0] M O T c s) :=
  blk_of (fun q => Nat.beq q 44 || Nat.beq q 91 || Nat.beq q 122 || Nat.beq q 135) (f := fun kk => if (M 40 0 5) = 0 then (kk (k) 135 [some (.inr (.inr (40, 0))), some (.inl a1), some (.inl a2), some (.inl a3), some (.inl a4)] [.inl a4] M O T c s) else (kk (k + 1) 135 [some (.inr (.inr (40, 0))), some (.inl a1), some (.inl a2), some (.inl a3), some (.inl a4)] [.inl 0] M O T c s)) (fun kk => rfl)
set_option maxRecDepth 100000 in
theorem e_X7_number_91 (L : Nat) (xs : Nat → Int32) (E : CallT) (back : BackT) (k : Nat) (a1 : Int32) (a2 : Int32) (a3 : Int32) (a4 : Int32) (as0 : Int32) (M : Mem) (O : Int64) (T : Tmp) (c s : Nat) :
  BK L xs E mi_X7_number back (k + 8) 91 [some (.inr (.inr (40, 0))), some (.inl a1), some (.inl a2), some (.inl a3), some (.inl a4)] [.inl as0] M O T c s =
    back 44 [some (.inr (.inr (40, 0))), some (.inl a1), some (.inl a2), some (.inl a3), some (.inl as0)] (mput M 40 0 4 ((M 40 0 4) + 1)) O T c s :=
  blk_of (fun q => Nat.beq q 44 || Nat.beq q 91 || Nat.beq q 122 || Nat.beq q 135) (f := fun kk => back 44 [some (.inr (.inr (40, 0))), some (.inl a1), some (.inl a2), some (.inl a3), some (.inl as0)] (mput M 40 0 4 ((M 40 0 4) + 1)) O T c s) (fun kk => rfl)
set_option maxRecDepth 100000 in
theorem e_X7_number_135 (L : Nat) (xs : Nat → Int32) (E : CallT) (back : BackT) (k : Nat) (a1 : Int32) (a2 : Int32) (a3 : Int32) (a4 : Int32) (as0 : Int32) (M : Mem) (O : Int64) (T : Tmp) (c s : Nat) :
  BK L xs E mi_X7_number back (k + 1) 135 [some (.inr (.inr (40, 0))), some (.inl a1), some (.inl a2), some (.inl a3), some (.inl a4)] [.inl as0] M O T c s =
    some (.inl (some (.inl as0)), M, O, c, s) :=
  blk_of (fun q => Nat.beq q 44 || Nat.beq q 91 || Nat.beq q 122 || Nat.beq q 135) (f := fun kk => some (.inl (some (.inl as0)), M, O, c, s)) (fun kk => rfl)
set_option maxRecDepth 100000 in
theorem e_X7_skipWord_0 (L : Nat) (xs : Nat → Int32) (E : CallT) (back : BackT) (k : Nat)  (M : Mem) (O : Int64) (T : Tmp) (c s : Nat) :
  BK L xs E mi_X7_skipWord back (k + 4) 0 [some (.inr (.inr (40, 0)))] [] M O T c s =
    xret tkT mi_X7_skipWord 0 (E q_X7_byteAt [.inr (.inr (40, 0)), .inl (M 40 0 4)] M O) (BK L xs E mi_X7_skipWord back (k)) 5 [some (.inr (.inr (40, 0)))] [] T c s :=
  blk_of (fun q => Nat.beq q 0 || Nat.beq q 39) (f := fun kk => xret tkT mi_X7_skipWord 0 (E q_X7_byteAt [.inr (.inr (40, 0)), .inl (M 40 0 4)] M O) (kk (k)) 5 [some (.inr (.inr (40, 0)))] [] T c s) (fun kk => rfl)
set_option maxRecDepth 100000 in
theorem e_X7_skipWord_8 (L : Nat) (xs : Nat → Int32) (E : CallT) (back : BackT) (k : Nat) (as0 : Int32) (M : Mem) (O : Int64) (T : Tmp) (c s : Nat) :
  BK L xs E mi_X7_skipWord back (k + 6) 8 [some (.inr (.inr (40, 0)))] [.inl as0] M O T c s =
    if as0 < 97 then (BK L xs E mi_X7_skipWord back (k + 4) 39 [some (.inr (.inr (40, 0)))] [] M O T c s) else (xret tkT mi_X7_skipWord 0 (E q_X7_byteAt [.inr (.inr (40, 0)), .inl (M 40 0 4)] M O) (BK L xs E mi_X7_skipWord back (k)) 18 [some (.inr (.inr (40, 0)))] [] T c s) :=
  blk_of (fun q => Nat.beq q 0 || Nat.beq q 8 || Nat.beq q 39) (f := fun kk => if as0 < 97 then (kk (k + 4) 39 [some (.inr (.inr (40, 0)))] [] M O T c s) else (xret tkT mi_X7_skipWord 0 (E q_X7_byteAt [.inr (.inr (40, 0)), .inl (M 40 0 4)] M O) (kk (k)) 18 [some (.inr (.inr (40, 0)))] [] T c s)) (fun kk => rfl)
set_option maxRecDepth 100000 in
theorem e_X7_skipWord_39 (L : Nat) (xs : Nat → Int32) (E : CallT) (back : BackT) (k : Nat)  (M : Mem) (O : Int64) (T : Tmp) (c s : Nat) :
  BK L xs E mi_X7_skipWord back (k + 1) 39 [some (.inr (.inr (40, 0)))] [] M O T c s =
    some (.inl none, M, O, c, s) :=
  blk_of (fun q => Nat.beq q 0 || Nat.beq q 39) (f := fun kk => some (.inl none, M, O, c, s)) (fun kk => rfl)
set_option maxRecDepth 100000 in
theorem e_X7_skipWord_21 (L : Nat) (xs : Nat → Int32) (E : CallT) (back : BackT) (k : Nat) (as0 : Int32) (M : Mem) (O : Int64) (T : Tmp) (c s : Nat) :
  BK L xs E mi_X7_skipWord back (k + 9) 21 [some (.inr (.inr (40, 0)))] [.inl as0] M O T c s =
    if (122 : Int32) < as0 then (BK L xs E mi_X7_skipWord back (k + 7) 39 [some (.inr (.inr (40, 0)))] [] M O T c s) else (back 0 [some (.inr (.inr (40, 0)))] (mput M 40 0 4 ((M 40 0 4) + 1)) O T c s) :=
  blk_of (fun q => Nat.beq q 0 || Nat.beq q 21 || Nat.beq q 39) (f := fun kk => if (122 : Int32) < as0 then (kk (k + 7) 39 [some (.inr (.inr (40, 0)))] [] M O T c s) else (back 0 [some (.inr (.inr (40, 0)))] (mput M 40 0 4 ((M 40 0 4) + 1)) O T c s)) (fun kk => rfl)
set_option maxRecDepth 100000 in
theorem e_X7_closes_0 (L : Nat) (xs : Nat → Int32) (E : CallT) (back : BackT) (k : Nat)  (M : Mem) (O : Int64) (T : Tmp) (c s : Nat) :
  BK L xs E mi_X7_closes back (k + 5) 0 [some (.inr (.inr (40, 0)))] [] M O T c s =
    if (M 40 0 5) = 0 then (xret tkT mi_X7_closes 0 (E q_X7_blanks [.inr (.inr (40, 0))] M O) (BK L xs E mi_X7_closes back (k)) 9 [some (.inr (.inr (40, 0)))] [] T c s) else (some (.inl none, M, O, c, s)) :=
  blk_of (fun q => Nat.beq q 0 || Nat.beq q 47) (f := fun kk => if (M 40 0 5) = 0 then (xret tkT mi_X7_closes 0 (E q_X7_blanks [.inr (.inr (40, 0))] M O) (kk (k)) 9 [some (.inr (.inr (40, 0)))] [] T c s) else (some (.inl none, M, O, c, s))) (fun kk => rfl)
set_option maxRecDepth 100000 in
theorem e_X7_closes_12 (L : Nat) (xs : Nat → Int32) (E : CallT) (back : BackT) (k : Nat)  (M : Mem) (O : Int64) (T : Tmp) (c s : Nat) :
  BK L xs E mi_X7_closes back (k + 4) 12 [some (.inr (.inr (40, 0)))] [] M O T c s =
    xret tkT mi_X7_closes 0 (E q_X7_byteAt [.inr (.inr (40, 0)), .inl (M 40 0 4)] M O) (BK L xs E mi_X7_closes back (k)) 17 [some (.inr (.inr (40, 0)))] [] T c s :=
  blk_of (fun q => Nat.beq q 12 || Nat.beq q 47) (f := fun kk => xret tkT mi_X7_closes 0 (E q_X7_byteAt [.inr (.inr (40, 0)), .inl (M 40 0 4)] M O) (kk (k)) 17 [some (.inr (.inr (40, 0)))] [] T c s) (fun kk => rfl)
set_option maxRecDepth 100000 in
theorem e_X7_closes_20 (L : Nat) (xs : Nat → Int32) (E : CallT) (back : BackT) (k : Nat) (as0 : Int32) (M : Mem) (O : Int64) (T : Tmp) (c s : Nat) :
  BK L xs E mi_X7_closes back (k + 9) 20 [some (.inr (.inr (40, 0)))] [.inl as0] M O T c s =
    if as0 = 59 then (BK L xs E mi_X7_closes back (k) 47 [some (.inr (.inr (40, 0)))] [] (mput M 40 0 4 ((M 40 0 4) + 1)) O T c s) else (xret tkT mi_X7_closes 0 (E q_X7_wrong [.inr (.inr (40, 0)), .inl 1, .inl (M 40 0 4)] M O) (BK L xs E mi_X7_closes back (k + 2)) 44 [some (.inr (.inr (40, 0)))] [] T c s) :=
  blk_of (fun q => Nat.beq q 20 || Nat.beq q 47) (f := fun kk => if as0 = 59 then (kk (k) 47 [some (.inr (.inr (40, 0)))] [] (mput M 40 0 4 ((M 40 0 4) + 1)) O T c s) else (xret tkT mi_X7_closes 0 (E q_X7_wrong [.inr (.inr (40, 0)), .inl 1, .inl (M 40 0 4)] M O) (kk (k + 2)) 44 [some (.inr (.inr (40, 0)))] [] T c s)) (fun kk => rfl)
set_option maxRecDepth 100000 in
theorem e_X7_closes_47 (L : Nat) (xs : Nat → Int32) (E : CallT) (back : BackT) (k : Nat)  (M : Mem) (O : Int64) (T : Tmp) (c s : Nat) :
  BK L xs E mi_X7_closes back (k + 1) 47 [some (.inr (.inr (40, 0)))] [] M O T c s =
    some (.inl none, M, O, c, s) :=
  blk_of (fun q => Nat.beq q 47) (f := fun kk => some (.inl none, M, O, c, s)) (fun kk => rfl)
set_option maxRecDepth 100000 in
theorem e_X7_wordHere_0 (L : Nat) (xs : Nat → Int32) (E : CallT) (back : BackT) (k : Nat)  (M : Mem) (O : Int64) (T : Tmp) (c s : Nat) :
  BK L xs E mi_X7_wordHere back (k + 2) 0 [some (.inr (.inr (40, 0))), none, none] [] M O T c s =
    xret tkT mi_X7_wordHere 0 (E q_X7_blanks [.inr (.inr (40, 0))] M O) (BK L xs E mi_X7_wordHere back (k)) 1 [some (.inr (.inr (40, 0))), none, none] [] T c s :=
  blk_of (fun q => Nat.beq q 0 || Nat.beq q 8 || Nat.beq q 68 || Nat.beq q 75 || Nat.beq q 86) (f := fun kk => xret tkT mi_X7_wordHere 0 (E q_X7_blanks [.inr (.inr (40, 0))] M O) (kk (k)) 1 [some (.inr (.inr (40, 0))), none, none] [] T c s) (fun kk => rfl)
set_option maxRecDepth 100000 in
theorem e_X7_wordHere_4 (L : Nat) (xs : Nat → Int32) (E : CallT) (back : BackT) (k : Nat) (u1 : Option AV) (u2 : Option AV) (M : Mem) (O : Int64) (T : Tmp) (c s : Nat) :
  BK L xs E mi_X7_wordHere back (k + 4) 4 [some (.inr (.inr (40, 0))), u1, u2] [] M O T c s =
    BK L xs E mi_X7_wordHere back (k) 8 [some (.inr (.inr (40, 0))), some (.inl 0), some (.inl 0)] [] M O T c s :=
  blk_of (fun q => Nat.beq q 4 || Nat.beq q 8 || Nat.beq q 68 || Nat.beq q 75 || Nat.beq q 86) (f := fun kk => kk (k) 8 [some (.inr (.inr (40, 0))), some (.inl 0), some (.inl 0)] [] M O T c s) (fun kk => rfl)
set_option maxRecDepth 100000 in
theorem e_X7_wordHere_8 (L : Nat) (xs : Nat → Int32) (E : CallT) (back : BackT) (k : Nat) (a1 : Int32) (a2 : Int32) (M : Mem) (O : Int64) (T : Tmp) (c s : Nat) :
  BK L xs E mi_X7_wordHere back (k + 6) 8 [some (.inr (.inr (40, 0))), some (.inl a1), some (.inl a2)] [] M O T c s =
    xret tkT mi_X7_wordHere 0 (E q_X7_byteAt [.inr (.inr (40, 0)), .inl ((M 40 0 4) + a2)] M O) (BK L xs E mi_X7_wordHere back (k)) 15 [some (.inr (.inr (40, 0))), some (.inl a1), some (.inl a2)] [] T c s :=
  blk_of (fun q => Nat.beq q 8 || Nat.beq q 68 || Nat.beq q 75 || Nat.beq q 86) (f := fun kk => xret tkT mi_X7_wordHere 0 (E q_X7_byteAt [.inr (.inr (40, 0)), .inl ((M 40 0 4) + a2)] M O) (kk (k)) 15 [some (.inr (.inr (40, 0))), some (.inl a1), some (.inl a2)] [] T c s) (fun kk => rfl)
set_option maxRecDepth 100000 in
theorem e_X7_wordHere_18 (L : Nat) (xs : Nat → Int32) (E : CallT) (back : BackT) (k : Nat) (a1 : Int32) (a2 : Int32) (as0 : Int32) (M : Mem) (O : Int64) (T : Tmp) (c s : Nat) :
  BK L xs E mi_X7_wordHere back (k + 8) 18 [some (.inr (.inr (40, 0))), some (.inl a1), some (.inl a2)] [.inl as0] M O T c s =
    if as0 < 97 then (BK L xs E mi_X7_wordHere back (k + 6) 75 [some (.inr (.inr (40, 0))), some (.inl a1), some (.inl a2)] [] M O T c s) else (xret tkT mi_X7_wordHere 0 (E q_X7_byteAt [.inr (.inr (40, 0)), .inl ((M 40 0 4) + a2)] M O) (BK L xs E mi_X7_wordHere back (k)) 30 [some (.inr (.inr (40, 0))), some (.inl a1), some (.inl a2)] [] T c s) :=
  blk_of (fun q => Nat.beq q 8 || Nat.beq q 18 || Nat.beq q 68 || Nat.beq q 75 || Nat.beq q 86) (f := fun kk => if as0 < 97 then (kk (k + 6) 75 [some (.inr (.inr (40, 0))), some (.inl a1), some (.inl a2)] [] M O T c s) else (xret tkT mi_X7_wordHere 0 (E q_X7_byteAt [.inr (.inr (40, 0)), .inl ((M 40 0 4) + a2)] M O) (kk (k)) 30 [some (.inr (.inr (40, 0))), some (.inl a1), some (.inl a2)] [] T c s)) (fun kk => rfl)
set_option maxRecDepth 100000 in
theorem e_X7_wordHere_75 (L : Nat) (xs : Nat → Int32) (E : CallT) (back : BackT) (k : Nat) (a1 : Int32) (a2 : Int32) (M : Mem) (O : Int64) (T : Tmp) (c s : Nat) :
  BK L xs E mi_X7_wordHere back (k + 5) 75 [some (.inr (.inr (40, 0))), some (.inl a1), some (.inl a2)] [] M O T c s =
    if a2 ≤ 6 then (BK L xs E mi_X7_wordHere back (k + 1) 86 [some (.inr (.inr (40, 0))), some (.inl a1), some (.inl a2)] [.inl a1] M O T c s) else (BK L xs E mi_X7_wordHere back (k) 86 [some (.inr (.inr (40, 0))), some (.inl a1), some (.inl a2)] [.inl (-1)] M O T c s) :=
  blk_of (fun q => Nat.beq q 8 || Nat.beq q 68 || Nat.beq q 75 || Nat.beq q 86) (f := fun kk => if a2 ≤ 6 then (kk (k + 1) 86 [some (.inr (.inr (40, 0))), some (.inl a1), some (.inl a2)] [.inl a1] M O T c s) else (kk (k) 86 [some (.inr (.inr (40, 0))), some (.inl a1), some (.inl a2)] [.inl (-1)] M O T c s)) (fun kk => rfl)
set_option maxRecDepth 100000 in
theorem e_X7_wordHere_33 (L : Nat) (xs : Nat → Int32) (E : CallT) (back : BackT) (k : Nat) (a1 : Int32) (a2 : Int32) (as0 : Int32) (M : Mem) (O : Int64) (T : Tmp) (c s : Nat) :
  BK L xs E mi_X7_wordHere back (k + 14) 33 [some (.inr (.inr (40, 0))), some (.inl a1), some (.inl a2)] [.inl as0] M O T c s =
    if (122 : Int32) < as0 then (BK L xs E mi_X7_wordHere back (k + 12) 75 [some (.inr (.inr (40, 0))), some (.inl a1), some (.inl a2)] [] M O T c s) else (if (6 : Int32) ≤ a2 then (BK L xs E mi_X7_wordHere back (k + 8) 68 [some (.inr (.inr (40, 0))), some (.inl a1), some (.inl a2)] [.inl a1] M O T c s) else (xret tkT mi_X7_wordHere 0 (E q_X7_byteAt [.inr (.inr (40, 0)), .inl ((M 40 0 4) + a2)] M O) (BK L xs E mi_X7_wordHere back (k)) 55 [some (.inr (.inr (40, 0))), some (.inl a1), some (.inl a2)] [.inl (27 * a1)] T c s)) :=
  blk_of (fun q => Nat.beq q 8 || Nat.beq q 33 || Nat.beq q 68 || Nat.beq q 75 || Nat.beq q 86) (f := fun kk => if (122 : Int32) < as0 then (kk (k + 12) 75 [some (.inr (.inr (40, 0))), some (.inl a1), some (.inl a2)] [] M O T c s) else (if (6 : Int32) ≤ a2 then (kk (k + 8) 68 [some (.inr (.inr (40, 0))), some (.inl a1), some (.inl a2)] [.inl a1] M O T c s) else (xret tkT mi_X7_wordHere 0 (E q_X7_byteAt [.inr (.inr (40, 0)), .inl ((M 40 0 4) + a2)] M O) (kk (k)) 55 [some (.inr (.inr (40, 0))), some (.inl a1), some (.inl a2)] [.inl (27 * a1)] T c s))) (fun kk => rfl)
set_option maxRecDepth 100000 in
theorem e_X7_wordHere_86 (L : Nat) (xs : Nat → Int32) (E : CallT) (back : BackT) (k : Nat) (a1 : Int32) (a2 : Int32) (as0 : Int32) (M : Mem) (O : Int64) (T : Tmp) (c s : Nat) :
  BK L xs E mi_X7_wordHere back (k + 1) 86 [some (.inr (.inr (40, 0))), some (.inl a1), some (.inl a2)] [.inl as0] M O T c s =
    some (.inl (some (.inl as0)), M, O, c, s) :=
  blk_of (fun q => Nat.beq q 8 || Nat.beq q 68 || Nat.beq q 75 || Nat.beq q 86) (f := fun kk => some (.inl (some (.inl as0)), M, O, c, s)) (fun kk => rfl)
set_option maxRecDepth 100000 in
theorem e_X7_wordHere_68 (L : Nat) (xs : Nat → Int32) (E : CallT) (back : BackT) (k : Nat) (a1 : Int32) (a2 : Int32) (as0 : Int32) (M : Mem) (O : Int64) (T : Tmp) (c s : Nat) :
  BK L xs E mi_X7_wordHere back (k + 3) 68 [some (.inr (.inr (40, 0))), some (.inl a1), some (.inl a2)] [.inl as0] M O T c s =
    back 8 [some (.inr (.inr (40, 0))), some (.inl as0), some (.inl (a2 + 1))] M O T c s :=
  blk_of (fun q => Nat.beq q 8 || Nat.beq q 68 || Nat.beq q 75 || Nat.beq q 86) (f := fun kk => back 8 [some (.inr (.inr (40, 0))), some (.inl as0), some (.inl (a2 + 1))] M O T c s) (fun kk => rfl)
set_option maxRecDepth 100000 in
theorem e_X7_wordHere_58 (L : Nat) (xs : Nat → Int32) (E : CallT) (back : BackT) (k : Nat) (a1 : Int32) (a2 : Int32) (as0 : Int32) (as1 : Int32) (M : Mem) (O : Int64) (T : Tmp) (c s : Nat) :
  BK L xs E mi_X7_wordHere back (k + 6) 58 [some (.inr (.inr (40, 0))), some (.inl a1), some (.inl a2)] [.inl as0, .inl as1] M O T c s =
    BK L xs E mi_X7_wordHere back (k) 68 [some (.inr (.inr (40, 0))), some (.inl a1), some (.inl a2)] [.inl (((as1 + as0) - 97) + 1)] M O T c s :=
  blk_of (fun q => Nat.beq q 8 || Nat.beq q 58 || Nat.beq q 68 || Nat.beq q 75 || Nat.beq q 86) (f := fun kk => kk (k) 68 [some (.inr (.inr (40, 0))), some (.inl a1), some (.inl a2)] [.inl (((as1 + as0) - 97) + 1)] M O T c s) (fun kk => rfl)
set_option maxRecDepth 100000 in
theorem e_X7_six_0 (L : Nat) (xs : Nat → Int32) (E : CallT) (back : BackT) (k : Nat) (a0 : Int32) (a1 : Int32) (a2 : Int32) (a3 : Int32) (a4 : Int32) (a5 : Int32) (M : Mem) (O : Int64) (T : Tmp) (c s : Nat) :
  BK L xs E mi_X7_six back (k + 17) 0 [some (.inl a0), some (.inl a1), some (.inl a2), some (.inl a3), some (.inl a4), some (.inl a5), none] [] M O T c s =
    if a3 = 0 then (BK L xs E mi_X7_six back (k + 3) 29 [some (.inl a0), some (.inl a1), some (.inl a2), some (.inl a3), some (.inl a4), some (.inl a5), some (.inl ((27 * ((27 * a0) + a1)) + a2))] [.inl ((27 * ((27 * a0) + a1)) + a2)] M O T c s) else (BK L xs E mi_X7_six back (k) 29 [some (.inl a0), some (.inl a1), some (.inl a2), some (.inl a3), some (.inl a4), some (.inl a5), some (.inl ((27 * ((27 * a0) + a1)) + a2))] [.inl ((27 * ((27 * ((27 * a0) + a1)) + a2)) + a3)] M O T c s) :=
  blk_of (fun q => Nat.beq q 0 || Nat.beq q 29 || Nat.beq q 49 || Nat.beq q 69) (f := fun kk => if a3 = 0 then (kk (k + 3) 29 [some (.inl a0), some (.inl a1), some (.inl a2), some (.inl a3), some (.inl a4), some (.inl a5), some (.inl ((27 * ((27 * a0) + a1)) + a2))] [.inl ((27 * ((27 * a0) + a1)) + a2)] M O T c s) else (kk (k) 29 [some (.inl a0), some (.inl a1), some (.inl a2), some (.inl a3), some (.inl a4), some (.inl a5), some (.inl ((27 * ((27 * a0) + a1)) + a2))] [.inl ((27 * ((27 * ((27 * a0) + a1)) + a2)) + a3)] M O T c s)) (fun kk => rfl)
set_option maxRecDepth 100000 in
theorem e_X7_six_29 (L : Nat) (xs : Nat → Int32) (E : CallT) (back : BackT) (k : Nat) (a0 : Int32) (a1 : Int32) (a2 : Int32) (a3 : Int32) (a4 : Int32) (a5 : Int32) (a6 : Int32) (as0 : Int32) (M : Mem) (O : Int64) (T : Tmp) (c s : Nat) :
  BK L xs E mi_X7_six back (k + 8) 29 [some (.inl a0), some (.inl a1), some (.inl a2), some (.inl a3), some (.inl a4), some (.inl a5), some (.inl a6)] [.inl as0] M O T c s =
    if a4 = 0 then (BK L xs E mi_X7_six back (k + 3) 49 [some (.inl a0), some (.inl a1), some (.inl a2), some (.inl a3), some (.inl a4), some (.inl a5), some (.inl as0)] [.inl as0] M O T c s) else (BK L xs E mi_X7_six back (k) 49 [some (.inl a0), some (.inl a1), some (.inl a2), some (.inl a3), some (.inl a4), some (.inl a5), some (.inl as0)] [.inl ((27 * as0) + a4)] M O T c s) :=
  blk_of (fun q => Nat.beq q 29 || Nat.beq q 49 || Nat.beq q 69) (f := fun kk => if a4 = 0 then (kk (k + 3) 49 [some (.inl a0), some (.inl a1), some (.inl a2), some (.inl a3), some (.inl a4), some (.inl a5), some (.inl as0)] [.inl as0] M O T c s) else (kk (k) 49 [some (.inl a0), some (.inl a1), some (.inl a2), some (.inl a3), some (.inl a4), some (.inl a5), some (.inl as0)] [.inl ((27 * as0) + a4)] M O T c s)) (fun kk => rfl)
set_option maxRecDepth 100000 in
theorem e_X7_six_49 (L : Nat) (xs : Nat → Int32) (E : CallT) (back : BackT) (k : Nat) (a0 : Int32) (a1 : Int32) (a2 : Int32) (a3 : Int32) (a4 : Int32) (a5 : Int32) (a6 : Int32) (as0 : Int32) (M : Mem) (O : Int64) (T : Tmp) (c s : Nat) :
  BK L xs E mi_X7_six back (k + 8) 49 [some (.inl a0), some (.inl a1), some (.inl a2), some (.inl a3), some (.inl a4), some (.inl a5), some (.inl a6)] [.inl as0] M O T c s =
    if a5 = 0 then (BK L xs E mi_X7_six back (k + 3) 69 [some (.inl a0), some (.inl a1), some (.inl a2), some (.inl a3), some (.inl a4), some (.inl a5), some (.inl as0)] [.inl as0] M O T c s) else (BK L xs E mi_X7_six back (k) 69 [some (.inl a0), some (.inl a1), some (.inl a2), some (.inl a3), some (.inl a4), some (.inl a5), some (.inl as0)] [.inl ((27 * as0) + a5)] M O T c s) :=
  blk_of (fun q => Nat.beq q 29 || Nat.beq q 49 || Nat.beq q 69) (f := fun kk => if a5 = 0 then (kk (k + 3) 69 [some (.inl a0), some (.inl a1), some (.inl a2), some (.inl a3), some (.inl a4), some (.inl a5), some (.inl as0)] [.inl as0] M O T c s) else (kk (k) 69 [some (.inl a0), some (.inl a1), some (.inl a2), some (.inl a3), some (.inl a4), some (.inl a5), some (.inl as0)] [.inl ((27 * as0) + a5)] M O T c s)) (fun kk => rfl)
set_option maxRecDepth 100000 in
theorem e_X7_six_69 (L : Nat) (xs : Nat → Int32) (E : CallT) (back : BackT) (k : Nat) (a0 : Int32) (a1 : Int32) (a2 : Int32) (a3 : Int32) (a4 : Int32) (a5 : Int32) (a6 : Int32) (as0 : Int32) (M : Mem) (O : Int64) (T : Tmp) (c s : Nat) :
  BK L xs E mi_X7_six back (k + 1) 69 [some (.inl a0), some (.inl a1), some (.inl a2), some (.inl a3), some (.inl a4), some (.inl a5), some (.inl a6)] [.inl as0] M O T c s =
    some (.inl (some (.inl as0)), M, O, c, s) :=
  blk_of (fun q => Nat.beq q 29 || Nat.beq q 49 || Nat.beq q 69) (f := fun kk => some (.inl (some (.inl as0)), M, O, c, s)) (fun kk => rfl)
set_option maxRecDepth 100000 in
theorem e_X7_isWord_0 (L : Nat) (xs : Nat → Int32) (E : CallT) (back : BackT) (k : Nat) (a1 : Int32) (a2 : Int32) (a3 : Int32) (a4 : Int32) (a5 : Int32) (a6 : Int32) (M : Mem) (O : Int64) (T : Tmp) (c s : Nat) :
  BK L xs E mi_X7_isWord back (k + 5) 0 [some (.inr (.inr (40, 0))), some (.inl a1), some (.inl a2), some (.inl a3), some (.inl a4), some (.inl a5), some (.inl a6)] [] M O T c s =
    if (M 40 0 5) = 0 then (xret tkT mi_X7_isWord 0 (E q_X7_wordHere [.inr (.inr (40, 0))] M O) (BK L xs E mi_X7_isWord back (k)) 8 [some (.inr (.inr (40, 0))), some (.inl a1), some (.inl a2), some (.inl a3), some (.inl a4), some (.inl a5), some (.inl a6)] [] T c s) else (BK L xs E mi_X7_isWord back (k + 2) 30 [some (.inr (.inr (40, 0))), some (.inl a1), some (.inl a2), some (.inl a3), some (.inl a4), some (.inl a5), some (.inl a6)] [] M O T c s) :=
  blk_of (fun q => Nat.beq q 0 || Nat.beq q 30 || Nat.beq q 31) (f := fun kk => if (M 40 0 5) = 0 then (xret tkT mi_X7_isWord 0 (E q_X7_wordHere [.inr (.inr (40, 0))] M O) (kk (k)) 8 [some (.inr (.inr (40, 0))), some (.inl a1), some (.inl a2), some (.inl a3), some (.inl a4), some (.inl a5), some (.inl a6)] [] T c s) else (kk (k + 2) 30 [some (.inr (.inr (40, 0))), some (.inl a1), some (.inl a2), some (.inl a3), some (.inl a4), some (.inl a5), some (.inl a6)] [] M O T c s)) (fun kk => rfl)
set_option maxRecDepth 100000 in
theorem e_X7_isWord_11 (L : Nat) (xs : Nat → Int32) (E : CallT) (back : BackT) (k : Nat) (a1 : Int32) (a2 : Int32) (a3 : Int32) (a4 : Int32) (a5 : Int32) (a6 : Int32) (as0 : Int32) (M : Mem) (O : Int64) (T : Tmp) (c s : Nat) :
  BK L xs E mi_X7_isWord back (k + 7) 11 [some (.inr (.inr (40, 0))), some (.inl a1), some (.inl a2), some (.inl a3), some (.inl a4), some (.inl a5), some (.inl a6)] [.inl as0] M O T c s =
    xret tkT mi_X7_isWord 2 (E q_X7_six [.inl a1, .inl a2, .inl a3, .inl a4, .inl a5, .inl a6] M O) (BK L xs E mi_X7_isWord back (k)) 20 [some (.inr (.inr (40, 0))), some (.inl a1), some (.inl a2), some (.inl a3), some (.inl a4), some (.inl a5), some (.inl a6)] [.inl as0] T c s :=
  blk_of (fun q => Nat.beq q 11 || Nat.beq q 30 || Nat.beq q 31) (f := fun kk => xret tkT mi_X7_isWord 2 (E q_X7_six [.inl a1, .inl a2, .inl a3, .inl a4, .inl a5, .inl a6] M O) (kk (k)) 20 [some (.inr (.inr (40, 0))), some (.inl a1), some (.inl a2), some (.inl a3), some (.inl a4), some (.inl a5), some (.inl a6)] [.inl as0] T c s) (fun kk => rfl)
set_option maxRecDepth 100000 in
theorem e_X7_isWord_30 (L : Nat) (xs : Nat → Int32) (E : CallT) (back : BackT) (k : Nat) (a1 : Int32) (a2 : Int32) (a3 : Int32) (a4 : Int32) (a5 : Int32) (a6 : Int32) (M : Mem) (O : Int64) (T : Tmp) (c s : Nat) :
  BK L xs E mi_X7_isWord back (k + 1) 30 [some (.inr (.inr (40, 0))), some (.inl a1), some (.inl a2), some (.inl a3), some (.inl a4), some (.inl a5), some (.inl a6)] [] M O T c s =
    BK L xs E mi_X7_isWord back (k) 31 [some (.inr (.inr (40, 0))), some (.inl a1), some (.inl a2), some (.inl a3), some (.inl a4), some (.inl a5), some (.inl a6)] [.inl 0] M O T c s :=
  blk_of (fun q => Nat.beq q 30 || Nat.beq q 31) (f := fun kk => kk (k) 31 [some (.inr (.inr (40, 0))), some (.inl a1), some (.inl a2), some (.inl a3), some (.inl a4), some (.inl a5), some (.inl a6)] [.inl 0] M O T c s) (fun kk => rfl)
set_option maxRecDepth 100000 in
theorem e_X7_isWord_23 (L : Nat) (xs : Nat → Int32) (E : CallT) (back : BackT) (k : Nat) (a1 : Int32) (a2 : Int32) (a3 : Int32) (a4 : Int32) (a5 : Int32) (a6 : Int32) (as0 : Int32) (as1 : Int32) (M : Mem) (O : Int64) (T : Tmp) (c s : Nat) :
  BK L xs E mi_X7_isWord back (k + 3) 23 [some (.inr (.inr (40, 0))), some (.inl a1), some (.inl a2), some (.inl a3), some (.inl a4), some (.inl a5), some (.inl a6)] [.inl as0, .inl as1] M O T c s =
    if as1 = as0 then (BK L xs E mi_X7_isWord back (k) 31 [some (.inr (.inr (40, 0))), some (.inl a1), some (.inl a2), some (.inl a3), some (.inl a4), some (.inl a5), some (.inl a6)] [.inl 1] M O T c s) else (BK L xs E mi_X7_isWord back (k + 2) 30 [some (.inr (.inr (40, 0))), some (.inl a1), some (.inl a2), some (.inl a3), some (.inl a4), some (.inl a5), some (.inl a6)] [] M O T c s) :=
  blk_of (fun q => Nat.beq q 23 || Nat.beq q 30 || Nat.beq q 31) (f := fun kk => if as1 = as0 then (kk (k) 31 [some (.inr (.inr (40, 0))), some (.inl a1), some (.inl a2), some (.inl a3), some (.inl a4), some (.inl a5), some (.inl a6)] [.inl 1] M O T c s) else (kk (k + 2) 30 [some (.inr (.inr (40, 0))), some (.inl a1), some (.inl a2), some (.inl a3), some (.inl a4), some (.inl a5), some (.inl a6)] [] M O T c s)) (fun kk => rfl)
set_option maxRecDepth 100000 in
theorem e_X7_isWord_31 (L : Nat) (xs : Nat → Int32) (E : CallT) (back : BackT) (k : Nat) (a1 : Int32) (a2 : Int32) (a3 : Int32) (a4 : Int32) (a5 : Int32) (a6 : Int32) (as0 : Int32) (M : Mem) (O : Int64) (T : Tmp) (c s : Nat) :
  BK L xs E mi_X7_isWord back (k + 1) 31 [some (.inr (.inr (40, 0))), some (.inl a1), some (.inl a2), some (.inl a3), some (.inl a4), some (.inl a5), some (.inl a6)] [.inl as0] M O T c s =
    if (as0 : Int32) = 0 ∨ (as0 : Int32) = 1 then some (.inl (some (.inl as0)), M, O, c, s) else none :=
  blk_of (fun q => Nat.beq q 30 || Nat.beq q 31) (f := fun kk => if (as0 : Int32) = 0 ∨ (as0 : Int32) = 1 then some (.inl (some (.inl as0)), M, O, c, s) else none) (fun kk => rfl)
set_option maxRecDepth 100000 in
theorem e_X7_kindHere_0 (L : Nat) (xs : Nat → Int32) (E : CallT) (back : BackT) (k : Nat)  (M : Mem) (O : Int64) (T : Tmp) (c s : Nat) :
  BK L xs E mi_X7_kindHere back (k + 8) 0 [some (.inr (.inr (40, 0)))] [] M O T c s =
    xret tkT mi_X7_kindHere 0 (E q_X7_isWord [.inr (.inr (40, 0)), .inl 3, .inl 5, .inl 12, .inl 12, .inl 19, .inl 0] M O) (BK L xs E mi_X7_kindHere back (k)) 10 [some (.inr (.inr (40, 0)))] [] T c s :=
  blk_of (fun q => Nat.beq q 0 || Nat.beq q 191) (f := fun kk => xret tkT mi_X7_kindHere 0 (E q_X7_isWord [.inr (.inr (40, 0)), .inl 3, .inl 5, .inl 12, .inl 12, .inl 19, .inl 0] M O) (kk (k)) 10 [some (.inr (.inr (40, 0)))] [] T c s) (fun kk => rfl)
set_option maxRecDepth 100000 in
theorem e_X7_kindHere_13 (L : Nat) (xs : Nat → Int32) (E : CallT) (back : BackT) (k : Nat) (as0 : Int32) (M : Mem) (O : Int64) (T : Tmp) (c s : Nat) :
  BK L xs E mi_X7_kindHere back (k + 9) 13 [some (.inr (.inr (40, 0)))] [.inl as0] M O T c s =
    if as0 = 0 then (xret tkT mi_X7_kindHere 0 (E q_X7_isWord [.inr (.inr (40, 0)), .inl 8, .inl 15, .inl 21, .inl 19, .inl 5, .inl 0] M O) (BK L xs E mi_X7_kindHere back (k)) 29 [some (.inr (.inr (40, 0)))] [] T c s) else (some (.inl (some (.inl 0)), M, O, c, s)) :=
  blk_of (fun q => Nat.beq q 13 || Nat.beq q 191) (f := fun kk => if as0 = 0 then (xret tkT mi_X7_kindHere 0 (E q_X7_isWord [.inr (.inr (40, 0)), .inl 8, .inl 15, .inl 21, .inl 19, .inl 5, .inl 0] M O) (kk (k)) 29 [some (.inr (.inr (40, 0)))] [] T c s) else (some (.inl (some (.inl 0)), M, O, c, s))) (fun kk => rfl)
set_option maxRecDepth 100000 in
theorem e_X7_kindHere_32 (L : Nat) (xs : Nat → Int32) (E : CallT) (back : BackT) (k : Nat) (as0 : Int32) (M : Mem) (O : Int64) (T : Tmp) (c s : Nat) :
  BK L xs E mi_X7_kindHere back (k + 9) 32 [some (.inr (.inr (40, 0)))] [.inl as0] M O T c s =
    if as0 = 0 then (xret tkT mi_X7_kindHere 0 (E q_X7_isWord [.inr (.inr (40, 0)), .inl 19, .inl 15, .inl 21, .inl 18, .inl 3, .inl 5] M O) (BK L xs E mi_X7_kindHere back (k)) 48 [some (.inr (.inr (40, 0)))] [] T c s) else (some (.inl (some (.inl 1)), M, O, c, s)) :=
  blk_of (fun q => Nat.beq q 32 || Nat.beq q 191) (f := fun kk => if as0 = 0 then (xret tkT mi_X7_kindHere 0 (E q_X7_isWord [.inr (.inr (40, 0)), .inl 19, .inl 15, .inl 21, .inl 18, .inl 3, .inl 5] M O) (kk (k)) 48 [some (.inr (.inr (40, 0)))] [] T c s) else (some (.inl (some (.inl 1)), M, O, c, s))) (fun kk => rfl)
set_option maxRecDepth 100000 in
theorem e_X7_kindHere_51 (L : Nat) (xs : Nat → Int32) (E : CallT) (back : BackT) (k : Nat) (as0 : Int32) (M : Mem) (O : Int64) (T : Tmp) (c s : Nat) :
  BK L xs E mi_X7_kindHere back (k + 9) 51 [some (.inr (.inr (40, 0)))] [.inl as0] M O T c s =
    if as0 = 0 then (xret tkT mi_X7_kindHere 0 (E q_X7_isWord [.inr (.inr (40, 0)), .inl 19, .inl 3, .inl 18, .inl 5, .inl 5, .inl 14] M O) (BK L xs E mi_X7_kindHere back (k)) 66 [some (.inr (.inr (40, 0)))] [] T c s) else (some (.inl (some (.inl 2)), M, O, c, s)) :=
  blk_of (fun q => Nat.beq q 51 || Nat.beq q 191) (f := fun kk => if as0 = 0 then (xret tkT mi_X7_kindHere 0 (E q_X7_isWord [.inr (.inr (40, 0)), .inl 19, .inl 3, .inl 18, .inl 5, .inl 5, .inl 14] M O) (kk (k)) 66 [some (.inr (.inr (40, 0)))] [] T c s) else (some (.inl (some (.inl 2)), M, O, c, s))) (fun kk => rfl)
set_option maxRecDepth 100000 in
theorem e_X7_kindHere_69 (L : Nat) (xs : Nat → Int32) (E : CallT) (back : BackT) (k : Nat) (as0 : Int32) (M : Mem) (O : Int64) (T : Tmp) (c s : Nat) :
  BK L xs E mi_X7_kindHere back (k + 9) 69 [some (.inr (.inr (40, 0)))] [.inl as0] M O T c s =
    if as0 = 0 then (xret tkT mi_X7_kindHere 0 (E q_X7_isWord [.inr (.inr (40, 0)), .inl 20, .inl 1, .inl 18, .inl 0, .inl 0, .inl 0] M O) (BK L xs E mi_X7_kindHere back (k)) 83 [some (.inr (.inr (40, 0)))] [] T c s) else (some (.inl (some (.inl 3)), M, O, c, s)) :=
  blk_of (fun q => Nat.beq q 69 || Nat.beq q 191) (f := fun kk => if as0 = 0 then (xret tkT mi_X7_kindHere 0 (E q_X7_isWord [.inr (.inr (40, 0)), .inl 20, .inl 1, .inl 18, .inl 0, .inl 0, .inl 0] M O) (kk (k)) 83 [some (.inr (.inr (40, 0)))] [] T c s) else (some (.inl (some (.inl 3)), M, O, c, s))) (fun kk => rfl)
set_option maxRecDepth 100000 in
theorem e_X7_kindHere_86 (L : Nat) (xs : Nat → Int32) (E : CallT) (back : BackT) (k : Nat) (as0 : Int32) (M : Mem) (O : Int64) (T : Tmp) (c s : Nat) :
  BK L xs E mi_X7_kindHere back (k + 9) 86 [some (.inr (.inr (40, 0)))] [.inl as0] M O T c s =
    if as0 = 0 then (xret tkT mi_X7_kindHere 0 (E q_X7_isWord [.inr (.inr (40, 0)), .inl 8, .inl 21, .inl 19, .inl 8, .inl 0, .inl 0] M O) (BK L xs E mi_X7_kindHere back (k)) 102 [some (.inr (.inr (40, 0)))] [] T c s) else (some (.inl (some (.inl 4)), M, O, c, s)) :=
  blk_of (fun q => Nat.beq q 86 || Nat.beq q 191) (f := fun kk => if as0 = 0 then (xret tkT mi_X7_kindHere 0 (E q_X7_isWord [.inr (.inr (40, 0)), .inl 8, .inl 21, .inl 19, .inl 8, .inl 0, .inl 0] M O) (kk (k)) 102 [some (.inr (.inr (40, 0)))] [] T c s) else (some (.inl (some (.inl 4)), M, O, c, s))) (fun kk => rfl)
set_option maxRecDepth 100000 in
theorem e_X7_kindHere_105 (L : Nat) (xs : Nat → Int32) (E : CallT) (back : BackT) (k : Nat) (as0 : Int32) (M : Mem) (O : Int64) (T : Tmp) (c s : Nat) :
  BK L xs E mi_X7_kindHere back (k + 9) 105 [some (.inr (.inr (40, 0)))] [.inl as0] M O T c s =
    if as0 = 0 then (xret tkT mi_X7_kindHere 0 (E q_X7_isWord [.inr (.inr (40, 0)), .inl 6, .inl 15, .inl 1, .inl 13, .inl 0, .inl 0] M O) (BK L xs E mi_X7_kindHere back (k)) 120 [some (.inr (.inr (40, 0)))] [] T c s) else (some (.inl (some (.inl 5)), M, O, c, s)) :=
  blk_of (fun q => Nat.beq q 105 || Nat.beq q 191) (f := fun kk => if as0 = 0 then (xret tkT mi_X7_kindHere 0 (E q_X7_isWord [.inr (.inr (40, 0)), .inl 6, .inl 15, .inl 1, .inl 13, .inl 0, .inl 0] M O) (kk (k)) 120 [some (.inr (.inr (40, 0)))] [] T c s) else (some (.inl (some (.inl 5)), M, O, c, s))) (fun kk => rfl)
set_option maxRecDepth 100000 in
theorem e_X7_kindHere_123 (L : Nat) (xs : Nat → Int32) (E : CallT) (back : BackT) (k : Nat) (as0 : Int32) (M : Mem) (O : Int64) (T : Tmp) (c s : Nat) :
  BK L xs E mi_X7_kindHere back (k + 9) 123 [some (.inr (.inr (40, 0)))] [.inl as0] M O T c s =
    if as0 = 0 then (xret tkT mi_X7_kindHere 0 (E q_X7_isWord [.inr (.inr (40, 0)), .inl 7, .inl 18, .inl 15, .inl 21, .inl 14, .inl 4] M O) (BK L xs E mi_X7_kindHere back (k)) 141 [some (.inr (.inr (40, 0)))] [] T c s) else (some (.inl (some (.inl 6)), M, O, c, s)) :=
  blk_of (fun q => Nat.beq q 123 || Nat.beq q 191) (f := fun kk => if as0 = 0 then (xret tkT mi_X7_kindHere 0 (E q_X7_isWord [.inr (.inr (40, 0)), .inl 7, .inl 18, .inl 15, .inl 21, .inl 14, .inl 4] M O) (kk (k)) 141 [some (.inr (.inr (40, 0)))] [] T c s) else (some (.inl (some (.inl 6)), M, O, c, s))) (fun kk => rfl)
set_option maxRecDepth 100000 in
theorem e_X7_kindHere_144 (L : Nat) (xs : Nat → Int32) (E : CallT) (back : BackT) (k : Nat) (as0 : Int32) (M : Mem) (O : Int64) (T : Tmp) (c s : Nat) :
  BK L xs E mi_X7_kindHere back (k + 9) 144 [some (.inr (.inr (40, 0)))] [.inl as0] M O T c s =
    if as0 = 0 then (xret tkT mi_X7_kindHere 0 (E q_X7_isWord [.inr (.inr (40, 0)), .inl 23, .inl 1, .inl 12, .inl 12, .inl 0, .inl 0] M O) (BK L xs E mi_X7_kindHere back (k)) 160 [some (.inr (.inr (40, 0)))] [] T c s) else (some (.inl (some (.inl 7)), M, O, c, s)) :=
  blk_of (fun q => Nat.beq q 144 || Nat.beq q 191) (f := fun kk => if as0 = 0 then (xret tkT mi_X7_kindHere 0 (E q_X7_isWord [.inr (.inr (40, 0)), .inl 23, .inl 1, .inl 12, .inl 12, .inl 0, .inl 0] M O) (kk (k)) 160 [some (.inr (.inr (40, 0)))] [] T c s) else (some (.inl (some (.inl 7)), M, O, c, s))) (fun kk => rfl)
set_option maxRecDepth 100000 in
theorem e_X7_kindHere_163 (L : Nat) (xs : Nat → Int32) (E : CallT) (back : BackT) (k : Nat) (as0 : Int32) (M : Mem) (O : Int64) (T : Tmp) (c s : Nat) :
  BK L xs E mi_X7_kindHere back (k + 9) 163 [some (.inr (.inr (40, 0)))] [.inl as0] M O T c s =
    if as0 = 0 then (xret tkT mi_X7_kindHere 0 (E q_X7_isWord [.inr (.inr (40, 0)), .inl 8, .inl 21, .inl 13, .inl 0, .inl 0, .inl 0] M O) (BK L xs E mi_X7_kindHere back (k)) 179 [some (.inr (.inr (40, 0)))] [] T c s) else (some (.inl (some (.inl 8)), M, O, c, s)) :=
  blk_of (fun q => Nat.beq q 163 || Nat.beq q 191) (f := fun kk => if as0 = 0 then (xret tkT mi_X7_kindHere 0 (E q_X7_isWord [.inr (.inr (40, 0)), .inl 8, .inl 21, .inl 13, .inl 0, .inl 0, .inl 0] M O) (kk (k)) 179 [some (.inr (.inr (40, 0)))] [] T c s) else (some (.inl (some (.inl 8)), M, O, c, s))) (fun kk => rfl)
set_option maxRecDepth 100000 in
theorem e_X7_kindHere_182 (L : Nat) (xs : Nat → Int32) (E : CallT) (back : BackT) (k : Nat) (as0 : Int32) (M : Mem) (O : Int64) (T : Tmp) (c s : Nat) :
  BK L xs E mi_X7_kindHere back (k + 3) 182 [some (.inr (.inr (40, 0)))] [.inl as0] M O T c s =
    if as0 = 0 then (BK L xs E mi_X7_kindHere back (k + 1) 191 [some (.inr (.inr (40, 0)))] [.inl (-1)] M O T c s) else (BK L xs E mi_X7_kindHere back (k) 191 [some (.inr (.inr (40, 0)))] [.inl 9] M O T c s) :=
  blk_of (fun q => Nat.beq q 182 || Nat.beq q 191) (f := fun kk => if as0 = 0 then (kk (k + 1) 191 [some (.inr (.inr (40, 0)))] [.inl (-1)] M O T c s) else (kk (k) 191 [some (.inr (.inr (40, 0)))] [.inl 9] M O T c s)) (fun kk => rfl)
set_option maxRecDepth 100000 in
theorem e_X7_kindHere_191 (L : Nat) (xs : Nat → Int32) (E : CallT) (back : BackT) (k : Nat) (as0 : Int32) (M : Mem) (O : Int64) (T : Tmp) (c s : Nat) :
  BK L xs E mi_X7_kindHere back (k + 1) 191 [some (.inr (.inr (40, 0)))] [.inl as0] M O T c s =
    some (.inl (some (.inl as0)), M, O, c, s) :=
  blk_of (fun q => Nat.beq q 191) (f := fun kk => some (.inl (some (.inl as0)), M, O, c, s)) (fun kk => rfl)
set_option maxRecDepth 100000 in
theorem e_X7_isFull_0 (L : Nat) (xs : Nat → Int32) (E : CallT) (back : BackT) (k : Nat) (a1 : Int32) (M : Mem) (O : Int64) (T : Tmp) (c s : Nat) :
  BK L xs E mi_X7_isFull back (k + 14) 0 [some (.inr (.inr (40, 0))), some (.inl a1)] [] M O T c s =
    if a1 = 1 then (if (M 43 0 1) = 8 then (BK L xs E mi_X7_isFull back (k + 3) 74 [some (.inr (.inr (40, 0))), some (.inl a1)] [.inl 1] M O T c s) else (BK L xs E mi_X7_isFull back (k + 3) 74 [some (.inr (.inr (40, 0))), some (.inl a1)] [.inl 0] M O T c s)) else (if a1 = 2 then (if (M 43 0 2) = 6 then (BK L xs E mi_X7_isFull back (k) 74 [some (.inr (.inr (40, 0))), some (.inl a1)] [.inl 1] M O T c s) else (BK L xs E mi_X7_isFull back (k) 74 [some (.inr (.inr (40, 0))), some (.inl a1)] [.inl 0] M O T c s)) else (xret tkT mi_X7_isFull 2 (E q_X7_in [.inl a1, .inl 3, .inl 6] M O) (BK L xs E mi_X7_isFull back (k + 4)) 52 [some (.inr (.inr (40, 0))), some (.inl a1)] [] T c s)) :=
  blk_of (fun q => Nat.beq q 0 || Nat.beq q 73 || Nat.beq q 74) (f := fun kk => if a1 = 1 then (if (M 43 0 1) = 8 then (kk (k + 3) 74 [some (.inr (.inr (40, 0))), some (.inl a1)] [.inl 1] M O T c s) else (kk (k + 3) 74 [some (.inr (.inr (40, 0))), some (.inl a1)] [.inl 0] M O T c s)) else (if a1 = 2 then (if (M 43 0 2) = 6 then (kk (k) 74 [some (.inr (.inr (40, 0))), some (.inl a1)] [.inl 1] M O T c s) else (kk (k) 74 [some (.inr (.inr (40, 0))), some (.inl a1)] [.inl 0] M O T c s)) else (xret tkT mi_X7_isFull 2 (E q_X7_in [.inl a1, .inl 3, .inl 6] M O) (kk (k + 4)) 52 [some (.inr (.inr (40, 0))), some (.inl a1)] [] T c s))) (fun kk => rfl)
set_option maxRecDepth 100000 in
theorem e_X7_isFull_74 (L : Nat) (xs : Nat → Int32) (E : CallT) (back : BackT) (k : Nat) (a1 : Int32) (as0 : Int32) (M : Mem) (O : Int64) (T : Tmp) (c s : Nat) :
  BK L xs E mi_X7_isFull back (k + 1) 74 [some (.inr (.inr (40, 0))), some (.inl a1)] [.inl as0] M O T c s =
    if (as0 : Int32) = 0 ∨ (as0 : Int32) = 1 then some (.inl (some (.inl as0)), M, O, c, s) else none :=
  blk_of (fun q => Nat.beq q 73 || Nat.beq q 74) (f := fun kk => if (as0 : Int32) = 0 ∨ (as0 : Int32) = 1 then some (.inl (some (.inl as0)), M, O, c, s) else none) (fun kk => rfl)
set_option maxRecDepth 100000 in
theorem e_X7_isFull_55 (L : Nat) (xs : Nat → Int32) (E : CallT) (back : BackT) (k : Nat) (a1 : Int32) (as0 : Int32) (M : Mem) (O : Int64) (T : Tmp) (c s : Nat) :
  BK L xs E mi_X7_isFull back (k + 9) 55 [some (.inr (.inr (40, 0))), some (.inl a1)] [.inl as0] M O T c s =
    if as0 = 0 then (BK L xs E mi_X7_isFull back (k + 8) 73 [some (.inr (.inr (40, 0))), some (.inl a1)] [] M O T c s) else (if (M 43 0 3) = 8 then (BK L xs E mi_X7_isFull back (k) 74 [some (.inr (.inr (40, 0))), some (.inl a1)] [.inl 1] M O T c s) else (BK L xs E mi_X7_isFull back (k + 2) 73 [some (.inr (.inr (40, 0))), some (.inl a1)] [] M O T c s)) :=
  blk_of (fun q => Nat.beq q 55 || Nat.beq q 73 || Nat.beq q 74) (f := fun kk => if as0 = 0 then (kk (k + 8) 73 [some (.inr (.inr (40, 0))), some (.inl a1)] [] M O T c s) else (if (M 43 0 3) = 8 then (kk (k) 74 [some (.inr (.inr (40, 0))), some (.inl a1)] [.inl 1] M O T c s) else (kk (k + 2) 73 [some (.inr (.inr (40, 0))), some (.inl a1)] [] M O T c s))) (fun kk => rfl)
set_option maxRecDepth 100000 in
theorem e_X7_isFull_73 (L : Nat) (xs : Nat → Int32) (E : CallT) (back : BackT) (k : Nat) (a1 : Int32) (M : Mem) (O : Int64) (T : Tmp) (c s : Nat) :
  BK L xs E mi_X7_isFull back (k + 1) 73 [some (.inr (.inr (40, 0))), some (.inl a1)] [] M O T c s =
    BK L xs E mi_X7_isFull back (k) 74 [some (.inr (.inr (40, 0))), some (.inl a1)] [.inl 0] M O T c s :=
  blk_of (fun q => Nat.beq q 73 || Nat.beq q 74) (f := fun kk => kk (k) 74 [some (.inr (.inr (40, 0))), some (.inl a1)] [.inl 0] M O T c s) (fun kk => rfl)
set_option maxRecDepth 100000 in
theorem e_X7_readsGround_0 (L : Nat) (xs : Nat → Int32) (E : CallT) (back : BackT) (k : Nat) (a1 : Int32) (M : Mem) (O : Int64) (T : Tmp) (c s : Nat) :
  BK L xs E mi_X7_readsGround back (k + 4) 0 [some (.inr (.inr (40, 0))), some (.inl a1), none, none, none, none, none] [] M O T c s =
    xret tkT mi_X7_readsGround 0 (E q_X7_number [.inr (.inr (40, 0)), .inl 0, .inl a1] M O) (BK L xs E mi_X7_readsGround back (k)) 3 [some (.inr (.inr (40, 0))), some (.inl a1), none, none, none, none, none] [] T c s :=
  blk_of (fun q => Nat.beq q 0 || Nat.beq q 34 || Nat.beq q 71) (f := fun kk => xret tkT mi_X7_readsGround 0 (E q_X7_number [.inr (.inr (40, 0)), .inl 0, .inl a1] M O) (kk (k)) 3 [some (.inr (.inr (40, 0))), some (.inl a1), none, none, none, none, none] [] T c s) (fun kk => rfl)
set_option maxRecDepth 100000 in
theorem e_X7_readsGround_6 (L : Nat) (xs : Nat → Int32) (E : CallT) (back : BackT) (k : Nat) (a1 : Int32) (u2 : Option AV) (u3 : Option AV) (u4 : Option AV) (u5 : Option AV) (u6 : Option AV) (as0 : Int32) (M : Mem) (O : Int64) (T : Tmp) (c s : Nat) :
  BK L xs E mi_X7_readsGround back (k + 5) 6 [some (.inr (.inr (40, 0))), some (.inl a1), u2, u3, u4, u5, u6] [.inl as0] M O T c s =
    xret tkT mi_X7_readsGround 0 (E q_X7_number [.inr (.inr (40, 0)), .inl as0, .inl a1] M O) (BK L xs E mi_X7_readsGround back (k)) 10 [some (.inr (.inr (40, 0))), some (.inl a1), some (.inl as0), u3, u4, u5, u6] [] T c s :=
  blk_of (fun q => Nat.beq q 6 || Nat.beq q 34 || Nat.beq q 71) (f := fun kk => xret tkT mi_X7_readsGround 0 (E q_X7_number [.inr (.inr (40, 0)), .inl as0, .inl a1] M O) (kk (k)) 10 [some (.inr (.inr (40, 0))), some (.inl a1), some (.inl as0), u3, u4, u5, u6] [] T c s) (fun kk => rfl)
set_option maxRecDepth 100000 in
theorem e_X7_readsGround_13 (L : Nat) (xs : Nat → Int32) (E : CallT) (back : BackT) (k : Nat) (a1 : Int32) (a2 : Int32) (u3 : Option AV) (u4 : Option AV) (u5 : Option AV) (u6 : Option AV) (as0 : Int32) (M : Mem) (O : Int64) (T : Tmp) (c s : Nat) :
  BK L xs E mi_X7_readsGround back (k + 5) 13 [some (.inr (.inr (40, 0))), some (.inl a1), some (.inl a2), u3, u4, u5, u6] [.inl as0] M O T c s =
    xret tkT mi_X7_readsGround 0 (E q_X7_number [.inr (.inr (40, 0)), .inl 0, .inl 3] M O) (BK L xs E mi_X7_readsGround back (k)) 17 [some (.inr (.inr (40, 0))), some (.inl a1), some (.inl a2), some (.inl as0), u4, u5, u6] [] T c s :=
  blk_of (fun q => Nat.beq q 13 || Nat.beq q 34 || Nat.beq q 71) (f := fun kk => xret tkT mi_X7_readsGround 0 (E q_X7_number [.inr (.inr (40, 0)), .inl 0, .inl 3] M O) (kk (k)) 17 [some (.inr (.inr (40, 0))), some (.inl a1), some (.inl a2), some (.inl as0), u4, u5, u6] [] T c s) (fun kk => rfl)
set_option maxRecDepth 100000 in
theorem e_X7_readsGround_20 (L : Nat) (xs : Nat → Int32) (E : CallT) (back : BackT) (k : Nat) (a1 : Int32) (a2 : Int32) (a3 : Int32) (u4 : Option AV) (u5 : Option AV) (u6 : Option AV) (as0 : Int32) (M : Mem) (O : Int64) (T : Tmp) (c s : Nat) :
  BK L xs E mi_X7_readsGround back (k + 5) 20 [some (.inr (.inr (40, 0))), some (.inl a1), some (.inl a2), some (.inl a3), u4, u5, u6] [.inl as0] M O T c s =
    xret tkT mi_X7_readsGround 0 (E q_X7_number [.inr (.inr (40, 0)), .inl 0, .inl 9] M O) (BK L xs E mi_X7_readsGround back (k)) 26 [some (.inr (.inr (40, 0))), some (.inl a1), some (.inl a2), some (.inl a3), some (.inl as0), u5, u6] [] T c s :=
  blk_of (fun q => Nat.beq q 20 || Nat.beq q 34 || Nat.beq q 71) (f := fun kk => xret tkT mi_X7_readsGround 0 (E q_X7_number [.inr (.inr (40, 0)), .inl 0, .inl 9] M O) (kk (k)) 26 [some (.inr (.inr (40, 0))), some (.inl a1), some (.inl a2), some (.inl a3), some (.inl as0), u5, u6] [] T c s) (fun kk => rfl)
set_option maxRecDepth 100000 in
theorem e_X7_readsGround_29 (L : Nat) (xs : Nat → Int32) (E : CallT) (back : BackT) (k : Nat) (a1 : Int32) (a2 : Int32) (a3 : Int32) (a4 : Int32) (u5 : Option AV) (u6 : Option AV) (as0 : Int32) (M : Mem) (O : Int64) (T : Tmp) (c s : Nat) :
  BK L xs E mi_X7_readsGround back (k + 3) 29 [some (.inr (.inr (40, 0))), some (.inl a1), some (.inl a2), some (.inl a3), some (.inl a4), u5, u6] [.inl as0] M O T c s =
    BK L xs E mi_X7_readsGround back (k) 34 [some (.inr (.inr (40, 0))), some (.inl a1), some (.inl a2), some (.inl a3), some (.inl a4), some (.inl as0), some (.inl a2)] [] M O T c s :=
  blk_of (fun q => Nat.beq q 29 || Nat.beq q 34 || Nat.beq q 71) (f := fun kk => kk (k) 34 [some (.inr (.inr (40, 0))), some (.inl a1), some (.inl a2), some (.inl a3), some (.inl a4), some (.inl as0), some (.inl a2)] [] M O T c s) (fun kk => rfl)
set_option maxRecDepth 100000 in
theorem e_X7_readsGround_34 (L : Nat) (xs : Nat → Int32) (E : CallT) (back : BackT) (k : Nat) (a1 : Int32) (a2 : Int32) (a3 : Int32) (a4 : Int32) (a5 : Int32) (a6 : Int32) (M : Mem) (O : Int64) (T : Tmp) (c s : Nat) :
  BK L xs E mi_X7_readsGround back (k + 18) 34 [some (.inr (.inr (40, 0))), some (.inl a1), some (.inl a2), some (.inl a3), some (.inl a4), some (.inl a5), some (.inl a6)] [] M O T c s =
    if a3 < a6 then (BK L xs E mi_X7_readsGround back (k + 15) 71 [some (.inr (.inr (40, 0))), some (.inl a1), some (.inl a2), some (.inl a3), some (.inl a4), some (.inl a5), some (.inl a6)] [] M O T c s) else (if (M 40 0 5) = 0 then (if 0 ≤ (a6 : Int32).toInt ∧ (a6 : Int32).toInt < 40 then (if 0 ≤ (a6 : Int32).toInt ∧ (a6 : Int32).toInt < 40 then (back 34 [some (.inr (.inr (40, 0))), some (.inl a1), some (.inl a2), some (.inl a3), some (.inl a4), some (.inl a5), some (.inl (a6 + 1))] (mput (mput M 45 0 (a6 : Int32).toNatClampNeg a4) 46 0 (a6 : Int32).toNatClampNeg a5) O T c s) else none) else none) else (BK L xs E mi_X7_readsGround back (k + 12) 71 [some (.inr (.inr (40, 0))), some (.inl a1), some (.inl a2), some (.inl a3), some (.inl a4), some (.inl a5), some (.inl a6)] [] M O T c s)) :=
  blk_of (fun q => Nat.beq q 34 || Nat.beq q 71) (f := fun kk => if a3 < a6 then (kk (k + 15) 71 [some (.inr (.inr (40, 0))), some (.inl a1), some (.inl a2), some (.inl a3), some (.inl a4), some (.inl a5), some (.inl a6)] [] M O T c s) else (if (M 40 0 5) = 0 then (if 0 ≤ (a6 : Int32).toInt ∧ (a6 : Int32).toInt < 40 then (if 0 ≤ (a6 : Int32).toInt ∧ (a6 : Int32).toInt < 40 then (back 34 [some (.inr (.inr (40, 0))), some (.inl a1), some (.inl a2), some (.inl a3), some (.inl a4), some (.inl a5), some (.inl (a6 + 1))] (mput (mput M 45 0 (a6 : Int32).toNatClampNeg a4) 46 0 (a6 : Int32).toNatClampNeg a5) O T c s) else none) else none) else (kk (k + 12) 71 [some (.inr (.inr (40, 0))), some (.inl a1), some (.inl a2), some (.inl a3), some (.inl a4), some (.inl a5), some (.inl a6)] [] M O T c s))) (fun kk => rfl)
set_option maxRecDepth 100000 in
theorem e_X7_readsGround_71 (L : Nat) (xs : Nat → Int32) (E : CallT) (back : BackT) (k : Nat) (a1 : Int32) (a2 : Int32) (a3 : Int32) (a4 : Int32) (a5 : Int32) (a6 : Int32) (M : Mem) (O : Int64) (T : Tmp) (c s : Nat) :
  BK L xs E mi_X7_readsGround back (k + 1) 71 [some (.inr (.inr (40, 0))), some (.inl a1), some (.inl a2), some (.inl a3), some (.inl a4), some (.inl a5), some (.inl a6)] [] M O T c s =
    some (.inl none, M, O, c, s) :=
  blk_of (fun q => Nat.beq q 34 || Nat.beq q 71) (f := fun kk => some (.inl none, M, O, c, s)) (fun kk => rfl)
