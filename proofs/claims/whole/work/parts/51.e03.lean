/-! block equations: printed by wip/gen/gen9.py -/
set_option maxRecDepth 100000 in
theorem e_X6_ray_0 (L : Nat) (xs : Nat → Int32) (E : CallT) (back : BackT) (k : Nat) (a1 : Int32) (a2 : Int32) (a3 : Int32) (a4 : Int32) (a5 : Int32) (M : Mem) (O : Int64) (T : Tmp) (c s : Nat) :
  BK L xs E mi_X6_ray back (k + 7) 0 [some (.inr (.inr (0, 0))), some (.inl a1), some (.inl a2), some (.inl a3), some (.inl a4), some (.inl a5)] [] M O T c s =
    xret tkT mi_X6_ray 0 (E q_X6_needRay [.inr (.inr (0, 0)), .inl a1, .inl a2, .inl a3, .inl a4, .inl a5] M O) (BK L xs E mi_X6_ray back (k)) 8 [some (.inr (.inr (0, 0))), some (.inl a1), some (.inl a2), some (.inl a3), some (.inl a4), some (.inl a5)] [] T c s :=
  blk_of (fun q => Nat.beq q 0 || Nat.beq q 51) (f := fun kk => xret tkT mi_X6_ray 0 (E q_X6_needRay [.inr (.inr (0, 0)), .inl a1, .inl a2, .inl a3, .inl a4, .inl a5] M O) (kk (k)) 8 [some (.inr (.inr (0, 0))), some (.inl a1), some (.inl a2), some (.inl a3), some (.inl a4), some (.inl a5)] [] T c s) (fun kk => rfl)
set_option maxRecDepth 100000 in
theorem e_X6_ray_11 (L : Nat) (xs : Nat → Int32) (E : CallT) (back : BackT) (k : Nat) (a1 : Int32) (a2 : Int32) (a3 : Int32) (a4 : Int32) (a5 : Int32) (M : Mem) (O : Int64) (T : Tmp) (c s : Nat) :
  BK L xs E mi_X6_ray back (k + 13) 11 [some (.inr (.inr (0, 0))), some (.inl a1), some (.inl a2), some (.inl a3), some (.inl a4), some (.inl a5)] [] M O T c s =
    if 0 ≤ (a1 : Int32).toInt ∧ (a1 : Int32).toInt < 6 then (xret tkT mi_X6_ray 1 (E q_X4_follow [.inr (.inr (24, 0)), .inr (.inr (3, 2)), .inr (.inr (18, (0 + (a1 : Int32).toNatClampNeg))), .inl a2, .inl a3, .inl a4, .inl a5] M O) (BK L xs E mi_X6_ray back (k)) 31 [some (.inr (.inr (0, 0))), some (.inl a1), some (.inl a2), some (.inl a3), some (.inl a4), some (.inl a5)] [] T c s) else none :=
  blk_of (fun q => Nat.beq q 11 || Nat.beq q 51) (f := fun kk => if 0 ≤ (a1 : Int32).toInt ∧ (a1 : Int32).toInt < 6 then (xret tkT mi_X6_ray 1 (E q_X4_follow [.inr (.inr (24, 0)), .inr (.inr (3, 2)), .inr (.inr (18, (0 + (a1 : Int32).toNatClampNeg))), .inl a2, .inl a3, .inl a4, .inl a5] M O) (kk (k)) 31 [some (.inr (.inr (0, 0))), some (.inl a1), some (.inl a2), some (.inl a3), some (.inl a4), some (.inl a5)] [] T c s) else none) (fun kk => rfl)
set_option maxRecDepth 100000 in
theorem e_X6_ray_34 (L : Nat) (xs : Nat → Int32) (E : CallT) (back : BackT) (k : Nat) (a1 : Int32) (a2 : Int32) (a3 : Int32) (a4 : Int32) (a5 : Int32) (as0 : Int32) (M : Mem) (O : Int64) (T : Tmp) (c s : Nat) :
  BK L xs E mi_X6_ray back (k + 6) 34 [some (.inr (.inr (0, 0))), some (.inl a1), some (.inl a2), some (.inl a3), some (.inl a4), some (.inl a5)] [.inl as0] M O T c s =
    if as0 = 0 then (BK L xs E mi_X6_ray back (k + 4) 51 [some (.inr (.inr (0, 0))), some (.inl a1), some (.inl a2), some (.inl a3), some (.inl a4), some (.inl a5)] [.inl (-1)] M O T c s) else (BK L xs E mi_X6_ray back (k) 51 [some (.inr (.inr (0, 0))), some (.inl a1), some (.inl a2), some (.inl a3), some (.inl a4), some (.inl a5)] [.inl (M 25 0 7)] M O T c s) :=
  blk_of (fun q => Nat.beq q 34 || Nat.beq q 51) (f := fun kk => if as0 = 0 then (kk (k + 4) 51 [some (.inr (.inr (0, 0))), some (.inl a1), some (.inl a2), some (.inl a3), some (.inl a4), some (.inl a5)] [.inl (-1)] M O T c s) else (kk (k) 51 [some (.inr (.inr (0, 0))), some (.inl a1), some (.inl a2), some (.inl a3), some (.inl a4), some (.inl a5)] [.inl (M 25 0 7)] M O T c s)) (fun kk => rfl)
set_option maxRecDepth 100000 in
theorem e_X6_ray_51 (L : Nat) (xs : Nat → Int32) (E : CallT) (back : BackT) (k : Nat) (a1 : Int32) (a2 : Int32) (a3 : Int32) (a4 : Int32) (a5 : Int32) (as0 : Int32) (M : Mem) (O : Int64) (T : Tmp) (c s : Nat) :
  BK L xs E mi_X6_ray back (k + 1) 51 [some (.inr (.inr (0, 0))), some (.inl a1), some (.inl a2), some (.inl a3), some (.inl a4), some (.inl a5)] [.inl as0] M O T c s =
    some (.inl (some (.inl as0)), M, O, c, s) :=
  blk_of (fun q => Nat.beq q 51) (f := fun kk => some (.inl (some (.inl as0)), M, O, c, s)) (fun kk => rfl)
set_option maxRecDepth 100000 in
theorem e_L_ray_0 (L : Nat) (xs : Nat → Int32) (E : CallT) (back : BackT) (k : Nat) (a1 : Int32) (a2 : Int32) (a3 : Int32) (a4 : Int32) (a5 : Int32) (M : Mem) (O : Int64) (T : Tmp) (c s : Nat) :
  BK L xs E mi_L_ray back (k + 9) 0 [some (.inr (.inr (0, 0))), some (.inl a1), some (.inl a2), some (.inl a3), some (.inl a4), some (.inl a5), some (.inr (.inr (83, 0))), none] [] M O T c s =
    xret tkT mi_L_ray 0 (E q_X6_ray [.inr (.inr (0, 0)), .inl a1, .inl a2, .inl a3, .inl a4, .inl a5] M O) (BK L xs E mi_L_ray back (k)) 11 [some (.inr (.inr (0, 0))), some (.inl a1), some (.inl a2), some (.inl a3), some (.inl a4), some (.inl a5), some (.inr (.inr (83, 0))), none] [.inl 0, .inr (.inr (83, 0))] T c s :=
  blk_of (fun q => Nat.beq q 0) (f := fun kk => xret tkT mi_L_ray 0 (E q_X6_ray [.inr (.inr (0, 0)), .inl a1, .inl a2, .inl a3, .inl a4, .inl a5] M O) (kk (k)) 11 [some (.inr (.inr (0, 0))), some (.inl a1), some (.inl a2), some (.inl a3), some (.inl a4), some (.inl a5), some (.inr (.inr (83, 0))), none] [.inl 0, .inr (.inr (83, 0))] T c s) (fun kk => rfl)
set_option maxRecDepth 100000 in
theorem e_L_ray_14 (L : Nat) (xs : Nat → Int32) (E : CallT) (back : BackT) (k : Nat) (a1 : Int32) (a2 : Int32) (a3 : Int32) (a4 : Int32) (a5 : Int32) (u7 : Option AV) (as0 : Int32) (as1 : Int32) (M : Mem) (O : Int64) (T : Tmp) (c s : Nat) :
  BK L xs E mi_L_ray back (k + 5) 14 [some (.inr (.inr (0, 0))), some (.inl a1), some (.inl a2), some (.inl a3), some (.inl a4), some (.inl a5), some (.inr (.inr (83, 0))), u7] [.inl as0, .inl as1, .inr (.inr (83, 0))] M O T c s =
    if (as1 : Int32) = 0 then (some (.inl (some (.inl 0)), M, (as0).toInt64, c, s)) else none :=
  blk_of (fun q => Nat.beq q 14) (f := fun kk => if (as1 : Int32) = 0 then (some (.inl (some (.inl 0)), M, (as0).toInt64, c, s)) else none) (fun kk => rfl)
set_option maxRecDepth 100000 in
theorem e_X6_left_0 (L : Nat) (xs : Nat → Int32) (E : CallT) (back : BackT) (k : Nat) (a1 : Int32) (a2 : Int32) (a3 : Int32) (a4 : Int32) (a5 : Int32) (M : Mem) (O : Int64) (T : Tmp) (c s : Nat) :
  BK L xs E mi_X6_left back (k + 7) 0 [some (.inr (.inr (0, 0))), some (.inl a1), some (.inl a2), some (.inl a3), some (.inl a4), some (.inl a5)] [] M O T c s =
    xret tkT mi_X6_left 0 (E q_X6_needRay [.inr (.inr (0, 0)), .inl a1, .inl a2, .inl a3, .inl a4, .inl a5] M O) (BK L xs E mi_X6_left back (k)) 8 [some (.inr (.inr (0, 0))), some (.inl a1), some (.inl a2), some (.inl a3), some (.inl a4), some (.inl a5)] [] T c s :=
  blk_of (fun q => Nat.beq q 0 || Nat.beq q 51) (f := fun kk => xret tkT mi_X6_left 0 (E q_X6_needRay [.inr (.inr (0, 0)), .inl a1, .inl a2, .inl a3, .inl a4, .inl a5] M O) (kk (k)) 8 [some (.inr (.inr (0, 0))), some (.inl a1), some (.inl a2), some (.inl a3), some (.inl a4), some (.inl a5)] [] T c s) (fun kk => rfl)
set_option maxRecDepth 100000 in
theorem e_X6_left_11 (L : Nat) (xs : Nat → Int32) (E : CallT) (back : BackT) (k : Nat) (a1 : Int32) (a2 : Int32) (a3 : Int32) (a4 : Int32) (a5 : Int32) (M : Mem) (O : Int64) (T : Tmp) (c s : Nat) :
  BK L xs E mi_X6_left back (k + 13) 11 [some (.inr (.inr (0, 0))), some (.inl a1), some (.inl a2), some (.inl a3), some (.inl a4), some (.inl a5)] [] M O T c s =
    if 0 ≤ (a1 : Int32).toInt ∧ (a1 : Int32).toInt < 6 then (xret tkT mi_X6_left 1 (E q_X4_follow [.inr (.inr (24, 0)), .inr (.inr (3, 2)), .inr (.inr (18, (0 + (a1 : Int32).toNatClampNeg))), .inl a2, .inl a3, .inl a4, .inl a5] M O) (BK L xs E mi_X6_left back (k)) 31 [some (.inr (.inr (0, 0))), some (.inl a1), some (.inl a2), some (.inl a3), some (.inl a4), some (.inl a5)] [] T c s) else none :=
  blk_of (fun q => Nat.beq q 11 || Nat.beq q 51) (f := fun kk => if 0 ≤ (a1 : Int32).toInt ∧ (a1 : Int32).toInt < 6 then (xret tkT mi_X6_left 1 (E q_X4_follow [.inr (.inr (24, 0)), .inr (.inr (3, 2)), .inr (.inr (18, (0 + (a1 : Int32).toNatClampNeg))), .inl a2, .inl a3, .inl a4, .inl a5] M O) (kk (k)) 31 [some (.inr (.inr (0, 0))), some (.inl a1), some (.inl a2), some (.inl a3), some (.inl a4), some (.inl a5)] [] T c s) else none) (fun kk => rfl)
set_option maxRecDepth 100000 in
theorem e_X6_left_34 (L : Nat) (xs : Nat → Int32) (E : CallT) (back : BackT) (k : Nat) (a1 : Int32) (a2 : Int32) (a3 : Int32) (a4 : Int32) (a5 : Int32) (as0 : Int32) (M : Mem) (O : Int64) (T : Tmp) (c s : Nat) :
  BK L xs E mi_X6_left back (k + 6) 34 [some (.inr (.inr (0, 0))), some (.inl a1), some (.inl a2), some (.inl a3), some (.inl a4), some (.inl a5)] [.inl as0] M O T c s =
    if as0 = 0 then (BK L xs E mi_X6_left back (k + 4) 51 [some (.inr (.inr (0, 0))), some (.inl a1), some (.inl a2), some (.inl a3), some (.inl a4), some (.inl a5)] [.inl 0] M O T c s) else (BK L xs E mi_X6_left back (k) 51 [some (.inr (.inr (0, 0))), some (.inl a1), some (.inl a2), some (.inl a3), some (.inl a4), some (.inl a5)] [.inl (M 25 0 9)] M O T c s) :=
  blk_of (fun q => Nat.beq q 34 || Nat.beq q 51) (f := fun kk => if as0 = 0 then (kk (k + 4) 51 [some (.inr (.inr (0, 0))), some (.inl a1), some (.inl a2), some (.inl a3), some (.inl a4), some (.inl a5)] [.inl 0] M O T c s) else (kk (k) 51 [some (.inr (.inr (0, 0))), some (.inl a1), some (.inl a2), some (.inl a3), some (.inl a4), some (.inl a5)] [.inl (M 25 0 9)] M O T c s)) (fun kk => rfl)
set_option maxRecDepth 100000 in
theorem e_X6_left_51 (L : Nat) (xs : Nat → Int32) (E : CallT) (back : BackT) (k : Nat) (a1 : Int32) (a2 : Int32) (a3 : Int32) (a4 : Int32) (a5 : Int32) (as0 : Int32) (M : Mem) (O : Int64) (T : Tmp) (c s : Nat) :
  BK L xs E mi_X6_left back (k + 1) 51 [some (.inr (.inr (0, 0))), some (.inl a1), some (.inl a2), some (.inl a3), some (.inl a4), some (.inl a5)] [.inl as0] M O T c s =
    some (.inl (some (.inl as0)), M, O, c, s) :=
  blk_of (fun q => Nat.beq q 51) (f := fun kk => some (.inl (some (.inl as0)), M, O, c, s)) (fun kk => rfl)
set_option maxRecDepth 100000 in
theorem e_L_left_0 (L : Nat) (xs : Nat → Int32) (E : CallT) (back : BackT) (k : Nat) (a1 : Int32) (a2 : Int32) (a3 : Int32) (a4 : Int32) (a5 : Int32) (M : Mem) (O : Int64) (T : Tmp) (c s : Nat) :
  BK L xs E mi_L_left back (k + 9) 0 [some (.inr (.inr (0, 0))), some (.inl a1), some (.inl a2), some (.inl a3), some (.inl a4), some (.inl a5), some (.inr (.inr (83, 0))), none] [] M O T c s =
    xret tkT mi_L_left 0 (E q_X6_left [.inr (.inr (0, 0)), .inl a1, .inl a2, .inl a3, .inl a4, .inl a5] M O) (BK L xs E mi_L_left back (k)) 11 [some (.inr (.inr (0, 0))), some (.inl a1), some (.inl a2), some (.inl a3), some (.inl a4), some (.inl a5), some (.inr (.inr (83, 0))), none] [.inl 0, .inr (.inr (83, 0))] T c s :=
  blk_of (fun q => Nat.beq q 0) (f := fun kk => xret tkT mi_L_left 0 (E q_X6_left [.inr (.inr (0, 0)), .inl a1, .inl a2, .inl a3, .inl a4, .inl a5] M O) (kk (k)) 11 [some (.inr (.inr (0, 0))), some (.inl a1), some (.inl a2), some (.inl a3), some (.inl a4), some (.inl a5), some (.inr (.inr (83, 0))), none] [.inl 0, .inr (.inr (83, 0))] T c s) (fun kk => rfl)
set_option maxRecDepth 100000 in
theorem e_L_left_14 (L : Nat) (xs : Nat → Int32) (E : CallT) (back : BackT) (k : Nat) (a1 : Int32) (a2 : Int32) (a3 : Int32) (a4 : Int32) (a5 : Int32) (u7 : Option AV) (as0 : Int32) (as1 : Int32) (M : Mem) (O : Int64) (T : Tmp) (c s : Nat) :
  BK L xs E mi_L_left back (k + 5) 14 [some (.inr (.inr (0, 0))), some (.inl a1), some (.inl a2), some (.inl a3), some (.inl a4), some (.inl a5), some (.inr (.inr (83, 0))), u7] [.inl as0, .inl as1, .inr (.inr (83, 0))] M O T c s =
    if (as1 : Int32) = 0 then (some (.inl (some (.inl 0)), M, (as0).toInt64, c, s)) else none :=
  blk_of (fun q => Nat.beq q 14) (f := fun kk => if (as1 : Int32) = 0 then (some (.inl (some (.inl 0)), M, (as0).toInt64, c, s)) else none) (fun kk => rfl)
set_option maxRecDepth 100000 in
theorem e7_J7_fill_53178_0 (L : Nat) (xs : Nat → Int32) (E : CallT) (back : BackT) (k : Nat) (i0 : Nat) (a1 : Int32) (M : Mem) (O : Int64) (T : Tmp) (c s : Nat) :
  BK L xs E mi_J7_fill_53178 back (k + 5) 0 [some (.inr (.inr (27, i0))), some (.inl a1), none, none] [] M O T c s =
    BK L xs E mi_J7_fill_53178 back (k) 5 [some (.inr (.inr (27, i0))), some (.inl a1), some (.inl 0), some (.inl (Int32.ofNat 40))] [] M O T c s :=
  blk_of (fun q => Nat.beq q 0 || Nat.beq q 5) (f := fun kk => kk (k) 5 [some (.inr (.inr (27, i0))), some (.inl a1), some (.inl 0), some (.inl (Int32.ofNat 40))] [] M O T c s) (fun kk => rfl)
set_option maxRecDepth 100000 in
theorem e7_J7_fill_53178_5 (L : Nat) (xs : Nat → Int32) (E : CallT) (back : BackT) (k : Nat) (i0 : Nat) (a1 : Int32) (a2 : Int32) (a3 : Int32) (M : Mem) (O : Int64) (T : Tmp) (c s : Nat) :
  BK L xs E mi_J7_fill_53178 back (k + 9) 5 [some (.inr (.inr (27, i0))), some (.inl a1), some (.inl a2), some (.inl a3)] [] M O T c s =
    if a3 ≤ a2 then (some (.inl none, M, O, c, s)) else (if 0 ≤ (a2 : Int32).toInt ∧ (a2 : Int32).toInt < 40 then (back 5 [some (.inr (.inr (27, i0))), some (.inl a1), some (.inl (a2 + 1)), some (.inl a3)] (mput M 27 i0 (a2 : Int32).toNatClampNeg a1) O T c s) else none) :=
  blk_of (fun q => Nat.beq q 5) (f := fun kk => if a3 ≤ a2 then (some (.inl none, M, O, c, s)) else (if 0 ≤ (a2 : Int32).toInt ∧ (a2 : Int32).toInt < 40 then (back 5 [some (.inr (.inr (27, i0))), some (.inl a1), some (.inl (a2 + 1)), some (.inl a3)] (mput M 27 i0 (a2 : Int32).toNatClampNeg a1) O T c s) else none)) (fun kk => rfl)
set_option maxRecDepth 100000 in
theorem e_X3_isNearGround_0 (L : Nat) (xs : Nat → Int32) (E : CallT) (back : BackT) (k : Nat) (i1 : Nat) (M : Mem) (O : Int64) (T : Tmp) (c s : Nat) :
  BK L xs E mi_X3_isNearGround back (k + 12) 0 [some (.inr (.inr (25, 0))), some (.inr (.inr (3, i1)))] [] M O T c s =
    if 0 ≤ ((M 25 0 5) : Int32).toInt ∧ ((M 25 0 5) : Int32).toInt < 40 then (if (2 : Int32) < ((M 25 0 7) - (M 5 i1 ((M 25 0 5) : Int32).toNatClampNeg)) then (BK L xs E mi_X3_isNearGround back (k + 1) 23 [some (.inr (.inr (25, 0))), some (.inr (.inr (3, i1)))] [.inl 0] M O T c s) else (BK L xs E mi_X3_isNearGround back (k) 23 [some (.inr (.inr (25, 0))), some (.inr (.inr (3, i1)))] [.inl 1] M O T c s)) else none :=
  blk_of (fun q => Nat.beq q 0 || Nat.beq q 23) (f := fun kk => if 0 ≤ ((M 25 0 5) : Int32).toInt ∧ ((M 25 0 5) : Int32).toInt < 40 then (if (2 : Int32) < ((M 25 0 7) - (M 5 i1 ((M 25 0 5) : Int32).toNatClampNeg)) then (kk (k + 1) 23 [some (.inr (.inr (25, 0))), some (.inr (.inr (3, i1)))] [.inl 0] M O T c s) else (kk (k) 23 [some (.inr (.inr (25, 0))), some (.inr (.inr (3, i1)))] [.inl 1] M O T c s)) else none) (fun kk => rfl)
set_option maxRecDepth 100000 in
theorem e_X3_isNearGround_23 (L : Nat) (xs : Nat → Int32) (E : CallT) (back : BackT) (k : Nat) (i1 : Nat) (as0 : Int32) (M : Mem) (O : Int64) (T : Tmp) (c s : Nat) :
  BK L xs E mi_X3_isNearGround back (k + 1) 23 [some (.inr (.inr (25, 0))), some (.inr (.inr (3, i1)))] [.inl as0] M O T c s =
    if (as0 : Int32) = 0 ∨ (as0 : Int32) = 1 then some (.inl (some (.inl as0)), M, O, c, s) else none :=
  blk_of (fun q => Nat.beq q 23) (f := fun kk => if (as0 : Int32) = 0 ∨ (as0 : Int32) = 1 then some (.inl (some (.inl as0)), M, O, c, s) else none) (fun kk => rfl)
set_option maxRecDepth 100000 in
theorem e_X4_spread_0 (L : Nat) (xs : Nat → Int32) (E : CallT) (back : BackT) (k : Nat) (i1 : Nat) (i2 : Nat) (i3 : Nat) (M : Mem) (O : Int64) (T : Tmp) (c s : Nat) :
  BK L xs E mi_X4_spread back (k + 3) 0 [some (.inr (.inr (24, 0))), some (.inr (.inr (3, i1))), some (.inr (.inr (18, i2))), some (.inr (.inr (27, i3))), none, none, none] [] M O T c s =
    xret tkT mi_X4_spread 2 (E q_J7_fill_53178 [.inr (.inr (27, i3)), .inl 0] M O) (BK L xs E mi_X4_spread back (k)) 2 [some (.inr (.inr (24, 0))), some (.inr (.inr (3, i1))), some (.inr (.inr (18, i2))), some (.inr (.inr (27, i3))), none, none, none] [] T c s :=
  blk_of (fun q => Nat.beq q 0 || Nat.beq q 35 || Nat.beq q 45 || Nat.beq q 67 || Nat.beq q 125 || Nat.beq q 131) (f := fun kk => xret tkT mi_X4_spread 2 (E q_J7_fill_53178 [.inr (.inr (27, i3)), .inl 0] M O) (kk (k)) 2 [some (.inr (.inr (24, 0))), some (.inr (.inr (3, i1))), some (.inr (.inr (18, i2))), some (.inr (.inr (27, i3))), none, none, none] [] T c s) (fun kk => rfl)
set_option maxRecDepth 100000 in
theorem e_X4_spread_5 (L : Nat) (xs : Nat → Int32) (E : CallT) (back : BackT) (k : Nat) (i1 : Nat) (i2 : Nat) (i3 : Nat) (u4 : Option AV) (u5 : Option AV) (u6 : Option AV) (M : Mem) (O : Int64) (T : Tmp) (c s : Nat) :
  BK L xs E mi_X4_spread back (k + 14) 5 [some (.inr (.inr (24, 0))), some (.inr (.inr (3, i1))), some (.inr (.inr (18, i2))), some (.inr (.inr (27, i3))), u4, u5, u6] [] M O T c s =
    if (0 : Int32) < (M 25 0 2) then (if 0 ≤ ((M 25 0 0) : Int32).toInt ∧ ((M 25 0 0) : Int32).toInt < 40 then (BK L xs E mi_X4_spread back (k) 35 [some (.inr (.inr (24, 0))), some (.inr (.inr (3, i1))), some (.inr (.inr (18, i2))), some (.inr (.inr (27, i3))), some (.inl 0), u5, u6] [] (mput M 27 i3 ((M 25 0 0) : Int32).toNatClampNeg (M 25 0 2)) O T c s) else none) else (some (.inl none, M, O, c, s)) :=
  blk_of (fun q => Nat.beq q 5 || Nat.beq q 35 || Nat.beq q 45 || Nat.beq q 67 || Nat.beq q 125 || Nat.beq q 131) (f := fun kk => if (0 : Int32) < (M 25 0 2) then (if 0 ≤ ((M 25 0 0) : Int32).toInt ∧ ((M 25 0 0) : Int32).toInt < 40 then (kk (k) 35 [some (.inr (.inr (24, 0))), some (.inr (.inr (3, i1))), some (.inr (.inr (18, i2))), some (.inr (.inr (27, i3))), some (.inl 0), u5, u6] [] (mput M 27 i3 ((M 25 0 0) : Int32).toNatClampNeg (M 25 0 2)) O T c s) else none) else (some (.inl none, M, O, c, s))) (fun kk => rfl)
set_option maxRecDepth 100000 in
theorem e_X4_spread_35 (L : Nat) (xs : Nat → Int32) (E : CallT) (back : BackT) (k : Nat) (i1 : Nat) (i2 : Nat) (i3 : Nat) (a4 : Int32) (u5 : Option AV) (u6 : Option AV) (M : Mem) (O : Int64) (T : Tmp) (c s : Nat) :
  BK L xs E mi_X4_spread back (k + 5) 35 [some (.inr (.inr (24, 0))), some (.inr (.inr (3, i1))), some (.inr (.inr (18, i2))), some (.inr (.inr (27, i3))), some (.inl a4), u5, u6] [] M O T c s =
    if (1 : Int32) < a4 then (some (.inl none, M, O, c, s)) else (BK L xs E mi_X4_spread back (k) 45 [some (.inr (.inr (24, 0))), some (.inr (.inr (3, i1))), some (.inr (.inr (18, i2))), some (.inr (.inr (27, i3))), some (.inl a4), some (.inl (-3)), u6] [] M O T c s) :=
  blk_of (fun q => Nat.beq q 35 || Nat.beq q 45 || Nat.beq q 67 || Nat.beq q 125 || Nat.beq q 131) (f := fun kk => if (1 : Int32) < a4 then (some (.inl none, M, O, c, s)) else (kk (k) 45 [some (.inr (.inr (24, 0))), some (.inr (.inr (3, i1))), some (.inr (.inr (18, i2))), some (.inr (.inr (27, i3))), some (.inl a4), some (.inl (-3)), u6] [] M O T c s)) (fun kk => rfl)
set_option maxRecDepth 100000 in
theorem e_X4_spread_45 (L : Nat) (xs : Nat → Int32) (E : CallT) (back : BackT) (k : Nat) (i1 : Nat) (i2 : Nat) (i3 : Nat) (a4 : Int32) (a5 : Int32) (u6 : Option AV) (M : Mem) (O : Int64) (T : Tmp) (c s : Nat) :
  BK L xs E mi_X4_spread back (k + 9) 45 [some (.inr (.inr (24, 0))), some (.inr (.inr (3, i1))), some (.inr (.inr (18, i2))), some (.inr (.inr (27, i3))), some (.inl a4), some (.inl a5), u6] [] M O T c s =
    if (6 : Int32) < a5 then (back 35 [some (.inr (.inr (24, 0))), some (.inr (.inr (3, i1))), some (.inr (.inr (18, i2))), some (.inr (.inr (27, i3))), some (.inl (a4 + 1)), some (.inl a5), u6] M O T c s) else (xret tkT mi_X4_spread 1 (E q_X3_start [.inr (.inr (25, 0)), .inr (.inr (3, i1)), .inl a4, .inl a5] M O) (BK L xs E mi_X4_spread back (k)) 61 [some (.inr (.inr (24, 0))), some (.inr (.inr (3, i1))), some (.inr (.inr (18, i2))), some (.inr (.inr (27, i3))), some (.inl a4), some (.inl a5), u6] [] T c s) :=
  blk_of (fun q => Nat.beq q 35 || Nat.beq q 45 || Nat.beq q 67 || Nat.beq q 125 || Nat.beq q 131) (f := fun kk => if (6 : Int32) < a5 then (back 35 [some (.inr (.inr (24, 0))), some (.inr (.inr (3, i1))), some (.inr (.inr (18, i2))), some (.inr (.inr (27, i3))), some (.inl (a4 + 1)), some (.inl a5), u6] M O T c s) else (xret tkT mi_X4_spread 1 (E q_X3_start [.inr (.inr (25, 0)), .inr (.inr (3, i1)), .inl a4, .inl a5] M O) (kk (k)) 61 [some (.inr (.inr (24, 0))), some (.inr (.inr (3, i1))), some (.inr (.inr (18, i2))), some (.inr (.inr (27, i3))), some (.inl a4), some (.inl a5), u6] [] T c s)) (fun kk => rfl)
set_option maxRecDepth 100000 in
theorem e_X4_spread_64 (L : Nat) (xs : Nat → Int32) (E : CallT) (back : BackT) (k : Nat) (i1 : Nat) (i2 : Nat) (i3 : Nat) (a4 : Int32) (a5 : Int32) (u6 : Option AV) (M : Mem) (O : Int64) (T : Tmp) (c s : Nat) :
  BK L xs E mi_X4_spread back (k + 2) 64 [some (.inr (.inr (24, 0))), some (.inr (.inr (3, i1))), some (.inr (.inr (18, i2))), some (.inr (.inr (27, i3))), some (.inl a4), some (.inl a5), u6] [] M O T c s =
    BK L xs E mi_X4_spread back (k) 67 [some (.inr (.inr (24, 0))), some (.inr (.inr (3, i1))), some (.inr (.inr (18, i2))), some (.inr (.inr (27, i3))), some (.inl a4), some (.inl a5), some (.inl 1)] [] M O T c s :=
  blk_of (fun q => Nat.beq q 35 || Nat.beq q 45 || Nat.beq q 64 || Nat.beq q 67 || Nat.beq q 125 || Nat.beq q 131) (f := fun kk => kk (k) 67 [some (.inr (.inr (24, 0))), some (.inr (.inr (3, i1))), some (.inr (.inr (18, i2))), some (.inr (.inr (27, i3))), some (.inl a4), some (.inl a5), some (.inl 1)] [] M O T c s) (fun kk => rfl)
set_option maxRecDepth 100000 in
theorem e_X4_spread_67 (L : Nat) (xs : Nat → Int32) (E : CallT) (back : BackT) (k : Nat) (i1 : Nat) (i2 : Nat) (i3 : Nat) (a4 : Int32) (a5 : Int32) (a6 : Int32) (M : Mem) (O : Int64) (T : Tmp) (c s : Nat) :
  BK L xs E mi_X4_spread back (k + 8) 67 [some (.inr (.inr (24, 0))), some (.inr (.inr (3, i1))), some (.inr (.inr (18, i2))), some (.inr (.inr (27, i3))), some (.inl a4), some (.inl a5), some (.inl a6)] [] M O T c s =
    if (40 : Int32) ≤ a6 then (BK L xs E mi_X4_spread back (k + 5) 131 [some (.inr (.inr (24, 0))), some (.inr (.inr (3, i1))), some (.inr (.inr (18, i2))), some (.inr (.inr (27, i3))), some (.inl a4), some (.inl a5), some (.inl a6)] [] M O T c s) else (xret tkT mi_X4_spread 1 (E q_X3_goes [.inr (.inr (25, 0)), .inr (.inr (3, i1)), .inr (.inr (18, i2))] M O) (BK L xs E mi_X4_spread back (k)) 80 [some (.inr (.inr (24, 0))), some (.inr (.inr (3, i1))), some (.inr (.inr (18, i2))), some (.inr (.inr (27, i3))), some (.inl a4), some (.inl a5), some (.inl a6)] [] T c s) :=
  blk_of (fun q => Nat.beq q 35 || Nat.beq q 45 || Nat.beq q 67 || Nat.beq q 125 || Nat.beq q 131) (f := fun kk => if (40 : Int32) ≤ a6 then (kk (k + 5) 131 [some (.inr (.inr (24, 0))), some (.inr (.inr (3, i1))), some (.inr (.inr (18, i2))), some (.inr (.inr (27, i3))), some (.inl a4), some (.inl a5), some (.inl a6)] [] M O T c s) else (xret tkT mi_X4_spread 1 (E q_X3_goes [.inr (.inr (25, 0)), .inr (.inr (3, i1)), .inr (.inr (18, i2))] M O) (kk (k)) 80 [some (.inr (.inr (24, 0))), some (.inr (.inr (3, i1))), some (.inr (.inr (18, i2))), some (.inr (.inr (27, i3))), some (.inl a4), some (.inl a5), some (.inl a6)] [] T c s)) (fun kk => rfl)
set_option maxRecDepth 100000 in
theorem e_X4_spread_131 (L : Nat) (xs : Nat → Int32) (E : CallT) (back : BackT) (k : Nat) (i1 : Nat) (i2 : Nat) (i3 : Nat) (a4 : Int32) (a5 : Int32) (a6 : Int32) (M : Mem) (O : Int64) (T : Tmp) (c s : Nat) :
  BK L xs E mi_X4_spread back (k + 2) 131 [some (.inr (.inr (24, 0))), some (.inr (.inr (3, i1))), some (.inr (.inr (18, i2))), some (.inr (.inr (27, i3))), some (.inl a4), some (.inl a5), some (.inl a6)] [] M O T c s =
    back 45 [some (.inr (.inr (24, 0))), some (.inr (.inr (3, i1))), some (.inr (.inr (18, i2))), some (.inr (.inr (27, i3))), some (.inl a4), some (.inl (a5 + 1)), some (.inl a6)] M O T c s :=
  blk_of (fun q => Nat.beq q 35 || Nat.beq q 45 || Nat.beq q 67 || Nat.beq q 125 || Nat.beq q 131) (f := fun kk => back 45 [some (.inr (.inr (24, 0))), some (.inr (.inr (3, i1))), some (.inr (.inr (18, i2))), some (.inr (.inr (27, i3))), some (.inl a4), some (.inl (a5 + 1)), some (.inl a6)] M O T c s) (fun kk => rfl)
set_option maxRecDepth 100000 in
theorem e_X4_spread_83 (L : Nat) (xs : Nat → Int32) (E : CallT) (back : BackT) (k : Nat) (i1 : Nat) (i2 : Nat) (i3 : Nat) (a4 : Int32) (a5 : Int32) (a6 : Int32) (as0 : Int32) (M : Mem) (O : Int64) (T : Tmp) (c s : Nat) :
  BK L xs E mi_X4_spread back (k + 5) 83 [some (.inr (.inr (24, 0))), some (.inr (.inr (3, i1))), some (.inr (.inr (18, i2))), some (.inr (.inr (27, i3))), some (.inl a4), some (.inl a5), some (.inl a6)] [.inl as0] M O T c s =
    if as0 = 0 then (BK L xs E mi_X4_spread back (k + 4) 131 [some (.inr (.inr (24, 0))), some (.inr (.inr (3, i1))), some (.inr (.inr (18, i2))), some (.inr (.inr (27, i3))), some (.inl a4), some (.inl a5), some (.inl a6)] [] M O T c s) else (xret tkT mi_X4_spread 1 (E q_X3_isNearGround [.inr (.inr (25, 0)), .inr (.inr (3, i1))] M O) (BK L xs E mi_X4_spread back (k)) 91 [some (.inr (.inr (24, 0))), some (.inr (.inr (3, i1))), some (.inr (.inr (18, i2))), some (.inr (.inr (27, i3))), some (.inl a4), some (.inl a5), some (.inl a6)] [] T c s) :=
  blk_of (fun q => Nat.beq q 35 || Nat.beq q 45 || Nat.beq q 67 || Nat.beq q 83 || Nat.beq q 125 || Nat.beq q 131) (f := fun kk => if as0 = 0 then (kk (k + 4) 131 [some (.inr (.inr (24, 0))), some (.inr (.inr (3, i1))), some (.inr (.inr (18, i2))), some (.inr (.inr (27, i3))), some (.inl a4), some (.inl a5), some (.inl a6)] [] M O T c s) else (xret tkT mi_X4_spread 1 (E q_X3_isNearGround [.inr (.inr (25, 0)), .inr (.inr (3, i1))] M O) (kk (k)) 91 [some (.inr (.inr (24, 0))), some (.inr (.inr (3, i1))), some (.inr (.inr (18, i2))), some (.inr (.inr (27, i3))), some (.inl a4), some (.inl a5), some (.inl a6)] [] T c s)) (fun kk => rfl)
set_option maxRecDepth 100000 in
theorem e_X4_spread_94 (L : Nat) (xs : Nat → Int32) (d : Nat) (back : BackT) (k : Nat) (i1 : Nat) (i2 : Nat) (i3 : Nat) (a4 : Int32) (a5 : Int32) (a6 : Int32) (as0 : Int32) (M : Mem) (O : Int64) (T : Tmp) (c s : Nat) :
  BK L xs (EX L xs (d + 1)) mi_X4_spread back (k + 14) 94 [some (.inr (.inr (24, 0))), some (.inr (.inr (3, i1))), some (.inr (.inr (18, i2))), some (.inr (.inr (27, i3))), some (.inl a4), some (.inl a5), some (.inl a6)] [.inl as0] M O T c s =
    if as0 = 0 then (BK L xs (EX L xs (d + 1)) mi_X4_spread back (k + 13) 125 [some (.inr (.inr (24, 0))), some (.inr (.inr (3, i1))), some (.inr (.inr (18, i2))), some (.inr (.inr (27, i3))), some (.inl a4), some (.inl a5), some (.inl a6)] [] M O T c s) else (if 0 ≤ ((M 25 0 5) : Int32).toInt ∧ ((M 25 0 5) : Int32).toInt < 40 then (BK L xs (EX L xs (d + 1)) mi_X4_spread back (k) 124 [some (.inr (.inr (24, 0))), some (.inr (.inr (3, i1))), some (.inr (.inr (18, i2))), some (.inr (.inr (27, i3))), some (.inl a4), some (.inl a5), some (.inl a6)] [.inl (if (M 27 i3 ((M 25 0 5) : Int32).toNatClampNeg) < (M 25 0 9) then (M 25 0 9) else (M 27 i3 ((M 25 0 5) : Int32).toNatClampNeg)), .inl (M 25 0 5), .inr (.inr (27, i3))] M O T c s) else none) :=
  blk_of (fun q => Nat.beq q 35 || Nat.beq q 45 || Nat.beq q 67 || Nat.beq q 94 || Nat.beq q 125 || Nat.beq q 131) (f := fun kk => if as0 = 0 then (kk (k + 13) 125 [some (.inr (.inr (24, 0))), some (.inr (.inr (3, i1))), some (.inr (.inr (18, i2))), some (.inr (.inr (27, i3))), some (.inl a4), some (.inl a5), some (.inl a6)] [] M O T c s) else (if 0 ≤ ((M 25 0 5) : Int32).toInt ∧ ((M 25 0 5) : Int32).toInt < 40 then (kk (k) 124 [some (.inr (.inr (24, 0))), some (.inr (.inr (3, i1))), some (.inr (.inr (18, i2))), some (.inr (.inr (27, i3))), some (.inl a4), some (.inl a5), some (.inl a6)] [.inl (if (M 27 i3 ((M 25 0 5) : Int32).toNatClampNeg) < (M 25 0 9) then (M 25 0 9) else (M 27 i3 ((M 25 0 5) : Int32).toNatClampNeg)), .inl (M 25 0 5), .inr (.inr (27, i3))] M O T c s) else none)) (fun kk => rfl)
set_option maxRecDepth 100000 in
theorem e_X4_spread_125 (L : Nat) (xs : Nat → Int32) (E : CallT) (back : BackT) (k : Nat) (i1 : Nat) (i2 : Nat) (i3 : Nat) (a4 : Int32) (a5 : Int32) (a6 : Int32) (M : Mem) (O : Int64) (T : Tmp) (c s : Nat) :
  BK L xs E mi_X4_spread back (k + 2) 125 [some (.inr (.inr (24, 0))), some (.inr (.inr (3, i1))), some (.inr (.inr (18, i2))), some (.inr (.inr (27, i3))), some (.inl a4), some (.inl a5), some (.inl a6)] [] M O T c s =
    back 67 [some (.inr (.inr (24, 0))), some (.inr (.inr (3, i1))), some (.inr (.inr (18, i2))), some (.inr (.inr (27, i3))), some (.inl a4), some (.inl a5), some (.inl (a6 + 1))] M O T c s :=
  blk_of (fun q => Nat.beq q 35 || Nat.beq q 45 || Nat.beq q 67 || Nat.beq q 125 || Nat.beq q 131) (f := fun kk => back 67 [some (.inr (.inr (24, 0))), some (.inr (.inr (3, i1))), some (.inr (.inr (18, i2))), some (.inr (.inr (27, i3))), some (.inl a4), some (.inl a5), some (.inl (a6 + 1))] M O T c s) (fun kk => rfl)
set_option maxRecDepth 100000 in
theorem e_X4_spread_124 (L : Nat) (xs : Nat → Int32) (E : CallT) (back : BackT) (k : Nat) (i1 : Nat) (i2 : Nat) (i3 : Nat) (a4 : Int32) (a5 : Int32) (a6 : Int32) (as0 : Int32) (as1 : Int32) (is2 : Nat) (M : Mem) (O : Int64) (T : Tmp) (c s : Nat) :
  BK L xs E mi_X4_spread back (k + 1) 124 [some (.inr (.inr (24, 0))), some (.inr (.inr (3, i1))), some (.inr (.inr (18, i2))), some (.inr (.inr (27, i3))), some (.inl a4), some (.inl a5), some (.inl a6)] [.inl as0, .inl as1, .inr (.inr (27, is2))] M O T c s =
    if 0 ≤ (as1 : Int32).toInt ∧ (as1 : Int32).toInt < 40 then (BK L xs E mi_X4_spread back (k) 125 [some (.inr (.inr (24, 0))), some (.inr (.inr (3, i1))), some (.inr (.inr (18, i2))), some (.inr (.inr (27, i3))), some (.inl a4), some (.inl a5), some (.inl a6)] [] (mput M 27 is2 (as1 : Int32).toNatClampNeg as0) O T c s) else none :=
  blk_of (fun q => Nat.beq q 35 || Nat.beq q 45 || Nat.beq q 67 || Nat.beq q 124 || Nat.beq q 125 || Nat.beq q 131) (f := fun kk => if 0 ≤ (as1 : Int32).toInt ∧ (as1 : Int32).toInt < 40 then (kk (k) 125 [some (.inr (.inr (24, 0))), some (.inr (.inr (3, i1))), some (.inr (.inr (18, i2))), some (.inr (.inr (27, i3))), some (.inl a4), some (.inl a5), some (.inl a6)] [] (mput M 27 is2 (as1 : Int32).toNatClampNeg as0) O T c s) else none) (fun kk => rfl)
set_option maxRecDepth 100000 in
theorem e_X4_rowOf_0 (L : Nat) (xs : Nat → Int32) (E : CallT) (back : BackT) (k : Nat) (i1 : Nat) (i2 : Nat) (a3 : Int32) (a4 : Int32) (M : Mem) (O : Int64)  (c s : Nat) :
  BK L xs E mi_X4_rowOf back (k + 16) 0 [some (.inr (.inr (24, 0))), some (.inr (.inr (3, i1))), some (.inr (.inr (18, i2))), some (.inl a3), some (.inl a4), none] [] M O none c s =
    if 0 ≤ (((a3 * 6) + a4) : Int32).toInt ∧ (((a3 * 6) + a4) : Int32).toInt < 36 then (if (M 28 0 (((a3 * 6) + a4) : Int32).toNatClampNeg) = 0 then (xret tkT mi_X4_rowOf 1 (E q_X3_setSource [.inr (.inr (25, 0)), .inr (.inr (3, i1)), .inl a4] M O) (BK L xs E mi_X4_rowOf back (k)) 26 [some (.inr (.inr (24, 0))), some (.inr (.inr (3, i1))), some (.inr (.inr (18, i2))), some (.inl a3), some (.inl a4), some (.inl ((a3 * 6) + a4))] [] none c s) else (BK L xs E mi_X4_rowOf back (k + 5) 50 [some (.inr (.inr (24, 0))), some (.inr (.inr (3, i1))), some (.inr (.inr (18, i2))), some (.inl a3), some (.inl a4), some (.inl ((a3 * 6) + a4))] [] M O none c s)) else none :=
  blk_of (fun q => Nat.beq q 0 || Nat.beq q 50) (f := fun kk => if 0 ≤ (((a3 * 6) + a4) : Int32).toInt ∧ (((a3 * 6) + a4) : Int32).toInt < 36 then (if (M 28 0 (((a3 * 6) + a4) : Int32).toNatClampNeg) = 0 then (xret tkT mi_X4_rowOf 1 (E q_X3_setSource [.inr (.inr (25, 0)), .inr (.inr (3, i1)), .inl a4] M O) (kk (k)) 26 [some (.inr (.inr (24, 0))), some (.inr (.inr (3, i1))), some (.inr (.inr (18, i2))), some (.inl a3), some (.inl a4), some (.inl ((a3 * 6) + a4))] [] none c s) else (kk (k + 5) 50 [some (.inr (.inr (24, 0))), some (.inr (.inr (3, i1))), some (.inr (.inr (18, i2))), some (.inl a3), some (.inl a4), some (.inl ((a3 * 6) + a4))] [] M O none c s)) else none) (fun kk => rfl)
set_option maxRecDepth 100000 in
theorem e_X4_rowOf_29 (L : Nat) (xs : Nat → Int32) (E : CallT) (back : BackT) (k : Nat) (i1 : Nat) (i2 : Nat) (a3 : Int32) (a4 : Int32) (a5 : Int32) (M : Mem) (O : Int64)  (c s : Nat) :
  BK L xs E mi_X4_rowOf back (k + 8) 29 [some (.inr (.inr (24, 0))), some (.inr (.inr (3, i1))), some (.inr (.inr (18, i2))), some (.inl a3), some (.inl a4), some (.inl a5)] [] M O none c s =
    if 0 ≤ (a5 : Int32).toInt ∧ (a5 : Int32).toInt < 36 then (xret tkT mi_X4_rowOf 0 (E q_X4_spread [.inr (.inr (24, 0)), .inr (.inr (3, i1)), .inr (.inr (18, i2)), .inr (.inr (27, (0 + (a5 : Int32).toNatClampNeg)))] M O) (BK L xs E mi_X4_rowOf back (k)) 39 [some (.inr (.inr (24, 0))), some (.inr (.inr (3, i1))), some (.inr (.inr (18, i2))), some (.inl a3), some (.inl a4), some (.inl a5)] [] none c s) else none :=
  blk_of (fun q => Nat.beq q 29 || Nat.beq q 50) (f := fun kk => if 0 ≤ (a5 : Int32).toInt ∧ (a5 : Int32).toInt < 36 then (xret tkT mi_X4_rowOf 0 (E q_X4_spread [.inr (.inr (24, 0)), .inr (.inr (3, i1)), .inr (.inr (18, i2)), .inr (.inr (27, (0 + (a5 : Int32).toNatClampNeg)))] M O) (kk (k)) 39 [some (.inr (.inr (24, 0))), some (.inr (.inr (3, i1))), some (.inr (.inr (18, i2))), some (.inl a3), some (.inl a4), some (.inl a5)] [] none c s) else none) (fun kk => rfl)
set_option maxRecDepth 100000 in
theorem e_X4_rowOf_50 (L : Nat) (xs : Nat → Int32) (E : CallT) (back : BackT) (k : Nat) (i1 : Nat) (i2 : Nat) (a3 : Int32) (a4 : Int32) (a5 : Int32) (M : Mem) (O : Int64)  (c s : Nat) :
  BK L xs E mi_X4_rowOf back (k + 5) 50 [some (.inr (.inr (24, 0))), some (.inr (.inr (3, i1))), some (.inr (.inr (18, i2))), some (.inl a3), some (.inl a4), some (.inl a5)] [] M O none c s =
    if 0 ≤ (a5 : Int32).toInt ∧ (a5 : Int32).toInt < 36 then (some (.inl (some (.inr (.inr (27, (0 + (a5 : Int32).toNatClampNeg))))), M, O, c, s)) else none :=
  blk_of (fun q => Nat.beq q 50) (f := fun kk => if 0 ≤ (a5 : Int32).toInt ∧ (a5 : Int32).toInt < 36 then (some (.inl (some (.inr (.inr (27, (0 + (a5 : Int32).toNatClampNeg))))), M, O, c, s)) else none) (fun kk => rfl)
set_option maxRecDepth 100000 in
theorem e_X4_rowOf_42 (L : Nat) (xs : Nat → Int32) (E : CallT) (back : BackT) (k : Nat) (i1 : Nat) (i2 : Nat) (a3 : Int32) (a4 : Int32) (a5 : Int32) (M : Mem) (O : Int64)  (c s : Nat) :
  BK L xs E mi_X4_rowOf back (k + 5) 42 [some (.inr (.inr (24, 0))), some (.inr (.inr (3, i1))), some (.inr (.inr (18, i2))), some (.inl a3), some (.inl a4), some (.inl a5)] [] M O none c s =
    if 0 ≤ (a5 : Int32).toInt ∧ (a5 : Int32).toInt < 36 then (BK L xs E mi_X4_rowOf back (k) 50 [some (.inr (.inr (24, 0))), some (.inr (.inr (3, i1))), some (.inr (.inr (18, i2))), some (.inl a3), some (.inl a4), some (.inl a5)] [] (mput M 28 0 (a5 : Int32).toNatClampNeg 1) O none c s) else none :=
  blk_of (fun q => Nat.beq q 42 || Nat.beq q 50) (f := fun kk => if 0 ≤ (a5 : Int32).toInt ∧ (a5 : Int32).toInt < 36 then (kk (k) 50 [some (.inr (.inr (24, 0))), some (.inr (.inr (3, i1))), some (.inr (.inr (18, i2))), some (.inl a3), some (.inl a4), some (.inl a5)] [] (mput M 28 0 (a5 : Int32).toNatClampNeg 1) O none c s) else none) (fun kk => rfl)
set_option maxRecDepth 100000 in
theorem e_X6_rowOf_0 (L : Nat) (xs : Nat → Int32) (E : CallT) (back : BackT) (k : Nat) (a1 : Int32) (a2 : Int32) (M : Mem) (O : Int64)  (c s : Nat) :
  BK L xs E mi_X6_rowOf back (k + 11) 0 [some (.inr (.inr (0, 0))), some (.inl a1), some (.inl a2)] [] M O none c s =
    if 0 ≤ (a1 : Int32).toInt ∧ (a1 : Int32).toInt < 6 then (xret tkT mi_X6_rowOf 1 (E q_X4_rowOf [.inr (.inr (24, 0)), .inr (.inr (3, 2)), .inr (.inr (18, (0 + (a1 : Int32).toNatClampNeg))), .inl a1, .inl a2] M O) (BK L xs E mi_X6_rowOf back (k)) 16 [some (.inr (.inr (0, 0))), some (.inl a1), some (.inl a2)] [] none c s) else none :=
  blk_of (fun q => Nat.beq q 0) (f := fun kk => if 0 ≤ (a1 : Int32).toInt ∧ (a1 : Int32).toInt < 6 then (xret tkT mi_X6_rowOf 1 (E q_X4_rowOf [.inr (.inr (24, 0)), .inr (.inr (3, 2)), .inr (.inr (18, (0 + (a1 : Int32).toNatClampNeg))), .inl a1, .inl a2] M O) (kk (k)) 16 [some (.inr (.inr (0, 0))), some (.inl a1), some (.inl a2)] [] none c s) else none) (fun kk => rfl)
set_option maxRecDepth 100000 in
theorem e_X6_rowOf_19 (L : Nat) (xs : Nat → Int32) (E : CallT) (back : BackT) (k : Nat) (a1 : Int32) (a2 : Int32) (is0 : Nat) (M : Mem) (O : Int64)  (c s : Nat) :
  BK L xs E mi_X6_rowOf back (k + 1) 19 [some (.inr (.inr (0, 0))), some (.inl a1), some (.inl a2)] [.inr (.inr (27, is0))] M O none c s =
    some (.inl (some (.inr (.inr (27, is0)))), M, O, c, s) :=
  blk_of (fun q => Nat.beq q 19) (f := fun kk => some (.inl (some (.inr (.inr (27, is0)))), M, O, c, s)) (fun kk => rfl)
set_option maxRecDepth 100000 in
theorem e_X6_loud_0 (L : Nat) (xs : Nat → Int32) (E : CallT) (back : BackT) (k : Nat) (a1 : Int32) (a2 : Int32) (a3 : Int32) (M : Mem) (O : Int64) (T : Tmp) (c s : Nat) :
  BK L xs E mi_X6_loud back (k + 3) 0 [some (.inr (.inr (0, 0))), some (.inl a1), some (.inl a2), some (.inl a3)] [] M O T c s =
    xret tkT mi_X6_loud 0 (E q_X6_needCell [.inr (.inr (0, 0)), .inl a1] M O) (BK L xs E mi_X6_loud back (k)) 2 [some (.inr (.inr (0, 0))), some (.inl a1), some (.inl a2), some (.inl a3)] [] T c s :=
  blk_of (fun q => Nat.beq q 0) (f := fun kk => xret tkT mi_X6_loud 0 (E q_X6_needCell [.inr (.inr (0, 0)), .inl a1] M O) (kk (k)) 2 [some (.inr (.inr (0, 0))), some (.inl a1), some (.inl a2), some (.inl a3)] [] T c s) (fun kk => rfl)
set_option maxRecDepth 100000 in
theorem e_X6_loud_5 (L : Nat) (xs : Nat → Int32) (E : CallT) (back : BackT) (k : Nat) (a1 : Int32) (a2 : Int32) (a3 : Int32) (M : Mem) (O : Int64) (T : Tmp) (c s : Nat) :
  BK L xs E mi_X6_loud back (k + 3) 5 [some (.inr (.inr (0, 0))), some (.inl a1), some (.inl a2), some (.inl a3)] [] M O T c s =
    xret tkT mi_X6_loud 0 (E q_X6_needAir [.inr (.inr (0, 0)), .inl a2] M O) (BK L xs E mi_X6_loud back (k)) 7 [some (.inr (.inr (0, 0))), some (.inl a1), some (.inl a2), some (.inl a3)] [] T c s :=
  blk_of (fun q => Nat.beq q 5) (f := fun kk => xret tkT mi_X6_loud 0 (E q_X6_needAir [.inr (.inr (0, 0)), .inl a2] M O) (kk (k)) 7 [some (.inr (.inr (0, 0))), some (.inl a1), some (.inl a2), some (.inl a3)] [] T c s) (fun kk => rfl)
set_option maxRecDepth 100000 in
theorem e_X6_loud_10 (L : Nat) (xs : Nat → Int32) (E : CallT) (back : BackT) (k : Nat) (a1 : Int32) (a2 : Int32) (a3 : Int32) (M : Mem) (O : Int64) (T : Tmp) (c s : Nat) :
  BK L xs E mi_X6_loud back (k + 3) 10 [some (.inr (.inr (0, 0))), some (.inl a1), some (.inl a2), some (.inl a3)] [] M O T c s =
    xret tkT mi_X6_loud 0 (E q_X6_needSource [.inr (.inr (0, 0)), .inl a3] M O) (BK L xs E mi_X6_loud back (k)) 12 [some (.inr (.inr (0, 0))), some (.inl a1), some (.inl a2), some (.inl a3)] [] T c s :=
  blk_of (fun q => Nat.beq q 10) (f := fun kk => xret tkT mi_X6_loud 0 (E q_X6_needSource [.inr (.inr (0, 0)), .inl a3] M O) (kk (k)) 12 [some (.inr (.inr (0, 0))), some (.inl a1), some (.inl a2), some (.inl a3)] [] T c s) (fun kk => rfl)
set_option maxRecDepth 100000 in
theorem e_X6_loud_15 (L : Nat) (xs : Nat → Int32) (E : CallT) (back : BackT) (k : Nat) (a1 : Int32) (a2 : Int32) (a3 : Int32) (M : Mem) (O : Int64) (T : Tmp) (c s : Nat) :
  BK L xs E mi_X6_loud back (k + 4) 15 [some (.inr (.inr (0, 0))), some (.inl a1), some (.inl a2), some (.inl a3)] [] M O T c s =
    xret tkT mi_X6_loud 0 (E q_X6_rowOf [.inr (.inr (0, 0)), .inl a2, .inl a3] M O) (BK L xs E mi_X6_loud back (k)) 18 [some (.inr (.inr (0, 0))), some (.inl a1), some (.inl a2), some (.inl a3)] [] T c s :=
  blk_of (fun q => Nat.beq q 15) (f := fun kk => xret tkT mi_X6_loud 0 (E q_X6_rowOf [.inr (.inr (0, 0)), .inl a2, .inl a3] M O) (kk (k)) 18 [some (.inr (.inr (0, 0))), some (.inl a1), some (.inl a2), some (.inl a3)] [] T c s) (fun kk => rfl)
set_option maxRecDepth 100000 in
theorem e_X6_loud_21 (L : Nat) (xs : Nat → Int32) (E : CallT) (back : BackT) (k : Nat) (a1 : Int32) (a2 : Int32) (a3 : Int32) (is0 : Nat) (M : Mem) (O : Int64) (T : Tmp) (c s : Nat) :
  BK L xs E mi_X6_loud back (k + 3) 21 [some (.inr (.inr (0, 0))), some (.inl a1), some (.inl a2), some (.inl a3)] [.inr (.inr (27, is0))] M O T c s =
    if 0 ≤ (a1 : Int32).toInt ∧ (a1 : Int32).toInt < 40 then (some (.inl (some (.inl (M 27 is0 (a1 : Int32).toNatClampNeg))), M, O, c, s)) else none :=
  blk_of (fun q => Nat.beq q 21) (f := fun kk => if 0 ≤ (a1 : Int32).toInt ∧ (a1 : Int32).toInt < 40 then (some (.inl (some (.inl (M 27 is0 (a1 : Int32).toNatClampNeg))), M, O, c, s)) else none) (fun kk => rfl)
set_option maxRecDepth 100000 in
theorem e_L_loud_0 (L : Nat) (xs : Nat → Int32) (E : CallT) (back : BackT) (k : Nat) (a1 : Int32) (a2 : Int32) (a3 : Int32) (M : Mem) (O : Int64) (T : Tmp) (c s : Nat) :
  BK L xs E mi_L_loud back (k + 7) 0 [some (.inr (.inr (0, 0))), some (.inl a1), some (.inl a2), some (.inl a3), some (.inr (.inr (83, 0))), none] [] M O T c s =
    xret tkT mi_L_loud 0 (E q_X6_loud [.inr (.inr (0, 0)), .inl a1, .inl a2, .inl a3] M O) (BK L xs E mi_L_loud back (k)) 7 [some (.inr (.inr (0, 0))), some (.inl a1), some (.inl a2), some (.inl a3), some (.inr (.inr (83, 0))), none] [.inl 0, .inr (.inr (83, 0))] T c s :=
  blk_of (fun q => Nat.beq q 0) (f := fun kk => xret tkT mi_L_loud 0 (E q_X6_loud [.inr (.inr (0, 0)), .inl a1, .inl a2, .inl a3] M O) (kk (k)) 7 [some (.inr (.inr (0, 0))), some (.inl a1), some (.inl a2), some (.inl a3), some (.inr (.inr (83, 0))), none] [.inl 0, .inr (.inr (83, 0))] T c s) (fun kk => rfl)
set_option maxRecDepth 100000 in
theorem e_L_loud_10 (L : Nat) (xs : Nat → Int32) (E : CallT) (back : BackT) (k : Nat) (a1 : Int32) (a2 : Int32) (a3 : Int32) (u5 : Option AV) (as0 : Int32) (as1 : Int32) (M : Mem) (O : Int64) (T : Tmp) (c s : Nat) :
  BK L xs E mi_L_loud back (k + 5) 10 [some (.inr (.inr (0, 0))), some (.inl a1), some (.inl a2), some (.inl a3), some (.inr (.inr (83, 0))), u5] [.inl as0, .inl as1, .inr (.inr (83, 0))] M O T c s =
    if (as1 : Int32) = 0 then (some (.inl (some (.inl 0)), M, (as0).toInt64, c, s)) else none :=
  blk_of (fun q => Nat.beq q 10) (f := fun kk => if (as1 : Int32) = 0 then (some (.inl (some (.inl 0)), M, (as0).toInt64, c, s)) else none) (fun kk => rfl)
set_option maxRecDepth 100000 in
theorem e_X1_soundsIn_0 (L : Nat) (xs : Nat → Int32) (E : CallT) (back : BackT) (k : Nat) (i0 : Nat) (a1 : Int32) (a2 : Int32) (M : Mem) (O : Int64) (T : Tmp) (c s : Nat) :
  BK L xs E mi_X1_soundsIn back (k + 6) 0 [some (.inr (.inr (3, i0))), some (.inl a1), some (.inl a2)] [] M O T c s =
    if 0 ≤ (a1 : Int32).toInt ∧ (a1 : Int32).toInt < 6 then (xret tkT mi_X1_soundsIn 3 (E q_X6_hasBit [.inl (M 13 i0 (a1 : Int32).toNatClampNeg), .inl a2] M O) (BK L xs E mi_X1_soundsIn back (k)) 7 [some (.inr (.inr (3, i0))), some (.inl a1), some (.inl a2)] [] T c s) else none :=
  blk_of (fun q => Nat.beq q 0) (f := fun kk => if 0 ≤ (a1 : Int32).toInt ∧ (a1 : Int32).toInt < 6 then (xret tkT mi_X1_soundsIn 3 (E q_X6_hasBit [.inl (M 13 i0 (a1 : Int32).toNatClampNeg), .inl a2] M O) (kk (k)) 7 [some (.inr (.inr (3, i0))), some (.inl a1), some (.inl a2)] [] T c s) else none) (fun kk => rfl)
set_option maxRecDepth 100000 in
theorem e_X1_soundsIn_10 (L : Nat) (xs : Nat → Int32) (E : CallT) (back : BackT) (k : Nat) (i0 : Nat) (a1 : Int32) (a2 : Int32) (as0 : Int32) (M : Mem) (O : Int64) (T : Tmp) (c s : Nat) :
  BK L xs E mi_X1_soundsIn back (k + 1) 10 [some (.inr (.inr (3, i0))), some (.inl a1), some (.inl a2)] [.inl as0] M O T c s =
    if (as0 : Int32) = 0 ∨ (as0 : Int32) = 1 then some (.inl (some (.inl as0)), M, O, c, s) else none :=
  blk_of (fun q => Nat.beq q 10) (f := fun kk => if (as0 : Int32) = 0 ∨ (as0 : Int32) = 1 then some (.inl (some (.inl as0)), M, O, c, s) else none) (fun kk => rfl)
set_option maxRecDepth 100000 in
theorem e_X6_loudIn_0 (L : Nat) (xs : Nat → Int32) (E : CallT) (back : BackT) (k : Nat) (a1 : Int32) (a2 : Int32) (a3 : Int32) (M : Mem) (O : Int64) (T : Tmp) (c s : Nat) :
  BK L xs E mi_X6_loudIn back (k + 4) 0 [some (.inr (.inr (0, 0))), some (.inl a1), some (.inl a2), some (.inl a3), none, none] [] M O T c s =
    BK L xs E mi_X6_loudIn back (k) 6 [some (.inr (.inr (0, 0))), some (.inl a1), some (.inl a2), some (.inl a3), some (.inl 0), some (.inl 0)] [] M O T c s :=
  blk_of (fun q => Nat.beq q 0 || Nat.beq q 6 || Nat.beq q 47) (f := fun kk => kk (k) 6 [some (.inr (.inr (0, 0))), some (.inl a1), some (.inl a2), some (.inl a3), some (.inl 0), some (.inl 0)] [] M O T c s) (fun kk => rfl)
set_option maxRecDepth 100000 in
theorem e_X6_loudIn_6 (L : Nat) (xs : Nat → Int32) (E : CallT) (back : BackT) (k : Nat) (a1 : Int32) (a2 : Int32) (a3 : Int32) (a4 : Int32) (a5 : Int32) (M : Mem) (O : Int64) (T : Tmp) (c s : Nat) :
  BK L xs E mi_X6_loudIn back (k + 10) 6 [some (.inr (.inr (0, 0))), some (.inl a1), some (.inl a2), some (.inl a3), some (.inl a4), some (.inl a5)] [] M O T c s =
    if (M 3 2 8) ≤ a5 then (some (.inl (some (.inl a4)), M, O, c, s)) else (xret tkT mi_X6_loudIn 1 (E q_X1_soundsIn [.inr (.inr (3, 2)), .inl a5, .inl a3] M O) (BK L xs E mi_X6_loudIn back (k)) 25 [some (.inr (.inr (0, 0))), some (.inl a1), some (.inl a2), some (.inl a3), some (.inl a4), some (.inl a5)] [] T c s) :=
  blk_of (fun q => Nat.beq q 6 || Nat.beq q 47) (f := fun kk => if (M 3 2 8) ≤ a5 then (some (.inl (some (.inl a4)), M, O, c, s)) else (xret tkT mi_X6_loudIn 1 (E q_X1_soundsIn [.inr (.inr (3, 2)), .inl a5, .inl a3] M O) (kk (k)) 25 [some (.inr (.inr (0, 0))), some (.inl a1), some (.inl a2), some (.inl a3), some (.inl a4), some (.inl a5)] [] T c s)) (fun kk => rfl)
set_option maxRecDepth 100000 in
theorem e_X6_loudIn_28 (L : Nat) (xs : Nat → Int32) (E : CallT) (back : BackT) (k : Nat) (a1 : Int32) (a2 : Int32) (a3 : Int32) (a4 : Int32) (a5 : Int32) (as0 : Int32) (M : Mem) (O : Int64) (T : Tmp) (c s : Nat) :
  BK L xs E mi_X6_loudIn back (k + 6) 28 [some (.inr (.inr (0, 0))), some (.inl a1), some (.inl a2), some (.inl a3), some (.inl a4), some (.inl a5)] [.inl as0] M O T c s =
    if as0 = 0 then (BK L xs E mi_X6_loudIn back (k + 5) 47 [some (.inr (.inr (0, 0))), some (.inl a1), some (.inl a2), some (.inl a3), some (.inl a4), some (.inl a5)] [] M O T c s) else (xret tkT mi_X6_loudIn 0 (E q_X6_rowOf [.inr (.inr (0, 0)), .inl a2, .inl a5] M O) (BK L xs E mi_X6_loudIn back (k)) 37 [some (.inr (.inr (0, 0))), some (.inl a1), some (.inl a2), some (.inl a3), some (.inl a4), some (.inl a5)] [.inl a4] T c s) :=
  blk_of (fun q => Nat.beq q 6 || Nat.beq q 28 || Nat.beq q 47) (f := fun kk => if as0 = 0 then (kk (k + 5) 47 [some (.inr (.inr (0, 0))), some (.inl a1), some (.inl a2), some (.inl a3), some (.inl a4), some (.inl a5)] [] M O T c s) else (xret tkT mi_X6_loudIn 0 (E q_X6_rowOf [.inr (.inr (0, 0)), .inl a2, .inl a5] M O) (kk (k)) 37 [some (.inr (.inr (0, 0))), some (.inl a1), some (.inl a2), some (.inl a3), some (.inl a4), some (.inl a5)] [.inl a4] T c s)) (fun kk => rfl)
set_option maxRecDepth 100000 in
theorem e_X6_loudIn_47 (L : Nat) (xs : Nat → Int32) (E : CallT) (back : BackT) (k : Nat) (a1 : Int32) (a2 : Int32) (a3 : Int32) (a4 : Int32) (a5 : Int32) (M : Mem) (O : Int64) (T : Tmp) (c s : Nat) :
  BK L xs E mi_X6_loudIn back (k + 2) 47 [some (.inr (.inr (0, 0))), some (.inl a1), some (.inl a2), some (.inl a3), some (.inl a4), some (.inl a5)] [] M O T c s =
    back 6 [some (.inr (.inr (0, 0))), some (.inl a1), some (.inl a2), some (.inl a3), some (.inl a4), some (.inl (a5 + 1))] M O T c s :=
  blk_of (fun q => Nat.beq q 6 || Nat.beq q 47) (f := fun kk => back 6 [some (.inr (.inr (0, 0))), some (.inl a1), some (.inl a2), some (.inl a3), some (.inl a4), some (.inl (a5 + 1))] M O T c s) (fun kk => rfl)
set_option maxRecDepth 100000 in
theorem e_X6_loudIn_40 (L : Nat) (xs : Nat → Int32) (d : Nat) (back : BackT) (k : Nat) (a1 : Int32) (a2 : Int32) (a3 : Int32) (a4 : Int32) (a5 : Int32) (is0 : Nat) (as1 : Int32) (M : Mem) (O : Int64) (T : Tmp) (c s : Nat) :
  BK L xs (EX L xs (d + 1)) mi_X6_loudIn back (k + 3) 40 [some (.inr (.inr (0, 0))), some (.inl a1), some (.inl a2), some (.inl a3), some (.inl a4), some (.inl a5)] [.inr (.inr (27, is0)), .inl as1] M O T c s =
    if 0 ≤ (a1 : Int32).toInt ∧ (a1 : Int32).toInt < 40 then (BK L xs (EX L xs (d + 1)) mi_X6_loudIn back (k) 45 [some (.inr (.inr (0, 0))), some (.inl a1), some (.inl a2), some (.inl a3), some (.inl a4), some (.inl a5)] [.inl (if as1 < (M 27 is0 (a1 : Int32).toNatClampNeg) then (M 27 is0 (a1 : Int32).toNatClampNeg) else as1)] M O T c s) else none :=
  blk_of (fun q => Nat.beq q 6 || Nat.beq q 40 || Nat.beq q 47) (f := fun kk => if 0 ≤ (a1 : Int32).toInt ∧ (a1 : Int32).toInt < 40 then (kk (k) 45 [some (.inr (.inr (0, 0))), some (.inl a1), some (.inl a2), some (.inl a3), some (.inl a4), some (.inl a5)] [.inl (if as1 < (M 27 is0 (a1 : Int32).toNatClampNeg) then (M 27 is0 (a1 : Int32).toNatClampNeg) else as1)] M O T c s) else none) (fun kk => rfl)
set_option maxRecDepth 100000 in
theorem e_X6_loudIn_45 (L : Nat) (xs : Nat → Int32) (E : CallT) (back : BackT) (k : Nat) (a1 : Int32) (a2 : Int32) (a3 : Int32) (a4 : Int32) (a5 : Int32) (as0 : Int32) (M : Mem) (O : Int64) (T : Tmp) (c s : Nat) :
  BK L xs E mi_X6_loudIn back (k + 1) 45 [some (.inr (.inr (0, 0))), some (.inl a1), some (.inl a2), some (.inl a3), some (.inl a4), some (.inl a5)] [.inl as0] M O T c s =
    BK L xs E mi_X6_loudIn back (k) 47 [some (.inr (.inr (0, 0))), some (.inl a1), some (.inl a2), some (.inl a3), some (.inl as0), some (.inl a5)] [] M O T c s :=
  blk_of (fun q => Nat.beq q 6 || Nat.beq q 45 || Nat.beq q 47) (f := fun kk => kk (k) 47 [some (.inr (.inr (0, 0))), some (.inl a1), some (.inl a2), some (.inl a3), some (.inl as0), some (.inl a5)] [] M O T c s) (fun kk => rfl)
set_option maxRecDepth 100000 in
theorem e_X6_at_0 (L : Nat) (xs : Nat → Int32) (E : CallT) (back : BackT) (k : Nat) (a1 : Int32) (a2 : Int32) (a3 : Int32) (M : Mem) (O : Int64) (T : Tmp) (c s : Nat) :
  BK L xs E mi_X6_at back (k + 3) 0 [some (.inr (.inr (0, 0))), some (.inl a1), some (.inl a2), some (.inl a3)] [] M O T c s =
    xret tkT mi_X6_at 0 (E q_X6_needCell [.inr (.inr (0, 0)), .inl a1] M O) (BK L xs E mi_X6_at back (k)) 2 [some (.inr (.inr (0, 0))), some (.inl a1), some (.inl a2), some (.inl a3)] [] T c s :=
  blk_of (fun q => Nat.beq q 0) (f := fun kk => xret tkT mi_X6_at 0 (E q_X6_needCell [.inr (.inr (0, 0)), .inl a1] M O) (kk (k)) 2 [some (.inr (.inr (0, 0))), some (.inl a1), some (.inl a2), some (.inl a3)] [] T c s) (fun kk => rfl)
set_option maxRecDepth 100000 in
theorem e_X6_at_5 (L : Nat) (xs : Nat → Int32) (E : CallT) (back : BackT) (k : Nat) (a1 : Int32) (a2 : Int32) (a3 : Int32) (M : Mem) (O : Int64) (T : Tmp) (c s : Nat) :
  BK L xs E mi_X6_at back (k + 3) 5 [some (.inr (.inr (0, 0))), some (.inl a1), some (.inl a2), some (.inl a3)] [] M O T c s =
    xret tkT mi_X6_at 0 (E q_X6_needAir [.inr (.inr (0, 0)), .inl a2] M O) (BK L xs E mi_X6_at back (k)) 7 [some (.inr (.inr (0, 0))), some (.inl a1), some (.inl a2), some (.inl a3)] [] T c s :=
  blk_of (fun q => Nat.beq q 5) (f := fun kk => xret tkT mi_X6_at 0 (E q_X6_needAir [.inr (.inr (0, 0)), .inl a2] M O) (kk (k)) 7 [some (.inr (.inr (0, 0))), some (.inl a1), some (.inl a2), some (.inl a3)] [] T c s) (fun kk => rfl)
set_option maxRecDepth 100000 in
theorem e_X6_at_10 (L : Nat) (xs : Nat → Int32) (E : CallT) (back : BackT) (k : Nat) (a1 : Int32) (a2 : Int32) (a3 : Int32) (M : Mem) (O : Int64) (T : Tmp) (c s : Nat) :
  BK L xs E mi_X6_at back (k + 3) 10 [some (.inr (.inr (0, 0))), some (.inl a1), some (.inl a2), some (.inl a3)] [] M O T c s =
    xret tkT mi_X6_at 0 (E q_X6_needHour [.inr (.inr (0, 0)), .inl a3] M O) (BK L xs E mi_X6_at back (k)) 12 [some (.inr (.inr (0, 0))), some (.inl a1), some (.inl a2), some (.inl a3)] [] T c s :=
  blk_of (fun q => Nat.beq q 10) (f := fun kk => xret tkT mi_X6_at 0 (E q_X6_needHour [.inr (.inr (0, 0)), .inl a3] M O) (kk (k)) 12 [some (.inr (.inr (0, 0))), some (.inl a1), some (.inl a2), some (.inl a3)] [] T c s) (fun kk => rfl)
set_option maxRecDepth 100000 in
theorem e_X6_at_15 (L : Nat) (xs : Nat → Int32) (E : CallT) (back : BackT) (k : Nat) (a1 : Int32) (a2 : Int32) (a3 : Int32) (M : Mem) (O : Int64) (T : Tmp) (c s : Nat) :
  BK L xs E mi_X6_at back (k + 5) 15 [some (.inr (.inr (0, 0))), some (.inl a1), some (.inl a2), some (.inl a3)] [] M O T c s =
    xret tkT mi_X6_at 0 (E q_X6_loudIn [.inr (.inr (0, 0)), .inl a1, .inl a2, .inl a3] M O) (BK L xs E mi_X6_at back (k)) 19 [some (.inr (.inr (0, 0))), some (.inl a1), some (.inl a2), some (.inl a3)] [] T c s :=
  blk_of (fun q => Nat.beq q 15) (f := fun kk => xret tkT mi_X6_at 0 (E q_X6_loudIn [.inr (.inr (0, 0)), .inl a1, .inl a2, .inl a3] M O) (kk (k)) 19 [some (.inr (.inr (0, 0))), some (.inl a1), some (.inl a2), some (.inl a3)] [] T c s) (fun kk => rfl)
set_option maxRecDepth 100000 in
theorem e_X6_at_22 (L : Nat) (xs : Nat → Int32) (E : CallT) (back : BackT) (k : Nat) (a1 : Int32) (a2 : Int32) (a3 : Int32) (as0 : Int32) (M : Mem) (O : Int64) (T : Tmp) (c s : Nat) :
  BK L xs E mi_X6_at back (k + 1) 22 [some (.inr (.inr (0, 0))), some (.inl a1), some (.inl a2), some (.inl a3)] [.inl as0] M O T c s =
    some (.inl (some (.inl as0)), M, O, c, s) :=
  blk_of (fun q => Nat.beq q 22) (f := fun kk => some (.inl (some (.inl as0)), M, O, c, s)) (fun kk => rfl)
set_option maxRecDepth 100000 in
theorem e_L_at_0 (L : Nat) (xs : Nat → Int32) (E : CallT) (back : BackT) (k : Nat) (a1 : Int32) (a2 : Int32) (a3 : Int32) (M : Mem) (O : Int64) (T : Tmp) (c s : Nat) :
  BK L xs E mi_L_at back (k + 7) 0 [some (.inr (.inr (0, 0))), some (.inl a1), some (.inl a2), some (.inl a3), some (.inr (.inr (83, 0))), none] [] M O T c s =
    xret tkT mi_L_at 0 (E q_X6_at [.inr (.inr (0, 0)), .inl a1, .inl a2, .inl a3] M O) (BK L xs E mi_L_at back (k)) 7 [some (.inr (.inr (0, 0))), some (.inl a1), some (.inl a2), some (.inl a3), some (.inr (.inr (83, 0))), none] [.inl 0, .inr (.inr (83, 0))] T c s :=
  blk_of (fun q => Nat.beq q 0) (f := fun kk => xret tkT mi_L_at 0 (E q_X6_at [.inr (.inr (0, 0)), .inl a1, .inl a2, .inl a3] M O) (kk (k)) 7 [some (.inr (.inr (0, 0))), some (.inl a1), some (.inl a2), some (.inl a3), some (.inr (.inr (83, 0))), none] [.inl 0, .inr (.inr (83, 0))] T c s) (fun kk => rfl)
set_option maxRecDepth 100000 in
theorem e_L_at_10 (L : Nat) (xs : Nat → Int32) (E : CallT) (back : BackT) (k : Nat) (a1 : Int32) (a2 : Int32) (a3 : Int32) (u5 : Option AV) (as0 : Int32) (as1 : Int32) (M : Mem) (O : Int64) (T : Tmp) (c s : Nat) :
  BK L xs E mi_L_at back (k + 5) 10 [some (.inr (.inr (0, 0))), some (.inl a1), some (.inl a2), some (.inl a3), some (.inr (.inr (83, 0))), u5] [.inl as0, .inl as1, .inr (.inr (83, 0))] M O T c s =
    if (as1 : Int32) = 0 then (some (.inl (some (.inl 0)), M, (as0).toInt64, c, s)) else none :=
  blk_of (fun q => Nat.beq q 10) (f := fun kk => if (as1 : Int32) = 0 then (some (.inl (some (.inl 0)), M, (as0).toInt64, c, s)) else none) (fun kk => rfl)
set_option maxRecDepth 100000 in
theorem e_X1_needOf_0 (L : Nat) (xs : Nat → Int32) (E : CallT) (back : BackT) (k : Nat) (i0 : Nat) (a1 : Int32) (a2 : Int32) (M : Mem) (O : Int64) (T : Tmp) (c s : Nat) :
  BK L xs E mi_X1_needOf back (k + 8) 0 [some (.inr (.inr (3, i0))), some (.inl a1), some (.inl a2)] [] M O T c s =
    if 0 ≤ (a1 : Int32).toInt ∧ (a1 : Int32).toInt < 8 then (xret tkT mi_X1_needOf 0 (E q_X1_humOf [.inr (.inr (3, i0)), .inl a2] M O) (BK L xs E mi_X1_needOf back (k)) 9 [some (.inr (.inr (3, i0))), some (.inl a1), some (.inl a2)] [.inl (M 8 i0 (a1 : Int32).toNatClampNeg), .inl 1] T c s) else none :=
  blk_of (fun q => Nat.beq q 0) (f := fun kk => if 0 ≤ (a1 : Int32).toInt ∧ (a1 : Int32).toInt < 8 then (xret tkT mi_X1_needOf 0 (E q_X1_humOf [.inr (.inr (3, i0)), .inl a2] M O) (kk (k)) 9 [some (.inr (.inr (3, i0))), some (.inl a1), some (.inl a2)] [.inl (M 8 i0 (a1 : Int32).toNatClampNeg), .inl 1] T c s) else none) (fun kk => rfl)
set_option maxRecDepth 100000 in
theorem e_X1_needOf_12 (L : Nat) (xs : Nat → Int32) (d : Nat) (back : BackT) (k : Nat) (i0 : Nat) (a1 : Int32) (a2 : Int32) (as0 : Int32) (as1 : Int32) (as2 : Int32) (M : Mem) (O : Int64) (T : Tmp) (c s : Nat) :
  BK L xs (EX L xs (d + 1)) mi_X1_needOf back (k + 2) 12 [some (.inr (.inr (3, i0))), some (.inl a1), some (.inl a2)] [.inl as0, .inl as1, .inl as2] M O T c s =
    BK L xs (EX L xs (d + 1)) mi_X1_needOf back (k) 16 [some (.inr (.inr (3, i0))), some (.inl a1), some (.inl a2)] [.inl (if as2 < (as1 + as0) then (as1 + as0) else as2)] M O T c s :=
  blk_of (fun q => Nat.beq q 12) (f := fun kk => kk (k) 16 [some (.inr (.inr (3, i0))), some (.inl a1), some (.inl a2)] [.inl (if as2 < (as1 + as0) then (as1 + as0) else as2)] M O T c s) (fun kk => rfl)
set_option maxRecDepth 100000 in
theorem e_X1_needOf_16 (L : Nat) (xs : Nat → Int32) (E : CallT) (back : BackT) (k : Nat) (i0 : Nat) (a1 : Int32) (a2 : Int32) (as0 : Int32) (M : Mem) (O : Int64) (T : Tmp) (c s : Nat) :
  BK L xs E mi_X1_needOf back (k + 1) 16 [some (.inr (.inr (3, i0))), some (.inl a1), some (.inl a2)] [.inl as0] M O T c s =
    some (.inl (some (.inl as0)), M, O, c, s) :=
  blk_of (fun q => Nat.beq q 16) (f := fun kk => some (.inl (some (.inl as0)), M, O, c, s)) (fun kk => rfl)
set_option maxRecDepth 100000 in
theorem e_X6_houseHears_0 (L : Nat) (xs : Nat → Int32) (E : CallT) (back : BackT) (k : Nat) (a1 : Int32) (a2 : Int32) (a3 : Int32) (M : Mem) (O : Int64) (T : Tmp) (c s : Nat) :
  BK L xs E mi_X6_houseHears back (k + 9) 0 [some (.inr (.inr (0, 0))), some (.inl a1), some (.inl a2), some (.inl a3)] [] M O T c s =
    if 0 ≤ (a1 : Int32).toInt ∧ (a1 : Int32).toInt < 8 then (xret tkT mi_X6_houseHears 0 (E q_X6_loudIn [.inr (.inr (0, 0)), .inl (M 7 2 (a1 : Int32).toNatClampNeg), .inl a2, .inl a3] M O) (BK L xs E mi_X6_houseHears back (k)) 12 [some (.inr (.inr (0, 0))), some (.inl a1), some (.inl a2), some (.inl a3)] [] T c s) else none :=
  blk_of (fun q => Nat.beq q 0 || Nat.beq q 32) (f := fun kk => if 0 ≤ (a1 : Int32).toInt ∧ (a1 : Int32).toInt < 8 then (xret tkT mi_X6_houseHears 0 (E q_X6_loudIn [.inr (.inr (0, 0)), .inl (M 7 2 (a1 : Int32).toNatClampNeg), .inl a2, .inl a3] M O) (kk (k)) 12 [some (.inr (.inr (0, 0))), some (.inl a1), some (.inl a2), some (.inl a3)] [] T c s) else none) (fun kk => rfl)
set_option maxRecDepth 100000 in
theorem e_X6_houseHears_15 (L : Nat) (xs : Nat → Int32) (E : CallT) (back : BackT) (k : Nat) (a1 : Int32) (a2 : Int32) (a3 : Int32) (as0 : Int32) (M : Mem) (O : Int64) (T : Tmp) (c s : Nat) :
  BK L xs E mi_X6_houseHears back (k + 5) 15 [some (.inr (.inr (0, 0))), some (.inl a1), some (.inl a2), some (.inl a3)] [.inl as0] M O T c s =
    xret tkT mi_X6_houseHears 1 (E q_X1_needOf [.inr (.inr (3, 2)), .inl a1, .inl a3] M O) (BK L xs E mi_X6_houseHears back (k)) 21 [some (.inr (.inr (0, 0))), some (.inl a1), some (.inl a2), some (.inl a3)] [.inl as0] T c s :=
  blk_of (fun q => Nat.beq q 15 || Nat.beq q 32) (f := fun kk => xret tkT mi_X6_houseHears 1 (E q_X1_needOf [.inr (.inr (3, 2)), .inl a1, .inl a3] M O) (kk (k)) 21 [some (.inr (.inr (0, 0))), some (.inl a1), some (.inl a2), some (.inl a3)] [.inl as0] T c s) (fun kk => rfl)
set_option maxRecDepth 100000 in
theorem e_X6_houseHears_24 (L : Nat) (xs : Nat → Int32) (E : CallT) (back : BackT) (k : Nat) (a1 : Int32) (a2 : Int32) (a3 : Int32) (as0 : Int32) (as1 : Int32) (M : Mem) (O : Int64) (T : Tmp) (c s : Nat) :
  BK L xs E mi_X6_houseHears back (k + 3) 24 [some (.inr (.inr (0, 0))), some (.inl a1), some (.inl a2), some (.inl a3)] [.inl as0, .inl as1] M O T c s =
    if as1 < as0 then (BK L xs E mi_X6_houseHears back (k + 1) 32 [some (.inr (.inr (0, 0))), some (.inl a1), some (.inl a2), some (.inl a3)] [.inl 0] M O T c s) else (BK L xs E mi_X6_houseHears back (k) 32 [some (.inr (.inr (0, 0))), some (.inl a1), some (.inl a2), some (.inl a3)] [.inl 1] M O T c s) :=
  blk_of (fun q => Nat.beq q 24 || Nat.beq q 32) (f := fun kk => if as1 < as0 then (kk (k + 1) 32 [some (.inr (.inr (0, 0))), some (.inl a1), some (.inl a2), some (.inl a3)] [.inl 0] M O T c s) else (kk (k) 32 [some (.inr (.inr (0, 0))), some (.inl a1), some (.inl a2), some (.inl a3)] [.inl 1] M O T c s)) (fun kk => rfl)
set_option maxRecDepth 100000 in
theorem e_X6_houseHears_32 (L : Nat) (xs : Nat → Int32) (E : CallT) (back : BackT) (k : Nat) (a1 : Int32) (a2 : Int32) (a3 : Int32) (as0 : Int32) (M : Mem) (O : Int64) (T : Tmp) (c s : Nat) :
  BK L xs E mi_X6_houseHears back (k + 1) 32 [some (.inr (.inr (0, 0))), some (.inl a1), some (.inl a2), some (.inl a3)] [.inl as0] M O T c s =
    if (as0 : Int32) = 0 ∨ (as0 : Int32) = 1 then some (.inl (some (.inl as0)), M, O, c, s) else none :=
  blk_of (fun q => Nat.beq q 32) (f := fun kk => if (as0 : Int32) = 0 ∨ (as0 : Int32) = 1 then some (.inl (some (.inl as0)), M, O, c, s) else none) (fun kk => rfl)
set_option maxRecDepth 100000 in
theorem e_X6_hears_0 (L : Nat) (xs : Nat → Int32) (E : CallT) (back : BackT) (k : Nat) (a1 : Int32) (a2 : Int32) (M : Mem) (O : Int64) (T : Tmp) (c s : Nat) :
  BK L xs E mi_X6_hears back (k + 3) 0 [some (.inr (.inr (0, 0))), some (.inl a1), some (.inl a2), none, none] [] M O T c s =
    xret tkT mi_X6_hears 0 (E q_X6_needAir [.inr (.inr (0, 0)), .inl a1] M O) (BK L xs E mi_X6_hears back (k)) 2 [some (.inr (.inr (0, 0))), some (.inl a1), some (.inl a2), none, none] [] T c s :=
  blk_of (fun q => Nat.beq q 0 || Nat.beq q 15 || Nat.beq q 45) (f := fun kk => xret tkT mi_X6_hears 0 (E q_X6_needAir [.inr (.inr (0, 0)), .inl a1] M O) (kk (k)) 2 [some (.inr (.inr (0, 0))), some (.inl a1), some (.inl a2), none, none] [] T c s) (fun kk => rfl)
set_option maxRecDepth 100000 in
theorem e_X6_hears_5 (L : Nat) (xs : Nat → Int32) (E : CallT) (back : BackT) (k : Nat) (a1 : Int32) (a2 : Int32) (u3 : Option AV) (u4 : Option AV) (M : Mem) (O : Int64) (T : Tmp) (c s : Nat) :
  BK L xs E mi_X6_hears back (k + 3) 5 [some (.inr (.inr (0, 0))), some (.inl a1), some (.inl a2), u3, u4] [] M O T c s =
    xret tkT mi_X6_hears 0 (E q_X6_needHour [.inr (.inr (0, 0)), .inl a2] M O) (BK L xs E mi_X6_hears back (k)) 7 [some (.inr (.inr (0, 0))), some (.inl a1), some (.inl a2), u3, u4] [] T c s :=
  blk_of (fun q => Nat.beq q 5 || Nat.beq q 15 || Nat.beq q 45) (f := fun kk => xret tkT mi_X6_hears 0 (E q_X6_needHour [.inr (.inr (0, 0)), .inl a2] M O) (kk (k)) 7 [some (.inr (.inr (0, 0))), some (.inl a1), some (.inl a2), u3, u4] [] T c s) (fun kk => rfl)
set_option maxRecDepth 100000 in
theorem e_X6_hears_10 (L : Nat) (xs : Nat → Int32) (E : CallT) (back : BackT) (k : Nat) (a1 : Int32) (a2 : Int32) (u3 : Option AV) (u4 : Option AV) (M : Mem) (O : Int64) (T : Tmp) (c s : Nat) :
  BK L xs E mi_X6_hears back (k + 4) 10 [some (.inr (.inr (0, 0))), some (.inl a1), some (.inl a2), u3, u4] [] M O T c s =
    BK L xs E mi_X6_hears back (k) 15 [some (.inr (.inr (0, 0))), some (.inl a1), some (.inl a2), some (.inl 0), some (.inl 0)] [] M O T c s :=
  blk_of (fun q => Nat.beq q 10 || Nat.beq q 15 || Nat.beq q 45) (f := fun kk => kk (k) 15 [some (.inr (.inr (0, 0))), some (.inl a1), some (.inl a2), some (.inl 0), some (.inl 0)] [] M O T c s) (fun kk => rfl)
set_option maxRecDepth 100000 in
theorem e_X6_hears_15 (L : Nat) (xs : Nat → Int32) (E : CallT) (back : BackT) (k : Nat) (a1 : Int32) (a2 : Int32) (a3 : Int32) (a4 : Int32) (M : Mem) (O : Int64) (T : Tmp) (c s : Nat) :
  BK L xs E mi_X6_hears back (k + 10) 15 [some (.inr (.inr (0, 0))), some (.inl a1), some (.inl a2), some (.inl a3), some (.inl a4)] [] M O T c s =
    if (M 3 2 4) ≤ a4 then (some (.inl (some (.inl a3)), M, O, c, s)) else (xret tkT mi_X6_hears 0 (E q_X6_houseHears [.inr (.inr (0, 0)), .inl a4, .inl a1, .inl a2] M O) (BK L xs E mi_X6_hears back (k)) 32 [some (.inr (.inr (0, 0))), some (.inl a1), some (.inl a2), some (.inl a3), some (.inl a4)] [] T c s) :=
  blk_of (fun q => Nat.beq q 15 || Nat.beq q 45) (f := fun kk => if (M 3 2 4) ≤ a4 then (some (.inl (some (.inl a3)), M, O, c, s)) else (xret tkT mi_X6_hears 0 (E q_X6_houseHears [.inr (.inr (0, 0)), .inl a4, .inl a1, .inl a2] M O) (kk (k)) 32 [some (.inr (.inr (0, 0))), some (.inl a1), some (.inl a2), some (.inl a3), some (.inl a4)] [] T c s)) (fun kk => rfl)
set_option maxRecDepth 100000 in
theorem e_X6_hears_35 (L : Nat) (xs : Nat → Int32) (E : CallT) (back : BackT) (k : Nat) (a1 : Int32) (a2 : Int32) (a3 : Int32) (a4 : Int32) (as0 : Int32) (M : Mem) (O : Int64) (T : Tmp) (c s : Nat) :
  BK L xs E mi_X6_hears back (k + 7) 35 [some (.inr (.inr (0, 0))), some (.inl a1), some (.inl a2), some (.inl a3), some (.inl a4)] [.inl as0] M O T c s =
    if as0 = 0 then (BK L xs E mi_X6_hears back (k + 6) 45 [some (.inr (.inr (0, 0))), some (.inl a1), some (.inl a2), some (.inl a3), some (.inl a4)] [] M O T c s) else (BK L xs E mi_X6_hears back (k) 45 [some (.inr (.inr (0, 0))), some (.inl a1), some (.inl a2), some (.inl (a3 ||| (1 <<< (a4 &&& 31)))), some (.inl a4)] [] M O T c s) :=
  blk_of (fun q => Nat.beq q 15 || Nat.beq q 35 || Nat.beq q 45) (f := fun kk => if as0 = 0 then (kk (k + 6) 45 [some (.inr (.inr (0, 0))), some (.inl a1), some (.inl a2), some (.inl a3), some (.inl a4)] [] M O T c s) else (kk (k) 45 [some (.inr (.inr (0, 0))), some (.inl a1), some (.inl a2), some (.inl (a3 ||| (1 <<< (a4 &&& 31)))), some (.inl a4)] [] M O T c s)) (fun kk => rfl)
set_option maxRecDepth 100000 in
theorem e_X6_hears_45 (L : Nat) (xs : Nat → Int32) (E : CallT) (back : BackT) (k : Nat) (a1 : Int32) (a2 : Int32) (a3 : Int32) (a4 : Int32) (M : Mem) (O : Int64) (T : Tmp) (c s : Nat) :
  BK L xs E mi_X6_hears back (k + 2) 45 [some (.inr (.inr (0, 0))), some (.inl a1), some (.inl a2), some (.inl a3), some (.inl a4)] [] M O T c s =
    back 15 [some (.inr (.inr (0, 0))), some (.inl a1), some (.inl a2), some (.inl a3), some (.inl (a4 + 1))] M O T c s :=
  blk_of (fun q => Nat.beq q 15 || Nat.beq q 45) (f := fun kk => back 15 [some (.inr (.inr (0, 0))), some (.inl a1), some (.inl a2), some (.inl a3), some (.inl (a4 + 1))] M O T c s) (fun kk => rfl)
set_option maxRecDepth 100000 in
theorem e_L_hears_0 (L : Nat) (xs : Nat → Int32) (E : CallT) (back : BackT) (k : Nat) (a1 : Int32) (a2 : Int32) (M : Mem) (O : Int64) (T : Tmp) (c s : Nat) :
  BK L xs E mi_L_hears back (k + 6) 0 [some (.inr (.inr (0, 0))), some (.inl a1), some (.inl a2), some (.inr (.inr (83, 0))), none] [] M O T c s =
    xret tkT mi_L_hears 0 (E q_X6_hears [.inr (.inr (0, 0)), .inl a1, .inl a2] M O) (BK L xs E mi_L_hears back (k)) 5 [some (.inr (.inr (0, 0))), some (.inl a1), some (.inl a2), some (.inr (.inr (83, 0))), none] [.inl 0, .inr (.inr (83, 0))] T c s :=
  blk_of (fun q => Nat.beq q 0) (f := fun kk => xret tkT mi_L_hears 0 (E q_X6_hears [.inr (.inr (0, 0)), .inl a1, .inl a2] M O) (kk (k)) 5 [some (.inr (.inr (0, 0))), some (.inl a1), some (.inl a2), some (.inr (.inr (83, 0))), none] [.inl 0, .inr (.inr (83, 0))] T c s) (fun kk => rfl)
set_option maxRecDepth 100000 in
theorem e_L_hears_8 (L : Nat) (xs : Nat → Int32) (E : CallT) (back : BackT) (k : Nat) (a1 : Int32) (a2 : Int32) (u4 : Option AV) (as0 : Int32) (as1 : Int32) (M : Mem) (O : Int64) (T : Tmp) (c s : Nat) :
  BK L xs E mi_L_hears back (k + 5) 8 [some (.inr (.inr (0, 0))), some (.inl a1), some (.inl a2), some (.inr (.inr (83, 0))), u4] [.inl as0, .inl as1, .inr (.inr (83, 0))] M O T c s =
    if (as1 : Int32) = 0 then (some (.inl (some (.inl 0)), M, (as0).toInt64, c, s)) else none :=
  blk_of (fun q => Nat.beq q 8) (f := fun kk => if (as1 : Int32) = 0 then (some (.inl (some (.inl 0)), M, (as0).toInt64, c, s)) else none) (fun kk => rfl)
set_option maxRecDepth 100000 in
theorem e_X6_firstLoud_0 (L : Nat) (xs : Nat → Int32) (E : CallT) (back : BackT) (k : Nat) (i1 : Nat) (M : Mem) (O : Int64) (T : Tmp) (c s : Nat) :
  BK L xs E mi_X6_firstLoud back (k + 2) 0 [some (.inr (.inr (0, 0))), some (.inr (.inr (27, i1))), none] [] M O T c s =
    BK L xs E mi_X6_firstLoud back (k) 2 [some (.inr (.inr (0, 0))), some (.inr (.inr (27, i1))), some (.inl 0)] [] M O T c s :=
  blk_of (fun q => Nat.beq q 0 || Nat.beq q 2) (f := fun kk => kk (k) 2 [some (.inr (.inr (0, 0))), some (.inr (.inr (27, i1))), some (.inl 0)] [] M O T c s) (fun kk => rfl)
set_option maxRecDepth 100000 in
theorem e_X6_firstLoud_2 (L : Nat) (xs : Nat → Int32) (E : CallT) (back : BackT) (k : Nat) (i1 : Nat) (a2 : Int32) (M : Mem) (O : Int64) (T : Tmp) (c s : Nat) :
  BK L xs E mi_X6_firstLoud back (k + 11) 2 [some (.inr (.inr (0, 0))), some (.inr (.inr (27, i1))), some (.inl a2)] [] M O T c s =
    if (M 3 2 0) ≤ a2 then (some (.inl (some (.inl (M 3 2 0))), M, O, c, s)) else (if 0 ≤ (a2 : Int32).toInt ∧ (a2 : Int32).toInt < 40 then (if (M 27 i1 (a2 : Int32).toNatClampNeg) ≤ 0 then (back 2 [some (.inr (.inr (0, 0))), some (.inr (.inr (27, i1))), some (.inl (a2 + 1))] M O T c s) else (some (.inl (some (.inl a2)), M, O, c, s))) else none) :=
  blk_of (fun q => Nat.beq q 2) (f := fun kk => if (M 3 2 0) ≤ a2 then (some (.inl (some (.inl (M 3 2 0))), M, O, c, s)) else (if 0 ≤ (a2 : Int32).toInt ∧ (a2 : Int32).toInt < 40 then (if (M 27 i1 (a2 : Int32).toNatClampNeg) ≤ 0 then (back 2 [some (.inr (.inr (0, 0))), some (.inr (.inr (27, i1))), some (.inl (a2 + 1))] M O T c s) else (some (.inl (some (.inl a2)), M, O, c, s))) else none)) (fun kk => rfl)
set_option maxRecDepth 100000 in
theorem e_X6_lastLoud_0 (L : Nat) (xs : Nat → Int32) (E : CallT) (back : BackT) (k : Nat) (i1 : Nat) (M : Mem) (O : Int64) (T : Tmp) (c s : Nat) :
  BK L xs E mi_X6_lastLoud back (k + 6) 0 [some (.inr (.inr (0, 0))), some (.inr (.inr (27, i1))), none] [] M O T c s =
    BK L xs E mi_X6_lastLoud back (k) 10 [some (.inr (.inr (0, 0))), some (.inr (.inr (27, i1))), some (.inl ((M 3 2 0) - 1))] [] M O T c s :=
  blk_of (fun q => Nat.beq q 0 || Nat.beq q 10) (f := fun kk => kk (k) 10 [some (.inr (.inr (0, 0))), some (.inr (.inr (27, i1))), some (.inl ((M 3 2 0) - 1))] [] M O T c s) (fun kk => rfl)
set_option maxRecDepth 100000 in
theorem e_X6_lastLoud_10 (L : Nat) (xs : Nat → Int32) (E : CallT) (back : BackT) (k : Nat) (i1 : Nat) (a2 : Int32) (M : Mem) (O : Int64) (T : Tmp) (c s : Nat) :
  BK L xs E mi_X6_lastLoud back (k + 8) 10 [some (.inr (.inr (0, 0))), some (.inr (.inr (27, i1))), some (.inl a2)] [] M O T c s =
    if a2 < 0 then (some (.inl (some (.inl (-1))), M, O, c, s)) else (if 0 ≤ (a2 : Int32).toInt ∧ (a2 : Int32).toInt < 40 then (if (M 27 i1 (a2 : Int32).toNatClampNeg) ≤ 0 then (back 10 [some (.inr (.inr (0, 0))), some (.inr (.inr (27, i1))), some (.inl (a2 + (-1)))] M O T c s) else (some (.inl (some (.inl a2)), M, O, c, s))) else none) :=
  blk_of (fun q => Nat.beq q 10) (f := fun kk => if a2 < 0 then (some (.inl (some (.inl (-1))), M, O, c, s)) else (if 0 ≤ (a2 : Int32).toInt ∧ (a2 : Int32).toInt < 40 then (if (M 27 i1 (a2 : Int32).toNatClampNeg) ≤ 0 then (back 10 [some (.inr (.inr (0, 0))), some (.inr (.inr (27, i1))), some (.inl (a2 + (-1)))] M O T c s) else (some (.inl (some (.inl a2)), M, O, c, s))) else none)) (fun kk => rfl)
set_option maxRecDepth 100000 in
theorem e_X6_zones_0 (L : Nat) (xs : Nat → Int32) (E : CallT) (back : BackT) (k : Nat) (a1 : Int32) (a2 : Int32) (a3 : Int32) (M : Mem) (O : Int64) (T : Tmp) (c s : Nat) :
  BK L xs E mi_X6_zones back (k + 3) 0 [some (.inr (.inr (0, 0))), some (.inl a1), some (.inl a2), some (.inl a3), none, none, none, none, none] [] M O T c s =
    xret tkT mi_X6_zones 0 (E q_X6_needAir [.inr (.inr (0, 0)), .inl a1] M O) (BK L xs E mi_X6_zones back (k)) 2 [some (.inr (.inr (0, 0))), some (.inl a1), some (.inl a2), some (.inl a3), none, none, none, none, none] [] T c s :=
  blk_of (fun q => Nat.beq q 0 || Nat.beq q 46 || Nat.beq q 77 || Nat.beq q 79 || Nat.beq q 96) (f := fun kk => xret tkT mi_X6_zones 0 (E q_X6_needAir [.inr (.inr (0, 0)), .inl a1] M O) (kk (k)) 2 [some (.inr (.inr (0, 0))), some (.inl a1), some (.inl a2), some (.inl a3), none, none, none, none, none] [] T c s) (fun kk => rfl)
set_option maxRecDepth 100000 in
theorem e_X6_zones_5 (L : Nat) (xs : Nat → Int32) (E : CallT) (back : BackT) (k : Nat) (a1 : Int32) (a2 : Int32) (a3 : Int32) (u4 : Option AV) (u5 : Option AV) (u6 : Option AV) (u7 : Option AV) (u8 : Option AV) (M : Mem) (O : Int64) (T : Tmp) (c s : Nat) :
  BK L xs E mi_X6_zones back (k + 3) 5 [some (.inr (.inr (0, 0))), some (.inl a1), some (.inl a2), some (.inl a3), u4, u5, u6, u7, u8] [] M O T c s =
    xret tkT mi_X6_zones 0 (E q_X6_needSource [.inr (.inr (0, 0)), .inl a2] M O) (BK L xs E mi_X6_zones back (k)) 7 [some (.inr (.inr (0, 0))), some (.inl a1), some (.inl a2), some (.inl a3), u4, u5, u6, u7, u8] [] T c s :=
  blk_of (fun q => Nat.beq q 5 || Nat.beq q 46 || Nat.beq q 77 || Nat.beq q 79 || Nat.beq q 96) (f := fun kk => xret tkT mi_X6_zones 0 (E q_X6_needSource [.inr (.inr (0, 0)), .inl a2] M O) (kk (k)) 7 [some (.inr (.inr (0, 0))), some (.inl a1), some (.inl a2), some (.inl a3), u4, u5, u6, u7, u8] [] T c s) (fun kk => rfl)
set_option maxRecDepth 100000 in
theorem e_X6_zones_10 (L : Nat) (xs : Nat → Int32) (E : CallT) (back : BackT) (k : Nat) (a1 : Int32) (a2 : Int32) (a3 : Int32) (u4 : Option AV) (u5 : Option AV) (u6 : Option AV) (u7 : Option AV) (u8 : Option AV) (M : Mem) (O : Int64) (T : Tmp) (c s : Nat) :
  BK L xs E mi_X6_zones back (k + 4) 10 [some (.inr (.inr (0, 0))), some (.inl a1), some (.inl a2), some (.inl a3), u4, u5, u6, u7, u8] [] M O T c s =
    xret tkT mi_X6_zones 0 (E q_X6_needWhat [.inr (.inr (0, 0)), .inl a3, .inl 2] M O) (BK L xs E mi_X6_zones back (k)) 13 [some (.inr (.inr (0, 0))), some (.inl a1), some (.inl a2), some (.inl a3), u4, u5, u6, u7, u8] [] T c s :=
  blk_of (fun q => Nat.beq q 10 || Nat.beq q 46 || Nat.beq q 77 || Nat.beq q 79 || Nat.beq q 96) (f := fun kk => xret tkT mi_X6_zones 0 (E q_X6_needWhat [.inr (.inr (0, 0)), .inl a3, .inl 2] M O) (kk (k)) 13 [some (.inr (.inr (0, 0))), some (.inl a1), some (.inl a2), some (.inl a3), u4, u5, u6, u7, u8] [] T c s) (fun kk => rfl)
set_option maxRecDepth 100000 in
theorem e_X6_zones_16 (L : Nat) (xs : Nat → Int32) (E : CallT) (back : BackT) (k : Nat) (a1 : Int32) (a2 : Int32) (a3 : Int32) (u4 : Option AV) (u5 : Option AV) (u6 : Option AV) (u7 : Option AV) (u8 : Option AV) (M : Mem) (O : Int64) (T : Tmp) (c s : Nat) :
  BK L xs E mi_X6_zones back (k + 4) 16 [some (.inr (.inr (0, 0))), some (.inl a1), some (.inl a2), some (.inl a3), u4, u5, u6, u7, u8] [] M O T c s =
    xret tkT mi_X6_zones 0 (E q_X6_rowOf [.inr (.inr (0, 0)), .inl a1, .inl a2] M O) (BK L xs E mi_X6_zones back (k)) 19 [some (.inr (.inr (0, 0))), some (.inl a1), some (.inl a2), some (.inl a3), u4, u5, u6, u7, u8] [] T c s :=
  blk_of (fun q => Nat.beq q 16 || Nat.beq q 46 || Nat.beq q 77 || Nat.beq q 79 || Nat.beq q 96) (f := fun kk => xret tkT mi_X6_zones 0 (E q_X6_rowOf [.inr (.inr (0, 0)), .inl a1, .inl a2] M O) (kk (k)) 19 [some (.inr (.inr (0, 0))), some (.inl a1), some (.inl a2), some (.inl a3), u4, u5, u6, u7, u8] [] T c s) (fun kk => rfl)
set_option maxRecDepth 100000 in
theorem e_X6_zones_22 (L : Nat) (xs : Nat → Int32) (E : CallT) (back : BackT) (k : Nat) (a1 : Int32) (a2 : Int32) (a3 : Int32) (u4 : Option AV) (u5 : Option AV) (u6 : Option AV) (u7 : Option AV) (u8 : Option AV) (is0 : Nat) (M : Mem) (O : Int64) (T : Tmp) (c s : Nat) :
  BK L xs E mi_X6_zones back (k + 4) 22 [some (.inr (.inr (0, 0))), some (.inl a1), some (.inl a2), some (.inl a3), u4, u5, u6, u7, u8] [.inr (.inr (27, is0))] M O T c s =
    xret tkT mi_X6_zones 0 (E q_X6_lastLoud [.inr (.inr (0, 0)), .inr (.inr (27, is0))] M O) (BK L xs E mi_X6_zones back (k)) 27 [some (.inr (.inr (0, 0))), some (.inl a1), some (.inl a2), some (.inl a3), some (.inr (.inr (27, is0))), u5, u6, u7, u8] [] T c s :=
  blk_of (fun q => Nat.beq q 22 || Nat.beq q 46 || Nat.beq q 77 || Nat.beq q 79 || Nat.beq q 96) (f := fun kk => xret tkT mi_X6_zones 0 (E q_X6_lastLoud [.inr (.inr (0, 0)), .inr (.inr (27, is0))] M O) (kk (k)) 27 [some (.inr (.inr (0, 0))), some (.inl a1), some (.inl a2), some (.inl a3), some (.inr (.inr (27, is0))), u5, u6, u7, u8] [] T c s) (fun kk => rfl)
set_option maxRecDepth 100000 in
theorem e_X6_zones_30 (L : Nat) (xs : Nat → Int32) (E : CallT) (back : BackT) (k : Nat) (a1 : Int32) (a2 : Int32) (a3 : Int32) (i4 : Nat) (u5 : Option AV) (u6 : Option AV) (u7 : Option AV) (u8 : Option AV) (as0 : Int32) (M : Mem) (O : Int64) (T : Tmp) (c s : Nat) :
  BK L xs E mi_X6_zones back (k + 8) 30 [some (.inr (.inr (0, 0))), some (.inl a1), some (.inl a2), some (.inl a3), some (.inr (.inr (27, i4))), u5, u6, u7, u8] [.inl as0] M O T c s =
    xret tkT mi_X6_zones 0 (E q_X6_firstLoud [.inr (.inr (0, 0)), .inr (.inr (27, i4))] M O) (BK L xs E mi_X6_zones back (k)) 41 [some (.inr (.inr (0, 0))), some (.inl a1), some (.inl a2), some (.inl a3), some (.inr (.inr (27, i4))), some (.inl as0), some (.inl 0), some (.inl (-1)), u8] [] T c s :=
  blk_of (fun q => Nat.beq q 30 || Nat.beq q 46 || Nat.beq q 77 || Nat.beq q 79 || Nat.beq q 96) (f := fun kk => xret tkT mi_X6_zones 0 (E q_X6_firstLoud [.inr (.inr (0, 0)), .inr (.inr (27, i4))] M O) (kk (k)) 41 [some (.inr (.inr (0, 0))), some (.inl a1), some (.inl a2), some (.inl a3), some (.inr (.inr (27, i4))), some (.inl as0), some (.inl 0), some (.inl (-1)), u8] [] T c s) (fun kk => rfl)
set_option maxRecDepth 100000 in
theorem e_X6_zones_44 (L : Nat) (xs : Nat → Int32) (E : CallT) (back : BackT) (k : Nat) (a1 : Int32) (a2 : Int32) (a3 : Int32) (i4 : Nat) (a5 : Int32) (a6 : Int32) (a7 : Int32) (u8 : Option AV) (as0 : Int32) (M : Mem) (O : Int64) (T : Tmp) (c s : Nat) :
  BK L xs E mi_X6_zones back (k + 1) 44 [some (.inr (.inr (0, 0))), some (.inl a1), some (.inl a2), some (.inl a3), some (.inr (.inr (27, i4))), some (.inl a5), some (.inl a6), some (.inl a7), u8] [.inl as0] M O T c s =
    BK L xs E mi_X6_zones back (k) 46 [some (.inr (.inr (0, 0))), some (.inl a1), some (.inl a2), some (.inl a3), some (.inr (.inr (27, i4))), some (.inl a5), some (.inl a6), some (.inl a7), some (.inl as0)] [] M O T c s :=
  blk_of (fun q => Nat.beq q 44 || Nat.beq q 46 || Nat.beq q 77 || Nat.beq q 79 || Nat.beq q 96) (f := fun kk => kk (k) 46 [some (.inr (.inr (0, 0))), some (.inl a1), some (.inl a2), some (.inl a3), some (.inr (.inr (27, i4))), some (.inl a5), some (.inl a6), some (.inl a7), some (.inl as0)] [] M O T c s) (fun kk => rfl)
set_option maxRecDepth 100000 in
theorem e_X6_zones_46 (L : Nat) (xs : Nat → Int32) (E : CallT) (back : BackT) (k : Nat) (a1 : Int32) (a2 : Int32) (a3 : Int32) (i4 : Nat) (a5 : Int32) (a6 : Int32) (a7 : Int32) (a8 : Int32) (M : Mem) (O : Int64) (T : Tmp) (c s : Nat) :
  BK L xs E mi_X6_zones back (k + 13) 46 [some (.inr (.inr (0, 0))), some (.inl a1), some (.inl a2), some (.inl a3), some (.inr (.inr (27, i4))), some (.inl a5), some (.inl a6), some (.inl a7), some (.inl a8)] [] M O T c s =
    if a5 ≤ a8 then (if a3 = 0 then (BK L xs E mi_X6_zones back (k + 6) 96 [some (.inr (.inr (0, 0))), some (.inl a1), some (.inl a2), some (.inl a3), some (.inr (.inr (27, i4))), some (.inl a5), some (.inl a6), some (.inl a7), some (.inl a8)] [.inl a6] M O T c s) else (BK L xs E mi_X6_zones back (k + 7) 96 [some (.inr (.inr (0, 0))), some (.inl a1), some (.inl a2), some (.inl a3), some (.inr (.inr (27, i4))), some (.inl a5), some (.inl a6), some (.inl a7), some (.inl a8)] [.inl a7] M O T c s)) else (if 0 ≤ (a8 : Int32).toInt ∧ (a8 : Int32).toInt < 40 then (if (M 27 i4 (a8 : Int32).toNatClampNeg) = 0 then (if a7 = (-1) then (BK L xs E mi_X6_zones back (k) 77 [some (.inr (.inr (0, 0))), some (.inl a1), some (.inl a2), some (.inl a3), some (.inr (.inr (27, i4))), some (.inl a5), some (.inl (a6 + 1)), some (.inl a7), some (.inl a8)] [.inl a8] M O T c s) else (BK L xs E mi_X6_zones back (k + 1) 77 [some (.inr (.inr (0, 0))), some (.inl a1), some (.inl a2), some (.inl a3), some (.inr (.inr (27, i4))), some (.inl a5), some (.inl (a6 + 1)), some (.inl a7), some (.inl a8)] [.inl a7] M O T c s)) else (BK L xs E mi_X6_zones back (k + 6) 79 [some (.inr (.inr (0, 0))), some (.inl a1), some (.inl a2), some (.inl a3), some (.inr (.inr (27, i4))), some (.inl a5), some (.inl a6), some (.inl a7), some (.inl a8)] [] M O T c s)) else none) :=
  blk_of (fun q => Nat.beq q 46 || Nat.beq q 77 || Nat.beq q 79 || Nat.beq q 96) (f := fun kk => if a5 ≤ a8 then (if a3 = 0 then (kk (k + 6) 96 [some (.inr (.inr (0, 0))), some (.inl a1), some (.inl a2), some (.inl a3), some (.inr (.inr (27, i4))), some (.inl a5), some (.inl a6), some (.inl a7), some (.inl a8)] [.inl a6] M O T c s) else (kk (k + 7) 96 [some (.inr (.inr (0, 0))), some (.inl a1), some (.inl a2), some (.inl a3), some (.inr (.inr (27, i4))), some (.inl a5), some (.inl a6), some (.inl a7), some (.inl a8)] [.inl a7] M O T c s)) else (if 0 ≤ (a8 : Int32).toInt ∧ (a8 : Int32).toInt < 40 then (if (M 27 i4 (a8 : Int32).toNatClampNeg) = 0 then (if a7 = (-1) then (kk (k) 77 [some (.inr (.inr (0, 0))), some (.inl a1), some (.inl a2), some (.inl a3), some (.inr (.inr (27, i4))), some (.inl a5), some (.inl (a6 + 1)), some (.inl a7), some (.inl a8)] [.inl a8] M O T c s) else (kk (k + 1) 77 [some (.inr (.inr (0, 0))), some (.inl a1), some (.inl a2), some (.inl a3), some (.inr (.inr (27, i4))), some (.inl a5), some (.inl (a6 + 1)), some (.inl a7), some (.inl a8)] [.inl a7] M O T c s)) else (kk (k + 6) 79 [some (.inr (.inr (0, 0))), some (.inl a1), some (.inl a2), some (.inl a3), some (.inr (.inr (27, i4))), some (.inl a5), some (.inl a6), some (.inl a7), some (.inl a8)] [] M O T c s)) else none)) (fun kk => rfl)
set_option maxRecDepth 100000 in
theorem e_X6_zones_96 (L : Nat) (xs : Nat → Int32) (E : CallT) (back : BackT) (k : Nat) (a1 : Int32) (a2 : Int32) (a3 : Int32) (i4 : Nat) (a5 : Int32) (a6 : Int32) (a7 : Int32) (a8 : Int32) (as0 : Int32) (M : Mem) (O : Int64) (T : Tmp) (c s : Nat) :
  BK L xs E mi_X6_zones back (k + 1) 96 [some (.inr (.inr (0, 0))), some (.inl a1), some (.inl a2), some (.inl a3), some (.inr (.inr (27, i4))), some (.inl a5), some (.inl a6), some (.inl a7), some (.inl a8)] [.inl as0] M O T c s =
    some (.inl (some (.inl as0)), M, O, c, s) :=
  blk_of (fun q => Nat.beq q 46 || Nat.beq q 77 || Nat.beq q 79 || Nat.beq q 96) (f := fun kk => some (.inl (some (.inl as0)), M, O, c, s)) (fun kk => rfl)
set_option maxRecDepth 100000 in
theorem e_X6_zones_77 (L : Nat) (xs : Nat → Int32) (E : CallT) (back : BackT) (k : Nat) (a1 : Int32) (a2 : Int32) (a3 : Int32) (i4 : Nat) (a5 : Int32) (a6 : Int32) (a7 : Int32) (a8 : Int32) (as0 : Int32) (M : Mem) (O : Int64) (T : Tmp) (c s : Nat) :
  BK L xs E mi_X6_zones back (k + 1) 77 [some (.inr (.inr (0, 0))), some (.inl a1), some (.inl a2), some (.inl a3), some (.inr (.inr (27, i4))), some (.inl a5), some (.inl a6), some (.inl a7), some (.inl a8)] [.inl as0] M O T c s =
    BK L xs E mi_X6_zones back (k) 79 [some (.inr (.inr (0, 0))), some (.inl a1), some (.inl a2), some (.inl a3), some (.inr (.inr (27, i4))), some (.inl a5), some (.inl a6), some (.inl as0), some (.inl a8)] [] M O T c s :=
  blk_of (fun q => Nat.beq q 46 || Nat.beq q 77 || Nat.beq q 79 || Nat.beq q 96) (f := fun kk => kk (k) 79 [some (.inr (.inr (0, 0))), some (.inl a1), some (.inl a2), some (.inl a3), some (.inr (.inr (27, i4))), some (.inl a5), some (.inl a6), some (.inl as0), some (.inl a8)] [] M O T c s) (fun kk => rfl)
set_option maxRecDepth 100000 in
theorem e_X6_zones_79 (L : Nat) (xs : Nat → Int32) (E : CallT) (back : BackT) (k : Nat) (a1 : Int32) (a2 : Int32) (a3 : Int32) (i4 : Nat) (a5 : Int32) (a6 : Int32) (a7 : Int32) (a8 : Int32) (M : Mem) (O : Int64) (T : Tmp) (c s : Nat) :
  BK L xs E mi_X6_zones back (k + 2) 79 [some (.inr (.inr (0, 0))), some (.inl a1), some (.inl a2), some (.inl a3), some (.inr (.inr (27, i4))), some (.inl a5), some (.inl a6), some (.inl a7), some (.inl a8)] [] M O T c s =
    back 46 [some (.inr (.inr (0, 0))), some (.inl a1), some (.inl a2), some (.inl a3), some (.inr (.inr (27, i4))), some (.inl a5), some (.inl a6), some (.inl a7), some (.inl (a8 + 1))] M O T c s :=
  blk_of (fun q => Nat.beq q 46 || Nat.beq q 77 || Nat.beq q 79 || Nat.beq q 96) (f := fun kk => back 46 [some (.inr (.inr (0, 0))), some (.inl a1), some (.inl a2), some (.inl a3), some (.inr (.inr (27, i4))), some (.inl a5), some (.inl a6), some (.inl a7), some (.inl (a8 + 1))] M O T c s) (fun kk => rfl)
set_option maxRecDepth 100000 in
theorem e_L_zones_0 (L : Nat) (xs : Nat → Int32) (E : CallT) (back : BackT) (k : Nat) (a1 : Int32) (a2 : Int32) (a3 : Int32) (M : Mem) (O : Int64) (T : Tmp) (c s : Nat) :
  BK L xs E mi_L_zones back (k + 7) 0 [some (.inr (.inr (0, 0))), some (.inl a1), some (.inl a2), some (.inl a3), some (.inr (.inr (83, 0))), none] [] M O T c s =
    xret tkT mi_L_zones 0 (E q_X6_zones [.inr (.inr (0, 0)), .inl a1, .inl a2, .inl a3] M O) (BK L xs E mi_L_zones back (k)) 7 [some (.inr (.inr (0, 0))), some (.inl a1), some (.inl a2), some (.inl a3), some (.inr (.inr (83, 0))), none] [.inl 0, .inr (.inr (83, 0))] T c s :=
  blk_of (fun q => Nat.beq q 0) (f := fun kk => xret tkT mi_L_zones 0 (E q_X6_zones [.inr (.inr (0, 0)), .inl a1, .inl a2, .inl a3] M O) (kk (k)) 7 [some (.inr (.inr (0, 0))), some (.inl a1), some (.inl a2), some (.inl a3), some (.inr (.inr (83, 0))), none] [.inl 0, .inr (.inr (83, 0))] T c s) (fun kk => rfl)
set_option maxRecDepth 100000 in
theorem e_L_zones_10 (L : Nat) (xs : Nat → Int32) (E : CallT) (back : BackT) (k : Nat) (a1 : Int32) (a2 : Int32) (a3 : Int32) (u5 : Option AV) (as0 : Int32) (as1 : Int32) (M : Mem) (O : Int64) (T : Tmp) (c s : Nat) :
  BK L xs E mi_L_zones back (k + 5) 10 [some (.inr (.inr (0, 0))), some (.inl a1), some (.inl a2), some (.inl a3), some (.inr (.inr (83, 0))), u5] [.inl as0, .inl as1, .inr (.inr (83, 0))] M O T c s =
    if (as1 : Int32) = 0 then (some (.inl (some (.inl 0)), M, (as0).toInt64, c, s)) else none :=
  blk_of (fun q => Nat.beq q 10) (f := fun kk => if (as1 : Int32) = 0 then (some (.inl (some (.inl 0)), M, (as0).toInt64, c, s)) else none) (fun kk => rfl)
set_option maxRecDepth 100000 in
theorem e_X6_why_0 (L : Nat) (xs : Nat → Int32) (E : CallT) (back : BackT) (k : Nat) (a1 : Int32) (a2 : Int32) (a3 : Int32) (M : Mem) (O : Int64) (T : Tmp) (c s : Nat) :
  BK L xs E mi_X6_why back (k + 3) 0 [some (.inr (.inr (0, 0))), some (.inl a1), some (.inl a2), some (.inl a3), none, none, none, none] [] M O T c s =
    xret tkT mi_X6_why 0 (E q_X6_needAir [.inr (.inr (0, 0)), .inl a1] M O) (BK L xs E mi_X6_why back (k)) 2 [some (.inr (.inr (0, 0))), some (.inl a1), some (.inl a2), some (.inl a3), none, none, none, none] [] T c s :=
  blk_of (fun q => Nat.beq q 0 || Nat.beq q 37 || Nat.beq q 68) (f := fun kk => xret tkT mi_X6_why 0 (E q_X6_needAir [.inr (.inr (0, 0)), .inl a1] M O) (kk (k)) 2 [some (.inr (.inr (0, 0))), some (.inl a1), some (.inl a2), some (.inl a3), none, none, none, none] [] T c s) (fun kk => rfl)
set_option maxRecDepth 100000 in
theorem e_X6_why_5 (L : Nat) (xs : Nat → Int32) (E : CallT) (back : BackT) (k : Nat) (a1 : Int32) (a2 : Int32) (a3 : Int32) (u4 : Option AV) (u5 : Option AV) (u6 : Option AV) (u7 : Option AV) (M : Mem) (O : Int64) (T : Tmp) (c s : Nat) :
  BK L xs E mi_X6_why back (k + 3) 5 [some (.inr (.inr (0, 0))), some (.inl a1), some (.inl a2), some (.inl a3), u4, u5, u6, u7] [] M O T c s =
    xret tkT mi_X6_why 0 (E q_X6_needAir [.inr (.inr (0, 0)), .inl a2] M O) (BK L xs E mi_X6_why back (k)) 7 [some (.inr (.inr (0, 0))), some (.inl a1), some (.inl a2), some (.inl a3), u4, u5, u6, u7] [] T c s :=
  blk_of (fun q => Nat.beq q 5 || Nat.beq q 37 || Nat.beq q 68) (f := fun kk => xret tkT mi_X6_why 0 (E q_X6_needAir [.inr (.inr (0, 0)), .inl a2] M O) (kk (k)) 7 [some (.inr (.inr (0, 0))), some (.inl a1), some (.inl a2), some (.inl a3), u4, u5, u6, u7] [] T c s) (fun kk => rfl)
set_option maxRecDepth 100000 in
theorem e_X6_why_10 (L : Nat) (xs : Nat → Int32) (E : CallT) (back : BackT) (k : Nat) (a1 : Int32) (a2 : Int32) (a3 : Int32) (u4 : Option AV) (u5 : Option AV) (u6 : Option AV) (u7 : Option AV) (M : Mem) (O : Int64) (T : Tmp) (c s : Nat) :
  BK L xs E mi_X6_why back (k + 3) 10 [some (.inr (.inr (0, 0))), some (.inl a1), some (.inl a2), some (.inl a3), u4, u5, u6, u7] [] M O T c s =
    xret tkT mi_X6_why 0 (E q_X6_needSource [.inr (.inr (0, 0)), .inl a3] M O) (BK L xs E mi_X6_why back (k)) 12 [some (.inr (.inr (0, 0))), some (.inl a1), some (.inl a2), some (.inl a3), u4, u5, u6, u7] [] T c s :=
  blk_of (fun q => Nat.beq q 10 || Nat.beq q 37 || Nat.beq q 68) (f := fun kk => xret tkT mi_X6_why 0 (E q_X6_needSource [.inr (.inr (0, 0)), .inl a3] M O) (kk (k)) 12 [some (.inr (.inr (0, 0))), some (.inl a1), some (.inl a2), some (.inl a3), u4, u5, u6, u7] [] T c s) (fun kk => rfl)
set_option maxRecDepth 100000 in
theorem e_X6_why_15 (L : Nat) (xs : Nat → Int32) (E : CallT) (back : BackT) (k : Nat) (a1 : Int32) (a2 : Int32) (a3 : Int32) (u4 : Option AV) (u5 : Option AV) (u6 : Option AV) (u7 : Option AV) (M : Mem) (O : Int64) (T : Tmp) (c s : Nat) :
  BK L xs E mi_X6_why back (k + 4) 15 [some (.inr (.inr (0, 0))), some (.inl a1), some (.inl a2), some (.inl a3), u4, u5, u6, u7] [] M O T c s =
    xret tkT mi_X6_why 0 (E q_X6_rowOf [.inr (.inr (0, 0)), .inl a1, .inl a3] M O) (BK L xs E mi_X6_why back (k)) 18 [some (.inr (.inr (0, 0))), some (.inl a1), some (.inl a2), some (.inl a3), u4, u5, u6, u7] [] T c s :=
  blk_of (fun q => Nat.beq q 15 || Nat.beq q 37 || Nat.beq q 68) (f := fun kk => xret tkT mi_X6_why 0 (E q_X6_rowOf [.inr (.inr (0, 0)), .inl a1, .inl a3] M O) (kk (k)) 18 [some (.inr (.inr (0, 0))), some (.inl a1), some (.inl a2), some (.inl a3), u4, u5, u6, u7] [] T c s) (fun kk => rfl)
set_option maxRecDepth 100000 in
theorem e_X6_why_21 (L : Nat) (xs : Nat → Int32) (E : CallT) (back : BackT) (k : Nat) (a1 : Int32) (a2 : Int32) (a3 : Int32) (u4 : Option AV) (u5 : Option AV) (u6 : Option AV) (u7 : Option AV) (is0 : Nat) (M : Mem) (O : Int64) (T : Tmp) (c s : Nat) :
  BK L xs E mi_X6_why back (k + 5) 21 [some (.inr (.inr (0, 0))), some (.inl a1), some (.inl a2), some (.inl a3), u4, u5, u6, u7] [.inr (.inr (27, is0))] M O T c s =
    xret tkT mi_X6_why 0 (E q_X6_rowOf [.inr (.inr (0, 0)), .inl a2, .inl a3] M O) (BK L xs E mi_X6_why back (k)) 26 [some (.inr (.inr (0, 0))), some (.inl a1), some (.inl a2), some (.inl a3), some (.inr (.inr (27, is0))), u5, u6, u7] [] T c s :=
  blk_of (fun q => Nat.beq q 21 || Nat.beq q 37 || Nat.beq q 68) (f := fun kk => xret tkT mi_X6_why 0 (E q_X6_rowOf [.inr (.inr (0, 0)), .inl a2, .inl a3] M O) (kk (k)) 26 [some (.inr (.inr (0, 0))), some (.inl a1), some (.inl a2), some (.inl a3), some (.inr (.inr (27, is0))), u5, u6, u7] [] T c s) (fun kk => rfl)
set_option maxRecDepth 100000 in
theorem e_X6_why_29 (L : Nat) (xs : Nat → Int32) (E : CallT) (back : BackT) (k : Nat) (a1 : Int32) (a2 : Int32) (a3 : Int32) (i4 : Nat) (u5 : Option AV) (u6 : Option AV) (u7 : Option AV) (is0 : Nat) (M : Mem) (O : Int64) (T : Tmp) (c s : Nat) :
  BK L xs E mi_X6_why back (k + 5) 29 [some (.inr (.inr (0, 0))), some (.inl a1), some (.inl a2), some (.inl a3), some (.inr (.inr (27, i4))), u5, u6, u7] [.inr (.inr (27, is0))] M O T c s =
    BK L xs E mi_X6_why back (k) 37 [some (.inr (.inr (0, 0))), some (.inl a1), some (.inl a2), some (.inl a3), some (.inr (.inr (27, i4))), some (.inr (.inr (27, is0))), some (.inl 0), some (.inl 0)] [] M O T c s :=
  blk_of (fun q => Nat.beq q 29 || Nat.beq q 37 || Nat.beq q 68) (f := fun kk => kk (k) 37 [some (.inr (.inr (0, 0))), some (.inl a1), some (.inl a2), some (.inl a3), some (.inr (.inr (27, i4))), some (.inr (.inr (27, is0))), some (.inl 0), some (.inl 0)] [] M O T c s) (fun kk => rfl)
set_option maxRecDepth 100000 in
theorem e_X6_why_37 (L : Nat) (xs : Nat → Int32) (E : CallT) (back : BackT) (k : Nat) (a1 : Int32) (a2 : Int32) (a3 : Int32) (i4 : Nat) (i5 : Nat) (a6 : Int32) (a7 : Int32) (M : Mem) (O : Int64) (T : Tmp) (c s : Nat) :
  BK L xs E mi_X6_why back (k + 14) 37 [some (.inr (.inr (0, 0))), some (.inl a1), some (.inl a2), some (.inl a3), some (.inr (.inr (27, i4))), some (.inr (.inr (27, i5))), some (.inl a6), some (.inl a7)] [] M O T c s =
    if (M 3 2 0) ≤ a7 then (some (.inl (some (.inl a6)), M, O, c, s)) else (if 0 ≤ (a7 : Int32).toInt ∧ (a7 : Int32).toInt < 40 then (if (M 27 i4 (a7 : Int32).toNatClampNeg) ≤ 0 then (BK L xs E mi_X6_why back (k + 5) 68 [some (.inr (.inr (0, 0))), some (.inl a1), some (.inl a2), some (.inl a3), some (.inr (.inr (27, i4))), some (.inr (.inr (27, i5))), some (.inl a6), some (.inl a7)] [] M O T c s) else (if 0 ≤ (a7 : Int32).toInt ∧ (a7 : Int32).toInt < 40 then (if (M 27 i5 (a7 : Int32).toNatClampNeg) = 0 then (BK L xs E mi_X6_why back (k) 68 [some (.inr (.inr (0, 0))), some (.inl a1), some (.inl a2), some (.inl a3), some (.inr (.inr (27, i4))), some (.inr (.inr (27, i5))), some (.inl (a6 + 1)), some (.inl a7)] [] M O T c s) else (BK L xs E mi_X6_why back (k + 1) 68 [some (.inr (.inr (0, 0))), some (.inl a1), some (.inl a2), some (.inl a3), some (.inr (.inr (27, i4))), some (.inr (.inr (27, i5))), some (.inl a6), some (.inl a7)] [] M O T c s)) else none)) else none) :=
  blk_of (fun q => Nat.beq q 37 || Nat.beq q 68) (f := fun kk => if (M 3 2 0) ≤ a7 then (some (.inl (some (.inl a6)), M, O, c, s)) else (if 0 ≤ (a7 : Int32).toInt ∧ (a7 : Int32).toInt < 40 then (if (M 27 i4 (a7 : Int32).toNatClampNeg) ≤ 0 then (kk (k + 5) 68 [some (.inr (.inr (0, 0))), some (.inl a1), some (.inl a2), some (.inl a3), some (.inr (.inr (27, i4))), some (.inr (.inr (27, i5))), some (.inl a6), some (.inl a7)] [] M O T c s) else (if 0 ≤ (a7 : Int32).toInt ∧ (a7 : Int32).toInt < 40 then (if (M 27 i5 (a7 : Int32).toNatClampNeg) = 0 then (kk (k) 68 [some (.inr (.inr (0, 0))), some (.inl a1), some (.inl a2), some (.inl a3), some (.inr (.inr (27, i4))), some (.inr (.inr (27, i5))), some (.inl (a6 + 1)), some (.inl a7)] [] M O T c s) else (kk (k + 1) 68 [some (.inr (.inr (0, 0))), some (.inl a1), some (.inl a2), some (.inl a3), some (.inr (.inr (27, i4))), some (.inr (.inr (27, i5))), some (.inl a6), some (.inl a7)] [] M O T c s)) else none)) else none)) (fun kk => rfl)
set_option maxRecDepth 100000 in
theorem e_X6_why_68 (L : Nat) (xs : Nat → Int32) (E : CallT) (back : BackT) (k : Nat) (a1 : Int32) (a2 : Int32) (a3 : Int32) (i4 : Nat) (i5 : Nat) (a6 : Int32) (a7 : Int32) (M : Mem) (O : Int64) (T : Tmp) (c s : Nat) :
  BK L xs E mi_X6_why back (k + 2) 68 [some (.inr (.inr (0, 0))), some (.inl a1), some (.inl a2), some (.inl a3), some (.inr (.inr (27, i4))), some (.inr (.inr (27, i5))), some (.inl a6), some (.inl a7)] [] M O T c s =
    back 37 [some (.inr (.inr (0, 0))), some (.inl a1), some (.inl a2), some (.inl a3), some (.inr (.inr (27, i4))), some (.inr (.inr (27, i5))), some (.inl a6), some (.inl (a7 + 1))] M O T c s :=
  blk_of (fun q => Nat.beq q 37 || Nat.beq q 68) (f := fun kk => back 37 [some (.inr (.inr (0, 0))), some (.inl a1), some (.inl a2), some (.inl a3), some (.inr (.inr (27, i4))), some (.inr (.inr (27, i5))), some (.inl a6), some (.inl (a7 + 1))] M O T c s) (fun kk => rfl)
set_option maxRecDepth 100000 in
theorem e_L_why_0 (L : Nat) (xs : Nat → Int32) (E : CallT) (back : BackT) (k : Nat) (a1 : Int32) (a2 : Int32) (a3 : Int32) (M : Mem) (O : Int64) (T : Tmp) (c s : Nat) :
  BK L xs E mi_L_why back (k + 7) 0 [some (.inr (.inr (0, 0))), some (.inl a1), some (.inl a2), some (.inl a3), some (.inr (.inr (83, 0))), none] [] M O T c s =
    xret tkT mi_L_why 0 (E q_X6_why [.inr (.inr (0, 0)), .inl a1, .inl a2, .inl a3] M O) (BK L xs E mi_L_why back (k)) 7 [some (.inr (.inr (0, 0))), some (.inl a1), some (.inl a2), some (.inl a3), some (.inr (.inr (83, 0))), none] [.inl 0, .inr (.inr (83, 0))] T c s :=
  blk_of (fun q => Nat.beq q 0) (f := fun kk => xret tkT mi_L_why 0 (E q_X6_why [.inr (.inr (0, 0)), .inl a1, .inl a2, .inl a3] M O) (kk (k)) 7 [some (.inr (.inr (0, 0))), some (.inl a1), some (.inl a2), some (.inl a3), some (.inr (.inr (83, 0))), none] [.inl 0, .inr (.inr (83, 0))] T c s) (fun kk => rfl)
set_option maxRecDepth 100000 in
theorem e_L_why_10 (L : Nat) (xs : Nat → Int32) (E : CallT) (back : BackT) (k : Nat) (a1 : Int32) (a2 : Int32) (a3 : Int32) (u5 : Option AV) (as0 : Int32) (as1 : Int32) (M : Mem) (O : Int64) (T : Tmp) (c s : Nat) :
  BK L xs E mi_L_why back (k + 5) 10 [some (.inr (.inr (0, 0))), some (.inl a1), some (.inl a2), some (.inl a3), some (.inr (.inr (83, 0))), u5] [.inl as0, .inl as1, .inr (.inr (83, 0))] M O T c s =
    if (as1 : Int32) = 0 then (some (.inl (some (.inl 0)), M, (as0).toInt64, c, s)) else none :=
  blk_of (fun q => Nat.beq q 10) (f := fun kk => if (as1 : Int32) = 0 then (some (.inl (some (.inl 0)), M, (as0).toInt64, c, s)) else none) (fun kk => rfl)
set_option maxRecDepth 100000 in
theorem e_X6_nights_0 (L : Nat) (xs : Nat → Int32) (E : CallT) (back : BackT) (k : Nat) (a1 : Int32) (a2 : Int32) (a3 : Int32) (M : Mem) (O : Int64) (T : Tmp) (c s : Nat) :
  BK L xs E mi_X6_nights back (k + 3) 0 [some (.inr (.inr (0, 0))), some (.inl a1), some (.inl a2), some (.inl a3), none, none] [] M O T c s =
    xret tkT mi_X6_nights 0 (E q_X6_needHouse [.inr (.inr (0, 0)), .inl a1] M O) (BK L xs E mi_X6_nights back (k)) 2 [some (.inr (.inr (0, 0))), some (.inl a1), some (.inl a2), some (.inl a3), none, none] [] T c s :=
  blk_of (fun q => Nat.beq q 0 || Nat.beq q 22 || Nat.beq q 47 || Nat.beq q 62) (f := fun kk => xret tkT mi_X6_nights 0 (E q_X6_needHouse [.inr (.inr (0, 0)), .inl a1] M O) (kk (k)) 2 [some (.inr (.inr (0, 0))), some (.inl a1), some (.inl a2), some (.inl a3), none, none] [] T c s) (fun kk => rfl)
set_option maxRecDepth 100000 in
theorem e_X6_nights_5 (L : Nat) (xs : Nat → Int32) (E : CallT) (back : BackT) (k : Nat) (a1 : Int32) (a2 : Int32) (a3 : Int32) (u4 : Option AV) (u5 : Option AV) (M : Mem) (O : Int64) (T : Tmp) (c s : Nat) :
  BK L xs E mi_X6_nights back (k + 3) 5 [some (.inr (.inr (0, 0))), some (.inl a1), some (.inl a2), some (.inl a3), u4, u5] [] M O T c s =
    xret tkT mi_X6_nights 0 (E q_X6_needHour [.inr (.inr (0, 0)), .inl a2] M O) (BK L xs E mi_X6_nights back (k)) 7 [some (.inr (.inr (0, 0))), some (.inl a1), some (.inl a2), some (.inl a3), u4, u5] [] T c s :=
  blk_of (fun q => Nat.beq q 5 || Nat.beq q 22 || Nat.beq q 47 || Nat.beq q 62) (f := fun kk => xret tkT mi_X6_nights 0 (E q_X6_needHour [.inr (.inr (0, 0)), .inl a2] M O) (kk (k)) 7 [some (.inr (.inr (0, 0))), some (.inl a1), some (.inl a2), some (.inl a3), u4, u5] [] T c s) (fun kk => rfl)
set_option maxRecDepth 100000 in
theorem e_X6_nights_10 (L : Nat) (xs : Nat → Int32) (E : CallT) (back : BackT) (k : Nat) (a1 : Int32) (a2 : Int32) (a3 : Int32) (u4 : Option AV) (u5 : Option AV) (M : Mem) (O : Int64) (T : Tmp) (c s : Nat) :
  BK L xs E mi_X6_nights back (k + 4) 10 [some (.inr (.inr (0, 0))), some (.inl a1), some (.inl a2), some (.inl a3), u4, u5] [] M O T c s =
    xret tkT mi_X6_nights 0 (E q_X6_needWhat [.inr (.inr (0, 0)), .inl a3, .inl 2] M O) (BK L xs E mi_X6_nights back (k)) 13 [some (.inr (.inr (0, 0))), some (.inl a1), some (.inl a2), some (.inl a3), u4, u5] [] T c s :=
  blk_of (fun q => Nat.beq q 10 || Nat.beq q 22 || Nat.beq q 47 || Nat.beq q 62) (f := fun kk => xret tkT mi_X6_nights 0 (E q_X6_needWhat [.inr (.inr (0, 0)), .inl a3, .inl 2] M O) (kk (k)) 13 [some (.inr (.inr (0, 0))), some (.inl a1), some (.inl a2), some (.inl a3), u4, u5] [] T c s) (fun kk => rfl)
set_option maxRecDepth 100000 in
theorem e_X6_nights_16 (L : Nat) (xs : Nat → Int32) (E : CallT) (back : BackT) (k : Nat) (a1 : Int32) (a2 : Int32) (a3 : Int32) (u4 : Option AV) (u5 : Option AV) (M : Mem) (O : Int64) (T : Tmp) (c s : Nat) :
  BK L xs E mi_X6_nights back (k + 4) 16 [some (.inr (.inr (0, 0))), some (.inl a1), some (.inl a2), some (.inl a3), u4, u5] [] M O T c s =
    BK L xs E mi_X6_nights back (k) 22 [some (.inr (.inr (0, 0))), some (.inl a1), some (.inl a2), some (.inl a3), some (.inl 0), some (.inl 0)] [] M O T c s :=
  blk_of (fun q => Nat.beq q 16 || Nat.beq q 22 || Nat.beq q 47 || Nat.beq q 62) (f := fun kk => kk (k) 22 [some (.inr (.inr (0, 0))), some (.inl a1), some (.inl a2), some (.inl a3), some (.inl 0), some (.inl 0)] [] M O T c s) (fun kk => rfl)
set_option maxRecDepth 100000 in
theorem e_X6_nights_22 (L : Nat) (xs : Nat → Int32) (E : CallT) (back : BackT) (k : Nat) (a1 : Int32) (a2 : Int32) (a3 : Int32) (a4 : Int32) (a5 : Int32) (M : Mem) (O : Int64) (T : Tmp) (c s : Nat) :
  BK L xs E mi_X6_nights back (k + 12) 22 [some (.inr (.inr (0, 0))), some (.inl a1), some (.inl a2), some (.inl a3), some (.inl a4), some (.inl a5)] [] M O T c s =
    if (M 0 0 6) ≤ a5 then (some (.inl (some (.inl a4)), M, O, c, s)) else (if a3 = 1 then (BK L xs E mi_X6_nights back (k + 5) 47 [some (.inr (.inr (0, 0))), some (.inl a1), some (.inl a2), some (.inl a3), some (.inl a4), some (.inl a5)] [] M O T c s) else (xret tkT mi_X6_nights 0 (E q_X6_houseHears [.inr (.inr (0, 0)), .inl a1, .inl a5, .inl a2] M O) (BK L xs E mi_X6_nights back (k)) 41 [some (.inr (.inr (0, 0))), some (.inl a1), some (.inl a2), some (.inl a3), some (.inl a4), some (.inl a5)] [] T c s)) :=
  blk_of (fun q => Nat.beq q 22 || Nat.beq q 47 || Nat.beq q 62) (f := fun kk => if (M 0 0 6) ≤ a5 then (some (.inl (some (.inl a4)), M, O, c, s)) else (if a3 = 1 then (kk (k + 5) 47 [some (.inr (.inr (0, 0))), some (.inl a1), some (.inl a2), some (.inl a3), some (.inl a4), some (.inl a5)] [] M O T c s) else (xret tkT mi_X6_nights 0 (E q_X6_houseHears [.inr (.inr (0, 0)), .inl a1, .inl a5, .inl a2] M O) (kk (k)) 41 [some (.inr (.inr (0, 0))), some (.inl a1), some (.inl a2), some (.inl a3), some (.inl a4), some (.inl a5)] [] T c s))) (fun kk => rfl)
set_option maxRecDepth 100000 in
theorem e_X6_nights_47 (L : Nat) (xs : Nat → Int32) (E : CallT) (back : BackT) (k : Nat) (a1 : Int32) (a2 : Int32) (a3 : Int32) (a4 : Int32) (a5 : Int32) (M : Mem) (O : Int64) (T : Tmp) (c s : Nat) :
  BK L xs E mi_X6_nights back (k + 8) 47 [some (.inr (.inr (0, 0))), some (.inl a1), some (.inl a2), some (.inl a3), some (.inl a4), some (.inl a5)] [] M O T c s =
    if 0 ≤ (a5 : Int32).toInt ∧ (a5 : Int32).toInt < 6 then (BK L xs E mi_X6_nights back (k) 62 [some (.inr (.inr (0, 0))), some (.inl a1), some (.inl a2), some (.inl a3), some (.inl (a4 + (M 18 (0 + (a5 : Int32).toNatClampNeg) 2))), some (.inl a5)] [] M O T c s) else none :=
  blk_of (fun q => Nat.beq q 22 || Nat.beq q 47 || Nat.beq q 62) (f := fun kk => if 0 ≤ (a5 : Int32).toInt ∧ (a5 : Int32).toInt < 6 then (kk (k) 62 [some (.inr (.inr (0, 0))), some (.inl a1), some (.inl a2), some (.inl a3), some (.inl (a4 + (M 18 (0 + (a5 : Int32).toNatClampNeg) 2))), some (.inl a5)] [] M O T c s) else none) (fun kk => rfl)
set_option maxRecDepth 100000 in
theorem e_X6_nights_44 (L : Nat) (xs : Nat → Int32) (E : CallT) (back : BackT) (k : Nat) (a1 : Int32) (a2 : Int32) (a3 : Int32) (a4 : Int32) (a5 : Int32) (as0 : Int32) (M : Mem) (O : Int64) (T : Tmp) (c s : Nat) :
  BK L xs E mi_X6_nights back (k + 1) 44 [some (.inr (.inr (0, 0))), some (.inl a1), some (.inl a2), some (.inl a3), some (.inl a4), some (.inl a5)] [.inl as0] M O T c s =
    if as0 = 0 then (BK L xs E mi_X6_nights back (k) 62 [some (.inr (.inr (0, 0))), some (.inl a1), some (.inl a2), some (.inl a3), some (.inl a4), some (.inl a5)] [] M O T c s) else (BK L xs E mi_X6_nights back (k) 47 [some (.inr (.inr (0, 0))), some (.inl a1), some (.inl a2), some (.inl a3), some (.inl a4), some (.inl a5)] [] M O T c s) :=
  blk_of (fun q => Nat.beq q 22 || Nat.beq q 44 || Nat.beq q 47 || Nat.beq q 62) (f := fun kk => if as0 = 0 then (kk (k) 62 [some (.inr (.inr (0, 0))), some (.inl a1), some (.inl a2), some (.inl a3), some (.inl a4), some (.inl a5)] [] M O T c s) else (kk (k) 47 [some (.inr (.inr (0, 0))), some (.inl a1), some (.inl a2), some (.inl a3), some (.inl a4), some (.inl a5)] [] M O T c s)) (fun kk => rfl)
set_option maxRecDepth 100000 in
theorem e_X6_nights_62 (L : Nat) (xs : Nat → Int32) (E : CallT) (back : BackT) (k : Nat) (a1 : Int32) (a2 : Int32) (a3 : Int32) (a4 : Int32) (a5 : Int32) (M : Mem) (O : Int64) (T : Tmp) (c s : Nat) :
  BK L xs E mi_X6_nights back (k + 2) 62 [some (.inr (.inr (0, 0))), some (.inl a1), some (.inl a2), some (.inl a3), some (.inl a4), some (.inl a5)] [] M O T c s =
    back 22 [some (.inr (.inr (0, 0))), some (.inl a1), some (.inl a2), some (.inl a3), some (.inl a4), some (.inl (a5 + 1))] M O T c s :=
  blk_of (fun q => Nat.beq q 22 || Nat.beq q 47 || Nat.beq q 62) (f := fun kk => back 22 [some (.inr (.inr (0, 0))), some (.inl a1), some (.inl a2), some (.inl a3), some (.inl a4), some (.inl (a5 + 1))] M O T c s) (fun kk => rfl)
set_option maxRecDepth 100000 in
theorem e_L_nights_0 (L : Nat) (xs : Nat → Int32) (E : CallT) (back : BackT) (k : Nat) (a1 : Int32) (a2 : Int32) (a3 : Int32) (M : Mem) (O : Int64) (T : Tmp) (c s : Nat) :
  BK L xs E mi_L_nights back (k + 7) 0 [some (.inr (.inr (0, 0))), some (.inl a1), some (.inl a2), some (.inl a3), some (.inr (.inr (83, 0))), none] [] M O T c s =
    xret tkT mi_L_nights 0 (E q_X6_nights [.inr (.inr (0, 0)), .inl a1, .inl a2, .inl a3] M O) (BK L xs E mi_L_nights back (k)) 7 [some (.inr (.inr (0, 0))), some (.inl a1), some (.inl a2), some (.inl a3), some (.inr (.inr (83, 0))), none] [.inl 0, .inr (.inr (83, 0))] T c s :=
  blk_of (fun q => Nat.beq q 0) (f := fun kk => xret tkT mi_L_nights 0 (E q_X6_nights [.inr (.inr (0, 0)), .inl a1, .inl a2, .inl a3] M O) (kk (k)) 7 [some (.inr (.inr (0, 0))), some (.inl a1), some (.inl a2), some (.inl a3), some (.inr (.inr (83, 0))), none] [.inl 0, .inr (.inr (83, 0))] T c s) (fun kk => rfl)
set_option maxRecDepth 100000 in
theorem e_L_nights_10 (L : Nat) (xs : Nat → Int32) (E : CallT) (back : BackT) (k : Nat) (a1 : Int32) (a2 : Int32) (a3 : Int32) (u5 : Option AV) (as0 : Int32) (as1 : Int32) (M : Mem) (O : Int64) (T : Tmp) (c s : Nat) :
  BK L xs E mi_L_nights back (k + 5) 10 [some (.inr (.inr (0, 0))), some (.inl a1), some (.inl a2), some (.inl a3), some (.inr (.inr (83, 0))), u5] [.inl as0, .inl as1, .inr (.inr (83, 0))] M O T c s =
    if (as1 : Int32) = 0 then (some (.inl (some (.inl 0)), M, (as0).toInt64, c, s)) else none :=
  blk_of (fun q => Nat.beq q 10) (f := fun kk => if (as1 : Int32) = 0 then (some (.inl (some (.inl 0)), M, (as0).toInt64, c, s)) else none) (fun kk => rfl)
set_option maxRecDepth 100000 in
theorem e_X6_wakingHours_0 (L : Nat) (xs : Nat → Int32) (E : CallT) (back : BackT) (k : Nat) (a1 : Int32) (a2 : Int32) (M : Mem) (O : Int64) (T : Tmp) (c s : Nat) :
  BK L xs E mi_X6_wakingHours back (k + 4) 0 [some (.inr (.inr (0, 0))), some (.inl a1), some (.inl a2), none, none, none, none] [] M O T c s =
    BK L xs E mi_X6_wakingHours back (k) 5 [some (.inr (.inr (0, 0))), some (.inl a1), some (.inl a2), some (.inl 0), some (.inl 0), none, none] [] M O T c s :=
  blk_of (fun q => Nat.beq q 0 || Nat.beq q 5 || Nat.beq q 69) (f := fun kk => kk (k) 5 [some (.inr (.inr (0, 0))), some (.inl a1), some (.inl a2), some (.inl 0), some (.inl 0), none, none] [] M O T c s) (fun kk => rfl)
set_option maxRecDepth 100000 in
theorem e_X6_wakingHours_5 (L : Nat) (xs : Nat → Int32) (E : CallT) (back : BackT) (k : Nat) (a1 : Int32) (a2 : Int32) (a3 : Int32) (a4 : Int32) (u5 : Option AV) (u6 : Option AV) (M : Mem) (O : Int64) (T : Tmp) (c s : Nat) :
  BK L xs E mi_X6_wakingHours back (k + 18) 5 [some (.inr (.inr (0, 0))), some (.inl a1), some (.inl a2), some (.inl a3), some (.inl a4), u5, u6] [] M O T c s =
    if (8 : Int32) ≤ a4 then (some (.inl (some (.inl a3)), M, O, c, s)) else (if 0 ≤ (a1 : Int32).toInt ∧ (a1 : Int32).toInt < 8 then (xret tkT mi_X6_wakingHours 1 (E q_X1_humOf [.inr (.inr (3, 2)), .inl ((22 + a4) - (22 + a4) / 24 * 24)] M O) (BK L xs E mi_X6_wakingHours back (k)) 37 [some (.inr (.inr (0, 0))), some (.inl a1), some (.inl a2), some (.inl a3), some (.inl a4), some (.inl ((22 + a4) - (22 + a4) / 24 * 24)), u6] [.inl (M 8 2 (a1 : Int32).toNatClampNeg)] T c s) else none) :=
  blk_of (fun q => Nat.beq q 5 || Nat.beq q 69) (f := fun kk => if (8 : Int32) ≤ a4 then (some (.inl (some (.inl a3)), M, O, c, s)) else (if 0 ≤ (a1 : Int32).toInt ∧ (a1 : Int32).toInt < 8 then (xret tkT mi_X6_wakingHours 1 (E q_X1_humOf [.inr (.inr (3, 2)), .inl ((22 + a4) - (22 + a4) / 24 * 24)] M O) (kk (k)) 37 [some (.inr (.inr (0, 0))), some (.inl a1), some (.inl a2), some (.inl a3), some (.inl a4), some (.inl ((22 + a4) - (22 + a4) / 24 * 24)), u6] [.inl (M 8 2 (a1 : Int32).toNatClampNeg)] T c s) else none)) (fun kk => rfl)
set_option maxRecDepth 100000 in
theorem e_X6_wakingHours_40 (L : Nat) (xs : Nat → Int32) (E : CallT) (back : BackT) (k : Nat) (a1 : Int32) (a2 : Int32) (a3 : Int32) (a4 : Int32) (a5 : Int32) (u6 : Option AV) (as0 : Int32) (as1 : Int32) (M : Mem) (O : Int64) (T : Tmp) (c s : Nat) :
  BK L xs E mi_X6_wakingHours back (k + 13) 40 [some (.inr (.inr (0, 0))), some (.inl a1), some (.inl a2), some (.inl a3), some (.inl a4), some (.inl a5), u6] [.inl as0, .inl as1] M O T c s =
    if 0 ≤ (a1 : Int32).toInt ∧ (a1 : Int32).toInt < 8 then (xret tkT mi_X6_wakingHours 0 (E q_X6_loudIn [.inr (.inr (0, 0)), .inl (M 7 2 (a1 : Int32).toNatClampNeg), .inl a2, .inl a5] M O) (BK L xs E mi_X6_wakingHours back (k)) 58 [some (.inr (.inr (0, 0))), some (.inl a1), some (.inl a2), some (.inl a3), some (.inl a4), some (.inl a5), some (.inl ((as1 + as0) + 5))] [] T c s) else none :=
  blk_of (fun q => Nat.beq q 5 || Nat.beq q 40 || Nat.beq q 69) (f := fun kk => if 0 ≤ (a1 : Int32).toInt ∧ (a1 : Int32).toInt < 8 then (xret tkT mi_X6_wakingHours 0 (E q_X6_loudIn [.inr (.inr (0, 0)), .inl (M 7 2 (a1 : Int32).toNatClampNeg), .inl a2, .inl a5] M O) (kk (k)) 58 [some (.inr (.inr (0, 0))), some (.inl a1), some (.inl a2), some (.inl a3), some (.inl a4), some (.inl a5), some (.inl ((as1 + as0) + 5))] [] T c s) else none) (fun kk => rfl)
set_option maxRecDepth 100000 in
theorem e_X6_wakingHours_61 (L : Nat) (xs : Nat → Int32) (E : CallT) (back : BackT) (k : Nat) (a1 : Int32) (a2 : Int32) (a3 : Int32) (a4 : Int32) (a5 : Int32) (a6 : Int32) (as0 : Int32) (M : Mem) (O : Int64) (T : Tmp) (c s : Nat) :
  BK L xs E mi_X6_wakingHours back (k + 3) 61 [some (.inr (.inr (0, 0))), some (.inl a1), some (.inl a2), some (.inl a3), some (.inl a4), some (.inl a5), some (.inl a6)] [.inl as0] M O T c s =
    if as0 < a6 then (BK L xs E mi_X6_wakingHours back (k + 1) 69 [some (.inr (.inr (0, 0))), some (.inl a1), some (.inl a2), some (.inl a3), some (.inl a4), some (.inl a5), some (.inl a6)] [] M O T c s) else (BK L xs E mi_X6_wakingHours back (k) 69 [some (.inr (.inr (0, 0))), some (.inl a1), some (.inl a2), some (.inl (a3 + 1)), some (.inl a4), some (.inl a5), some (.inl a6)] [] M O T c s) :=
  blk_of (fun q => Nat.beq q 5 || Nat.beq q 61 || Nat.beq q 69) (f := fun kk => if as0 < a6 then (kk (k + 1) 69 [some (.inr (.inr (0, 0))), some (.inl a1), some (.inl a2), some (.inl a3), some (.inl a4), some (.inl a5), some (.inl a6)] [] M O T c s) else (kk (k) 69 [some (.inr (.inr (0, 0))), some (.inl a1), some (.inl a2), some (.inl (a3 + 1)), some (.inl a4), some (.inl a5), some (.inl a6)] [] M O T c s)) (fun kk => rfl)
set_option maxRecDepth 100000 in
theorem e_X6_wakingHours_69 (L : Nat) (xs : Nat → Int32) (E : CallT) (back : BackT) (k : Nat) (a1 : Int32) (a2 : Int32) (a3 : Int32) (a4 : Int32) (a5 : Int32) (a6 : Int32) (M : Mem) (O : Int64) (T : Tmp) (c s : Nat) :
  BK L xs E mi_X6_wakingHours back (k + 2) 69 [some (.inr (.inr (0, 0))), some (.inl a1), some (.inl a2), some (.inl a3), some (.inl a4), some (.inl a5), some (.inl a6)] [] M O T c s =
    back 5 [some (.inr (.inr (0, 0))), some (.inl a1), some (.inl a2), some (.inl a3), some (.inl (a4 + 1)), some (.inl a5), some (.inl a6)] M O T c s :=
  blk_of (fun q => Nat.beq q 5 || Nat.beq q 69) (f := fun kk => back 5 [some (.inr (.inr (0, 0))), some (.inl a1), some (.inl a2), some (.inl a3), some (.inl (a4 + 1)), some (.inl a5), some (.inl a6)] M O T c s) (fun kk => rfl)
set_option maxRecDepth 100000 in
theorem e_X6_wakes_0 (L : Nat) (xs : Nat → Int32) (E : CallT) (back : BackT) (k : Nat) (a1 : Int32) (a2 : Int32) (M : Mem) (O : Int64) (T : Tmp) (c s : Nat) :
  BK L xs E mi_X6_wakes back (k + 3) 0 [some (.inr (.inr (0, 0))), some (.inl a1), some (.inl a2)] [] M O T c s =
    xret tkT mi_X6_wakes 0 (E q_X6_needHouse [.inr (.inr (0, 0)), .inl a1] M O) (BK L xs E mi_X6_wakes back (k)) 2 [some (.inr (.inr (0, 0))), some (.inl a1), some (.inl a2)] [] T c s :=
  blk_of (fun q => Nat.beq q 0) (f := fun kk => xret tkT mi_X6_wakes 0 (E q_X6_needHouse [.inr (.inr (0, 0)), .inl a1] M O) (kk (k)) 2 [some (.inr (.inr (0, 0))), some (.inl a1), some (.inl a2)] [] T c s) (fun kk => rfl)
set_option maxRecDepth 100000 in
theorem e_X6_wakes_5 (L : Nat) (xs : Nat → Int32) (E : CallT) (back : BackT) (k : Nat) (a1 : Int32) (a2 : Int32) (M : Mem) (O : Int64) (T : Tmp) (c s : Nat) :
  BK L xs E mi_X6_wakes back (k + 3) 5 [some (.inr (.inr (0, 0))), some (.inl a1), some (.inl a2)] [] M O T c s =
    xret tkT mi_X6_wakes 0 (E q_X6_needAir [.inr (.inr (0, 0)), .inl a2] M O) (BK L xs E mi_X6_wakes back (k)) 7 [some (.inr (.inr (0, 0))), some (.inl a1), some (.inl a2)] [] T c s :=
  blk_of (fun q => Nat.beq q 5) (f := fun kk => xret tkT mi_X6_wakes 0 (E q_X6_needAir [.inr (.inr (0, 0)), .inl a2] M O) (kk (k)) 7 [some (.inr (.inr (0, 0))), some (.inl a1), some (.inl a2)] [] T c s) (fun kk => rfl)
set_option maxRecDepth 100000 in
theorem e_X6_wakes_10 (L : Nat) (xs : Nat → Int32) (E : CallT) (back : BackT) (k : Nat) (a1 : Int32) (a2 : Int32) (M : Mem) (O : Int64) (T : Tmp) (c s : Nat) :
  BK L xs E mi_X6_wakes back (k + 4) 10 [some (.inr (.inr (0, 0))), some (.inl a1), some (.inl a2)] [] M O T c s =
    xret tkT mi_X6_wakes 0 (E q_X6_wakingHours [.inr (.inr (0, 0)), .inl a1, .inl a2] M O) (BK L xs E mi_X6_wakes back (k)) 13 [some (.inr (.inr (0, 0))), some (.inl a1), some (.inl a2)] [] T c s :=
  blk_of (fun q => Nat.beq q 10) (f := fun kk => xret tkT mi_X6_wakes 0 (E q_X6_wakingHours [.inr (.inr (0, 0)), .inl a1, .inl a2] M O) (kk (k)) 13 [some (.inr (.inr (0, 0))), some (.inl a1), some (.inl a2)] [] T c s) (fun kk => rfl)
set_option maxRecDepth 100000 in
theorem e_X6_wakes_16 (L : Nat) (xs : Nat → Int32) (E : CallT) (back : BackT) (k : Nat) (a1 : Int32) (a2 : Int32) (as0 : Int32) (M : Mem) (O : Int64) (T : Tmp) (c s : Nat) :
  BK L xs E mi_X6_wakes back (k + 1) 16 [some (.inr (.inr (0, 0))), some (.inl a1), some (.inl a2)] [.inl as0] M O T c s =
    some (.inl (some (.inl as0)), M, O, c, s) :=
  blk_of (fun q => Nat.beq q 16) (f := fun kk => some (.inl (some (.inl as0)), M, O, c, s)) (fun kk => rfl)
set_option maxRecDepth 100000 in
theorem e_L_wakes_0 (L : Nat) (xs : Nat → Int32) (E : CallT) (back : BackT) (k : Nat) (a1 : Int32) (a2 : Int32) (M : Mem) (O : Int64) (T : Tmp) (c s : Nat) :
  BK L xs E mi_L_wakes back (k + 6) 0 [some (.inr (.inr (0, 0))), some (.inl a1), some (.inl a2), some (.inr (.inr (83, 0))), none] [] M O T c s =
    xret tkT mi_L_wakes 0 (E q_X6_wakes [.inr (.inr (0, 0)), .inl a1, .inl a2] M O) (BK L xs E mi_L_wakes back (k)) 5 [some (.inr (.inr (0, 0))), some (.inl a1), some (.inl a2), some (.inr (.inr (83, 0))), none] [.inl 0, .inr (.inr (83, 0))] T c s :=
  blk_of (fun q => Nat.beq q 0) (f := fun kk => xret tkT mi_L_wakes 0 (E q_X6_wakes [.inr (.inr (0, 0)), .inl a1, .inl a2] M O) (kk (k)) 5 [some (.inr (.inr (0, 0))), some (.inl a1), some (.inl a2), some (.inr (.inr (83, 0))), none] [.inl 0, .inr (.inr (83, 0))] T c s) (fun kk => rfl)
set_option maxRecDepth 100000 in
theorem e_L_wakes_8 (L : Nat) (xs : Nat → Int32) (E : CallT) (back : BackT) (k : Nat) (a1 : Int32) (a2 : Int32) (u4 : Option AV) (as0 : Int32) (as1 : Int32) (M : Mem) (O : Int64) (T : Tmp) (c s : Nat) :
  BK L xs E mi_L_wakes back (k + 5) 8 [some (.inr (.inr (0, 0))), some (.inl a1), some (.inl a2), some (.inr (.inr (83, 0))), u4] [.inl as0, .inl as1, .inr (.inr (83, 0))] M O T c s =
    if (as1 : Int32) = 0 then (some (.inl (some (.inl 0)), M, (as0).toInt64, c, s)) else none :=
  blk_of (fun q => Nat.beq q 8) (f := fun kk => if (as1 : Int32) = 0 then (some (.inl (some (.inl 0)), M, (as0).toInt64, c, s)) else none) (fun kk => rfl)
set_option maxRecDepth 100000 in
theorem e_X6_badly_0 (L : Nat) (xs : Nat → Int32) (E : CallT) (back : BackT) (k : Nat) (a1 : Int32) (M : Mem) (O : Int64) (T : Tmp) (c s : Nat) :
  BK L xs E mi_X6_badly back (k + 3) 0 [some (.inr (.inr (0, 0))), some (.inl a1), none, none] [] M O T c s =
    xret tkT mi_X6_badly 0 (E q_X6_needHouse [.inr (.inr (0, 0)), .inl a1] M O) (BK L xs E mi_X6_badly back (k)) 2 [some (.inr (.inr (0, 0))), some (.inl a1), none, none] [] T c s :=
  blk_of (fun q => Nat.beq q 0 || Nat.beq q 9 || Nat.beq q 39) (f := fun kk => xret tkT mi_X6_badly 0 (E q_X6_needHouse [.inr (.inr (0, 0)), .inl a1] M O) (kk (k)) 2 [some (.inr (.inr (0, 0))), some (.inl a1), none, none] [] T c s) (fun kk => rfl)
set_option maxRecDepth 100000 in
theorem e_X6_badly_5 (L : Nat) (xs : Nat → Int32) (E : CallT) (back : BackT) (k : Nat) (a1 : Int32) (u2 : Option AV) (u3 : Option AV) (M : Mem) (O : Int64) (T : Tmp) (c s : Nat) :
  BK L xs E mi_X6_badly back (k + 4) 5 [some (.inr (.inr (0, 0))), some (.inl a1), u2, u3] [] M O T c s =
    BK L xs E mi_X6_badly back (k) 9 [some (.inr (.inr (0, 0))), some (.inl a1), some (.inl 0), some (.inl 0)] [] M O T c s :=
  blk_of (fun q => Nat.beq q 5 || Nat.beq q 9 || Nat.beq q 39) (f := fun kk => kk (k) 9 [some (.inr (.inr (0, 0))), some (.inl a1), some (.inl 0), some (.inl 0)] [] M O T c s) (fun kk => rfl)
set_option maxRecDepth 100000 in
theorem e_X6_badly_9 (L : Nat) (xs : Nat → Int32) (E : CallT) (back : BackT) (k : Nat) (a1 : Int32) (a2 : Int32) (a3 : Int32) (M : Mem) (O : Int64) (T : Tmp) (c s : Nat) :
  BK L xs E mi_X6_badly back (k + 8) 9 [some (.inr (.inr (0, 0))), some (.inl a1), some (.inl a2), some (.inl a3)] [] M O T c s =
    if (M 0 0 6) ≤ a3 then (some (.inl (some (.inl a2)), M, O, c, s)) else (xret tkT mi_X6_badly 0 (E q_X6_wakingHours [.inr (.inr (0, 0)), .inl a1, .inl a3] M O) (BK L xs E mi_X6_badly back (k)) 20 [some (.inr (.inr (0, 0))), some (.inl a1), some (.inl a2), some (.inl a3)] [] T c s) :=
  blk_of (fun q => Nat.beq q 9 || Nat.beq q 39) (f := fun kk => if (M 0 0 6) ≤ a3 then (some (.inl (some (.inl a2)), M, O, c, s)) else (xret tkT mi_X6_badly 0 (E q_X6_wakingHours [.inr (.inr (0, 0)), .inl a1, .inl a3] M O) (kk (k)) 20 [some (.inr (.inr (0, 0))), some (.inl a1), some (.inl a2), some (.inl a3)] [] T c s)) (fun kk => rfl)
set_option maxRecDepth 100000 in
theorem e_X6_badly_23 (L : Nat) (xs : Nat → Int32) (E : CallT) (back : BackT) (k : Nat) (a1 : Int32) (a2 : Int32) (a3 : Int32) (as0 : Int32) (M : Mem) (O : Int64) (T : Tmp) (c s : Nat) :
  BK L xs E mi_X6_badly back (k + 10) 23 [some (.inr (.inr (0, 0))), some (.inl a1), some (.inl a2), some (.inl a3)] [.inl as0] M O T c s =
    if as0 < 2 then (BK L xs E mi_X6_badly back (k + 8) 39 [some (.inr (.inr (0, 0))), some (.inl a1), some (.inl a2), some (.inl a3)] [] M O T c s) else (if 0 ≤ (a3 : Int32).toInt ∧ (a3 : Int32).toInt < 6 then (BK L xs E mi_X6_badly back (k) 39 [some (.inr (.inr (0, 0))), some (.inl a1), some (.inl (a2 + (M 18 (0 + (a3 : Int32).toNatClampNeg) 2))), some (.inl a3)] [] M O T c s) else none) :=
  blk_of (fun q => Nat.beq q 9 || Nat.beq q 23 || Nat.beq q 39) (f := fun kk => if as0 < 2 then (kk (k + 8) 39 [some (.inr (.inr (0, 0))), some (.inl a1), some (.inl a2), some (.inl a3)] [] M O T c s) else (if 0 ≤ (a3 : Int32).toInt ∧ (a3 : Int32).toInt < 6 then (kk (k) 39 [some (.inr (.inr (0, 0))), some (.inl a1), some (.inl (a2 + (M 18 (0 + (a3 : Int32).toNatClampNeg) 2))), some (.inl a3)] [] M O T c s) else none)) (fun kk => rfl)
set_option maxRecDepth 100000 in
theorem e_X6_badly_39 (L : Nat) (xs : Nat → Int32) (E : CallT) (back : BackT) (k : Nat) (a1 : Int32) (a2 : Int32) (a3 : Int32) (M : Mem) (O : Int64) (T : Tmp) (c s : Nat) :
  BK L xs E mi_X6_badly back (k + 2) 39 [some (.inr (.inr (0, 0))), some (.inl a1), some (.inl a2), some (.inl a3)] [] M O T c s =
    back 9 [some (.inr (.inr (0, 0))), some (.inl a1), some (.inl a2), some (.inl (a3 + 1))] M O T c s :=
  blk_of (fun q => Nat.beq q 9 || Nat.beq q 39) (f := fun kk => back 9 [some (.inr (.inr (0, 0))), some (.inl a1), some (.inl a2), some (.inl (a3 + 1))] M O T c s) (fun kk => rfl)
