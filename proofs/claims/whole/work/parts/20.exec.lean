/-- the steps that touch locals and stack alone -/
def stepS (i : Instr) (ls : Lcs) (st : List AV) : Option (Lcs × List AV) := match i with
  | .iload n => match lget ls n with
    | some (.inl x) => some (ls, .inl x :: st)
    | _ => none
  | .iload_n n => match lget ls n.val with
    | some (.inl x) => some (ls, .inl x :: st)
    | _ => none
  | .aload n => match lget ls n with
    | some (.inr (.inr q)) => some (ls, .inr (.inr q) :: st)
    | _ => none
  | .aload_n n => match lget ls n.val with
    | some (.inr (.inr q)) => some (ls, .inr (.inr q) :: st)
    | _ => none
  | .lload n => match lget ls n with
    | some (.inr (.inl x)) => some (ls, .inr (.inl x) :: st)
    | _ => none
  | .lload_n n => match lget ls n.val with
    | some (.inr (.inl x)) => some (ls, .inr (.inl x) :: st)
    | _ => none
  | .istore n => match st with
    | .inl x :: st' => some (lset1 ls n (.inl x), st')
    | _ => none
  | .istore_n n => match st with
    | .inl x :: st' => some (lset1 ls n.val (.inl x), st')
    | _ => none
  | .astore n => match st with
    | .inr (.inr q) :: st' => some (lset1 ls n (.inr (.inr q)), st')
    | _ => none
  | .astore_n n => match st with
    | .inr (.inr q) :: st' => some (lset1 ls n.val (.inr (.inr q)), st')
    | _ => none
  | .lstore n => match st with
    | .inr (.inl x) :: st' => some (lset2 ls n (.inr (.inl x)), st')
    | _ => none
  | .lstore_n n => match st with
    | .inr (.inl x) :: st' => some (lset2 ls n.val (.inr (.inl x)), st')
    | _ => none
  | .iconst n => some (ls, .inl (icon n) :: st)
  | .bipush n => some (ls, .inl (icon n) :: st)
  | .sipush n => some (ls, .inl (icon n) :: st)
  | .lconst n => some (ls, .inr (.inl (Int64.ofNat n.val)) :: st)
  | .iinc n d => match lget ls n with
    | some (.inl x) => some (lset1 ls n (.inl (x + icon d)), st)
    | _ => none
  | .iadd => match st with
    | .inl y :: .inl x :: st' => some (ls, .inl (x + y) :: st')
    | _ => none
  | .isub => match st with
    | .inl y :: .inl x :: st' => some (ls, .inl (x - y) :: st')
    | _ => none
  | .imul => match st with
    | .inl y :: .inl x :: st' => some (ls, .inl (x * y) :: st')
    | _ => none
  | .iand => match st with
    | .inl y :: .inl x :: st' => some (ls, .inl (x &&& y) :: st')
    | _ => none
  | .ior => match st with
    | .inl y :: .inl x :: st' => some (ls, .inl (x ||| y) :: st')
    | _ => none
  | .ixor => match st with
    | .inl y :: .inl x :: st' => some (ls, .inl (x ^^^ y) :: st')
    | _ => none
  | .ishl => match st with
    | .inl y :: .inl x :: st' => some (ls, .inl (x <<< (y &&& 31)) :: st')
    | _ => none
  | .ishr => match st with
    | .inl y :: .inl x :: st' => some (ls, .inl (x >>> (y &&& 31)) :: st')
    | _ => none
  | .ineg => match st with
    | .inl x :: st' => some (ls, .inl (-x) :: st')
    | _ => none
  | .i2l => match st with
    | .inl x :: st' => some (ls, .inr (.inl x.toInt64) :: st')
    | _ => none
  | .lshl => match st with
    | .inl y :: .inr (.inl x) :: st' => some (ls, .inr (.inl (x <<< (y.toInt64 &&& 63))) :: st')
    | _ => none
  | .lor => match st with
    | .inr (.inl y) :: .inr (.inl x) :: st' => some (ls, .inr (.inl (x ||| y)) :: st')
    | _ => none
  | .lcmp => match st with
    | .inr (.inl y) :: .inr (.inl x) :: st' => some (ls, .inl (lg_cmp x y) :: st')
    | _ => none
  | .dup => match st with
    | .inl x :: st' => some (ls, .inl x :: .inl x :: st')
    | .inr (.inr q) :: st' => some (ls, .inr (.inr q) :: .inr (.inr q) :: st')
    | _ => none
  | .dup2 => match st with
    | .inl x :: .inl y :: st' => some (ls, .inl x :: .inl y :: .inl x :: .inl y :: st')
    | .inl x :: .inr (.inr q) :: st' => some (ls, .inl x :: .inr (.inr q) :: .inl x :: .inr (.inr q) :: st')
    | _ => none
  | .pop => match st with
    | .inl _ :: st' => some (ls, st')
    | _ => none
  | _ => none
/-- constants of the class's table -/
def stepK (cp : CP) (i : Instr) (st : List AV) : Option (List AV) := match i with
  | .ldc n => match List.lookup n cp.2.2.1 with
    | some (.inl x) => some (.inl x :: st)
    | some (.inr (.inr (g, i))) => bif g == 92 then none else some (.inr (.inr (g, i)) :: st)
    | _ => none
  | .ldc_w n => match List.lookup n cp.2.2.1 with
    | some (.inl x) => some (.inl x :: st)
    | _ => none
  | .getstatic n => match List.lookup n cp.2.2.1 with
    | some (.inr (.inr (g, i))) => bif g == 92 then some (.inr (.inr (g, i)) :: st) else none
    | _ => none
  | _ => none
def popN : Nat → List AV → List AV → Option (List AV × List AV)
  | 0, acc, st => some (acc, st)
  | n + 1, acc, v :: st => popN n (v :: acc) st
  | _ + 1, _, [] => none
def acat : AV → Nat
  | .inr (.inl _) => 2
  | _ => 1
/-- the first row of a table of handlers that covers pc and takes the class X (casts: by the class's number and the constant's) -/
def findH (tk : Nat → Nat → Bool) (X pc : Nat) : List (Nat × Nat × Nat × Nat) → Option Nat
  | [] => none
  | (a, b, h, k) :: r => if (Nat.ble a pc && Nat.blt pc b) && tk X k then some h else findH tk X pc r
section Exec
variable (shape : Nat → SH) (cps : Nat → CP) (tk : Nat → Nat → Bool) (clsY : Nat → Nat) (L : Nat) (xs : Nat → Int32)
/-- a number read from an array -/
def aread (M : Mem) (T : Tmp) (g i : Nat) (j : Nat) : Int32 := match g with
  | 90 => match T with
    | some f => f j
    | none => 0
  | 91 => xs j
  | 92 => match j with
    | 0 => 3
    | 1 => 6
    | 2 => 0
    | _ => 9
  | g => M g i j
def alen (g : Nat) : Nat := match g with
  | 91 => L
  | g => match shape g with
    | .inr (_, n, _) => n
    | .inl _ => 0
abbrev RecT : Type := Nat → Lcs → List AV → Mem → Int64 → Tmp → Nat → Nat → Res
abbrev BackT : Type := Nat → Lcs → Mem → Int64 → Tmp → Nat → Nat → Res
abbrev CallT : Type := Nat → List AV → Mem → Int64 → Res
def xgo (k : RecT) (back : BackT) (pc : Nat) (off : Int) (ls : Lcs) (st : List AV) (M : Mem) (O : Int64) (T : Tmp) (c s : Nat) : Res :=
  match (pc : Int) + off with
  | .negSucc _ => none
  | .ofNat t => bif Nat.ble t pc then (match st with
    | [] => back t ls M O T c s
    | _ :: _ => none) else k t ls st M O T c s
/-- heap reads and writes -/
def stepH (cp : CP) (i : Instr) (k : RecT) (pc : Nat) (ls : Lcs) (st : List AV) (M : Mem) (O : Int64) (T : Tmp) (c s : Nat) : Res := match i with
  | .getfield n => match st with
    | .inr (.inr (g, i)) :: st' => match shape g, List.lookup n cp.1 with
      | .inl (ci, fs), some (ci', f) => bif ci' == ci then (match fs[f]? with
        | some none => k (pc + 3) ls (.inl (M g i f) :: st') M O T c s
        | some (some (g', some o)) => k (pc + 3) ls (.inr (.inr (g', i + o)) :: st') M O T c s
        | some (some (g', none)) => if (M g i f).toNatClampNeg < 4 then k (pc + 3) ls (.inr (.inr (g', (M g i f).toNatClampNeg)) :: st') M O T c s else none
        | none => none) else none
      | _, _ => none
    | _ => none
  | .putfield n => match st with
    | .inl x :: .inr (.inr (g, i)) :: st' => match shape g, List.lookup n cp.1 with
      | .inl (ci, fs), some (ci', f) => bif ci' == ci then (match fs[f]? with
        | some none => k (pc + 3) ls st' (mput M g i f x) O T c s
        | _ => none) else none
      | _, _ => none
    | .inr (.inr (h, j)) :: .inr (.inr (g, i)) :: st' => match shape g, List.lookup n cp.1 with
      | .inl (ci, fs), some (ci', f) => bif ci' == ci then (match fs[f]? with
        | some (some (g', none)) => bif g' == h then k (pc + 3) ls st' (mput M g i f (Int32.ofNat j)) O T c s else none
        | _ => none) else none
      | _, _ => none
    | _ => none
  | .arraylength => match st with
    | .inr (.inr (g, _)) :: st' => match shape g with
      | .inr _ => k (pc + 1) ls (.inl (Int32.ofNat (alen shape L g)) :: st') M O T c s
      | .inl _ => none
    | _ => none
  | .iaload => match st with
    | .inl j :: .inr (.inr (g, i)) :: st' => match shape g with
      | .inr (0, _, none) => if 0 ≤ j.toInt ∧ j.toInt < (alen shape L g : Int) then k (pc + 1) ls (.inl (aread xs M T g i j.toNatClampNeg) :: st') M O T c s else none
      | _ => none
    | _ => none
  | .baload => match st with
    | .inl j :: .inr (.inr (g, i)) :: st' => match shape g with
      | .inr (1, n, none) => if 0 ≤ j.toInt ∧ j.toInt < (n : Int) then k (pc + 1) ls (.inl (M g i j.toNatClampNeg) :: st') M O T c s else none
      | _ => none
    | _ => none
  | .aaload => match st with
    | .inl j :: .inr (.inr (g, _)) :: st' => match shape g with
      | .inr (_, n, some (g', o)) => if 0 ≤ j.toInt ∧ j.toInt < (n : Int) then k (pc + 1) ls (.inr (.inr (g', o + j.toNatClampNeg)) :: st') M O T c s else none
      | _ => none
    | _ => none
  | .laload => match st with
    | .inl j :: .inr (.inr (g, _)) :: st' => match shape g with
      | .inr (2, _, none) => if j = 0 then k (pc + 1) ls (.inr (.inl O) :: st') M O T c s else none
      | _ => none
    | _ => none
  | .iastore => match st with
    | .inl x :: .inl j :: .inr (.inr (g, i)) :: st' => bif g == 90 then (match T with
      | some f => if 0 ≤ j.toInt ∧ j.toInt < (8 : Int) then k (pc + 1) ls st' M O (some (upd f j.toNatClampNeg x)) c s else none
      | none => none) else (bif Nat.blt g 84 then (match shape g with
      | .inr (0, n, none) => if 0 ≤ j.toInt ∧ j.toInt < (n : Int) then k (pc + 1) ls st' (mput M g i j.toNatClampNeg x) O T c s else none
      | _ => none) else none)
    | _ => none
  | .bastore => match st with
    | .inl x :: .inl j :: .inr (.inr (g, i)) :: st' => match shape g with
      | .inr (1, n, none) => if 0 ≤ j.toInt ∧ j.toInt < (n : Int) then (if x = 0 ∨ x = 1 then k (pc + 1) ls st' (mput M g i j.toNatClampNeg x) O T c s else none) else none
      | _ => none
    | _ => none
  | .lastore => match st with
    | .inr (.inl x) :: .inl j :: .inr (.inr (g, _)) :: st' => match shape g with
      | .inr (2, _, none) => if j = 0 then k (pc + 1) ls st' M x T c s else none
      | _ => none
    | _ => none
  | .newarray .int => match st, T with
    | .inl n :: st', none => if n = 8 then k (pc + 2) ls (.inr (.inr (90, 0)) :: st') M O (some fun _ => 0) (c + 1) (s + 8) else none
    | _, _ => none
  | .idiv => match st with
    | .inl y :: .inl x :: st' => if y = 0 then none else k (pc + 1) ls (.inl (x / y) :: st') M O T c s
    | _ => none
  | .irem => match st with
    | .inl y :: .inl x :: st' => if y = 0 then none else k (pc + 1) ls (.inl (x - x / y * y) :: st') M O T c s
    | _ => none
  | _ => none
/-- branches -/
def stepB (i : Instr) (len : Nat) (k : RecT) (back : BackT) (pc : Nat) (ls : Lcs) (st : List AV) (M : Mem) (O : Int64) (T : Tmp) (c s : Nat) : Res := match i with
  | .goto off => xgo k back pc off ls st M O T c s
  | .ifCond cd off => match st with
    | .inl x :: st' => match cd with
      | .eq => if x = 0 then xgo k back pc off ls st' M O T c s else k (pc + 3) ls st' M O T c s
      | .ne => if x = 0 then k (pc + 3) ls st' M O T c s else xgo k back pc off ls st' M O T c s
      | .lt => if x < 0 then xgo k back pc off ls st' M O T c s else k (pc + 3) ls st' M O T c s
      | .ge => if 0 ≤ x then xgo k back pc off ls st' M O T c s else k (pc + 3) ls st' M O T c s
      | .gt => if 0 < x then xgo k back pc off ls st' M O T c s else k (pc + 3) ls st' M O T c s
      | .le => if x ≤ 0 then xgo k back pc off ls st' M O T c s else k (pc + 3) ls st' M O T c s
    | _ => none
  | .if_icmp cd off => match st with
    | .inl y :: .inl x :: st' => match cd with
      | .eq => if x = y then xgo k back pc off ls st' M O T c s else k (pc + 3) ls st' M O T c s
      | .ne => if x = y then k (pc + 3) ls st' M O T c s else xgo k back pc off ls st' M O T c s
      | .lt => if x < y then xgo k back pc off ls st' M O T c s else k (pc + 3) ls st' M O T c s
      | .ge => if y ≤ x then xgo k back pc off ls st' M O T c s else k (pc + 3) ls st' M O T c s
      | .gt => if y < x then xgo k back pc off ls st' M O T c s else k (pc + 3) ls st' M O T c s
      | .le => if x ≤ y then xgo k back pc off ls st' M O T c s else k (pc + 3) ls st' M O T c s
    | _ => none
  | .tableswitch df lo hi offs => match st with
    | .inl x :: st' => if x.toInt < lo ∨ hi < x.toInt then xgo k back pc df ls st' M O T c s else (match offs[(x.toInt - lo).toNat]? with
      | some off => xgo k back pc off ls st' M O T c s
      | none => none)
    | _ => none
  | .lookupswitch df ps => match st with
    | .inl x :: st' => xgo k back pc (Op.lookupswitch.offset ps.toList df x.toInt) ls st' M O T c s
    | _ => none
  | _ => none
/-- what a handler answers -/
def hretV (mi : MI) (h : Nat) : Option Int32 := match List.lookup h (mi_tab mi), mi_ret mi with
  | some (.astore _, 2), some .int => (match List.lookup (h + 2) (mi_tab mi), List.lookup (h + 3) (mi_tab mi) with
    | some (.iconst n, 1), some (.ireturn, 1) => some (icon n)
    | _, _ => none)
  | some (.astore_n _, 1), some .int => (match List.lookup (h + 1) (mi_tab mi), List.lookup (h + 2) (mi_tab mi) with
    | some (.iconst n, 1), some (.ireturn, 1) => some (icon n)
    | _, _ => none)
  | _, _ => none
/-- what comes back of a call -/
def xret (tk : Nat → Nat → Bool) (mi : MI) (kd : Nat) (r : Res) (k : RecT) (pc : Nat) (ls : Lcs) (rest : List AV) (T : Tmp) (c s : Nat) : Res := match r with
  | none => none
  | some (.inl none, M, O, mc, ms) => k (pc + 3) ls rest M O T (c + mc) (s + ms)
  | some (.inl (some v), M, O, mc, ms) => k (pc + 3) ls (v :: rest) M O T (c + mc) (s + ms)
  | some (.inr X, M, O, mc, ms) => bif kd == 0 then (match findH tk X pc (mi_hh mi) with
    | none => some (.inr X, M, O, c + mc, s + ms)
    | some h => match hretV mi h with
      | some v => some (.inl (some (.inl v)), M, O, c + mc, s + ms)
      | none => none) else none
def no90 : AV → Bool
  | .inr (.inr (g, _)) => !(g == 90)
  | _ => true
/-- the receiver is an object of the method's class -/
def rcv (shape : Nat → SH) (clsY : Nat → Nat) (y : Nat) (as : List AV) : Bool := Nat.ble 900 y || (match as with
  | .inr (.inr (g, _)) :: _ => (match shape g with
    | .inl (ci, _) => ci == clsY y
    | .inr _ => false)
  | _ => false)
/-- calls, ends -/
def stepC (E : CallT) (mi : MI) (i : Instr) (k : RecT) (pc : Nat) (ls : Lcs) (st : List AV) (M : Mem) (O : Int64) (T : Tmp) (c s : Nat) : Res := match i with
  | .invokevirtual n => match List.lookup n (cps (mi_cls mi)).2.1 with
    | some (kd, y, na) => match popN na [] st with
      | some (as, rest) => bif Nat.ble (rest.map acat).sum 8 && (Nat.blt kd 2 && (rcv shape clsY y as && as.all no90)) then xret tk mi kd (E y as M O) k pc ls rest T c s else none
      | none => none
    | none => none
  | .invokestatic n => match List.lookup n (cps (mi_cls mi)).2.1 with
    | some (kd, y, na) => match popN na [] st with
      | some (as, rest) => bif Nat.ble (rest.map acat).sum 8 && (Nat.ble 2 kd && as.all no90) then xret tk mi kd (E y as M O) k pc ls rest T c s else none
      | none => none
    | none => none
  | .new n => match List.lookup n (cps (mi_cls mi)).2.2.2 with
    | some X => match st with
      | [] => some (.inr X, M, O, c + 1, s + 6)
      | _ :: _ => none
    | none => none
  | .ireturn => match st with
    | [.inl x] => match mi_ret mi with
      | some .int => some (.inl (some (.inl x)), M, O, c, s)
      | some .boolean => if x = 0 ∨ x = 1 then some (.inl (some (.inl x)), M, O, c, s) else none
      | _ => none
    | _ => none
  | .lreturn => match st, mi_ret mi with
    | [.inr (.inl x)], some .long => some (.inl (some (.inr (.inl x))), M, O, c, s)
    | _, _ => none
  | .areturn => match st, T, mi_ret mi with
    | [.inr (.inr q)], none, some (.array .int) => some (.inl (some (.inr (.inr q))), M, O, c, s)
    | _, _, _ => none
  | .return_ => match st, mi_ret mi with
    | [], none => some (.inl none, M, O, c, s)
    | _, _ => none
  | _ => none
/-- which family an instruction is of: 0 locals and stack, 1 heap, 2 branch, 3 call or end -/
def fam : Instr → Nat
  | .getfield _ => 1 | .putfield _ => 1 | .arraylength => 1 | .iaload => 1 | .baload => 1 | .aaload => 1 | .laload => 1 | .iastore => 1 | .bastore => 1 | .lastore => 1 | .newarray _ => 1 | .idiv => 1 | .irem => 1
  | .goto _ => 2 | .ifCond _ _ => 2 | .if_icmp _ _ => 2 | .tableswitch _ _ _ _ => 2 | .lookupswitch _ _ => 2
  | .ldc _ => 4 | .ldc_w _ => 4 | .getstatic _ => 4
  | .invokevirtual _ => 3 | .invokestatic _ => 3 | .new _ => 3 | .ireturn => 3 | .lreturn => 3 | .areturn => 3 | .return_ => 3
  | _ => 0
def blk1 (E : CallT) (mi : MI) (back : BackT) (k : RecT) (pc : Nat) (ls : Lcs) (st : List AV) (M : Mem) (O : Int64) (T : Tmp) (c s : Nat) : Res :=
  match List.lookup pc (mi_tab mi) with
  | none => none
  | some (i, len) => match fam i with
    | 0 => match stepS i ls st with
      | some (ls', st') => k (pc + len) ls' st' M O T c s
      | none => none
    | 4 => match stepK (cps (mi_cls mi)) i st with
      | some st' => k (pc + len) ls st' M O T c s
      | none => none
    | 1 => stepH shape L xs (cps (mi_cls mi)) i k pc ls st M O T c s
    | 2 => stepB i len k back pc ls st M O T c s
    | _ => stepC shape cps tk clsY E mi i k pc ls st M O T c s
def blk (E : CallT) (mi : MI) (back : BackT) : Nat → RecT
  | 0 => fun _ _ _ _ _ _ _ _ => none
  | n + 1 => blk1 shape cps tk clsY L xs E mi back (blk E mi back n)
def runM (E : CallT) (mi : MI) : Nat → BackT
  | 0 => fun _ _ _ _ _ _ _ => none
  | n + 1 => fun pc ls M O T c s => blk shape cps tk clsY L xs E mi (runM E mi n) 3000 pc ls [] M O T c s
/-- the JDK's own that are no code here: 900 a text's length, 901 its sign at a place, 902 a row copied, 903 max, 904 min, 905 abs -/
def intr (strs : Nat → Option (List Int32)) (y : Nat) (as : List AV) (M : Mem) (O : Int64) : Res := match y, as with
  | 900, [.inr (.inr (g, _))] => match strs g with
    | some l => some (.inl (some (.inl (Int32.ofNat l.length))), M, O, 0, 0)
    | none => none
  | 901, [.inr (.inr (g, _)), .inl j] => match strs g with
    | some l => if 0 ≤ j.toInt ∧ j.toInt < (l.length : Int) then some (.inl (some (.inl (l.getD j.toNatClampNeg 0))), M, O, 0, 0) else none
    | none => none
  | 902, [.inr (.inr (g, i)), .inl sp, .inr (.inr (g', i')), .inl dp, .inl n] => match shape g, shape g' with
    | .inr (0, n0, none), .inr (0, n1, none) => bif Nat.blt g 90 && Nat.blt g' 90 then (if 0 ≤ sp.toInt ∧ 0 ≤ dp.toInt ∧ 0 ≤ n.toInt ∧ sp.toInt + n.toInt ≤ (n0 : Int) ∧ dp.toInt + n.toInt ≤ (n1 : Int) then some (.inl none, mrow M g' i' (va_cpy (M g i) (M g' i') sp.toNatClampNeg dp.toNatClampNeg n.toNatClampNeg), O, 0, 0) else none) else none
    | _, _ => none
  | 903, [.inl x, .inl y] => some (.inl (some (.inl (if x < y then y else x))), M, O, 0, 0)
  | 904, [.inl x, .inl y] => some (.inl (some (.inl (if y < x then y else x))), M, O, 0, 0)
  | 905, [.inl x] => some (.inl (some (.inl (if 0 ≤ x then x else 0 - x))), M, O, 0, 0)
  | _, _ => none
def entL (mi : MI) (as : List AV) : Lcs := as.map some ++ List.replicate (mi_L mi - as.length) none
def exM (strs : Nat → Option (List Int32)) (getM : Nat → Option MI) : Nat → CallT
  | 0 => fun _ _ _ _ => none
  | d + 1 => fun y as M O => bif Nat.ble 900 y then intr shape strs y as M O else (match getM y with
    | none => none
    | some mi => bif as.all (fun v => Nat.beq (acat v) 1) && Nat.ble as.length (mi_L mi) then runM shape cps tk clsY L xs (exM strs getM d) mi 1000000 0 (entL mi as) M O none 0 0 else none)
end Exec
/-- the methods but the law itself -/
noncomputable def getN (y : Nat) : Option MI := bif y == 230 then none else getM y
noncomputable def clsY (y : Nat) : Nat := match getN y with
  | some mi => mi.1
  | none => 100
noncomputable abbrev EX (L : Nat) (xs : Nat → Int32) : Nat → CallT := exM shape cps tkT clsY L xs strs getN
noncomputable abbrev BK (L : Nat) (xs : Nat → Int32) (E : CallT) (mi : MI) (back : BackT) : Nat → RecT := blk shape cps tkT clsY L xs E mi back
