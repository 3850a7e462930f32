def clsN : Nat → String
  | 0 => RX0 | 1 => RX1 | 2 => RX2 | 3 => RX3 | 4 => RX4 | 5 => RX5 | 6 => RX6 | 7 => RX7 | 8 => RL | 9 => RJ7
  | _ => ""
def isNest : Cond → Bool
  | .fieldLinkNest .. => true
  | .methodLinkNest .. => true
  | _ => false
def gTb : List Cond := lw_tbl.filter goodWord
def nTb : List Cond := lw_tbl.filter isNest
/-- how long an instruction of these is -/
def ilen : Instr → Nat
  | .iload _ => 2 | .aload _ => 2 | .lload _ => 2 | .istore _ => 2 | .astore _ => 2 | .lstore _ => 2 | .bipush _ => 2 | .ldc _ => 2 | .newarray _ => 2
  | .sipush _ => 3 | .ldc_w _ => 3 | .getstatic _ => 3 | .iinc _ _ => 3 | .getfield _ => 3 | .putfield _ => 3 | .goto _ => 3 | .ifCond _ _ => 3 | .if_icmp _ _ => 3 | .invokevirtual _ => 3 | .invokestatic _ => 3 | .invokespecial _ => 3 | .new _ => 3
  | _ => 1
/-- what the numbers of an instruction must be -/
def iok (nL : Nat) : Instr → Bool
  | .istore n => decide (n < nL)
  | .astore n => decide (n < nL)
  | .lstore n => decide (n + 1 < nL)
  | .istore_n n => decide (n.val < nL)
  | .astore_n n => decide (n.val < nL)
  | .lstore_n n => decide (n.val + 1 < nL)
  | .iconst n => decide (Int32.ofInt n = icon n)
  | .bipush n => decide ((Int8.ofInt n).toInt32 = icon n)
  | .sipush n => decide ((Int16.ofInt n).toInt32 = icon n)
  | .iinc n d => decide (n < nL) && decide (Int32.ofInt d = icon d)
  | _ => true
def jok (pc : Nat) : Instr → Bool
  | .goto off => decide (0 ≤ (pc : Int) + off)
  | .ifCond _ off => decide (0 ≤ (pc : Int) + off)
  | .if_icmp _ off => decide (0 ≤ (pc : Int) + off)
  | .tableswitch df _ _ offs => decide (0 ≤ (pc : Int) + df) && offs.toList.all (fun off => decide (0 ≤ (pc : Int) + off))
  | .lookupswitch df ps => decide (0 ≤ (pc : Int) + df) && ps.toList.all (fun q => decide (0 ≤ (pc : Int) + q.2)) && (ps.toList.zip (ps.toList.drop 1)).all (fun (a, next) => a.1 < next.1)
  | _ => true
