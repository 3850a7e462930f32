/-! An executor over a picture of the heap: values, memory by (group, number, slot), one method's walk, calls by depth. -/
abbrev AV : Type := Int32 ⊕ (Int64 ⊕ (Nat × Nat))
abbrev Mem : Type := Nat → Nat → Nat → Int32
abbrev Tmp : Type := Option (Nat → Int32)
abbrev Lcs : Type := List (Option AV)
abbrev Out : Type := (Option AV ⊕ Nat) × Mem × Int64 × Nat × Nat
abbrev Res : Type := Option Out
/-- a method: its class, name, bytes, locals, answer's type, decoded rows, frames and local words that it may need, its table of handlers with what they answer -/
abbrev MI : Type := Nat × MethodName × ByteArray × Nat × Option FieldType × List (Nat × Instr × Nat) × Nat × Nat × List (Nat × Nat × Nat × Nat)
abbrev mi_cls (mi : MI) : Nat := mi.1
abbrev mi_y (mi : MI) : MethodName := mi.2.1
abbrev mi_b (mi : MI) : ByteArray := mi.2.2.1
abbrev mi_L (mi : MI) : Nat := mi.2.2.2.1
abbrev mi_ret (mi : MI) : Option FieldType := mi.2.2.2.2.1
abbrev mi_tab (mi : MI) : List (Nat × Instr × Nat) := mi.2.2.2.2.2.1
abbrev mi_fr (mi : MI) : Nat := mi.2.2.2.2.2.2.1
abbrev mi_lw (mi : MI) : Nat := mi.2.2.2.2.2.2.2.1
abbrev mi_hh (mi : MI) : List (Nat × Nat × Nat × Nat) := mi.2.2.2.2.2.2.2.2
def mrow (M : Mem) (g i : Nat) (f : Nat → Int32) : Mem := fun g' => if g' = g then (fun i' => if i' = i then f else M g i') else M g'
def mput (M : Mem) (g i k : Nat) (x : Int32) : Mem := mrow M g i (upd (M g i) k x)
def icon : Int → Int32
  | .ofNat k => Int32.ofNat k
  | .negSucc k => -(Int32.ofNat (k + 1))
def lget (ls : Lcs) (i : Nat) : Option AV := match ls[i]? with
  | some (some v) => some v
  | _ => none
def lkill (ls : Lcs) (i : Nat) : Lcs := match i with
  | 0 => ls
  | j + 1 => match ls[j]? with
    | some (some (.inr (.inl _))) => ls.set j none
    | _ => ls
def lset1 (ls : Lcs) (i : Nat) (v : AV) : Lcs := (lkill ls i).set i (some v)
def lset2 (ls : Lcs) (i : Nat) (v : AV) : Lcs := ((lkill ls i).set i (some v)).set (i + 1) none
/-- an object: its class, its fields (none: a number; some (g, some k): the cell (g, own number + k); some (g, none): the cell (g, what the memory says)); an array: its kind, length, the group of its elements with the first one's number -/
abbrev SH : Type := (Nat × List (Option (Nat × Option Nat))) ⊕ (Nat × Nat × Option (Nat × Nat))
/-- what the tables say of a class's constants: fields (class, slot), calls (kind, method, arguments), loaded constants, thrown classes -/
abbrev CP : Type := List (Nat × Nat × Nat) × List (Nat × Nat × Nat × Nat) × List (Nat × AV) × List (Nat × Nat)
