/-! the decoded rows are the bytes': printed by wip/gen/gen3.py -/
def eOK (mi : MI) (q : Nat × Instr × Nat) : Bool := decide (decode (mi_b mi) q.1 = .ok q.2) && (match q.2.1 with
  | .tableswitch _ _ _ _ => true
  | .lookupswitch _ _ => true
  | i => decide (q.2.2 = ilen i)) && iok (mi_L mi) q.2.1 && jok q.1 q.2.1
theorem all_chunks {α : Type} (p : α → Bool) (l : List α) (w n : Nat) (hl : l.length ≤ w * n) (h : ∀ j, j < n → ((l.drop (w * j)).take w).all p = true) : l.all p = true := by
  rw [List.all_eq_true]
  intro x hx
  obtain ⟨i, hi⟩ := List.getElem?_of_mem hx
  have hlt : i < l.length := (List.getElem?_eq_some_iff.mp hi).1
  rcases Nat.eq_zero_or_pos w with hw | hw
  · subst hw; omega
  have hj : i / w < n := Nat.div_lt_of_lt_mul (by omega)
  refine List.all_eq_true.mp (h (i / w) hj) x ?_
  refine List.mem_of_getElem? (i := i % w) ?_
  rw [List.getElem?_take_of_lt (Nat.mod_lt _ hw), List.getElem?_drop, Nat.div_add_mod]
  exact hi
