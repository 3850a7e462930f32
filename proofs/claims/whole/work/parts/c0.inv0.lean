/-! The picture at the start, and what holds of it. -/
def M0 : Mem := fun g _ k => match g with
  | 0 => (match k with
    | 2 => 1
    | 12 => -1
    | 13 => -1
    | _ => 0)
  | 1 => (match k with
    | 5 => -1
    | _ => 0)
  | 3 => (match k with
    | 0 => 20
    | _ => 0)
  | 9 => -1
  | 22 => -2
  | 40 => (match k with
    | 3 => -1
    | _ => 0)
  | 44 => (match k with
    | 0 => 20
    | _ => 0)
  | 52 => -1
  | 69 => -2
  | _ => 0
def T0 : Vw := fun g k => match g with
  | 3 => (match k with
    | 0 => 20
    | _ => 0)
  | 9 => -1
  | _ => 0
def mdZ : Md := (fun _ => 0, 0, fun _ => -2, 0, fun _ => 0)
theorem CL0 (i : Nat) : CL M0 i T0 := by
  intro g k h
  have hg := isLand_le (lk_land h)
  obtain ⟨h1, h2⟩ : 3 ≤ g ∧ g ≤ 17 := by omega
  match g, h1, h2 with
  | 3, _, _ => rfl
  | 4, _, _ => rfl
  | 5, _, _ => rfl
  | 6, _, _ => rfl
  | 7, _, _ => rfl
  | 8, _, _ => rfl
  | 9, _, _ => rfl
  | 10, _, _ => rfl
  | 11, _, _ => rfl
  | 12, _, _ => rfl
  | 13, _, _ => rfl
  | 14, _, _ => rfl
  | 15, _, _ => rfl
  | 16, _, _ => rfl
  | 17, _, _ => rfl
theorem z_nI : (0 : Int32) = nI (0 : Int32).toNatClampNeg ∧ (0 : Int32).toNatClampNeg < 4 := by decide
theorem VOK0 : VOK T0 20 0 0 0 :=
  ⟨rfl, rfl, rfl, rfl, by omega, by omega, by omega, by omega, by omega, fun j _ => z_nI, fun j _ => ⟨z_nI.1, by have := z_nI.2; exact Nat.le_trans (Nat.le_of_lt this) (by omega)⟩, fun j _ => ⟨z_nI.1, by have := z_nI.2; exact Nat.le_trans (Nat.le_of_lt this) (by omega)⟩,
    fun k h => absurd h (by omega), fun k h => absurd h (by omega), fun k h => absurd h (by omega), fun k h => absurd h (by omega), fun k h => absurd h (by omega)⟩
theorem INV0 : INV M0 := by
  refine ⟨T0, fun _ _ => 0, 20, 0, 0, 0, 0, mdZ, 0, 0, 0, fun _ => mdZ, ?_⟩
  refine ⟨⟨VOK0, ⟨rfl, rfl, rfl, rfl, fun j _ => rfl, fun k h => absurd h (by omega), fun h _ => rfl, fun k h => absurd h (by omega), fun k h => absurd h (by omega)⟩, ⟨fun j _ => ⟨rfl, rfl⟩, fun k h => absurd h (by omega), fun k h => absurd h (by omega)⟩, ⟨rfl, by decide, fun i h => absurd h (Nat.not_lt_zero _)⟩, rfl, by omega, fun a h => absurd h (by omega)⟩,
    ⟨VOK0, CL0 2, rfl, by omega, fun a h => absurd h (by omega), fun i _ => Or.inl rfl, Or.inl rfl⟩, fun a h => absurd h (by omega), ⟨by omega, rfl, rfl, CL0 0⟩,
    ⟨⟨by decide, fun i h => absurd h (Nat.not_lt_zero _), fun i j h => absurd h (Nat.not_lt_zero _), fun k _ => Or.inl rfl, by decide, fun i h => absurd h (Nat.not_lt_zero _), fun i j _ h => absurd h (Nat.not_lt_zero _)⟩, ⟨rfl, fun j h => absurd h (Nat.not_lt_zero _), fun k _ => rfl, rfl, fun j h => absurd h (Nat.not_lt_zero _)⟩, ⟨rfl, fun j h => absurd h (Nat.not_lt_zero _), fun k _ => rfl, rfl, fun j h => absurd h (Nat.not_lt_zero _)⟩⟩,
    ⟨rfl, rfl, by omega, fun j h => absurd h (by omega)⟩, ⟨rfl, rfl, by omega, fun i h => absurd h (by omega)⟩, rfl, fun q _ => rfl⟩
