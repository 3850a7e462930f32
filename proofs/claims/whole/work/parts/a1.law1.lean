/-! The law's rounds: what the reference says it threw. -/
section
variable (L : Nat) (xs : Nat → Int32) (O : Int64)
theorem x7_thrown {D : Nat} (hD : 2 ≤ D) (M : Mem) : EX L xs (D) q_X7_thrown [.inr (.inr (40, 0))] M O = (some (.inl (some (.inl (M 40 0 0))), M, O, 0, 0) : Res) := by
  obtain ⟨d, rfl⟩ : ∃ d, D = d + 2 := ⟨D - 2, by omega⟩
  refine (EX_in mi_X7_thrown rfl rfl rfl (ls := [some (.inr (.inr (40, 0)))]) rfl).trans ?_
  rw [e_X7_thrown_0]
end
