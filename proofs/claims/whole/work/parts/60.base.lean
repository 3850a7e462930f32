/-! Numbers, memory and frames for the pure part. -/
theorem hl_leR {a b : Nat} (ha : a < 2147483648) (hb : b < 2147483648) : nI a ≤ (OfNat.ofNat b : Int32) ↔ a ≤ b := nI_leI ha hb
theorem hl_leL {a b : Nat} (ha : a < 2147483648) (hb : b < 2147483648) : (OfNat.ofNat a : Int32) ≤ nI b ↔ a ≤ b := nI_leI ha hb
theorem hl_ltR {a b : Nat} (ha : a < 2147483648) (hb : b < 2147483648) : nI a < (OfNat.ofNat b : Int32) ↔ a < b := nI_ltI ha hb
theorem hl_ltL {a b : Nat} (ha : a < 2147483648) (hb : b < 2147483648) : (OfNat.ofNat a : Int32) < nI b ↔ a < b := nI_ltI ha hb
theorem hl_eqR {a b : Nat} (ha : a < 2147483648) (hb : b < 2147483648) : nI a = (OfNat.ofNat b : Int32) ↔ a = b := nI_eq ha hb
theorem hl_addR (a b : Nat) : nI a + (OfNat.ofNat b : Int32) = nI (a + b) := nI_add a b
theorem hl_subR {a b : Nat} (h : b ≤ a) : nI a - (OfNat.ofNat b : Int32) = nI (a - b) := pk_sub h
theorem hl_sub0 {a b : Nat} (h : b ≤ a) : (OfNat.ofNat a : Int32) - nI b = nI (a - b) := pk_sub h
theorem hl_mulR (a b : Nat) : nI a * (OfNat.ofNat b : Int32) = nI (a * b) := pk_mul a b
theorem hl_mulL (a b : Nat) : (OfNat.ofNat a : Int32) * nI b = nI (a * b) := pk_mul a b
theorem hl_divR {a d : Nat} (ha : a < 2147483648) (h0 : 0 < d) (hd : d < 2147483648) : nI a / (OfNat.ofNat d : Int32) = nI (a / d) := pk_div ha h0 hd
theorem hl_m1 (n : Nat) : nI (n + 1) + (-1) = nI n := pk_m1 n
theorem i_lt (a b : Int32) : a < b ↔ a.toInt < b.toInt := Int32.lt_iff_toInt_lt
theorem i_le (a b : Int32) : a ≤ b ↔ a.toInt ≤ b.toInt := Int32.le_iff_toInt_le
/-- a number between bounds is a natural one -/
theorem i_nat {x : Int32} (h : 0 ≤ x.toInt) : x = nI x.toNatClampNeg ∧ x.toNatClampNeg < 2147483648 ∧ (x.toNatClampNeg : Int) = x.toInt := by
  have hn : ¬ x < 0 := by
    rw [i_lt]
    have : (0 : Int32).toInt = 0 := by decide
    omega
  obtain ⟨j, hj, rfl⟩ := nI_of hn
  have hj' : j < 2147483648 := hj
  rw [hl_cl hj']
  exact ⟨rfl, hj', (hl_toInt hj').symm⟩
theorem i_of {x : Int32} {n : Nat} (h0 : ¬ x < 0) (h1 : x < nI n) (hn : n < 2147483648) : ∃ j, j < n ∧ x = nI j := by
  obtain ⟨j, hj, rfl⟩ := nI_of h0
  exact ⟨j, (hl_lt hj hn).mp h1, rfl⟩
theorem i_of' {x : Int32} {n : Nat} (h0 : ¬ x < 0) (h1 : ¬ nI n ≤ x) (hn : n < 2147483648) : ∃ j, j < n ∧ x = nI j := by
  obtain ⟨j, hj, rfl⟩ := nI_of h0
  have hj' : j < 2147483648 := hj
  rw [hl_le hn hj'] at h1
  exact ⟨j, by omega, rfl⟩
/-- a method's whole fuel -/
def FUEL : Nat := 999999
theorem FU {n : Nat} (h : n < 999999) : n < FUEL := h
theorem EX_in {L : Nat} {xs : Nat → Int32} {d y : Nat} {as : List AV} {M : Mem} {O : Int64} (mi : MI) (h : getN y = some mi) (hy : Nat.ble 900 y = false)
    (ha : (as.all (fun v => Nat.beq (acat v) 1) && Nat.ble as.length (mi_L mi)) = true) {ls : Lcs} (hl : entL mi as = ls) :
    EX L xs (d + 1 + 1) y as M O = BK L xs (EX L xs (d + 1)) mi (RN L xs d mi FUEL) 3000 0 ls [] M O none 0 0 := (EX_of mi h hy ha hl).trans (RN_s L xs d mi 999999 0 ls M O none 0 0)
theorem RN_of {L : Nat} {xs : Nat → Int32} {d : Nat} {mi : MI} {n pc : Nat} {ls : Lcs} {M : Mem} {O : Int64} {T : Tmp} {c s : Nat} {r : Res}
    (h : BK L xs (EX L xs (d + 1)) mi (RN L xs d mi n) 3000 pc ls [] M O T c s = r) : RN L xs d mi (n + 1) pc ls M O T c s = r := h
/-! what a call ends in -/
def isI (r : Res) (O : Int64) (x : Int32) (Q : Mem → Prop) : Prop := ∃ M', r = some (.inl (some (.inl x)), M', O, 0, 0) ∧ Q M'
theorem isI_i {O : Int64} {x : Int32} {M' : Mem} {Q : Mem → Prop} (h : Q M') : isI (some (.inl (some (.inl x)), M', O, 0, 0)) O x Q := ⟨M', rfl, h⟩
theorem isI_e {r r' : Res} {O : Int64} {x : Int32} {Q : Mem → Prop} (h : r = r') (h' : isI r' O x Q) : isI r O x Q := h ▸ h'
theorem isI_x {r : Res} {O : Int64} {x x' : Int32} {Q : Mem → Prop} (h : x = x') (h' : isI r O x' Q) : isI r O x Q := h ▸ h'
def isV (r : Res) (O : Int64) (Q : Mem → Prop) : Prop := ∃ M', r = some (.inl none, M', O, 0, 0) ∧ Q M'
theorem isV_i {O : Int64} {M' : Mem} {Q : Mem → Prop} (h : Q M') : isV (some (.inl none, M', O, 0, 0)) O Q := ⟨M', rfl, h⟩
theorem isV_e {r r' : Res} {O : Int64} {Q : Mem → Prop} (h : r = r') (h' : isV r' O Q) : isV r O Q := h ▸ h'
def isR (r : Res) (O : Int64) (g i : Nat) (Q : Mem → Prop) : Prop := ∃ M', r = some (.inl (some (.inr (.inr (g, i)))), M', O, 0, 0) ∧ Q M'
theorem isR_i {O : Int64} {g i : Nat} {M' : Mem} {Q : Mem → Prop} (h : Q M') : isR (some (.inl (some (.inr (.inr (g, i)))), M', O, 0, 0)) O g i Q := ⟨M', rfl, h⟩
theorem isR_e {r r' : Res} {O : Int64} {g i : Nat} {Q : Mem → Prop} (h : r = r') (h' : isR r' O g i Q) : isR r O g i Q := h ▸ h'
/-! memory -/
theorem mp_s {M : Mem} {g i k : Nat} {x : Int32} : mput M g i k x g i k = x := by
  unfold mput mrow
  simp only [if_pos, pk_us]
theorem mp_k {M : Mem} {g i k k' : Nat} {x : Int32} (h : k' ≠ k) : mput M g i k x g i k' = M g i k' := by
  unfold mput mrow
  simp only [if_pos, pk_un h]
theorem mp_i {M : Mem} {g i k i' : Nat} {x : Int32} (h : i' ≠ i) : mput M g i k x g i' = M g i' := by
  unfold mput mrow
  simp only [if_pos, if_neg h]
theorem mp_g {M : Mem} {g i k g' : Nat} {x : Int32} (h : g' ≠ g) : mput M g i k x g' = M g' := by
  unfold mput mrow
  simp only [if_neg h]
theorem mp_row {M : Mem} {g i k : Nat} {x : Int32} : mput M g i k x g i = upd (M g i) k x := by
  unfold mput mrow
  simp only [if_pos]
theorem mr_s {M : Mem} {g i : Nat} {f : Nat → Int32} : mrow M g i f g i = f := by
  unfold mrow
  simp only [if_pos]
theorem mr_i {M : Mem} {g i i' : Nat} {f : Nat → Int32} (h : i' ≠ i) : mrow M g i f g i' = M g i' := by
  unfold mrow
  simp only [if_pos, if_neg h]
theorem mr_g {M : Mem} {g i g' : Nat} {f : Nat → Int32} (h : g' ≠ g) : mrow M g i f g' = M g' := by
  unfold mrow
  simp only [if_neg h]
/-! frames: what is outside of S stays -/
def Fr (S : Nat → Nat → Nat → Bool) (M M' : Mem) : Prop := ∀ g i k, S g i k = false → M' g i k = M g i k
theorem Fr_refl {S : Nat → Nat → Nat → Bool} {M : Mem} : Fr S M M := fun _ _ _ _ => rfl
theorem Fr_trans {S : Nat → Nat → Nat → Bool} {M M' M'' : Mem} (a : Fr S M M') (b : Fr S M' M'') : Fr S M M'' := fun g i k h => (b g i k h).trans (a g i k h)
theorem Fr_mono {S S' : Nat → Nat → Nat → Bool} {M M' : Mem} (hs : ∀ g i k, S' g i k = false → S g i k = false) (a : Fr S M M') : Fr S' M M' := fun g i k h => a g i k (hs g i k h)
theorem Fr_put {S : Nat → Nat → Nat → Bool} {M M' : Mem} {g i k : Nat} {x : Int32} (a : Fr S M M') (h : S g i k = true) : Fr S M (mput M' g i k x) := by
  intro g' i' k' h'
  rw [← a g' i' k' h']
  by_cases hg : g' = g
  · subst hg
    by_cases hi : i' = i
    · subst hi
      by_cases hk : k' = k
      · subst hk
        rw [h] at h'
        cases h'
      · rw [mp_k hk]
    · rw [mp_i hi]
  · rw [mp_g hg]
theorem Fr_row {S : Nat → Nat → Nat → Bool} {M M' : Mem} {g i : Nat} {f : Nat → Int32} (a : Fr S M M') (h : ∀ k, S g i k = true) : Fr S M (mrow M' g i f) := by
  intro g' i' k' h'
  rw [← a g' i' k' h']
  by_cases hg : g' = g
  · subst hg
    by_cases hi : i' = i
    · subst hi
      rw [h] at h'
      cases h'
    · rw [mr_i hi]
  · rw [mr_g hg]
/-- a loop upward: r rounds from k on -/
def fup {α : Type} (f : Nat → α → α) : Nat → Nat → α → α
  | 0, _, a => a
  | r + 1, k, a => fup f r (k + 1) (f k a)
theorem fup_congr {α : Type} {f g : Nat → α → α} : ∀ r k a, (∀ j x, k ≤ j → j < k + r → f j x = g j x) → fup f r k a = fup g r k a := by
  intro r
  induction r with
  | zero => intro k a _; rfl
  | succ r ih =>
    intro k a h
    show fup f r (k + 1) (f k a) = fup g r (k + 1) (g k a)
    rw [h k a (by omega) (by omega)]
    exact ih (k + 1) _ (fun j x h1 h2 => h j x (by omega) (by omega))
