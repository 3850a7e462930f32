/-! Numbers and runs for the pure part. -/
theorem hl_lit (n : Nat) : (OfNat.ofNat n : Int32) = nI n := rfl
theorem hl_of (n : Nat) : Int32.ofNat n = nI n := rfl
theorem hl_in {a n : Nat} (h : a < n) (hn : n < 2147483648) : (0 ≤ (nI a).toInt ∧ (nI a).toInt < (n : Int)) := by
  rw [nI_toInt (Nat.lt_trans h hn)]
  omega
theorem hl_cl {n : Nat} (h : n < 2147483648) : (nI n).toNatClampNeg = n := nI_clamp h
theorem hl_toInt {n : Nat} (h : n < 2147483648) : (nI n).toInt = (n : Int) := nI_toInt h
theorem hl_le {a b : Nat} (ha : a < 2147483648) (hb : b < 2147483648) : nI a ≤ nI b ↔ a ≤ b := nI_leI ha hb
theorem hl_lt {a b : Nat} (ha : a < 2147483648) (hb : b < 2147483648) : nI a < nI b ↔ a < b := nI_ltI ha hb
theorem hl_eq {a b : Nat} (ha : a < 2147483648) (hb : b < 2147483648) : nI a = nI b ↔ a = b := nI_eq ha hb
theorem hl_sub {a b : Nat} (h : b ≤ a) : nI a - nI b = nI (a - b) := pk_sub h
theorem hl_div {a d : Nat} (ha : a < 2147483648) (h0 : 0 < d) (hd : d < 2147483648) : nI a / nI d = nI (a / d) := pk_div ha h0 hd
/-- one method's run -/
noncomputable abbrev RN (L : Nat) (xs : Nat → Int32) (d : Nat) (mi : MI) : Nat → BackT := runM shape cps tkT clsY L xs (EX L xs (d + 1)) mi
theorem RN_s (L : Nat) (xs : Nat → Int32) (d : Nat) (mi : MI) (n pc : Nat) (ls : Lcs) (M : Mem) (O : Int64) (T : Tmp) (c s : Nat) :
    RN L xs d mi (n + 1) pc ls M O T c s = BK L xs (EX L xs (d + 1)) mi (RN L xs d mi n) 3000 pc ls [] M O T c s := rfl
theorem EX_of0 {L : Nat} {xs : Nat → Int32} {D y : Nat} {as : List AV} {M : Mem} {O : Int64} (mi : MI) (h : getN y = some mi) (hy : Nat.ble 900 y = false)
    (ha : (as.all (fun v => Nat.beq (acat v) 1) && Nat.ble as.length (mi_L mi)) = true) :
    EX L xs (D + 1) y as M O = runM shape cps tkT clsY L xs (EX L xs D) mi 1000000 0 (entL mi as) M O none 0 0 := by
  simp only [EX, exM, hy, h, ha, cond_true, cond_false]
theorem EX_of {L : Nat} {xs : Nat → Int32} {d y : Nat} {as : List AV} {M : Mem} {O : Int64} (mi : MI) (h : getN y = some mi) (hy : Nat.ble 900 y = false)
    (ha : (as.all (fun v => Nat.beq (acat v) 1) && Nat.ble as.length (mi_L mi)) = true) {ls : Lcs} (hl : entL mi as = ls) :
    EX L xs (d + 1 + 1) y as M O = RN L xs d mi 1000000 0 ls M O none 0 0 := by
  subst hl
  exact EX_of0 mi h hy ha
theorem xr_v {mi : MI} {kd : Nat} {v : AV} {M : Mem} {O : Int64} {mc ms : Nat} {k : RecT} {pc : Nat} {ls : Lcs} {rest : List AV} {T : Tmp} {c s : Nat} :
    xret tkT mi kd (some (.inl (some v), M, O, mc, ms)) k pc ls rest T c s = k (pc + 3) ls (v :: rest) M O T (c + mc) (s + ms) := rfl
theorem xr_n {mi : MI} {kd : Nat} {M : Mem} {O : Int64} {mc ms : Nat} {k : RecT} {pc : Nat} {ls : Lcs} {rest : List AV} {T : Tmp} {c s : Nat} :
    xret tkT mi kd (some (.inl none, M, O, mc, ms)) k pc ls rest T c s = k (pc + 3) ls rest M O T (c + mc) (s + ms) := rfl
