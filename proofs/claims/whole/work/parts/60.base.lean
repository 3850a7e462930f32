/-! Numbers, memory and frames for the pure part. -/
theorem hl_leR {a b : Nat} (ha : a < 2147483648) (hb : b < 2147483648) : nI a ≤ (OfNat.ofNat b : Int32) ↔ a ≤ b := nI_leI ha hb
theorem hl_leL {a b : Nat} (ha : a < 2147483648) (hb : b < 2147483648) : (OfNat.ofNat a : Int32) ≤ nI b ↔ a ≤ b := nI_leI ha hb
theorem hl_ltR {a b : Nat} (ha : a < 2147483648) (hb : b < 2147483648) : nI a < (OfNat.ofNat b : Int32) ↔ a < b := nI_ltI ha hb
theorem hl_ltL {a b : Nat} (ha : a < 2147483648) (hb : b < 2147483648) : (OfNat.ofNat a : Int32) < nI b ↔ a < b := nI_ltI ha hb
theorem hl_eqR {a b : Nat} (ha : a < 2147483648) (hb : b < 2147483648) : nI a = (OfNat.ofNat b : Int32) ↔ a = b := nI_eq ha hb
theorem hl_addR (a b : Nat) : nI a + (OfNat.ofNat b : Int32) = nI (a + b) := nI_add a b
theorem hl_subR {a b : Nat} (h : b ≤ a) : nI a - (OfNat.ofNat b : Int32) = nI (a - b) := pk_sub h
theorem hl_sub0 {a b : Nat} (h : b ≤ a) : (OfNat.ofNat a : Int32) - nI b = nI (a - b) := pk_sub h
theorem hl_mulR (a b : Nat) : nI a * (OfNat.ofNat b : Int32) = nI (a * b) := pk_mul a b
theorem hl_mulL (a b : Nat) : (OfNat.ofNat a : Int32) * nI b = nI (a * b) := pk_mul a b
theorem hl_divR {a d : Nat} (ha : a < 2147483648) (h0 : 0 < d) (hd : d < 2147483648) : nI a / (OfNat.ofNat d : Int32) = nI (a / d) := pk_div ha h0 hd
theorem zlt_0 {a : Nat} (ha : a < 2147483648) : nI a < 0 ↔ a < 0 := hl_ltR ha (by decide)
theorem zlt_1 {a : Nat} (ha : a < 2147483648) : nI a < 1 ↔ a < 1 := hl_ltR ha (by decide)
theorem zlt_2 {a : Nat} (ha : a < 2147483648) : nI a < 2 ↔ a < 2 := hl_ltR ha (by decide)
theorem zlt_3 {a : Nat} (ha : a < 2147483648) : nI a < 3 ↔ a < 3 := hl_ltR ha (by decide)
theorem zlt_4 {a : Nat} (ha : a < 2147483648) : nI a < 4 ↔ a < 4 := hl_ltR ha (by decide)
theorem zlt_5 {a : Nat} (ha : a < 2147483648) : nI a < 5 ↔ a < 5 := hl_ltR ha (by decide)
theorem zlt_6 {a : Nat} (ha : a < 2147483648) : nI a < 6 ↔ a < 6 := hl_ltR ha (by decide)
theorem zlt_8 {a : Nat} (ha : a < 2147483648) : nI a < 8 ↔ a < 8 := hl_ltR ha (by decide)
theorem zlt_12 {a : Nat} (ha : a < 2147483648) : nI a < 12 ↔ a < 12 := hl_ltR ha (by decide)
theorem zlt_15 {a : Nat} (ha : a < 2147483648) : nI a < 15 ↔ a < 15 := hl_ltR ha (by decide)
theorem zlt_20 {a : Nat} (ha : a < 2147483648) : nI a < 20 ↔ a < 20 := hl_ltR ha (by decide)
theorem zlt_24 {a : Nat} (ha : a < 2147483648) : nI a < 24 ↔ a < 24 := hl_ltR ha (by decide)
theorem zlt_36 {a : Nat} (ha : a < 2147483648) : nI a < 36 ↔ a < 36 := hl_ltR ha (by decide)
theorem zlt_40 {a : Nat} (ha : a < 2147483648) : nI a < 40 ↔ a < 40 := hl_ltR ha (by decide)
theorem zlt_48 {a : Nat} (ha : a < 2147483648) : nI a < 48 ↔ a < 48 := hl_ltR ha (by decide)
theorem zlt_80 {a : Nat} (ha : a < 2147483648) : nI a < 80 ↔ a < 80 := hl_ltR ha (by decide)
theorem zlt_97 {a : Nat} (ha : a < 2147483648) : nI a < 97 ↔ a < 97 := hl_ltR ha (by decide)
theorem zlt_120 {a : Nat} (ha : a < 2147483648) : nI a < 120 ↔ a < 120 := hl_ltR ha (by decide)
theorem zlt_256 {a : Nat} (ha : a < 2147483648) : nI a < 256 ↔ a < 256 := hl_ltR ha (by decide)
theorem zlt_600 {a : Nat} (ha : a < 2147483648) : nI a < 600 ↔ a < 600 := hl_ltR ha (by decide)
theorem zlt_99999999 {a : Nat} (ha : a < 2147483648) : nI a < 99999999 ↔ a < 99999999 := hl_ltR ha (by decide)
theorem zadd_1 (a : Nat) : nI a + 1 = nI (a + 1) := hl_addR a 1
theorem zadd_2 (a : Nat) : nI a + 2 = nI (a + 2) := hl_addR a 2
theorem zadd_5 (a : Nat) : nI a + 5 = nI (a + 5) := hl_addR a 5
theorem zadd_6 (a : Nat) : nI a + 6 = nI (a + 6) := hl_addR a 6
theorem zadd_8 (a : Nat) : nI a + 8 = nI (a + 8) := hl_addR a 8
theorem zadd_20 (a : Nat) : nI a + 20 = nI (a + 20) := hl_addR a 20
theorem zadd_24 (a : Nat) : nI a + 24 = nI (a + 24) := hl_addR a 24
theorem zeq_0 {a : Nat} (ha : a < 2147483648) : nI a = 0 ↔ a = 0 := hl_eqR ha (by decide)
theorem zeq_1 {a : Nat} (ha : a < 2147483648) : nI a = 1 ↔ a = 1 := hl_eqR ha (by decide)
theorem zeq_2 {a : Nat} (ha : a < 2147483648) : nI a = 2 ↔ a = 2 := hl_eqR ha (by decide)
theorem zeq_3 {a : Nat} (ha : a < 2147483648) : nI a = 3 ↔ a = 3 := hl_eqR ha (by decide)
theorem zeq_4 {a : Nat} (ha : a < 2147483648) : nI a = 4 ↔ a = 4 := hl_eqR ha (by decide)
theorem zeq_5 {a : Nat} (ha : a < 2147483648) : nI a = 5 ↔ a = 5 := hl_eqR ha (by decide)
theorem zeq_6 {a : Nat} (ha : a < 2147483648) : nI a = 6 ↔ a = 6 := hl_eqR ha (by decide)
theorem zeq_7 {a : Nat} (ha : a < 2147483648) : nI a = 7 ↔ a = 7 := hl_eqR ha (by decide)
theorem zeq_8 {a : Nat} (ha : a < 2147483648) : nI a = 8 ↔ a = 8 := hl_eqR ha (by decide)
theorem zeq_13 {a : Nat} (ha : a < 2147483648) : nI a = 13 ↔ a = 13 := hl_eqR ha (by decide)
theorem zeq_14 {a : Nat} (ha : a < 2147483648) : nI a = 14 ↔ a = 14 := hl_eqR ha (by decide)
theorem zeq_20 {a : Nat} (ha : a < 2147483648) : nI a = 20 ↔ a = 20 := hl_eqR ha (by decide)
theorem zeq_32 {a : Nat} (ha : a < 2147483648) : nI a = 32 ↔ a = 32 := hl_eqR ha (by decide)
theorem zeq_59 {a : Nat} (ha : a < 2147483648) : nI a = 59 ↔ a = 59 := hl_eqR ha (by decide)
theorem zeq_60 {a : Nat} (ha : a < 2147483648) : nI a = 60 ↔ a = 60 := hl_eqR ha (by decide)
theorem zeq_80 {a : Nat} (ha : a < 2147483648) : nI a = 80 ↔ a = 80 := hl_eqR ha (by decide)
theorem zmul_2 (a : Nat) : nI a * 2 = nI (a * 2) := hl_mulR a 2
theorem zmul_4 (a : Nat) : nI a * 4 = nI (a * 4) := hl_mulR a 4
theorem zmul_6 (a : Nat) : nI a * 6 = nI (a * 6) := hl_mulR a 6
theorem zmul_8 (a : Nat) : nI a * 8 = nI (a * 8) := hl_mulR a 8
theorem zmul_10 (a : Nat) : nI a * 10 = nI (a * 10) := hl_mulR a 10
theorem zmul_24 (a : Nat) : nI a * 24 = nI (a * 24) := hl_mulR a 24
theorem zsub_1 {a : Nat} (h : 1 ≤ a) : nI a - 1 = nI (a - 1) := hl_subR h
theorem zsub_2 {a : Nat} (h : 2 ≤ a) : nI a - 2 = nI (a - 2) := hl_subR h
theorem zsub_10 {a : Nat} (h : 10 ≤ a) : nI a - 10 = nI (a - 10) := hl_subR h
theorem zsub_48 {a : Nat} (h : 48 ≤ a) : nI a - 48 = nI (a - 48) := hl_subR h
theorem zsub_97 {a : Nat} (h : 97 ≤ a) : nI a - 97 = nI (a - 97) := hl_subR h
theorem zle_0 {a : Nat} (ha : a < 2147483648) : nI a ≤ 0 ↔ a ≤ 0 := hl_leR ha (by decide)
theorem zle_1 {a : Nat} (ha : a < 2147483648) : nI a ≤ 1 ↔ a ≤ 1 := hl_leR ha (by decide)
theorem zle_2 {a : Nat} (ha : a < 2147483648) : nI a ≤ 2 ↔ a ≤ 2 := hl_leR ha (by decide)
theorem zle_6 {a : Nat} (ha : a < 2147483648) : nI a ≤ 6 ↔ a ≤ 6 := hl_leR ha (by decide)
theorem zle_11 {a : Nat} (ha : a < 2147483648) : nI a ≤ 11 ↔ a ≤ 11 := hl_leR ha (by decide)
theorem zle_200 {a : Nat} (ha : a < 2147483648) : nI a ≤ 200 ↔ a ≤ 200 := hl_leR ha (by decide)
theorem zle_600 {a : Nat} (ha : a < 2147483648) : nI a ≤ 600 ↔ a ≤ 600 := hl_leR ha (by decide)
theorem zle_100000000 {a : Nat} (ha : a < 2147483648) : nI a ≤ 100000000 ↔ a ≤ 100000000 := hl_leR ha (by decide)
theorem ylt_0 {a : Nat} (ha : a < 2147483648) : (0 : Int32) < nI a ↔ 0 < a := hl_ltL (by decide) ha
theorem ylt_1 {a : Nat} (ha : a < 2147483648) : (1 : Int32) < nI a ↔ 1 < a := hl_ltL (by decide) ha
theorem ylt_2 {a : Nat} (ha : a < 2147483648) : (2 : Int32) < nI a ↔ 2 < a := hl_ltL (by decide) ha
theorem ylt_3 {a : Nat} (ha : a < 2147483648) : (3 : Int32) < nI a ↔ 3 < a := hl_ltL (by decide) ha
theorem ylt_6 {a : Nat} (ha : a < 2147483648) : (6 : Int32) < nI a ↔ 6 < a := hl_ltL (by decide) ha
theorem ylt_9 {a : Nat} (ha : a < 2147483648) : (9 : Int32) < nI a ↔ 9 < a := hl_ltL (by decide) ha
theorem ylt_11 {a : Nat} (ha : a < 2147483648) : (11 : Int32) < nI a ↔ 11 < a := hl_ltL (by decide) ha
theorem ylt_20 {a : Nat} (ha : a < 2147483648) : (20 : Int32) < nI a ↔ 20 < a := hl_ltL (by decide) ha
theorem ylt_24 {a : Nat} (ha : a < 2147483648) : (24 : Int32) < nI a ↔ 24 < a := hl_ltL (by decide) ha
theorem ylt_57 {a : Nat} (ha : a < 2147483648) : (57 : Int32) < nI a ↔ 57 < a := hl_ltL (by decide) ha
theorem ylt_60 {a : Nat} (ha : a < 2147483648) : (60 : Int32) < nI a ↔ 60 < a := hl_ltL (by decide) ha
theorem ylt_99 {a : Nat} (ha : a < 2147483648) : (99 : Int32) < nI a ↔ 99 < a := hl_ltL (by decide) ha
theorem ylt_120 {a : Nat} (ha : a < 2147483648) : (120 : Int32) < nI a ↔ 120 < a := hl_ltL (by decide) ha
theorem ylt_122 {a : Nat} (ha : a < 2147483648) : (122 : Int32) < nI a ↔ 122 < a := hl_ltL (by decide) ha
theorem ylt_999 {a : Nat} (ha : a < 2147483648) : (999 : Int32) < nI a ↔ 999 < a := hl_ltL (by decide) ha
theorem ylt_9999 {a : Nat} (ha : a < 2147483648) : (9999 : Int32) < nI a ↔ 9999 < a := hl_ltL (by decide) ha
theorem yle_0 {a : Nat} (ha : a < 2147483648) : (0 : Int32) ≤ nI a ↔ 0 ≤ a := hl_leL (by decide) ha
theorem yle_2 {a : Nat} (ha : a < 2147483648) : (2 : Int32) ≤ nI a ↔ 2 ≤ a := hl_leL (by decide) ha
theorem yle_4 {a : Nat} (ha : a < 2147483648) : (4 : Int32) ≤ nI a ↔ 4 ≤ a := hl_leL (by decide) ha
theorem yle_5 {a : Nat} (ha : a < 2147483648) : (5 : Int32) ≤ nI a ↔ 5 ≤ a := hl_leL (by decide) ha
theorem yle_6 {a : Nat} (ha : a < 2147483648) : (6 : Int32) ≤ nI a ↔ 6 ≤ a := hl_leL (by decide) ha
theorem yle_7 {a : Nat} (ha : a < 2147483648) : (7 : Int32) ≤ nI a ↔ 7 ≤ a := hl_leL (by decide) ha
theorem yle_8 {a : Nat} (ha : a < 2147483648) : (8 : Int32) ≤ nI a ↔ 8 ≤ a := hl_leL (by decide) ha
theorem yle_10 {a : Nat} (ha : a < 2147483648) : (10 : Int32) ≤ nI a ↔ 10 ≤ a := hl_leL (by decide) ha
theorem yle_12 {a : Nat} (ha : a < 2147483648) : (12 : Int32) ≤ nI a ↔ 12 ≤ a := hl_leL (by decide) ha
theorem yle_13 {a : Nat} (ha : a < 2147483648) : (13 : Int32) ≤ nI a ↔ 13 ≤ a := hl_leL (by decide) ha
theorem yle_15 {a : Nat} (ha : a < 2147483648) : (15 : Int32) ≤ nI a ↔ 15 ≤ a := hl_leL (by decide) ha
theorem yle_16 {a : Nat} (ha : a < 2147483648) : (16 : Int32) ≤ nI a ↔ 16 ≤ a := hl_leL (by decide) ha
theorem yle_20 {a : Nat} (ha : a < 2147483648) : (20 : Int32) ≤ nI a ↔ 20 ≤ a := hl_leL (by decide) ha
theorem yle_24 {a : Nat} (ha : a < 2147483648) : (24 : Int32) ≤ nI a ↔ 24 ≤ a := hl_leL (by decide) ha
theorem yle_40 {a : Nat} (ha : a < 2147483648) : (40 : Int32) ≤ nI a ↔ 40 ≤ a := hl_leL (by decide) ha
theorem yle_60 {a : Nat} (ha : a < 2147483648) : (60 : Int32) ≤ nI a ↔ 60 ≤ a := hl_leL (by decide) ha
theorem yle_64 {a : Nat} (ha : a < 2147483648) : (64 : Int32) ≤ nI a ↔ 64 ≤ a := hl_leL (by decide) ha
theorem yle_80 {a : Nat} (ha : a < 2147483648) : (80 : Int32) ≤ nI a ↔ 80 ≤ a := hl_leL (by decide) ha
theorem yadd_1 (a : Nat) : (1 : Int32) + nI a = nI (1 + a) := nI_add 1 a
theorem yadd_22 (a : Nat) : (22 : Int32) + nI a = nI (22 + a) := nI_add 22 a
theorem ymul_2 (a : Nat) : (2 : Int32) * nI a = nI (2 * a) := hl_mulL 2 a
theorem ymul_4 (a : Nat) : (4 : Int32) * nI a = nI (4 * a) := hl_mulL 4 a
theorem ymul_6 (a : Nat) : (6 : Int32) * nI a = nI (6 * a) := hl_mulL 6 a
theorem ymul_8 (a : Nat) : (8 : Int32) * nI a = nI (8 * a) := hl_mulL 8 a
theorem ymul_10 (a : Nat) : (10 : Int32) * nI a = nI (10 * a) := hl_mulL 10 a
theorem ymul_24 (a : Nat) : (24 : Int32) * nI a = nI (24 * a) := hl_mulL 24 a
theorem ymul_27 (a : Nat) : (27 : Int32) * nI a = nI (27 * a) := hl_mulL 27 a
theorem ymul_100 (a : Nat) : (100 : Int32) * nI a = nI (100 * a) := hl_mulL 100 a
theorem ysub_1 {a : Nat} (h : a ≤ 1) : (1 : Int32) - nI a = nI (1 - a) := hl_sub0 h
theorem ysub_24 {a : Nat} (h : a ≤ 24) : (24 : Int32) - nI a = nI (24 - a) := hl_sub0 h
theorem zdiv_2 {a : Nat} (ha : a < 2147483648) : nI a / 2 = nI (a / 2) := hl_divR ha (by decide) (by decide)
theorem zdiv_4 {a : Nat} (ha : a < 2147483648) : nI a / 4 = nI (a / 4) := hl_divR ha (by decide) (by decide)
theorem zdiv_24 {a : Nat} (ha : a < 2147483648) : nI a / 24 = nI (a / 24) := hl_divR ha (by decide) (by decide)
theorem in_3 {a : Nat} (h : a < 3) : 0 ≤ (nI a).toInt ∧ (nI a).toInt < 3 := hl_in h (by decide)
theorem in_4 {a : Nat} (h : a < 4) : 0 ≤ (nI a).toInt ∧ (nI a).toInt < 4 := hl_in h (by decide)
theorem in_5 {a : Nat} (h : a < 5) : 0 ≤ (nI a).toInt ∧ (nI a).toInt < 5 := hl_in h (by decide)
theorem in_6 {a : Nat} (h : a < 6) : 0 ≤ (nI a).toInt ∧ (nI a).toInt < 6 := hl_in h (by decide)
theorem in_8 {a : Nat} (h : a < 8) : 0 ≤ (nI a).toInt ∧ (nI a).toInt < 8 := hl_in h (by decide)
theorem in_12 {a : Nat} (h : a < 12) : 0 ≤ (nI a).toInt ∧ (nI a).toInt < 12 := hl_in h (by decide)
theorem in_15 {a : Nat} (h : a < 15) : 0 ≤ (nI a).toInt ∧ (nI a).toInt < 15 := hl_in h (by decide)
theorem in_24 {a : Nat} (h : a < 24) : 0 ≤ (nI a).toInt ∧ (nI a).toInt < 24 := hl_in h (by decide)
theorem in_36 {a : Nat} (h : a < 36) : 0 ≤ (nI a).toInt ∧ (nI a).toInt < 36 := hl_in h (by decide)
theorem in_40 {a : Nat} (h : a < 40) : 0 ≤ (nI a).toInt ∧ (nI a).toInt < 40 := hl_in h (by decide)
theorem in_80 {a : Nat} (h : a < 80) : 0 ≤ (nI a).toInt ∧ (nI a).toInt < 80 := hl_in h (by decide)
theorem in_120 {a : Nat} (h : a < 120) : 0 ≤ (nI a).toInt ∧ (nI a).toInt < 120 := hl_in h (by decide)
theorem in_256 {a : Nat} (h : a < 256) : 0 ≤ (nI a).toInt ∧ (nI a).toInt < 256 := hl_in h (by decide)
theorem in_600 {a : Nat} (h : a < 600) : 0 ≤ (nI a).toInt ∧ (nI a).toInt < 600 := hl_in h (by decide)
theorem hl_m1 (n : Nat) : nI (n + 1) + (-1) = nI n := pk_m1 n
theorem i_lt (a b : Int32) : a < b ↔ a.toInt < b.toInt := Int32.lt_iff_toInt_lt
theorem i_le (a b : Int32) : a ≤ b ↔ a.toInt ≤ b.toInt := Int32.le_iff_toInt_le
/-- a number between bounds is a natural one -/
theorem i_nat {x : Int32} (h : 0 ≤ x.toInt) : x = nI x.toNatClampNeg ∧ x.toNatClampNeg < 2147483648 ∧ (x.toNatClampNeg : Int) = x.toInt := by
  have hn : ¬ x < 0 := by
    rw [i_lt]
    have : (0 : Int32).toInt = 0 := by decide
    omega
  obtain ⟨j, hj, rfl⟩ := nI_of hn
  have hj' : j < 2147483648 := hj
  rw [hl_cl hj']
  exact ⟨rfl, hj', (hl_toInt hj').symm⟩
theorem i_of {x : Int32} {n : Nat} (h0 : ¬ x < 0) (h1 : x < nI n) (hn : n < 2147483648) : ∃ j, j < n ∧ x = nI j := by
  obtain ⟨j, hj, rfl⟩ := nI_of h0
  exact ⟨j, (hl_lt hj hn).mp h1, rfl⟩
theorem i_of' {x : Int32} {n : Nat} (h0 : ¬ x < 0) (h1 : ¬ nI n ≤ x) (hn : n < 2147483648) : ∃ j, j < n ∧ x = nI j := by
  obtain ⟨j, hj, rfl⟩ := nI_of h0
  have hj' : j < 2147483648 := hj
  rw [hl_le hn hj'] at h1
  exact ⟨j, by omega, rfl⟩
/-- a method's whole fuel -/
def FUEL : Nat := 999999
theorem FU {n : Nat} (h : n < 999999) : n < FUEL := h
theorem EX_in {L : Nat} {xs : Nat → Int32} {d y : Nat} {as : List AV} {M : Mem} {O : Int64} (mi : MI) (h : getN y = some mi) (hy : Nat.ble 900 y = false)
    (ha : (as.all (fun v => Nat.beq (acat v) 1) && Nat.ble as.length (mi_L mi)) = true) {ls : Lcs} (hl : entL mi as = ls) :
    EX L xs (d + 1 + 1) y as M O = BK L xs (EX L xs (d + 1)) mi (RN L xs d mi FUEL) 3000 0 ls [] M O none 0 0 := (EX_of mi h hy ha hl).trans (RN_s L xs d mi 999999 0 ls M O none 0 0)
theorem RN_of {L : Nat} {xs : Nat → Int32} {d : Nat} {mi : MI} {n pc : Nat} {ls : Lcs} {M : Mem} {O : Int64} {T : Tmp} {c s : Nat} {r : Res}
    (h : BK L xs (EX L xs (d + 1)) mi (RN L xs d mi n) 3000 pc ls [] M O T c s = r) : RN L xs d mi (n + 1) pc ls M O T c s = r := h
/-! what a call ends in -/
def isI (r : Res) (O : Int64) (x : Int32) (Q : Mem → Prop) : Prop := ∃ M', r = some (.inl (some (.inl x)), M', O, 0, 0) ∧ Q M'
theorem isI_i {O : Int64} {x : Int32} {M' : Mem} {Q : Mem → Prop} (h : Q M') : isI (some (.inl (some (.inl x)), M', O, 0, 0)) O x Q := ⟨M', rfl, h⟩
theorem isI_e {r r' : Res} {O : Int64} {x : Int32} {Q : Mem → Prop} (h : r = r') (h' : isI r' O x Q) : isI r O x Q := h ▸ h'
theorem isI_x {r : Res} {O : Int64} {x x' : Int32} {Q : Mem → Prop} (h : x = x') (h' : isI r O x' Q) : isI r O x Q := h ▸ h'
theorem isI_m {r : Res} {O : Int64} {x : Int32} {Q Q' : Mem → Prop} (h : isI r O x Q) (h' : ∀ M', Q M' → Q' M') : isI r O x Q' := h.elim fun M' a => ⟨M', a.1, h' M' a.2⟩
theorem P_e {P : Res → Prop} {r r' : Res} (h : r = r') (h' : P r') : P r := h ▸ h'
def isV (r : Res) (O : Int64) (Q : Mem → Prop) : Prop := ∃ M', r = some (.inl none, M', O, 0, 0) ∧ Q M'
theorem isV_i {O : Int64} {M' : Mem} {Q : Mem → Prop} (h : Q M') : isV (some (.inl none, M', O, 0, 0)) O Q := ⟨M', rfl, h⟩
theorem isV_e {r r' : Res} {O : Int64} {Q : Mem → Prop} (h : r = r') (h' : isV r' O Q) : isV r O Q := h ▸ h'
theorem isV_m {r : Res} {O : Int64} {Q Q' : Mem → Prop} (h : isV r O Q) (h' : ∀ M', Q M' → Q' M') : isV r O Q' := h.elim fun M' a => ⟨M', a.1, h' M' a.2⟩
def isR (r : Res) (O : Int64) (g i : Nat) (Q : Mem → Prop) : Prop := ∃ M', r = some (.inl (some (.inr (.inr (g, i)))), M', O, 0, 0) ∧ Q M'
theorem isR_i {O : Int64} {g i : Nat} {M' : Mem} {Q : Mem → Prop} (h : Q M') : isR (some (.inl (some (.inr (.inr (g, i)))), M', O, 0, 0)) O g i Q := ⟨M', rfl, h⟩
theorem isR_e {r r' : Res} {O : Int64} {g i : Nat} {Q : Mem → Prop} (h : r = r') (h' : isR r' O g i Q) : isR r O g i Q := h ▸ h'
/-! memory -/
theorem mp_s {M : Mem} {g i k : Nat} {x : Int32} : mput M g i k x g i k = x := by
  unfold mput mrow
  simp only [if_pos, pk_us]
theorem mp_k {M : Mem} {g i k k' : Nat} {x : Int32} (h : k' ≠ k) : mput M g i k x g i k' = M g i k' := by
  unfold mput mrow
  simp only [if_pos, pk_un h]
theorem mp_i {M : Mem} {g i k i' k' : Nat} {x : Int32} (h : i' ≠ i) : mput M g i k x g i' k' = M g i' k' := by
  unfold mput mrow
  simp only [if_pos, if_neg h]
theorem mp_g {M : Mem} {g i k g' i' k' : Nat} {x : Int32} (h : g' ≠ g) : mput M g i k x g' i' k' = M g' i' k' := by
  unfold mput mrow
  simp only [if_neg h]
theorem mr_s {M : Mem} {g i k' : Nat} {f : Nat → Int32} : mrow M g i f g i k' = f k' := by
  unfold mrow
  simp only [if_pos]
theorem mr_i {M : Mem} {g i i' k' : Nat} {f : Nat → Int32} (h : i' ≠ i) : mrow M g i f g i' k' = M g i' k' := by
  unfold mrow
  simp only [if_pos, if_neg h]
theorem mr_g {M : Mem} {g i g' i' k' : Nat} {f : Nat → Int32} (h : g' ≠ g) : mrow M g i f g' i' k' = M g' i' k' := by
  unfold mrow
  simp only [if_neg h]
/-! frames: what is outside of S stays -/
def Fr (S : Nat → Nat → Nat → Bool) (M M' : Mem) : Prop := ∀ g i k, S g i k = false → M' g i k = M g i k
theorem Fr_refl {S : Nat → Nat → Nat → Bool} {M : Mem} : Fr S M M := fun _ _ _ _ => rfl
theorem Fr_trans {S : Nat → Nat → Nat → Bool} {M M' M'' : Mem} (a : Fr S M M') (b : Fr S M' M'') : Fr S M M'' := fun g i k h => (b g i k h).trans (a g i k h)
theorem Fr_mono {S S' : Nat → Nat → Nat → Bool} {M M' : Mem} (hs : ∀ g i k, S' g i k = false → S g i k = false) (a : Fr S M M') : Fr S' M M' := fun g i k h => a g i k (hs g i k h)
theorem Fr_put {S : Nat → Nat → Nat → Bool} {M M' : Mem} {g i k : Nat} {x : Int32} (a : Fr S M M') (h : S g i k = true) : Fr S M (mput M' g i k x) := by
  intro g' i' k' h'
  rw [← a g' i' k' h']
  by_cases hg : g' = g
  · subst hg
    by_cases hi : i' = i
    · subst hi
      by_cases hk : k' = k
      · subst hk
        rw [h] at h'
        cases h'
      · rw [mp_k hk]
    · rw [mp_i hi]
  · rw [mp_g hg]
theorem Fr_row {S : Nat → Nat → Nat → Bool} {M M' : Mem} {g i : Nat} {f : Nat → Int32} (a : Fr S M M') (h : ∀ k, S g i k = true) : Fr S M (mrow M' g i f) := by
  intro g' i' k' h'
  rw [← a g' i' k' h']
  by_cases hg : g' = g
  · subst hg
    by_cases hi : i' = i
    · subst hi
      rw [h] at h'
      cases h'
    · rw [mr_i hi]
  · rw [mr_g hg]
/-- a loop upward: r rounds from k on -/
def fup {α : Type} (f : Nat → α → α) : Nat → Nat → α → α
  | 0, _, a => a
  | r + 1, k, a => fup f r (k + 1) (f k a)
theorem fup_congr {α : Type} {f g : Nat → α → α} : ∀ r k a, (∀ j x, k ≤ j → j < k + r → f j x = g j x) → fup f r k a = fup g r k a := by
  intro r
  induction r with
  | zero => intro k a _; rfl
  | succ r ih =>
    intro k a h
    show fup f r (k + 1) (f k a) = fup g r (k + 1) (g k a)
    rw [h k a (by omega) (by omega)]
    exact ih (k + 1) _ (fun j x h1 h2 => h j x (by omega) (by omega))

/-! a LAND's view (by the class's groups), an AIR's -/
abbrev Vw : Type := Nat → Nat → Int32
def isLand (g : Nat) : Bool := Nat.ble 3 g && Nat.ble g 17
/-- a LAND's slots that hold numbers -/
def lk (g k : Nat) : Bool := match g with
  | 3 => Nat.beq k 0 || Nat.beq k 4 || Nat.beq k 8 || Nat.beq k 13
  | 4 => decide (k < 40)
  | 5 => decide (k < 40)
  | 6 => decide (k < 40)
  | 7 => decide (k < 8)
  | 8 => decide (k < 8)
  | 9 => decide (k < 24)
  | 10 => decide (k < 6)
  | 11 => decide (k < 6)
  | 12 => decide (k < 6)
  | 13 => decide (k < 6)
  | 14 => decide (k < 8)
  | 15 => decide (k < 8)
  | 16 => decide (k < 8)
  | 17 => decide (k < 8)
  | _ => false
/-- land i of the class is V -/
def CL (M : Mem) (i : Nat) (V : Vw) : Prop := ∀ g k, lk g k = true → M g i k = V g k
theorem lk_land {g k : Nat} (h : lk g k = true) : isLand g = true := by
  have h2 : 3 ≤ g ∧ g ≤ 17 := by
    by_cases c : 3 ≤ g ∧ g ≤ 17
    · exact c
    · exfalso
      unfold lk at h
      split at h <;> first | omega | cases h
  unfold isLand
  rw [Nat.ble_eq_true_of_le h2.1, Nat.ble_eq_true_of_le h2.2]
  rfl
/-- air i of the class is A: 12 bends, wind, weight, fine -/
def CA (M : Mem) (i : Nat) (A : Nat → Int32) : Prop := (∀ j, j < 12 → M 19 i j = A j) ∧ M 18 i 1 = A 12 ∧ M 18 i 2 = A 13 ∧ M 18 i 3 = A 14
def vN (V : Vw) (g k : Nat) : Nat := (V g k).toNatClampNeg
/-- a WORK as a LAND has it -/
def WOK (V : Vw) (n nh ns w : Nat) : Prop := V 15 w = nI (vN V 15 w) ∧ V 16 w = nI (vN V 16 w) ∧ ((V 14 w = 6 ∧ vN V 15 w < n ∧ vN V 16 w ≤ 9) ∨ (V 14 w = 7 ∧ vN V 15 w ≤ vN V 16 w ∧ vN V 16 w < n) ∨ (V 14 w = 8 ∧ vN V 15 w < ns ∧ vN V 16 w ≤ 99) ∨ (V 14 w = 9 ∧ vN V 15 w < nh ∧ vN V 16 w ≤ 30))
def VOK (V : Vw) (n nh ns nw : Nat) : Prop := V 3 0 = nI n ∧ V 3 4 = nI nh ∧ V 3 8 = nI ns ∧ V 3 13 = nI nw ∧ 8 ≤ n ∧ n ≤ 40 ∧ nh ≤ 8 ∧ ns ≤ 6 ∧ nw ≤ 8
  ∧ (∀ j, j < n → V 4 j = nI (vN V 4 j) ∧ vN V 4 j < 4) ∧ (∀ j, j < n → V 5 j = nI (vN V 5 j) ∧ vN V 5 j ≤ 9) ∧ (∀ j, j < n → V 6 j = nI (vN V 6 j) ∧ vN V 6 j ≤ 9)
  ∧ (∀ k, k < nh → V 7 k = nI (vN V 7 k) ∧ vN V 7 k < n) ∧ (∀ k, k < ns → V 10 k = nI (vN V 10 k) ∧ vN V 10 k < n) ∧ (∀ k, k < ns → V 11 k = nI (vN V 11 k) ∧ vN V 11 k ≤ 120)
  ∧ (∀ w, w < nw → WOK V n nh ns w) ∧ (∀ w, w < nw → V 17 w = nI (vN V 17 w) ∧ vN V 17 w ≤ 99)
def imax (a b : Int32) : Int32 := if a < b then b else a
def sRow (g0 i0 : Nat) (g i _k : Nat) : Bool := Nat.beq g g0 && Nat.beq i i0
theorem beq_s (n : Nat) : Nat.beq n n = true := Nat.beq_refl n
theorem beq_n {a b : Nat} (h : a ≠ b) : Nat.beq a b = false := by
  cases e : Nat.beq a b with
  | false => rfl
  | true => exact absurd (Nat.eq_of_beq_eq_true e) h
theorem sRow_s (g i k : Nat) : sRow g i g i k = true := by
  unfold sRow
  rw [beq_s, beq_s]
  rfl
theorem sRow_g {g0 i0 g i k : Nat} (h : g ≠ g0) : sRow g0 i0 g i k = false := by
  unfold sRow
  rw [beq_n h]
  rfl
theorem sRow_i {g0 i0 g i k : Nat} (h : i ≠ i0) : sRow g0 i0 g i k = false := by
  unfold sRow
  rw [beq_n h, Bool.and_false]
theorem isLand_le {g : Nat} (h : isLand g = true) : 3 ≤ g ∧ g ≤ 17 := by
  unfold isLand at h
  rw [Bool.and_eq_true] at h
  exact ⟨Nat.le_of_ble_eq_true h.1, Nat.le_of_ble_eq_true h.2⟩
theorem CL_fr {S : Nat → Nat → Nat → Bool} {M M' : Mem} {i : Nat} {V : Vw} (h : CL M i V) (fr : Fr S M M') (hs : ∀ g k, isLand g = true → S g i k = false) : CL M' i V := fun g k hg => (fr g i k (hs g k (lk_land hg))).trans (h g k hg)
theorem CA_fr {S : Nat → Nat → Nat → Bool} {M M' : Mem} {i : Nat} {A : Nat → Int32} (h : CA M i A) (fr : Fr S M M') (h1 : ∀ k, S 19 i k = false) (h2 : ∀ k, S 18 i k = false) : CA M' i A :=
  ⟨fun j hj => (fr 19 i j (h1 j)).trans (h.1 j hj), (fr 18 i 1 (h2 1)).trans h.2.1, (fr 18 i 2 (h2 2)).trans h.2.2.1, (fr 18 i 3 (h2 3)).trans h.2.2.2⟩
theorem nn_n (a : Nat) (h : a < 2147483648) : ¬ nI a < 0 := by
  rw [i_lt, hl_toInt h]
  have : (0 : Int32).toInt = 0 := by decide
  omega
theorem nn_lt {a : Nat} {p : Int32} (ha : a < 2147483648) (h : nI a < p) : ¬ p < 0 := by
  rw [i_lt, hl_toInt ha] at h
  rw [i_lt]
  have : (0 : Int32).toInt = 0 := by decide
  omega
