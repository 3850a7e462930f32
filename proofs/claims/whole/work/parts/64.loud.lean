/-! The way of a RAY, how LOUD one sound is at each CELL. -/
def yAt (n : Nat) (rt : Bool) (x i : Nat) : Option Nat := if rt = true then (if x + i < n then some (x + i) else none) else (if i ≤ x then some (x - i) else none)
def yI (rt : Bool) (x i : Nat) : Nat := if rt = true then x + i else x - i
def twI (rt : Bool) : Int32 := if rt = true then 1 else -1
def slI (j : Nat) : Int32 := nI j - 3
def rayF (V : Vw) (A : Nat → Int32) (n x : Nat) (up lv pt : Int32) (rt : Bool) (s0 : Int32) : Nat → Option R3
  | 0 => if 0 < lv then some (V 5 x + up, s0, lv) else none
  | i + 1 => (rayF V A n x up lv pt rt s0 i).bind fun z => (yAt n rt x (i + 1)).bind fun y => rStep V A (twI rt) pt y (nI (i + 1)) z
/-- what a RAY gives a CELL of height h -/
def cOf (o : Option R3) (h : Int32) : Int32 := match o with
  | none => 0
  | some z => if 2 < z.1 - h then 0 else z.2.2
/-- what the RAY of slope j gives the CELL i away -/
def cF (V : Vw) (A : Nat → Int32) (n x : Nat) (up lv pt : Int32) (rt : Bool) (i j : Nat) : Int32 := cOf (rayF V A n x up lv pt rt (slI j) i) (V 5 (yI rt x i))
def accF (V : Vw) (A : Nat → Int32) (n x : Nat) (up lv pt : Int32) (rt : Bool) (i : Nat) : Nat → Int32
  | 0 => 0
  | j + 1 => imax (accF V A n x up lv pt rt i j) (cF V A n x up lv pt rt i j)
def sd (x y : Nat) : Bool := decide (x < y)
def dist (x y : Nat) : Nat := if x < y then y - x else x - y
def rowF (V : Vw) (A : Nat → Int32) (n x : Nat) (up lv pt : Int32) (c : Bool → Nat → Nat) (y : Nat) : Int32 := if y = x then lv else accF V A n x up lv pt (sd x y) (dist x y) (c (sd x y) (dist x y))
def loudF (V : Vw) (A : Nat → Int32) (n x : Nat) (up lv pt : Int32) (y : Nat) : Int32 := rowF V A n x up lv pt (fun _ _ => 10) y
def cntA (rt : Bool) (j i : Nat) (c0 : Bool → Nat) (b : Bool) (t : Nat) : Nat := if b = rt then (if t < i then j + 1 else j) else c0 b
def cntE (rt : Bool) (j : Nat) (c0 : Bool → Nat) (b : Bool) (_t : Nat) : Nat := if b = rt then j else c0 b
theorem imax_nn {a b : Int32} (h : ¬ a < 0) : ¬ imax a b < 0 := by
  unfold imax
  by_cases c : a < b
  · rw [if_pos c]
    rw [i_lt] at *
    have : (0 : Int32).toInt = 0 := by decide
    omega
  · rw [if_neg c]
    exact h
theorem imax_0 {a : Int32} (h : ¬ a < 0) : imax a 0 = a := if_neg h
theorem slI_s : ∀ j, j < 10 → slI j + 1 = slI (j + 1) := by decide
theorem slI_c : ∀ j, j < 10 → ¬ 6 < slI j := by decide
theorem slI_e : 6 < slI 10 := by decide
section
variable {V : Vw} {A : Nat → Int32} {n x : Nat} {up lv pt : Int32}
theorem acc_nn (rt : Bool) (i : Nat) : ∀ j, ¬ accF V A n x up lv pt rt i j < 0 := by
  intro j
  induction j with
  | zero => exact (by decide : ¬ (0 : Int32) < 0)
  | succ j ih => exact imax_nn ih
theorem acc_skip {rt : Bool} {i j : Nat} (h : cF V A n x up lv pt rt i j = 0) : accF V A n x up lv pt rt i (j + 1) = accF V A n x up lv pt rt i j := by
  show imax _ _ = _
  rw [h]
  exact imax_0 (acc_nn rt i j)
theorem ray_none {rt : Bool} {s0 : Int32} {i : Nat} (h : rayF V A n x up lv pt rt s0 i = none) : ∀ r, rayF V A n x up lv pt rt s0 (i + r) = none := by
  intro r
  induction r with
  | zero => exact h
  | succ r ih =>
    show (rayF V A n x up lv pt rt s0 (i + r)).bind _ = none
    rw [ih]
    rfl
theorem c_none {rt : Bool} {i j : Nat} (h : rayF V A n x up lv pt rt (slI j) i = none) : cF V A n x up lv pt rt i j = 0 := by
  unfold cF
  rw [h]
  rfl
theorem dist_pos {x y : Nat} (h : y ≠ x) : 1 ≤ dist x y := by
  unfold dist
  split <;> omega
theorem row_congr {c c' : Bool → Nat → Nat} (h : ∀ b t, 1 ≤ t → accF V A n x up lv pt b t (c b t) = accF V A n x up lv pt b t (c' b t)) (y : Nat) : rowF V A n x up lv pt c y = rowF V A n x up lv pt c' y := by
  unfold rowF
  by_cases e : y = x
  · rw [if_pos e, if_pos e]
  · rw [if_neg e, if_neg e]
    exact h _ _ (dist_pos e)
theorem row_congr2 {N : Nat} (hx : x < N) {c c' : Bool → Nat → Nat} (h : ∀ b t, 1 ≤ t → t < N → accF V A n x up lv pt b t (c b t) = accF V A n x up lv pt b t (c' b t)) (y : Nat) (hy : y < N) : rowF V A n x up lv pt c y = rowF V A n x up lv pt c' y := by
  unfold rowF
  by_cases e : y = x
  · rw [if_pos e, if_pos e]
  · rw [if_neg e, if_neg e]
    refine h _ _ (dist_pos e) ?_
    unfold dist
    split <;> omega
theorem row_begin (rt : Bool) (j : Nat) (c0 : Bool → Nat) (y : Nat) : rowF V A n x up lv pt (cntE rt j c0) y = rowF V A n x up lv pt (cntA rt j 1 c0) y := by
  refine row_congr (fun b t ht => ?_) y
  unfold cntE cntA
  rw [if_neg (show ¬ t < 1 by omega)]
theorem row_end {rt : Bool} {j i : Nat} (c0 : Bool → Nat) (h : rayF V A n x up lv pt rt (slI j) i = none) (y : Nat) : rowF V A n x up lv pt (cntA rt j i c0) y = rowF V A n x up lv pt (cntE rt (j + 1) c0) y := by
  refine row_congr (fun b t ht => ?_) y
  unfold cntE cntA
  by_cases e : b = rt
  · rw [if_pos e, if_pos e]
    by_cases h2 : t < i
    · rw [if_pos h2]
    · rw [if_neg h2, e]
      refine (acc_skip (c_none ?_)).symm
      have := ray_none h (t - i)
      rw [show i + (t - i) = t by omega] at this
      exact this
  · rw [if_neg e, if_neg e]
theorem row_end40 (hx : x < 40) (rt : Bool) (j : Nat) (c0 : Bool → Nat) (y : Nat) (hy : y < 40) : rowF V A n x up lv pt (cntA rt j 40 c0) y = rowF V A n x up lv pt (cntE rt (j + 1) c0) y := by
  refine row_congr2 hx (fun b t h1 h2 => ?_) y hy
  unfold cntE cntA
  rw [if_pos h2]
theorem yAt_sd {rt : Bool} {i y : Nat} (hi : 1 ≤ i) (h : yAt n rt x i = some y) : sd x y = rt ∧ dist x y = i ∧ y ≠ x ∧ yI rt x i = y := by
  unfold yAt at h
  unfold sd dist yI
  cases rt with
  | true =>
    rw [if_pos rfl] at h
    by_cases h2 : x + i < n
    · rw [if_pos h2] at h
      cases h
      refine ⟨decide_eq_true (by omega), ?_, by omega, if_pos rfl⟩
      rw [if_pos (by omega)]
      omega
    · rw [if_neg h2] at h
      cases h
  | false =>
    rw [if_neg (by decide)] at h
    by_cases h2 : i ≤ x
    · rw [if_pos h2] at h
      cases h
      refine ⟨decide_eq_false (by omega), ?_, by omega, if_neg (by decide)⟩
      rw [if_neg (by omega)]
      omega
    · rw [if_neg h2] at h
      cases h
theorem sd_inj {y y' : Nat} (h1 : y ≠ x) (h2 : y' ≠ x) (a : sd x y = sd x y') (b : dist x y = dist x y') : y = y' := by
  unfold sd at a
  unfold dist at b
  by_cases c : x < y
  · rw [decide_eq_true c] at a
    have c' : x < y' := of_decide_eq_true a.symm
    rw [if_pos c, if_pos c'] at b
    omega
  · rw [decide_eq_false c] at a
    have c' : ¬ x < y' := of_decide_eq_false a.symm
    rw [if_neg c, if_neg c'] at b
    omega
theorem row_nn {c : Bool → Nat → Nat} {y : Nat} (h : y ≠ x) : ¬ rowF V A n x up lv pt c y < 0 := by
  unfold rowF
  rw [if_neg h]
  exact acc_nn _ _ _
theorem row_step {rt : Bool} {i j y : Nat} (c0 : Bool → Nat) (hi : 1 ≤ i) (h : yAt n rt x i = some y) (y' : Nat) :
    rowF V A n x up lv pt (cntA rt j (i + 1) c0) y' = if y' = y then imax (rowF V A n x up lv pt (cntA rt j i c0) y) (cF V A n x up lv pt rt i j) else rowF V A n x up lv pt (cntA rt j i c0) y' := by
  obtain ⟨a, b, c, e⟩ := yAt_sd hi h
  by_cases e1 : y' = y
  · rw [if_pos e1, e1]
    unfold rowF
    rw [if_neg c, if_neg c, a, b]
    unfold cntA
    rw [if_pos rfl, if_pos rfl, if_pos (by omega), if_neg (by omega)]
    rfl
  · rw [if_neg e1]
    unfold rowF
    by_cases e2 : y' = x
    · rw [if_pos e2, if_pos e2]
    · rw [if_neg e2, if_neg e2]
      unfold cntA
      by_cases e3 : sd x y' = rt
      · have e4 : dist x y' ≠ i := fun e4 => e1 (sd_inj e2 c (e3.trans a.symm) (e4.trans b.symm))
        rw [if_pos e3, if_pos e3]
        by_cases e5 : dist x y' < i
        · rw [if_pos e5, if_pos (by omega)]
        · rw [if_neg e5, if_neg (by omega)]
      · rw [if_neg e3, if_neg e3]
theorem next_in {rt : Bool} {i y y' : Nat} (h : yAt n rt x i = some y) (h' : yAt n rt x (i + 1) = some y') : nI y + twI rt = nI y' := by
  unfold yAt at h h'
  unfold twI
  cases rt with
  | true =>
    rw [if_pos rfl] at h h' ⊢
    by_cases h2 : x + (i + 1) < n
    · rw [if_pos h2] at h'
      rw [if_pos (by omega)] at h
      cases h
      cases h'
      rw [zadd_1]
      rfl
    · rw [if_neg h2] at h'
      cases h'
  | false =>
    rw [if_neg (by decide)] at h h' ⊢
    by_cases h2 : i + 1 ≤ x
    · rw [if_pos h2] at h'
      rw [if_pos (by omega)] at h
      cases h
      cases h'
      rw [show x - i = (x - (i + 1)) + 1 by omega, hl_m1]
    · rw [if_neg h2] at h'
      cases h'
theorem next_out {rt : Bool} {i y : Nat} (hn : n ≤ 40) (hx : x < n) (h : yAt n rt x i = some y) (h' : yAt n rt x (i + 1) = none) : nI y + twI rt < 0 ∨ ¬ nI y + twI rt < nI n := by
  unfold yAt at h h'
  unfold twI
  cases rt with
  | true =>
    rw [if_pos rfl] at h h' ⊢
    by_cases h2 : x + (i + 1) < n
    · rw [if_pos h2] at h'
      cases h'
    · by_cases h3 : x + i < n
      · rw [if_pos h3] at h
        cases h
        right
        rw [zadd_1, hl_lt (by omega) (by omega)]
        omega
      · rw [if_neg h3] at h
        cases h
  | false =>
    rw [if_neg (by decide)] at h h' ⊢
    by_cases h2 : i + 1 ≤ x
    · rw [if_pos h2] at h'
      cases h'
    · by_cases h3 : i ≤ x
      · rw [if_pos h3] at h
        cases h
        left
        rw [show x - i = 0 by omega]
        decide
      · rw [if_neg h3] at h
        cases h
theorem yAt_lt {rt : Bool} {i y : Nat} (hx : x < n) (h : yAt n rt x i = some y) : y < n := by
  unfold yAt at h
  cases rt with
  | true =>
    rw [if_pos rfl] at h
    by_cases h2 : x + i < n
    · rw [if_pos h2] at h
      cases h
      exact h2
    · rw [if_neg h2] at h
      cases h
  | false =>
    rw [if_neg (by decide)] at h
    by_cases h2 : i ≤ x
    · rw [if_pos h2] at h
      cases h
      omega
    · rw [if_neg h2] at h
      cases h
theorem yAt_i {rt : Bool} {i y : Nat} (hn : n ≤ 40) (hx : x < n) (h : yAt n rt x i = some y) : i < 40 := by
  unfold yAt at h
  cases rt with
  | true =>
    rw [if_pos rfl] at h
    by_cases h2 : x + i < n
    · omega
    · rw [if_neg h2] at h
      cases h
  | false =>
    rw [if_neg (by decide)] at h
    by_cases h2 : i ≤ x
    · omega
    · rw [if_neg h2] at h
      cases h
theorem ray_s {rt : Bool} {s0 : Int32} {i y : Nat} {z : R3} (hz : rayF V A n x up lv pt rt s0 i = some z) (hy : yAt n rt x (i + 1) = some y) : rayF V A n x up lv pt rt s0 (i + 1) = rStep V A (twI rt) pt y (nI (i + 1)) z := by
  show (rayF V A n x up lv pt rt s0 i).bind _ = _
  rw [hz]
  show (yAt n rt x (i + 1)).bind _ = _
  rw [hy]
  rfl
theorem ray_n {rt : Bool} {s0 : Int32} {i : Nat} (hy : yAt n rt x (i + 1) = none) : rayF V A n x up lv pt rt s0 (i + 1) = none := by
  show (rayF V A n x up lv pt rt s0 i).bind _ = _
  rw [hy]
  cases rayF V A n x up lv pt rt s0 i <;> rfl
theorem loud_0 (h : ¬ 0 < lv) : ∀ rt i j, accF V A n x up lv pt rt i j = 0 := by
  intro rt i j
  induction j with
  | zero => rfl
  | succ j ih =>
    have h0 : rayF V A n x up lv pt rt (slI j) 0 = none := if_neg h
    have := ray_none h0 i
    rw [Nat.zero_add] at this
    rw [acc_skip (c_none this), ih]
end
