/-! The cells that the constructors lay are the picture's: printed by wip/gen/gen13.py. -/
def posT : Nat → List Nat
  | 0 => [0]
  | 1 => [1]
  | 2 => [2]
  | 3 => [3, 18, 33, 48]
  | 4 => [4, 19, 34, 49]
  | 5 => [5, 20, 35, 50]
  | 6 => [6, 21, 36, 51]
  | 7 => [7, 22, 37, 52]
  | 8 => [8, 23, 38, 53]
  | 9 => [9, 24, 39, 54]
  | 10 => [10, 25, 40, 55]
  | 11 => [11, 26, 41, 56]
  | 12 => [12, 27, 42, 57]
  | 13 => [13, 28, 43, 58]
  | 14 => [14, 29, 44, 59]
  | 15 => [15, 30, 45, 60]
  | 16 => [16, 31, 46, 61]
  | 17 => [17, 32, 47, 62]
  | 18 => [113, 115, 117, 119, 121, 123]
  | 19 => [114, 116, 118, 120, 122, 124]
  | 20 => [64, 125, 129, 133]
  | 21 => [65, 126, 130, 134]
  | 22 => [66, 127, 131, 135]
  | 23 => [67, 128, 132, 136]
  | 24 => [69]
  | 25 => [70]
  | 26 => [71]
  | 27 => [72, 73, 74, 75, 76, 77, 78, 79, 80, 81, 82, 83, 84, 85, 86, 87, 88, 89, 90, 91, 92, 93, 94, 95, 96, 97, 98, 99, 100, 101, 102, 103, 104, 105, 106, 107]
  | 28 => [108]
  | 29 => [109]
  | 30 => [110]
  | 31 => [63]
  | 32 => [68]
  | 33 => [111]
  | 34 => [112]
  | 40 => [137]
  | 41 => [138]
  | 42 => [139]
  | 43 => [140]
  | 44 => [141]
  | 45 => [142]
  | 46 => [143]
  | 47 => [144]
  | 48 => [145]
  | 49 => [146]
  | 50 => [147]
  | 51 => [148]
  | 52 => [149]
  | 53 => [150]
  | 54 => [151, 152, 153, 154, 155, 156, 157, 158]
  | 55 => [159]
  | 56 => [160, 161, 162, 163, 164, 165, 166, 167]
  | 57 => [168]
  | 58 => [169, 170, 171, 172, 173, 174]
  | 59 => [175]
  | 60 => [176, 177, 178, 179, 180, 181]
  | 61 => [182]
  | 62 => [183, 184, 185, 186, 187, 188, 189, 190]
  | 63 => [191]
  | 64 => [192, 193, 194, 195, 196, 197, 198, 199]
  | 65 => [200]
  | 66 => [201]
  | 67 => [202, 203, 204, 205, 206, 207]
  | 68 => [208]
  | 69 => [209]
  | 70 => [210]
  | 71 => [211]
  | 72 => [212, 213, 214]
  | 73 => [215]
  | 74 => [216]
  | 75 => [217]
  | 76 => [218]
  | 77 => [219]
  | 78 => [220]
  | 79 => [221]
  | 80 => [222]
  | 81 => [223, 224, 225, 226, 227, 228]
  | 82 => [229]
  | 83 => [230]
  | _ => []
def posN (g i : Nat) : Nat := (posT g).getD i 0
def adF (b sb ge s3 s4 : Nat) : Nat → Nat → Nat := fun g i => match g with
  | 91 => sb
  | 92 => ge
  | 93 => s3
  | 94 => s4
  | g => b + posN g i
def esZ (cT : Nat → ClassId) (b : Nat) : List va_E := (es_X6_init cT b ++ es_X7_init cT (b + 137)) ++ [.inl (cT 2, 1, .inr (.inl (fun _ => 0)))]
theorem at_I {D : va_G} {a n : Nat} {H : Heap} {c : ClassId} {f g : Nat → Int32} (h : va_at D vwCl (a, .inl (c, n, .inl f)) H) (hfg : ∀ j, j < n → f j = g j) : va_at D vwCl (a, .inl (c, n, .inl g)) H := by
  show H[a]? = some (vp_cell _ _)
  rw [vp_cell_i, ← arrV_cong c n _ _ (fun j hj => congrArg Value.int (hfg j hj)), ← vp_cell_i]
  exact h
theorem at_Q {D : va_G} {a n : Nat} {H : Heap} {c : ClassId} {f g : Nat → Option Nat} (h : va_at D vwCl (a, .inl (c, n, .inr (.inr (.inr (.inr f))))) H) (hfg : ∀ j, j < n → f j = g j) : va_at D vwCl (a, .inl (c, n, .inr (.inr (.inr (.inr g))))) H := by
  show H[a]? = some (vp_cell _ _)
  rw [vp_cell_q, ← arrV_cong c n _ _ (fun j hj => congrArg va_rf (hfg j hj)), ← vp_cell_q]
  exact h
theorem at_O {D : va_G} {a ci g i : Nat} {H : Heap} {L : List Value} {fs : List (Option (Nat × Option Nat))} {ad : Nat → Nat → Nat} {M : Mem} (h : va_at D vwCl (a, .inr (ci, L)) H) (hl : fs.length = L.length) (he : ∀ k, k < L.length → (fs[k]?).map (fun f => fval ad M g i k f) = L[k]?) : va_at D vwCl (a, .inr (ci, fs.mapIdx (fun k f => fval ad M g i k f))) H := by
  have e : fs.mapIdx (fun k f => fval ad M g i k f) = L := by
    apply List.ext_getElem?
    intro k
    rw [List.getElem?_mapIdx]
    by_cases hk : k < L.length
    · exact he k hk
    · rw [List.getElem?_eq_none (by omega), List.getElem?_eq_none (by omega)]
      rfl
  rw [e]
  exact h
section Z
variable {D : va_G} {cT : Nat → ClassId} {b sb ge s3 s4 : Nat} {H : Heap}
set_option maxHeartbeats 4000000 in
set_option maxRecDepth 20000 in
theorem w_0 (hB : Bw D b (esZ cT b) H) : ∀ i, i < cnt 0 → va_at D vwCl (adF b sb ge s3 s4 0 i, wcell cT (adF b sb ge s3 s4) M0 0 0 i) H := by
  intro i hi
  match i, hi with
  | 0, _ => exact at_O (ci := 6) (g := 0) (i := 0) (M := M0) (ad := adF b sb ge s3 s4) (L := [.ref (b + 1), .ref (b + 3), .ref (b + 18), .ref (b + 33), .ref (b + 48), .ref (b + 63), .int 0, .ref (b + 64), .ref (b + 68), .int 0, .ref (b + 69), .ref (b + 111), .int (-1), .int (-1), .ref (b + 112)]) (fs := [some (1, some 0), some (3, none), some (3, none), some (3, some 2), some (3, some 3), some (31, some 0), none, some (20, some 0), some (32, some 0), none, some (24, some 0), some (33, some 0), none, none, some (34, some 0)]) (hB.mem (k := 0) rfl) rfl (fun k hk => by match k, hk with
    | 0, _ => rfl
    | 1, _ => rfl
    | 2, _ => rfl
    | 3, _ => rfl
    | 4, _ => rfl
    | 5, _ => rfl
    | 6, _ => rfl
    | 7, _ => rfl
    | 8, _ => rfl
    | 9, _ => rfl
    | 10, _ => rfl
    | 11, _ => rfl
    | 12, _ => rfl
    | 13, _ => rfl
    | 14, _ => rfl
    | k + 15, h => exact absurd h (by show ¬ k + 15 < 15; omega))
  | i + 1, h => exact absurd h (by show ¬ i + 1 < 1; omega)
set_option maxHeartbeats 4000000 in
set_option maxRecDepth 20000 in
theorem w_1 (hB : Bw D b (esZ cT b) H) : ∀ i, i < cnt 1 → va_at D vwCl (adF b sb ge s3 s4 1 i, wcell cT (adF b sb ge s3 s4) M0 0 1 i) H := by
  intro i hi
  match i, hi with
  | 0, _ => exact at_O (ci := 5) (g := 1) (i := 0) (M := M0) (ad := adF b sb ge s3 s4) (L := [.ref (b + 2), .int 0, .int 0, .int 0, .int 0, .int (-1)]) (fs := [some (2, some 0), none, none, none, none, none]) (hB.mem (k := 1) rfl) rfl (fun k hk => by match k, hk with
    | 0, _ => rfl
    | 1, _ => rfl
    | 2, _ => rfl
    | 3, _ => rfl
    | 4, _ => rfl
    | 5, _ => rfl
    | k + 6, h => exact absurd h (by show ¬ k + 6 < 6; omega))
  | i + 1, h => exact absurd h (by show ¬ i + 1 < 1; omega)
set_option maxHeartbeats 4000000 in
set_option maxRecDepth 20000 in
theorem w_2 (hB : Bw D b (esZ cT b) H) : ∀ i, i < cnt 2 → va_at D vwCl (adF b sb ge s3 s4 2 i, wcell cT (adF b sb ge s3 s4) M0 0 2 i) H := by
  intro i hi
  match i, hi with
  | 0, _ => exact hB.mem (k := 2) rfl
  | i + 1, h => exact absurd h (by show ¬ i + 1 < 1; omega)
set_option maxHeartbeats 4000000 in
set_option maxRecDepth 20000 in
theorem w_3 (hB : Bw D b (esZ cT b) H) : ∀ i, i < cnt 3 → va_at D vwCl (adF b sb ge s3 s4 3 i, wcell cT (adF b sb ge s3 s4) M0 0 3 i) H := by
  intro i hi
  match i, hi with
  | 0, _ => exact at_O (ci := 1) (g := 3) (i := 0) (M := M0) (ad := adF b sb ge s3 s4) (L := [.int 20, .ref (b + 4), .ref (b + 5), .ref (b + 6), .int 0, .ref (b + 7), .ref (b + 8), .ref (b + 9), .int 0, .ref (b + 10), .ref (b + 11), .ref (b + 12), .ref (b + 13), .int 0, .ref (b + 14), .ref (b + 15), .ref (b + 16), .ref (b + 17)]) (fs := [none, some (4, some 0), some (5, some 0), some (6, some 0), none, some (7, some 0), some (8, some 0), some (9, some 0), none, some (10, some 0), some (11, some 0), some (12, some 0), some (13, some 0), none, some (14, some 0), some (15, some 0), some (16, some 0), some (17, some 0)]) (hB.mem (k := 3) rfl) rfl (fun k hk => by match k, hk with
    | 0, _ => rfl
    | 1, _ => rfl
    | 2, _ => rfl
    | 3, _ => rfl
    | 4, _ => rfl
    | 5, _ => rfl
    | 6, _ => rfl
    | 7, _ => rfl
    | 8, _ => rfl
    | 9, _ => rfl
    | 10, _ => rfl
    | 11, _ => rfl
    | 12, _ => rfl
    | 13, _ => rfl
    | 14, _ => rfl
    | 15, _ => rfl
    | 16, _ => rfl
    | 17, _ => rfl
    | k + 18, h => exact absurd h (by show ¬ k + 18 < 18; omega))
  | 1, _ => exact at_O (ci := 1) (g := 3) (i := 1) (M := M0) (ad := adF b sb ge s3 s4) (L := [.int 20, .ref (b + 19), .ref (b + 20), .ref (b + 21), .int 0, .ref (b + 22), .ref (b + 23), .ref (b + 24), .int 0, .ref (b + 25), .ref (b + 26), .ref (b + 27), .ref (b + 28), .int 0, .ref (b + 29), .ref (b + 30), .ref (b + 31), .ref (b + 32)]) (fs := [none, some (4, some 0), some (5, some 0), some (6, some 0), none, some (7, some 0), some (8, some 0), some (9, some 0), none, some (10, some 0), some (11, some 0), some (12, some 0), some (13, some 0), none, some (14, some 0), some (15, some 0), some (16, some 0), some (17, some 0)]) (hB.mem (k := 18) rfl) rfl (fun k hk => by match k, hk with
    | 0, _ => rfl
    | 1, _ => rfl
    | 2, _ => rfl
    | 3, _ => rfl
    | 4, _ => rfl
    | 5, _ => rfl
    | 6, _ => rfl
    | 7, _ => rfl
    | 8, _ => rfl
    | 9, _ => rfl
    | 10, _ => rfl
    | 11, _ => rfl
    | 12, _ => rfl
    | 13, _ => rfl
    | 14, _ => rfl
    | 15, _ => rfl
    | 16, _ => rfl
    | 17, _ => rfl
    | k + 18, h => exact absurd h (by show ¬ k + 18 < 18; omega))
  | 2, _ => exact at_O (ci := 1) (g := 3) (i := 2) (M := M0) (ad := adF b sb ge s3 s4) (L := [.int 20, .ref (b + 34), .ref (b + 35), .ref (b + 36), .int 0, .ref (b + 37), .ref (b + 38), .ref (b + 39), .int 0, .ref (b + 40), .ref (b + 41), .ref (b + 42), .ref (b + 43), .int 0, .ref (b + 44), .ref (b + 45), .ref (b + 46), .ref (b + 47)]) (fs := [none, some (4, some 0), some (5, some 0), some (6, some 0), none, some (7, some 0), some (8, some 0), some (9, some 0), none, some (10, some 0), some (11, some 0), some (12, some 0), some (13, some 0), none, some (14, some 0), some (15, some 0), some (16, some 0), some (17, some 0)]) (hB.mem (k := 33) rfl) rfl (fun k hk => by match k, hk with
    | 0, _ => rfl
    | 1, _ => rfl
    | 2, _ => rfl
    | 3, _ => rfl
    | 4, _ => rfl
    | 5, _ => rfl
    | 6, _ => rfl
    | 7, _ => rfl
    | 8, _ => rfl
    | 9, _ => rfl
    | 10, _ => rfl
    | 11, _ => rfl
    | 12, _ => rfl
    | 13, _ => rfl
    | 14, _ => rfl
    | 15, _ => rfl
    | 16, _ => rfl
    | 17, _ => rfl
    | k + 18, h => exact absurd h (by show ¬ k + 18 < 18; omega))
  | 3, _ => exact at_O (ci := 1) (g := 3) (i := 3) (M := M0) (ad := adF b sb ge s3 s4) (L := [.int 20, .ref (b + 49), .ref (b + 50), .ref (b + 51), .int 0, .ref (b + 52), .ref (b + 53), .ref (b + 54), .int 0, .ref (b + 55), .ref (b + 56), .ref (b + 57), .ref (b + 58), .int 0, .ref (b + 59), .ref (b + 60), .ref (b + 61), .ref (b + 62)]) (fs := [none, some (4, some 0), some (5, some 0), some (6, some 0), none, some (7, some 0), some (8, some 0), some (9, some 0), none, some (10, some 0), some (11, some 0), some (12, some 0), some (13, some 0), none, some (14, some 0), some (15, some 0), some (16, some 0), some (17, some 0)]) (hB.mem (k := 48) rfl) rfl (fun k hk => by match k, hk with
    | 0, _ => rfl
    | 1, _ => rfl
    | 2, _ => rfl
    | 3, _ => rfl
    | 4, _ => rfl
    | 5, _ => rfl
    | 6, _ => rfl
    | 7, _ => rfl
    | 8, _ => rfl
    | 9, _ => rfl
    | 10, _ => rfl
    | 11, _ => rfl
    | 12, _ => rfl
    | 13, _ => rfl
    | 14, _ => rfl
    | 15, _ => rfl
    | 16, _ => rfl
    | 17, _ => rfl
    | k + 18, h => exact absurd h (by show ¬ k + 18 < 18; omega))
  | i + 4, h => exact absurd h (by show ¬ i + 4 < 4; omega)
set_option maxHeartbeats 4000000 in
set_option maxRecDepth 20000 in
theorem w_4 (hB : Bw D b (esZ cT b) H) : ∀ i, i < cnt 4 → va_at D vwCl (adF b sb ge s3 s4 4 i, wcell cT (adF b sb ge s3 s4) M0 0 4 i) H := by
  intro i hi
  match i, hi with
  | 0, _ => exact hB.mem (k := 4) rfl
  | 1, _ => exact hB.mem (k := 19) rfl
  | 2, _ => exact hB.mem (k := 34) rfl
  | 3, _ => exact hB.mem (k := 49) rfl
  | i + 4, h => exact absurd h (by show ¬ i + 4 < 4; omega)
set_option maxHeartbeats 4000000 in
set_option maxRecDepth 20000 in
theorem w_5 (hB : Bw D b (esZ cT b) H) : ∀ i, i < cnt 5 → va_at D vwCl (adF b sb ge s3 s4 5 i, wcell cT (adF b sb ge s3 s4) M0 0 5 i) H := by
  intro i hi
  match i, hi with
  | 0, _ => exact hB.mem (k := 5) rfl
  | 1, _ => exact hB.mem (k := 20) rfl
  | 2, _ => exact hB.mem (k := 35) rfl
  | 3, _ => exact hB.mem (k := 50) rfl
  | i + 4, h => exact absurd h (by show ¬ i + 4 < 4; omega)
set_option maxHeartbeats 4000000 in
set_option maxRecDepth 20000 in
theorem w_6 (hB : Bw D b (esZ cT b) H) : ∀ i, i < cnt 6 → va_at D vwCl (adF b sb ge s3 s4 6 i, wcell cT (adF b sb ge s3 s4) M0 0 6 i) H := by
  intro i hi
  match i, hi with
  | 0, _ => exact hB.mem (k := 6) rfl
  | 1, _ => exact hB.mem (k := 21) rfl
  | 2, _ => exact hB.mem (k := 36) rfl
  | 3, _ => exact hB.mem (k := 51) rfl
  | i + 4, h => exact absurd h (by show ¬ i + 4 < 4; omega)
set_option maxHeartbeats 4000000 in
set_option maxRecDepth 20000 in
theorem w_7 (hB : Bw D b (esZ cT b) H) : ∀ i, i < cnt 7 → va_at D vwCl (adF b sb ge s3 s4 7 i, wcell cT (adF b sb ge s3 s4) M0 0 7 i) H := by
  intro i hi
  match i, hi with
  | 0, _ => exact hB.mem (k := 7) rfl
  | 1, _ => exact hB.mem (k := 22) rfl
  | 2, _ => exact hB.mem (k := 37) rfl
  | 3, _ => exact hB.mem (k := 52) rfl
  | i + 4, h => exact absurd h (by show ¬ i + 4 < 4; omega)
set_option maxHeartbeats 4000000 in
set_option maxRecDepth 20000 in
theorem w_8 (hB : Bw D b (esZ cT b) H) : ∀ i, i < cnt 8 → va_at D vwCl (adF b sb ge s3 s4 8 i, wcell cT (adF b sb ge s3 s4) M0 0 8 i) H := by
  intro i hi
  match i, hi with
  | 0, _ => exact hB.mem (k := 8) rfl
  | 1, _ => exact hB.mem (k := 23) rfl
  | 2, _ => exact hB.mem (k := 38) rfl
  | 3, _ => exact hB.mem (k := 53) rfl
  | i + 4, h => exact absurd h (by show ¬ i + 4 < 4; omega)
set_option maxHeartbeats 4000000 in
set_option maxRecDepth 20000 in
theorem w_9 (hB : Bw D b (esZ cT b) H) : ∀ i, i < cnt 9 → va_at D vwCl (adF b sb ge s3 s4 9 i, wcell cT (adF b sb ge s3 s4) M0 0 9 i) H := by
  intro i hi
  match i, hi with
  | 0, _ => exact hB.mem (k := 9) rfl
  | 1, _ => exact hB.mem (k := 24) rfl
  | 2, _ => exact hB.mem (k := 39) rfl
  | 3, _ => exact hB.mem (k := 54) rfl
  | i + 4, h => exact absurd h (by show ¬ i + 4 < 4; omega)
set_option maxHeartbeats 4000000 in
set_option maxRecDepth 20000 in
theorem w_10 (hB : Bw D b (esZ cT b) H) : ∀ i, i < cnt 10 → va_at D vwCl (adF b sb ge s3 s4 10 i, wcell cT (adF b sb ge s3 s4) M0 0 10 i) H := by
  intro i hi
  match i, hi with
  | 0, _ => exact hB.mem (k := 10) rfl
  | 1, _ => exact hB.mem (k := 25) rfl
  | 2, _ => exact hB.mem (k := 40) rfl
  | 3, _ => exact hB.mem (k := 55) rfl
  | i + 4, h => exact absurd h (by show ¬ i + 4 < 4; omega)
set_option maxHeartbeats 4000000 in
set_option maxRecDepth 20000 in
theorem w_11 (hB : Bw D b (esZ cT b) H) : ∀ i, i < cnt 11 → va_at D vwCl (adF b sb ge s3 s4 11 i, wcell cT (adF b sb ge s3 s4) M0 0 11 i) H := by
  intro i hi
  match i, hi with
  | 0, _ => exact hB.mem (k := 11) rfl
  | 1, _ => exact hB.mem (k := 26) rfl
  | 2, _ => exact hB.mem (k := 41) rfl
  | 3, _ => exact hB.mem (k := 56) rfl
  | i + 4, h => exact absurd h (by show ¬ i + 4 < 4; omega)
set_option maxHeartbeats 4000000 in
set_option maxRecDepth 20000 in
theorem w_12 (hB : Bw D b (esZ cT b) H) : ∀ i, i < cnt 12 → va_at D vwCl (adF b sb ge s3 s4 12 i, wcell cT (adF b sb ge s3 s4) M0 0 12 i) H := by
  intro i hi
  match i, hi with
  | 0, _ => exact hB.mem (k := 12) rfl
  | 1, _ => exact hB.mem (k := 27) rfl
  | 2, _ => exact hB.mem (k := 42) rfl
  | 3, _ => exact hB.mem (k := 57) rfl
  | i + 4, h => exact absurd h (by show ¬ i + 4 < 4; omega)
set_option maxHeartbeats 4000000 in
set_option maxRecDepth 20000 in
theorem w_13 (hB : Bw D b (esZ cT b) H) : ∀ i, i < cnt 13 → va_at D vwCl (adF b sb ge s3 s4 13 i, wcell cT (adF b sb ge s3 s4) M0 0 13 i) H := by
  intro i hi
  match i, hi with
  | 0, _ => exact hB.mem (k := 13) rfl
  | 1, _ => exact hB.mem (k := 28) rfl
  | 2, _ => exact hB.mem (k := 43) rfl
  | 3, _ => exact hB.mem (k := 58) rfl
  | i + 4, h => exact absurd h (by show ¬ i + 4 < 4; omega)
set_option maxHeartbeats 4000000 in
set_option maxRecDepth 20000 in
theorem w_14 (hB : Bw D b (esZ cT b) H) : ∀ i, i < cnt 14 → va_at D vwCl (adF b sb ge s3 s4 14 i, wcell cT (adF b sb ge s3 s4) M0 0 14 i) H := by
  intro i hi
  match i, hi with
  | 0, _ => exact hB.mem (k := 14) rfl
  | 1, _ => exact hB.mem (k := 29) rfl
  | 2, _ => exact hB.mem (k := 44) rfl
  | 3, _ => exact hB.mem (k := 59) rfl
  | i + 4, h => exact absurd h (by show ¬ i + 4 < 4; omega)
set_option maxHeartbeats 4000000 in
set_option maxRecDepth 20000 in
theorem w_15 (hB : Bw D b (esZ cT b) H) : ∀ i, i < cnt 15 → va_at D vwCl (adF b sb ge s3 s4 15 i, wcell cT (adF b sb ge s3 s4) M0 0 15 i) H := by
  intro i hi
  match i, hi with
  | 0, _ => exact hB.mem (k := 15) rfl
  | 1, _ => exact hB.mem (k := 30) rfl
  | 2, _ => exact hB.mem (k := 45) rfl
  | 3, _ => exact hB.mem (k := 60) rfl
  | i + 4, h => exact absurd h (by show ¬ i + 4 < 4; omega)
set_option maxHeartbeats 4000000 in
set_option maxRecDepth 20000 in
theorem w_16 (hB : Bw D b (esZ cT b) H) : ∀ i, i < cnt 16 → va_at D vwCl (adF b sb ge s3 s4 16 i, wcell cT (adF b sb ge s3 s4) M0 0 16 i) H := by
  intro i hi
  match i, hi with
  | 0, _ => exact hB.mem (k := 16) rfl
  | 1, _ => exact hB.mem (k := 31) rfl
  | 2, _ => exact hB.mem (k := 46) rfl
  | 3, _ => exact hB.mem (k := 61) rfl
  | i + 4, h => exact absurd h (by show ¬ i + 4 < 4; omega)
set_option maxHeartbeats 4000000 in
set_option maxRecDepth 20000 in
theorem w_17 (hB : Bw D b (esZ cT b) H) : ∀ i, i < cnt 17 → va_at D vwCl (adF b sb ge s3 s4 17 i, wcell cT (adF b sb ge s3 s4) M0 0 17 i) H := by
  intro i hi
  match i, hi with
  | 0, _ => exact hB.mem (k := 17) rfl
  | 1, _ => exact hB.mem (k := 32) rfl
  | 2, _ => exact hB.mem (k := 47) rfl
  | 3, _ => exact hB.mem (k := 62) rfl
  | i + 4, h => exact absurd h (by show ¬ i + 4 < 4; omega)
set_option maxHeartbeats 4000000 in
set_option maxRecDepth 20000 in
theorem w_18 (hB : Bw D b (esZ cT b) H) : ∀ i, i < cnt 18 → va_at D vwCl (adF b sb ge s3 s4 18 i, wcell cT (adF b sb ge s3 s4) M0 0 18 i) H := by
  intro i hi
  match i, hi with
  | 0, _ => exact at_O (ci := 0) (g := 18) (i := 0) (M := M0) (ad := adF b sb ge s3 s4) (L := [.ref (b + 114), .int 0, .int 0, .int 0]) (fs := [some (19, some 0), none, none, none]) (hB.mem (k := 113) rfl) rfl (fun k hk => by match k, hk with
    | 0, _ => rfl
    | 1, _ => rfl
    | 2, _ => rfl
    | 3, _ => rfl
    | k + 4, h => exact absurd h (by show ¬ k + 4 < 4; omega))
  | 1, _ => exact at_O (ci := 0) (g := 18) (i := 1) (M := M0) (ad := adF b sb ge s3 s4) (L := [.ref (b + 116), .int 0, .int 0, .int 0]) (fs := [some (19, some 0), none, none, none]) (hB.mem (k := 115) rfl) rfl (fun k hk => by match k, hk with
    | 0, _ => rfl
    | 1, _ => rfl
    | 2, _ => rfl
    | 3, _ => rfl
    | k + 4, h => exact absurd h (by show ¬ k + 4 < 4; omega))
  | 2, _ => exact at_O (ci := 0) (g := 18) (i := 2) (M := M0) (ad := adF b sb ge s3 s4) (L := [.ref (b + 118), .int 0, .int 0, .int 0]) (fs := [some (19, some 0), none, none, none]) (hB.mem (k := 117) rfl) rfl (fun k hk => by match k, hk with
    | 0, _ => rfl
    | 1, _ => rfl
    | 2, _ => rfl
    | 3, _ => rfl
    | k + 4, h => exact absurd h (by show ¬ k + 4 < 4; omega))
  | 3, _ => exact at_O (ci := 0) (g := 18) (i := 3) (M := M0) (ad := adF b sb ge s3 s4) (L := [.ref (b + 120), .int 0, .int 0, .int 0]) (fs := [some (19, some 0), none, none, none]) (hB.mem (k := 119) rfl) rfl (fun k hk => by match k, hk with
    | 0, _ => rfl
    | 1, _ => rfl
    | 2, _ => rfl
    | 3, _ => rfl
    | k + 4, h => exact absurd h (by show ¬ k + 4 < 4; omega))
  | 4, _ => exact at_O (ci := 0) (g := 18) (i := 4) (M := M0) (ad := adF b sb ge s3 s4) (L := [.ref (b + 122), .int 0, .int 0, .int 0]) (fs := [some (19, some 0), none, none, none]) (hB.mem (k := 121) rfl) rfl (fun k hk => by match k, hk with
    | 0, _ => rfl
    | 1, _ => rfl
    | 2, _ => rfl
    | 3, _ => rfl
    | k + 4, h => exact absurd h (by show ¬ k + 4 < 4; omega))
  | 5, _ => exact at_O (ci := 0) (g := 18) (i := 5) (M := M0) (ad := adF b sb ge s3 s4) (L := [.ref (b + 124), .int 0, .int 0, .int 0]) (fs := [some (19, some 0), none, none, none]) (hB.mem (k := 123) rfl) rfl (fun k hk => by match k, hk with
    | 0, _ => rfl
    | 1, _ => rfl
    | 2, _ => rfl
    | 3, _ => rfl
    | k + 4, h => exact absurd h (by show ¬ k + 4 < 4; omega))
  | i + 6, h => exact absurd h (by show ¬ i + 6 < 6; omega)
set_option maxHeartbeats 4000000 in
set_option maxRecDepth 20000 in
theorem w_19 (hB : Bw D b (esZ cT b) H) : ∀ i, i < cnt 19 → va_at D vwCl (adF b sb ge s3 s4 19 i, wcell cT (adF b sb ge s3 s4) M0 0 19 i) H := by
  intro i hi
  match i, hi with
  | 0, _ => exact hB.mem (k := 114) rfl
  | 1, _ => exact hB.mem (k := 116) rfl
  | 2, _ => exact hB.mem (k := 118) rfl
  | 3, _ => exact hB.mem (k := 120) rfl
  | 4, _ => exact hB.mem (k := 122) rfl
  | 5, _ => exact hB.mem (k := 124) rfl
  | i + 6, h => exact absurd h (by show ¬ i + 6 < 6; omega)
set_option maxHeartbeats 4000000 in
set_option maxRecDepth 20000 in
theorem w_20 (hB : Bw D b (esZ cT b) H) : ∀ i, i < cnt 20 → va_at D vwCl (adF b sb ge s3 s4 20 i, wcell cT (adF b sb ge s3 s4) M0 0 20 i) H := by
  intro i hi
  match i, hi with
  | 0, _ => exact at_O (ci := 2) (g := 20) (i := 0) (M := M0) (ad := adF b sb ge s3 s4) (L := [.ref (b + 65), .int 0, .ref (b + 66), .ref (b + 67), .int 0]) (fs := [some (21, some 0), none, some (22, some 0), some (23, some 0), none]) (hB.mem (k := 64) rfl) rfl (fun k hk => by match k, hk with
    | 0, _ => rfl
    | 1, _ => rfl
    | 2, _ => rfl
    | 3, _ => rfl
    | 4, _ => rfl
    | k + 5, h => exact absurd h (by show ¬ k + 5 < 5; omega))
  | 1, _ => exact at_O (ci := 2) (g := 20) (i := 1) (M := M0) (ad := adF b sb ge s3 s4) (L := [.ref (b + 126), .int 0, .ref (b + 127), .ref (b + 128), .int 0]) (fs := [some (21, some 0), none, some (22, some 0), some (23, some 0), none]) (hB.mem (k := 125) rfl) rfl (fun k hk => by match k, hk with
    | 0, _ => rfl
    | 1, _ => rfl
    | 2, _ => rfl
    | 3, _ => rfl
    | 4, _ => rfl
    | k + 5, h => exact absurd h (by show ¬ k + 5 < 5; omega))
  | 2, _ => exact at_O (ci := 2) (g := 20) (i := 2) (M := M0) (ad := adF b sb ge s3 s4) (L := [.ref (b + 130), .int 0, .ref (b + 131), .ref (b + 132), .int 0]) (fs := [some (21, some 0), none, some (22, some 0), some (23, some 0), none]) (hB.mem (k := 129) rfl) rfl (fun k hk => by match k, hk with
    | 0, _ => rfl
    | 1, _ => rfl
    | 2, _ => rfl
    | 3, _ => rfl
    | 4, _ => rfl
    | k + 5, h => exact absurd h (by show ¬ k + 5 < 5; omega))
  | 3, _ => exact at_O (ci := 2) (g := 20) (i := 3) (M := M0) (ad := adF b sb ge s3 s4) (L := [.ref (b + 134), .int 0, .ref (b + 135), .ref (b + 136), .int 0]) (fs := [some (21, some 0), none, some (22, some 0), some (23, some 0), none]) (hB.mem (k := 133) rfl) rfl (fun k hk => by match k, hk with
    | 0, _ => rfl
    | 1, _ => rfl
    | 2, _ => rfl
    | 3, _ => rfl
    | 4, _ => rfl
    | k + 5, h => exact absurd h (by show ¬ k + 5 < 5; omega))
  | i + 4, h => exact absurd h (by show ¬ i + 4 < 4; omega)
set_option maxHeartbeats 4000000 in
set_option maxRecDepth 20000 in
theorem w_21 (hB : Bw D b (esZ cT b) H) : ∀ i, i < cnt 21 → va_at D vwCl (adF b sb ge s3 s4 21 i, wcell cT (adF b sb ge s3 s4) M0 0 21 i) H := by
  intro i hi
  match i, hi with
  | 0, _ => exact hB.mem (k := 65) rfl
  | 1, _ => exact hB.mem (k := 126) rfl
  | 2, _ => exact hB.mem (k := 130) rfl
  | 3, _ => exact hB.mem (k := 134) rfl
  | i + 4, h => exact absurd h (by show ¬ i + 4 < 4; omega)
set_option maxHeartbeats 4000000 in
set_option maxRecDepth 20000 in
theorem w_22 (hB : Bw D b (esZ cT b) H) : ∀ i, i < cnt 22 → va_at D vwCl (adF b sb ge s3 s4 22 i, wcell cT (adF b sb ge s3 s4) M0 0 22 i) H := by
  intro i hi
  match i, hi with
  | 0, _ => exact hB.mem (k := 66) rfl
  | 1, _ => exact hB.mem (k := 127) rfl
  | 2, _ => exact hB.mem (k := 131) rfl
  | 3, _ => exact hB.mem (k := 135) rfl
  | i + 4, h => exact absurd h (by show ¬ i + 4 < 4; omega)
set_option maxHeartbeats 4000000 in
set_option maxRecDepth 20000 in
theorem w_23 (hB : Bw D b (esZ cT b) H) : ∀ i, i < cnt 23 → va_at D vwCl (adF b sb ge s3 s4 23 i, wcell cT (adF b sb ge s3 s4) M0 0 23 i) H := by
  intro i hi
  match i, hi with
  | 0, _ => exact hB.mem (k := 67) rfl
  | 1, _ => exact hB.mem (k := 128) rfl
  | 2, _ => exact hB.mem (k := 132) rfl
  | 3, _ => exact hB.mem (k := 136) rfl
  | i + 4, h => exact absurd h (by show ¬ i + 4 < 4; omega)
set_option maxHeartbeats 4000000 in
set_option maxRecDepth 20000 in
theorem w_24 (hB : Bw D b (esZ cT b) H) : ∀ i, i < cnt 24 → va_at D vwCl (adF b sb ge s3 s4 24 i, wcell cT (adF b sb ge s3 s4) M0 0 24 i) H := by
  intro i hi
  match i, hi with
  | 0, _ => exact at_O (ci := 4) (g := 24) (i := 0) (M := M0) (ad := adF b sb ge s3 s4) (L := [.ref (b + 70), .ref (b + 71), .ref (b + 108), .ref (b + 109), .ref (b + 110)]) (fs := [some (25, some 0), some (26, some 0), some (28, some 0), some (29, some 0), some (30, some 0)]) (hB.mem (k := 69) rfl) rfl (fun k hk => by match k, hk with
    | 0, _ => rfl
    | 1, _ => rfl
    | 2, _ => rfl
    | 3, _ => rfl
    | 4, _ => rfl
    | k + 5, h => exact absurd h (by show ¬ k + 5 < 5; omega))
  | i + 1, h => exact absurd h (by show ¬ i + 1 < 1; omega)
set_option maxHeartbeats 4000000 in
set_option maxRecDepth 20000 in
theorem w_25 (hB : Bw D b (esZ cT b) H) : ∀ i, i < cnt 25 → va_at D vwCl (adF b sb ge s3 s4 25 i, wcell cT (adF b sb ge s3 s4) M0 0 25 i) H := by
  intro i hi
  match i, hi with
  | 0, _ => exact at_O (ci := 3) (g := 25) (i := 0) (M := M0) (ad := adF b sb ge s3 s4) (L := [.int 0, .int 0, .int 0, .int 0, .int 0, .int 0, .int 0, .int 0, .int 0, .int 0]) (fs := [none, none, none, none, none, none, none, none, none, none]) (hB.mem (k := 70) rfl) rfl (fun k hk => by match k, hk with
    | 0, _ => rfl
    | 1, _ => rfl
    | 2, _ => rfl
    | 3, _ => rfl
    | 4, _ => rfl
    | 5, _ => rfl
    | 6, _ => rfl
    | 7, _ => rfl
    | 8, _ => rfl
    | 9, _ => rfl
    | k + 10, h => exact absurd h (by show ¬ k + 10 < 10; omega))
  | i + 1, h => exact absurd h (by show ¬ i + 1 < 1; omega)
set_option maxHeartbeats 4000000 in
set_option maxRecDepth 20000 in
theorem w_26 (hB : Bw D b (esZ cT b) H) : ∀ i, i < cnt 26 → va_at D vwCl (adF b sb ge s3 s4 26 i, wcell cT (adF b sb ge s3 s4) M0 0 26 i) H := by
  intro i hi
  match i, hi with
  | 0, _ => exact at_Q (f := fun i => if i < 36 then some (b + 71 + 1 + i) else none) (hB.mem (k := 71) rfl) (fun j hj => (if_pos hj).trans (congrArg some (by match j, hj with
      | 0, _ => rfl
      | 1, _ => rfl
      | 2, _ => rfl
      | 3, _ => rfl
      | 4, _ => rfl
      | 5, _ => rfl
      | 6, _ => rfl
      | 7, _ => rfl
      | 8, _ => rfl
      | 9, _ => rfl
      | 10, _ => rfl
      | 11, _ => rfl
      | 12, _ => rfl
      | 13, _ => rfl
      | 14, _ => rfl
      | 15, _ => rfl
      | 16, _ => rfl
      | 17, _ => rfl
      | 18, _ => rfl
      | 19, _ => rfl
      | 20, _ => rfl
      | 21, _ => rfl
      | 22, _ => rfl
      | 23, _ => rfl
      | 24, _ => rfl
      | 25, _ => rfl
      | 26, _ => rfl
      | 27, _ => rfl
      | 28, _ => rfl
      | 29, _ => rfl
      | 30, _ => rfl
      | 31, _ => rfl
      | 32, _ => rfl
      | 33, _ => rfl
      | 34, _ => rfl
      | 35, _ => rfl
      | j + 36, h => exact absurd h (by omega))))
  | i + 1, h => exact absurd h (by show ¬ i + 1 < 1; omega)
set_option maxHeartbeats 4000000 in
set_option maxRecDepth 20000 in
theorem w_27 (hB : Bw D b (esZ cT b) H) : ∀ i, i < cnt 27 → va_at D vwCl (adF b sb ge s3 s4 27 i, wcell cT (adF b sb ge s3 s4) M0 0 27 i) H := by
  intro i hi
  match i, hi with
  | 0, _ => exact hB.mem (k := 72) rfl
  | 1, _ => exact hB.mem (k := 73) rfl
  | 2, _ => exact hB.mem (k := 74) rfl
  | 3, _ => exact hB.mem (k := 75) rfl
  | 4, _ => exact hB.mem (k := 76) rfl
  | 5, _ => exact hB.mem (k := 77) rfl
  | 6, _ => exact hB.mem (k := 78) rfl
  | 7, _ => exact hB.mem (k := 79) rfl
  | 8, _ => exact hB.mem (k := 80) rfl
  | 9, _ => exact hB.mem (k := 81) rfl
  | 10, _ => exact hB.mem (k := 82) rfl
  | 11, _ => exact hB.mem (k := 83) rfl
  | 12, _ => exact hB.mem (k := 84) rfl
  | 13, _ => exact hB.mem (k := 85) rfl
  | 14, _ => exact hB.mem (k := 86) rfl
  | 15, _ => exact hB.mem (k := 87) rfl
  | 16, _ => exact hB.mem (k := 88) rfl
  | 17, _ => exact hB.mem (k := 89) rfl
  | 18, _ => exact hB.mem (k := 90) rfl
  | 19, _ => exact hB.mem (k := 91) rfl
  | 20, _ => exact hB.mem (k := 92) rfl
  | 21, _ => exact hB.mem (k := 93) rfl
  | 22, _ => exact hB.mem (k := 94) rfl
  | 23, _ => exact hB.mem (k := 95) rfl
  | 24, _ => exact hB.mem (k := 96) rfl
  | 25, _ => exact hB.mem (k := 97) rfl
  | 26, _ => exact hB.mem (k := 98) rfl
  | 27, _ => exact hB.mem (k := 99) rfl
  | 28, _ => exact hB.mem (k := 100) rfl
  | 29, _ => exact hB.mem (k := 101) rfl
  | 30, _ => exact hB.mem (k := 102) rfl
  | 31, _ => exact hB.mem (k := 103) rfl
  | 32, _ => exact hB.mem (k := 104) rfl
  | 33, _ => exact hB.mem (k := 105) rfl
  | 34, _ => exact hB.mem (k := 106) rfl
  | 35, _ => exact hB.mem (k := 107) rfl
  | i + 36, h => exact absurd h (by show ¬ i + 36 < 36; omega)
set_option maxHeartbeats 4000000 in
set_option maxRecDepth 20000 in
theorem w_28 (hB : Bw D b (esZ cT b) H) : ∀ i, i < cnt 28 → va_at D vwCl (adF b sb ge s3 s4 28 i, wcell cT (adF b sb ge s3 s4) M0 0 28 i) H := by
  intro i hi
  match i, hi with
  | 0, _ => exact hB.mem (k := 108) rfl
  | i + 1, h => exact absurd h (by show ¬ i + 1 < 1; omega)
set_option maxHeartbeats 4000000 in
set_option maxRecDepth 20000 in
theorem w_29 (hB : Bw D b (esZ cT b) H) : ∀ i, i < cnt 29 → va_at D vwCl (adF b sb ge s3 s4 29 i, wcell cT (adF b sb ge s3 s4) M0 0 29 i) H := by
  intro i hi
  match i, hi with
  | 0, _ => exact hB.mem (k := 109) rfl
  | i + 1, h => exact absurd h (by show ¬ i + 1 < 1; omega)
set_option maxHeartbeats 4000000 in
set_option maxRecDepth 20000 in
theorem w_30 (hB : Bw D b (esZ cT b) H) : ∀ i, i < cnt 30 → va_at D vwCl (adF b sb ge s3 s4 30 i, wcell cT (adF b sb ge s3 s4) M0 0 30 i) H := by
  intro i hi
  match i, hi with
  | 0, _ => exact hB.mem (k := 110) rfl
  | i + 1, h => exact absurd h (by show ¬ i + 1 < 1; omega)
set_option maxHeartbeats 4000000 in
set_option maxRecDepth 20000 in
theorem w_31 (hB : Bw D b (esZ cT b) H) : ∀ i, i < cnt 31 → va_at D vwCl (adF b sb ge s3 s4 31 i, wcell cT (adF b sb ge s3 s4) M0 0 31 i) H := by
  intro i hi
  match i, hi with
  | 0, _ => exact at_Q (hB.mem (k := 63) rfl) (fun j hj => by match j, hj with
    | 0, _ => rfl
    | 1, _ => rfl
    | 2, _ => rfl
    | 3, _ => rfl
    | 4, _ => rfl
    | 5, _ => rfl
    | j + 6, h => exact absurd h (by omega))
  | i + 1, h => exact absurd h (by show ¬ i + 1 < 1; omega)
set_option maxHeartbeats 4000000 in
set_option maxRecDepth 20000 in
theorem w_32 (hB : Bw D b (esZ cT b) H) : ∀ i, i < cnt 32 → va_at D vwCl (adF b sb ge s3 s4 32 i, wcell cT (adF b sb ge s3 s4) M0 0 32 i) H := by
  intro i hi
  match i, hi with
  | 0, _ => exact at_Q (hB.mem (k := 68) rfl) (fun j hj => by match j, hj with
    | 0, _ => rfl
    | 1, _ => rfl
    | 2, _ => rfl
    | j + 3, h => exact absurd h (by omega))
  | i + 1, h => exact absurd h (by show ¬ i + 1 < 1; omega)
set_option maxHeartbeats 4000000 in
set_option maxRecDepth 20000 in
theorem w_33 (hB : Bw D b (esZ cT b) H) : ∀ i, i < cnt 33 → va_at D vwCl (adF b sb ge s3 s4 33 i, wcell cT (adF b sb ge s3 s4) M0 0 33 i) H := by
  intro i hi
  match i, hi with
  | 0, _ => exact hB.mem (k := 111) rfl
  | i + 1, h => exact absurd h (by show ¬ i + 1 < 1; omega)
set_option maxHeartbeats 4000000 in
set_option maxRecDepth 20000 in
theorem w_34 (hB : Bw D b (esZ cT b) H) : ∀ i, i < cnt 34 → va_at D vwCl (adF b sb ge s3 s4 34 i, wcell cT (adF b sb ge s3 s4) M0 0 34 i) H := by
  intro i hi
  match i, hi with
  | 0, _ => exact hB.mem (k := 112) rfl
  | i + 1, h => exact absurd h (by show ¬ i + 1 < 1; omega)
set_option maxHeartbeats 4000000 in
set_option maxRecDepth 20000 in
theorem w_40 (hB : Bw D b (esZ cT b) H) : ∀ i, i < cnt 40 → va_at D vwCl (adF b sb ge s3 s4 40 i, wcell cT (adF b sb ge s3 s4) M0 0 40 i) H := by
  intro i hi
  match i, hi with
  | 0, _ => exact at_O (ci := 7) (g := 40) (i := 0) (M := M0) (ad := adF b sb ge s3 s4) (L := [.int 0, .int 0, .int 0, .int (-1), .int 0, .int 0, .int 0, .int 0, .ref (b + 138), .ref (b + 139), .ref (b + 140), .ref (b + 141), .ref (b + 142), .ref (b + 143), .ref (b + 144), .ref (b + 145), .ref (b + 146), .ref (b + 147), .ref (b + 148), .ref (b + 149), .ref (b + 150), .ref (b + 159), .ref (b + 168), .ref (b + 175), .ref (b + 182), .ref (b + 191), .int 0, .ref (b + 200), .ref (b + 201), .int 0, .int 0, .int 0, .int 0, .ref (b + 208), .ref (b + 209), .ref (b + 210), .ref (b + 211), .ref (b + 215), .ref (b + 216), .ref (b + 217), .ref (b + 218), .ref (b + 219), .ref (b + 220), .ref (b + 221), .ref (b + 222), .ref (b + 229), .int 0, .int 0]) (fs := [none, none, none, none, none, none, none, none, some (41, some 0), some (42, some 0), some (43, some 0), some (44, some 0), some (45, some 0), some (46, some 0), some (47, some 0), some (48, some 0), some (49, some 0), some (50, some 0), some (51, some 0), some (52, some 0), some (53, some 0), some (55, some 0), some (57, some 0), some (59, some 0), some (61, some 0), some (63, some 0), none, some (65, some 0), some (66, some 0), none, none, none, none, some (68, some 0), some (69, some 0), some (70, some 0), some (71, some 0), some (73, some 0), some (74, some 0), some (75, some 0), some (76, some 0), some (77, some 0), some (78, some 0), some (79, some 0), some (80, some 0), some (82, some 0), none, none]) (hB.mem (k := 137) rfl) rfl (fun k hk => by match k, hk with
    | 0, _ => rfl
    | 1, _ => rfl
    | 2, _ => rfl
    | 3, _ => rfl
    | 4, _ => rfl
    | 5, _ => rfl
    | 6, _ => rfl
    | 7, _ => rfl
    | 8, _ => rfl
    | 9, _ => rfl
    | 10, _ => rfl
    | 11, _ => rfl
    | 12, _ => rfl
    | 13, _ => rfl
    | 14, _ => rfl
    | 15, _ => rfl
    | 16, _ => rfl
    | 17, _ => rfl
    | 18, _ => rfl
    | 19, _ => rfl
    | 20, _ => rfl
    | 21, _ => rfl
    | 22, _ => rfl
    | 23, _ => rfl
    | 24, _ => rfl
    | 25, _ => rfl
    | 26, _ => rfl
    | 27, _ => rfl
    | 28, _ => rfl
    | 29, _ => rfl
    | 30, _ => rfl
    | 31, _ => rfl
    | 32, _ => rfl
    | 33, _ => rfl
    | 34, _ => rfl
    | 35, _ => rfl
    | 36, _ => rfl
    | 37, _ => rfl
    | 38, _ => rfl
    | 39, _ => rfl
    | 40, _ => rfl
    | 41, _ => rfl
    | 42, _ => rfl
    | 43, _ => rfl
    | 44, _ => rfl
    | 45, _ => rfl
    | 46, _ => rfl
    | 47, _ => rfl
    | k + 48, h => exact absurd h (by show ¬ k + 48 < 48; omega))
  | i + 1, h => exact absurd h (by show ¬ i + 1 < 1; omega)
set_option maxHeartbeats 4000000 in
set_option maxRecDepth 20000 in
theorem w_41 (hB : Bw D b (esZ cT b) H) : ∀ i, i < cnt 41 → va_at D vwCl (adF b sb ge s3 s4 41 i, wcell cT (adF b sb ge s3 s4) M0 0 41 i) H := by
  intro i hi
  match i, hi with
  | 0, _ => exact hB.mem (k := 138) rfl
  | i + 1, h => exact absurd h (by show ¬ i + 1 < 1; omega)
set_option maxHeartbeats 4000000 in
set_option maxRecDepth 20000 in
theorem w_42 (hB : Bw D b (esZ cT b) H) : ∀ i, i < cnt 42 → va_at D vwCl (adF b sb ge s3 s4 42 i, wcell cT (adF b sb ge s3 s4) M0 0 42 i) H := by
  intro i hi
  match i, hi with
  | 0, _ => exact hB.mem (k := 139) rfl
  | i + 1, h => exact absurd h (by show ¬ i + 1 < 1; omega)
set_option maxHeartbeats 4000000 in
set_option maxRecDepth 20000 in
theorem w_43 (hB : Bw D b (esZ cT b) H) : ∀ i, i < cnt 43 → va_at D vwCl (adF b sb ge s3 s4 43 i, wcell cT (adF b sb ge s3 s4) M0 0 43 i) H := by
  intro i hi
  match i, hi with
  | 0, _ => exact hB.mem (k := 140) rfl
  | i + 1, h => exact absurd h (by show ¬ i + 1 < 1; omega)
set_option maxHeartbeats 4000000 in
set_option maxRecDepth 20000 in
theorem w_44 (hB : Bw D b (esZ cT b) H) : ∀ i, i < cnt 44 → va_at D vwCl (adF b sb ge s3 s4 44 i, wcell cT (adF b sb ge s3 s4) M0 0 44 i) H := by
  intro i hi
  match i, hi with
  | 0, _ => exact at_I (hB.mem (k := 141) rfl) (fun j hj => by match j, hj with
    | 0, _ => rfl
    | 1, _ => rfl
    | 2, _ => rfl
    | 3, _ => rfl
    | j + 4, h => exact absurd h (by omega))
  | i + 1, h => exact absurd h (by show ¬ i + 1 < 1; omega)
set_option maxHeartbeats 4000000 in
set_option maxRecDepth 20000 in
theorem w_45 (hB : Bw D b (esZ cT b) H) : ∀ i, i < cnt 45 → va_at D vwCl (adF b sb ge s3 s4 45 i, wcell cT (adF b sb ge s3 s4) M0 0 45 i) H := by
  intro i hi
  match i, hi with
  | 0, _ => exact hB.mem (k := 142) rfl
  | i + 1, h => exact absurd h (by show ¬ i + 1 < 1; omega)
set_option maxHeartbeats 4000000 in
set_option maxRecDepth 20000 in
theorem w_46 (hB : Bw D b (esZ cT b) H) : ∀ i, i < cnt 46 → va_at D vwCl (adF b sb ge s3 s4 46 i, wcell cT (adF b sb ge s3 s4) M0 0 46 i) H := by
  intro i hi
  match i, hi with
  | 0, _ => exact hB.mem (k := 143) rfl
  | i + 1, h => exact absurd h (by show ¬ i + 1 < 1; omega)
set_option maxHeartbeats 4000000 in
set_option maxRecDepth 20000 in
theorem w_47 (hB : Bw D b (esZ cT b) H) : ∀ i, i < cnt 47 → va_at D vwCl (adF b sb ge s3 s4 47 i, wcell cT (adF b sb ge s3 s4) M0 0 47 i) H := by
  intro i hi
  match i, hi with
  | 0, _ => exact hB.mem (k := 144) rfl
  | i + 1, h => exact absurd h (by show ¬ i + 1 < 1; omega)
set_option maxHeartbeats 4000000 in
set_option maxRecDepth 20000 in
theorem w_48 (hB : Bw D b (esZ cT b) H) : ∀ i, i < cnt 48 → va_at D vwCl (adF b sb ge s3 s4 48 i, wcell cT (adF b sb ge s3 s4) M0 0 48 i) H := by
  intro i hi
  match i, hi with
  | 0, _ => exact hB.mem (k := 145) rfl
  | i + 1, h => exact absurd h (by show ¬ i + 1 < 1; omega)
set_option maxHeartbeats 4000000 in
set_option maxRecDepth 20000 in
theorem w_49 (hB : Bw D b (esZ cT b) H) : ∀ i, i < cnt 49 → va_at D vwCl (adF b sb ge s3 s4 49 i, wcell cT (adF b sb ge s3 s4) M0 0 49 i) H := by
  intro i hi
  match i, hi with
  | 0, _ => exact hB.mem (k := 146) rfl
  | i + 1, h => exact absurd h (by show ¬ i + 1 < 1; omega)
set_option maxHeartbeats 4000000 in
set_option maxRecDepth 20000 in
theorem w_50 (hB : Bw D b (esZ cT b) H) : ∀ i, i < cnt 50 → va_at D vwCl (adF b sb ge s3 s4 50 i, wcell cT (adF b sb ge s3 s4) M0 0 50 i) H := by
  intro i hi
  match i, hi with
  | 0, _ => exact hB.mem (k := 147) rfl
  | i + 1, h => exact absurd h (by show ¬ i + 1 < 1; omega)
set_option maxHeartbeats 4000000 in
set_option maxRecDepth 20000 in
theorem w_51 (hB : Bw D b (esZ cT b) H) : ∀ i, i < cnt 51 → va_at D vwCl (adF b sb ge s3 s4 51 i, wcell cT (adF b sb ge s3 s4) M0 0 51 i) H := by
  intro i hi
  match i, hi with
  | 0, _ => exact hB.mem (k := 148) rfl
  | i + 1, h => exact absurd h (by show ¬ i + 1 < 1; omega)
set_option maxHeartbeats 4000000 in
set_option maxRecDepth 20000 in
theorem w_52 (hB : Bw D b (esZ cT b) H) : ∀ i, i < cnt 52 → va_at D vwCl (adF b sb ge s3 s4 52 i, wcell cT (adF b sb ge s3 s4) M0 0 52 i) H := by
  intro i hi
  match i, hi with
  | 0, _ => exact at_I (hB.mem (k := 149) rfl) (fun j hj => by match j, hj with
    | 0, _ => rfl
    | 1, _ => rfl
    | 2, _ => rfl
    | 3, _ => rfl
    | 4, _ => rfl
    | 5, _ => rfl
    | 6, _ => rfl
    | 7, _ => rfl
    | 8, _ => rfl
    | 9, _ => rfl
    | 10, _ => rfl
    | 11, _ => rfl
    | 12, _ => rfl
    | 13, _ => rfl
    | 14, _ => rfl
    | 15, _ => rfl
    | 16, _ => rfl
    | 17, _ => rfl
    | 18, _ => rfl
    | 19, _ => rfl
    | 20, _ => rfl
    | 21, _ => rfl
    | 22, _ => rfl
    | 23, _ => rfl
    | j + 24, h => exact absurd h (by omega))
  | i + 1, h => exact absurd h (by show ¬ i + 1 < 1; omega)
set_option maxHeartbeats 4000000 in
set_option maxRecDepth 20000 in
theorem w_53 (hB : Bw D b (esZ cT b) H) : ∀ i, i < cnt 53 → va_at D vwCl (adF b sb ge s3 s4 53 i, wcell cT (adF b sb ge s3 s4) M0 0 53 i) H := by
  intro i hi
  match i, hi with
  | 0, _ => exact at_Q (f := fun i => if i < 8 then some (b + 150 + 1 + i) else none) (hB.mem (k := 150) rfl) (fun j hj => (if_pos hj).trans (congrArg some (by match j, hj with
      | 0, _ => rfl
      | 1, _ => rfl
      | 2, _ => rfl
      | 3, _ => rfl
      | 4, _ => rfl
      | 5, _ => rfl
      | 6, _ => rfl
      | 7, _ => rfl
      | j + 8, h => exact absurd h (by omega))))
  | i + 1, h => exact absurd h (by show ¬ i + 1 < 1; omega)
set_option maxHeartbeats 4000000 in
set_option maxRecDepth 20000 in
theorem w_54 (hB : Bw D b (esZ cT b) H) : ∀ i, i < cnt 54 → va_at D vwCl (adF b sb ge s3 s4 54 i, wcell cT (adF b sb ge s3 s4) M0 0 54 i) H := by
  intro i hi
  match i, hi with
  | 0, _ => exact hB.mem (k := 151) rfl
  | 1, _ => exact hB.mem (k := 152) rfl
  | 2, _ => exact hB.mem (k := 153) rfl
  | 3, _ => exact hB.mem (k := 154) rfl
  | 4, _ => exact hB.mem (k := 155) rfl
  | 5, _ => exact hB.mem (k := 156) rfl
  | 6, _ => exact hB.mem (k := 157) rfl
  | 7, _ => exact hB.mem (k := 158) rfl
  | i + 8, h => exact absurd h (by show ¬ i + 8 < 8; omega)
set_option maxHeartbeats 4000000 in
set_option maxRecDepth 20000 in
theorem w_55 (hB : Bw D b (esZ cT b) H) : ∀ i, i < cnt 55 → va_at D vwCl (adF b sb ge s3 s4 55 i, wcell cT (adF b sb ge s3 s4) M0 0 55 i) H := by
  intro i hi
  match i, hi with
  | 0, _ => exact at_Q (f := fun i => if i < 8 then some (b + 159 + 1 + i) else none) (hB.mem (k := 159) rfl) (fun j hj => (if_pos hj).trans (congrArg some (by match j, hj with
      | 0, _ => rfl
      | 1, _ => rfl
      | 2, _ => rfl
      | 3, _ => rfl
      | 4, _ => rfl
      | 5, _ => rfl
      | 6, _ => rfl
      | 7, _ => rfl
      | j + 8, h => exact absurd h (by omega))))
  | i + 1, h => exact absurd h (by show ¬ i + 1 < 1; omega)
set_option maxHeartbeats 4000000 in
set_option maxRecDepth 20000 in
theorem w_56 (hB : Bw D b (esZ cT b) H) : ∀ i, i < cnt 56 → va_at D vwCl (adF b sb ge s3 s4 56 i, wcell cT (adF b sb ge s3 s4) M0 0 56 i) H := by
  intro i hi
  match i, hi with
  | 0, _ => exact hB.mem (k := 160) rfl
  | 1, _ => exact hB.mem (k := 161) rfl
  | 2, _ => exact hB.mem (k := 162) rfl
  | 3, _ => exact hB.mem (k := 163) rfl
  | 4, _ => exact hB.mem (k := 164) rfl
  | 5, _ => exact hB.mem (k := 165) rfl
  | 6, _ => exact hB.mem (k := 166) rfl
  | 7, _ => exact hB.mem (k := 167) rfl
  | i + 8, h => exact absurd h (by show ¬ i + 8 < 8; omega)
set_option maxHeartbeats 4000000 in
set_option maxRecDepth 20000 in
theorem w_57 (hB : Bw D b (esZ cT b) H) : ∀ i, i < cnt 57 → va_at D vwCl (adF b sb ge s3 s4 57 i, wcell cT (adF b sb ge s3 s4) M0 0 57 i) H := by
  intro i hi
  match i, hi with
  | 0, _ => exact at_Q (f := fun i => if i < 6 then some (b + 168 + 1 + i) else none) (hB.mem (k := 168) rfl) (fun j hj => (if_pos hj).trans (congrArg some (by match j, hj with
      | 0, _ => rfl
      | 1, _ => rfl
      | 2, _ => rfl
      | 3, _ => rfl
      | 4, _ => rfl
      | 5, _ => rfl
      | j + 6, h => exact absurd h (by omega))))
  | i + 1, h => exact absurd h (by show ¬ i + 1 < 1; omega)
set_option maxHeartbeats 4000000 in
set_option maxRecDepth 20000 in
theorem w_58 (hB : Bw D b (esZ cT b) H) : ∀ i, i < cnt 58 → va_at D vwCl (adF b sb ge s3 s4 58 i, wcell cT (adF b sb ge s3 s4) M0 0 58 i) H := by
  intro i hi
  match i, hi with
  | 0, _ => exact hB.mem (k := 169) rfl
  | 1, _ => exact hB.mem (k := 170) rfl
  | 2, _ => exact hB.mem (k := 171) rfl
  | 3, _ => exact hB.mem (k := 172) rfl
  | 4, _ => exact hB.mem (k := 173) rfl
  | 5, _ => exact hB.mem (k := 174) rfl
  | i + 6, h => exact absurd h (by show ¬ i + 6 < 6; omega)
set_option maxHeartbeats 4000000 in
set_option maxRecDepth 20000 in
theorem w_59 (hB : Bw D b (esZ cT b) H) : ∀ i, i < cnt 59 → va_at D vwCl (adF b sb ge s3 s4 59 i, wcell cT (adF b sb ge s3 s4) M0 0 59 i) H := by
  intro i hi
  match i, hi with
  | 0, _ => exact at_Q (f := fun i => if i < 6 then some (b + 175 + 1 + i) else none) (hB.mem (k := 175) rfl) (fun j hj => (if_pos hj).trans (congrArg some (by match j, hj with
      | 0, _ => rfl
      | 1, _ => rfl
      | 2, _ => rfl
      | 3, _ => rfl
      | 4, _ => rfl
      | 5, _ => rfl
      | j + 6, h => exact absurd h (by omega))))
  | i + 1, h => exact absurd h (by show ¬ i + 1 < 1; omega)
set_option maxHeartbeats 4000000 in
set_option maxRecDepth 20000 in
theorem w_60 (hB : Bw D b (esZ cT b) H) : ∀ i, i < cnt 60 → va_at D vwCl (adF b sb ge s3 s4 60 i, wcell cT (adF b sb ge s3 s4) M0 0 60 i) H := by
  intro i hi
  match i, hi with
  | 0, _ => exact hB.mem (k := 176) rfl
  | 1, _ => exact hB.mem (k := 177) rfl
  | 2, _ => exact hB.mem (k := 178) rfl
  | 3, _ => exact hB.mem (k := 179) rfl
  | 4, _ => exact hB.mem (k := 180) rfl
  | 5, _ => exact hB.mem (k := 181) rfl
  | i + 6, h => exact absurd h (by show ¬ i + 6 < 6; omega)
set_option maxHeartbeats 4000000 in
set_option maxRecDepth 20000 in
theorem w_61 (hB : Bw D b (esZ cT b) H) : ∀ i, i < cnt 61 → va_at D vwCl (adF b sb ge s3 s4 61 i, wcell cT (adF b sb ge s3 s4) M0 0 61 i) H := by
  intro i hi
  match i, hi with
  | 0, _ => exact at_Q (f := fun i => if i < 8 then some (b + 182 + 1 + i) else none) (hB.mem (k := 182) rfl) (fun j hj => (if_pos hj).trans (congrArg some (by match j, hj with
      | 0, _ => rfl
      | 1, _ => rfl
      | 2, _ => rfl
      | 3, _ => rfl
      | 4, _ => rfl
      | 5, _ => rfl
      | 6, _ => rfl
      | 7, _ => rfl
      | j + 8, h => exact absurd h (by omega))))
  | i + 1, h => exact absurd h (by show ¬ i + 1 < 1; omega)
set_option maxHeartbeats 4000000 in
set_option maxRecDepth 20000 in
theorem w_62 (hB : Bw D b (esZ cT b) H) : ∀ i, i < cnt 62 → va_at D vwCl (adF b sb ge s3 s4 62 i, wcell cT (adF b sb ge s3 s4) M0 0 62 i) H := by
  intro i hi
  match i, hi with
  | 0, _ => exact hB.mem (k := 183) rfl
  | 1, _ => exact hB.mem (k := 184) rfl
  | 2, _ => exact hB.mem (k := 185) rfl
  | 3, _ => exact hB.mem (k := 186) rfl
  | 4, _ => exact hB.mem (k := 187) rfl
  | 5, _ => exact hB.mem (k := 188) rfl
  | 6, _ => exact hB.mem (k := 189) rfl
  | 7, _ => exact hB.mem (k := 190) rfl
  | i + 8, h => exact absurd h (by show ¬ i + 8 < 8; omega)
set_option maxHeartbeats 4000000 in
set_option maxRecDepth 20000 in
theorem w_63 (hB : Bw D b (esZ cT b) H) : ∀ i, i < cnt 63 → va_at D vwCl (adF b sb ge s3 s4 63 i, wcell cT (adF b sb ge s3 s4) M0 0 63 i) H := by
  intro i hi
  match i, hi with
  | 0, _ => exact at_Q (f := fun i => if i < 8 then some (b + 191 + 1 + i) else none) (hB.mem (k := 191) rfl) (fun j hj => (if_pos hj).trans (congrArg some (by match j, hj with
      | 0, _ => rfl
      | 1, _ => rfl
      | 2, _ => rfl
      | 3, _ => rfl
      | 4, _ => rfl
      | 5, _ => rfl
      | 6, _ => rfl
      | 7, _ => rfl
      | j + 8, h => exact absurd h (by omega))))
  | i + 1, h => exact absurd h (by show ¬ i + 1 < 1; omega)
set_option maxHeartbeats 4000000 in
set_option maxRecDepth 20000 in
theorem w_64 (hB : Bw D b (esZ cT b) H) : ∀ i, i < cnt 64 → va_at D vwCl (adF b sb ge s3 s4 64 i, wcell cT (adF b sb ge s3 s4) M0 0 64 i) H := by
  intro i hi
  match i, hi with
  | 0, _ => exact hB.mem (k := 192) rfl
  | 1, _ => exact hB.mem (k := 193) rfl
  | 2, _ => exact hB.mem (k := 194) rfl
  | 3, _ => exact hB.mem (k := 195) rfl
  | 4, _ => exact hB.mem (k := 196) rfl
  | 5, _ => exact hB.mem (k := 197) rfl
  | 6, _ => exact hB.mem (k := 198) rfl
  | 7, _ => exact hB.mem (k := 199) rfl
  | i + 8, h => exact absurd h (by show ¬ i + 8 < 8; omega)
set_option maxHeartbeats 4000000 in
set_option maxRecDepth 20000 in
theorem w_65 (hB : Bw D b (esZ cT b) H) : ∀ i, i < cnt 65 → va_at D vwCl (adF b sb ge s3 s4 65 i, wcell cT (adF b sb ge s3 s4) M0 0 65 i) H := by
  intro i hi
  match i, hi with
  | 0, _ => exact hB.mem (k := 200) rfl
  | i + 1, h => exact absurd h (by show ¬ i + 1 < 1; omega)
set_option maxHeartbeats 4000000 in
set_option maxRecDepth 20000 in
theorem w_66 (hB : Bw D b (esZ cT b) H) : ∀ i, i < cnt 66 → va_at D vwCl (adF b sb ge s3 s4 66 i, wcell cT (adF b sb ge s3 s4) M0 0 66 i) H := by
  intro i hi
  match i, hi with
  | 0, _ => exact at_Q (f := fun i => if i < 6 then some (b + 201 + 1 + i) else none) (hB.mem (k := 201) rfl) (fun j hj => (if_pos hj).trans (congrArg some (by match j, hj with
      | 0, _ => rfl
      | 1, _ => rfl
      | 2, _ => rfl
      | 3, _ => rfl
      | 4, _ => rfl
      | 5, _ => rfl
      | j + 6, h => exact absurd h (by omega))))
  | i + 1, h => exact absurd h (by show ¬ i + 1 < 1; omega)
set_option maxHeartbeats 4000000 in
set_option maxRecDepth 20000 in
theorem w_67 (hB : Bw D b (esZ cT b) H) : ∀ i, i < cnt 67 → va_at D vwCl (adF b sb ge s3 s4 67 i, wcell cT (adF b sb ge s3 s4) M0 0 67 i) H := by
  intro i hi
  match i, hi with
  | 0, _ => exact hB.mem (k := 202) rfl
  | 1, _ => exact hB.mem (k := 203) rfl
  | 2, _ => exact hB.mem (k := 204) rfl
  | 3, _ => exact hB.mem (k := 205) rfl
  | 4, _ => exact hB.mem (k := 206) rfl
  | 5, _ => exact hB.mem (k := 207) rfl
  | i + 6, h => exact absurd h (by show ¬ i + 6 < 6; omega)
set_option maxHeartbeats 4000000 in
set_option maxRecDepth 20000 in
theorem w_68 (hB : Bw D b (esZ cT b) H) : ∀ i, i < cnt 68 → va_at D vwCl (adF b sb ge s3 s4 68 i, wcell cT (adF b sb ge s3 s4) M0 0 68 i) H := by
  intro i hi
  match i, hi with
  | 0, _ => exact hB.mem (k := 208) rfl
  | i + 1, h => exact absurd h (by show ¬ i + 1 < 1; omega)
set_option maxHeartbeats 4000000 in
set_option maxRecDepth 20000 in
theorem w_69 (hB : Bw D b (esZ cT b) H) : ∀ i, i < cnt 69 → va_at D vwCl (adF b sb ge s3 s4 69 i, wcell cT (adF b sb ge s3 s4) M0 0 69 i) H := by
  intro i hi
  match i, hi with
  | 0, _ => exact at_I (hB.mem (k := 209) rfl) (fun j hj => by match j, hj with
    | 0, _ => rfl
    | 1, _ => rfl
    | 2, _ => rfl
    | 3, _ => rfl
    | 4, _ => rfl
    | 5, _ => rfl
    | 6, _ => rfl
    | 7, _ => rfl
    | j + 8, h => exact absurd h (by omega))
  | i + 1, h => exact absurd h (by show ¬ i + 1 < 1; omega)
set_option maxHeartbeats 4000000 in
set_option maxRecDepth 20000 in
theorem w_70 (hB : Bw D b (esZ cT b) H) : ∀ i, i < cnt 70 → va_at D vwCl (adF b sb ge s3 s4 70 i, wcell cT (adF b sb ge s3 s4) M0 0 70 i) H := by
  intro i hi
  match i, hi with
  | 0, _ => exact hB.mem (k := 210) rfl
  | i + 1, h => exact absurd h (by show ¬ i + 1 < 1; omega)
set_option maxHeartbeats 4000000 in
set_option maxRecDepth 20000 in
theorem w_71 (hB : Bw D b (esZ cT b) H) : ∀ i, i < cnt 71 → va_at D vwCl (adF b sb ge s3 s4 71 i, wcell cT (adF b sb ge s3 s4) M0 0 71 i) H := by
  intro i hi
  match i, hi with
  | 0, _ => exact at_Q (f := fun i => if i < 3 then some (b + 211 + 1 + i) else none) (hB.mem (k := 211) rfl) (fun j hj => (if_pos hj).trans (congrArg some (by match j, hj with
      | 0, _ => rfl
      | 1, _ => rfl
      | 2, _ => rfl
      | j + 3, h => exact absurd h (by omega))))
  | i + 1, h => exact absurd h (by show ¬ i + 1 < 1; omega)
set_option maxHeartbeats 4000000 in
set_option maxRecDepth 20000 in
theorem w_72 (hB : Bw D b (esZ cT b) H) : ∀ i, i < cnt 72 → va_at D vwCl (adF b sb ge s3 s4 72 i, wcell cT (adF b sb ge s3 s4) M0 0 72 i) H := by
  intro i hi
  match i, hi with
  | 0, _ => exact hB.mem (k := 212) rfl
  | 1, _ => exact hB.mem (k := 213) rfl
  | 2, _ => exact hB.mem (k := 214) rfl
  | i + 3, h => exact absurd h (by show ¬ i + 3 < 3; omega)
set_option maxHeartbeats 4000000 in
set_option maxRecDepth 20000 in
theorem w_73 (hB : Bw D b (esZ cT b) H) : ∀ i, i < cnt 73 → va_at D vwCl (adF b sb ge s3 s4 73 i, wcell cT (adF b sb ge s3 s4) M0 0 73 i) H := by
  intro i hi
  match i, hi with
  | 0, _ => exact hB.mem (k := 215) rfl
  | i + 1, h => exact absurd h (by show ¬ i + 1 < 1; omega)
set_option maxHeartbeats 4000000 in
set_option maxRecDepth 20000 in
theorem w_74 (hB : Bw D b (esZ cT b) H) : ∀ i, i < cnt 74 → va_at D vwCl (adF b sb ge s3 s4 74 i, wcell cT (adF b sb ge s3 s4) M0 0 74 i) H := by
  intro i hi
  match i, hi with
  | 0, _ => exact hB.mem (k := 216) rfl
  | i + 1, h => exact absurd h (by show ¬ i + 1 < 1; omega)
set_option maxHeartbeats 4000000 in
set_option maxRecDepth 20000 in
theorem w_75 (hB : Bw D b (esZ cT b) H) : ∀ i, i < cnt 75 → va_at D vwCl (adF b sb ge s3 s4 75 i, wcell cT (adF b sb ge s3 s4) M0 0 75 i) H := by
  intro i hi
  match i, hi with
  | 0, _ => exact hB.mem (k := 217) rfl
  | i + 1, h => exact absurd h (by show ¬ i + 1 < 1; omega)
set_option maxHeartbeats 4000000 in
set_option maxRecDepth 20000 in
theorem w_76 (hB : Bw D b (esZ cT b) H) : ∀ i, i < cnt 76 → va_at D vwCl (adF b sb ge s3 s4 76 i, wcell cT (adF b sb ge s3 s4) M0 0 76 i) H := by
  intro i hi
  match i, hi with
  | 0, _ => exact hB.mem (k := 218) rfl
  | i + 1, h => exact absurd h (by show ¬ i + 1 < 1; omega)
set_option maxHeartbeats 4000000 in
set_option maxRecDepth 20000 in
theorem w_77 (hB : Bw D b (esZ cT b) H) : ∀ i, i < cnt 77 → va_at D vwCl (adF b sb ge s3 s4 77 i, wcell cT (adF b sb ge s3 s4) M0 0 77 i) H := by
  intro i hi
  match i, hi with
  | 0, _ => exact hB.mem (k := 219) rfl
  | i + 1, h => exact absurd h (by show ¬ i + 1 < 1; omega)
set_option maxHeartbeats 4000000 in
set_option maxRecDepth 20000 in
theorem w_78 (hB : Bw D b (esZ cT b) H) : ∀ i, i < cnt 78 → va_at D vwCl (adF b sb ge s3 s4 78 i, wcell cT (adF b sb ge s3 s4) M0 0 78 i) H := by
  intro i hi
  match i, hi with
  | 0, _ => exact hB.mem (k := 220) rfl
  | i + 1, h => exact absurd h (by show ¬ i + 1 < 1; omega)
set_option maxHeartbeats 4000000 in
set_option maxRecDepth 20000 in
theorem w_79 (hB : Bw D b (esZ cT b) H) : ∀ i, i < cnt 79 → va_at D vwCl (adF b sb ge s3 s4 79 i, wcell cT (adF b sb ge s3 s4) M0 0 79 i) H := by
  intro i hi
  match i, hi with
  | 0, _ => exact hB.mem (k := 221) rfl
  | i + 1, h => exact absurd h (by show ¬ i + 1 < 1; omega)
set_option maxHeartbeats 4000000 in
set_option maxRecDepth 20000 in
theorem w_80 (hB : Bw D b (esZ cT b) H) : ∀ i, i < cnt 80 → va_at D vwCl (adF b sb ge s3 s4 80 i, wcell cT (adF b sb ge s3 s4) M0 0 80 i) H := by
  intro i hi
  match i, hi with
  | 0, _ => exact at_Q (f := fun i => if i < 6 then some (b + 222 + 1 + i) else none) (hB.mem (k := 222) rfl) (fun j hj => (if_pos hj).trans (congrArg some (by match j, hj with
      | 0, _ => rfl
      | 1, _ => rfl
      | 2, _ => rfl
      | 3, _ => rfl
      | 4, _ => rfl
      | 5, _ => rfl
      | j + 6, h => exact absurd h (by omega))))
  | i + 1, h => exact absurd h (by show ¬ i + 1 < 1; omega)
set_option maxHeartbeats 4000000 in
set_option maxRecDepth 20000 in
theorem w_81 (hB : Bw D b (esZ cT b) H) : ∀ i, i < cnt 81 → va_at D vwCl (adF b sb ge s3 s4 81 i, wcell cT (adF b sb ge s3 s4) M0 0 81 i) H := by
  intro i hi
  match i, hi with
  | 0, _ => exact hB.mem (k := 223) rfl
  | 1, _ => exact hB.mem (k := 224) rfl
  | 2, _ => exact hB.mem (k := 225) rfl
  | 3, _ => exact hB.mem (k := 226) rfl
  | 4, _ => exact hB.mem (k := 227) rfl
  | 5, _ => exact hB.mem (k := 228) rfl
  | i + 6, h => exact absurd h (by show ¬ i + 6 < 6; omega)
set_option maxHeartbeats 4000000 in
set_option maxRecDepth 20000 in
theorem w_82 (hB : Bw D b (esZ cT b) H) : ∀ i, i < cnt 82 → va_at D vwCl (adF b sb ge s3 s4 82 i, wcell cT (adF b sb ge s3 s4) M0 0 82 i) H := by
  intro i hi
  match i, hi with
  | 0, _ => exact hB.mem (k := 229) rfl
  | i + 1, h => exact absurd h (by show ¬ i + 1 < 1; omega)
set_option maxHeartbeats 4000000 in
set_option maxRecDepth 20000 in
theorem w_83 (hB : Bw D b (esZ cT b) H) : ∀ i, i < cnt 83 → va_at D vwCl (adF b sb ge s3 s4 83 i, wcell cT (adF b sb ge s3 s4) M0 0 83 i) H := by
  intro i hi
  match i, hi with
  | 0, _ => exact hB.mem (k := 230) rfl
  | i + 1, h => exact absurd h (by show ¬ i + 1 < 1; omega)
theorem w_all (hB : Bw D b (esZ cT b) H) : ∀ g i, i < cnt g → va_at D vwCl (adF b sb ge s3 s4 g i, wcell cT (adF b sb ge s3 s4) M0 0 g i) H := by
  intro g i hi
  have hg := cnt_lt hi
  match g, hg, hi with
  | 0, _, hi => exact w_0 hB i hi
  | 1, _, hi => exact w_1 hB i hi
  | 2, _, hi => exact w_2 hB i hi
  | 3, _, hi => exact w_3 hB i hi
  | 4, _, hi => exact w_4 hB i hi
  | 5, _, hi => exact w_5 hB i hi
  | 6, _, hi => exact w_6 hB i hi
  | 7, _, hi => exact w_7 hB i hi
  | 8, _, hi => exact w_8 hB i hi
  | 9, _, hi => exact w_9 hB i hi
  | 10, _, hi => exact w_10 hB i hi
  | 11, _, hi => exact w_11 hB i hi
  | 12, _, hi => exact w_12 hB i hi
  | 13, _, hi => exact w_13 hB i hi
  | 14, _, hi => exact w_14 hB i hi
  | 15, _, hi => exact w_15 hB i hi
  | 16, _, hi => exact w_16 hB i hi
  | 17, _, hi => exact w_17 hB i hi
  | 18, _, hi => exact w_18 hB i hi
  | 19, _, hi => exact w_19 hB i hi
  | 20, _, hi => exact w_20 hB i hi
  | 21, _, hi => exact w_21 hB i hi
  | 22, _, hi => exact w_22 hB i hi
  | 23, _, hi => exact w_23 hB i hi
  | 24, _, hi => exact w_24 hB i hi
  | 25, _, hi => exact w_25 hB i hi
  | 26, _, hi => exact w_26 hB i hi
  | 27, _, hi => exact w_27 hB i hi
  | 28, _, hi => exact w_28 hB i hi
  | 29, _, hi => exact w_29 hB i hi
  | 30, _, hi => exact w_30 hB i hi
  | 31, _, hi => exact w_31 hB i hi
  | 32, _, hi => exact w_32 hB i hi
  | 33, _, hi => exact w_33 hB i hi
  | 34, _, hi => exact w_34 hB i hi
  | 35, _, hi => exact absurd hi (Nat.not_lt_zero _)
  | 36, _, hi => exact absurd hi (Nat.not_lt_zero _)
  | 37, _, hi => exact absurd hi (Nat.not_lt_zero _)
  | 38, _, hi => exact absurd hi (Nat.not_lt_zero _)
  | 39, _, hi => exact absurd hi (Nat.not_lt_zero _)
  | 40, _, hi => exact w_40 hB i hi
  | 41, _, hi => exact w_41 hB i hi
  | 42, _, hi => exact w_42 hB i hi
  | 43, _, hi => exact w_43 hB i hi
  | 44, _, hi => exact w_44 hB i hi
  | 45, _, hi => exact w_45 hB i hi
  | 46, _, hi => exact w_46 hB i hi
  | 47, _, hi => exact w_47 hB i hi
  | 48, _, hi => exact w_48 hB i hi
  | 49, _, hi => exact w_49 hB i hi
  | 50, _, hi => exact w_50 hB i hi
  | 51, _, hi => exact w_51 hB i hi
  | 52, _, hi => exact w_52 hB i hi
  | 53, _, hi => exact w_53 hB i hi
  | 54, _, hi => exact w_54 hB i hi
  | 55, _, hi => exact w_55 hB i hi
  | 56, _, hi => exact w_56 hB i hi
  | 57, _, hi => exact w_57 hB i hi
  | 58, _, hi => exact w_58 hB i hi
  | 59, _, hi => exact w_59 hB i hi
  | 60, _, hi => exact w_60 hB i hi
  | 61, _, hi => exact w_61 hB i hi
  | 62, _, hi => exact w_62 hB i hi
  | 63, _, hi => exact w_63 hB i hi
  | 64, _, hi => exact w_64 hB i hi
  | 65, _, hi => exact w_65 hB i hi
  | 66, _, hi => exact w_66 hB i hi
  | 67, _, hi => exact w_67 hB i hi
  | 68, _, hi => exact w_68 hB i hi
  | 69, _, hi => exact w_69 hB i hi
  | 70, _, hi => exact w_70 hB i hi
  | 71, _, hi => exact w_71 hB i hi
  | 72, _, hi => exact w_72 hB i hi
  | 73, _, hi => exact w_73 hB i hi
  | 74, _, hi => exact w_74 hB i hi
  | 75, _, hi => exact w_75 hB i hi
  | 76, _, hi => exact w_76 hB i hi
  | 77, _, hi => exact w_77 hB i hi
  | 78, _, hi => exact w_78 hB i hi
  | 79, _, hi => exact w_79 hB i hi
  | 80, _, hi => exact w_80 hB i hi
  | 81, _, hi => exact w_81 hB i hi
  | 82, _, hi => exact w_82 hB i hi
  | 83, _, hi => exact w_83 hB i hi
  | g + 84, h, _ => exact absurd h (by omega)
theorem w_P (hB : Bw D b (esZ cT b) H) (t : Nat) : va_P D vwCl (wsA cT (adF b sb ge s3 s4) t M0 0 none) H := by
  intro k q hk
  unfold wsA at hk
  rw [show wsT cT t none = [] from rfl, List.append_nil] at hk
  unfold wsP at hk
  rw [List.getElem?_map] at hk
  cases hq : PP[k]? with
  | none => rw [hq] at hk; cases hk
  | some z =>
    rw [hq] at hk
    cases hk
    exact w_all hB z.1 z.2 (of_mem_PP (List.mem_of_getElem? hq))
end Z
theorem pos_nd : (PP.map fun q => posN q.1 q.2).Nodup := by decide +kernel
theorem adF_lt {b sb ge s3 s4 g : Nat} (h : g < 84) (i : Nat) : adF b sb ge s3 s4 g i = b + posN g i := by
  unfold adF
  split
  · omega
  · omega
  · omega
  · omega
  · rfl
theorem w_D (cT : Nat → ClassId) (b sb ge s3 s4 t : Nat) (M : Mem) (O : Int64) : va_D (fun q => b ≤ q) (wsA cT (adF b sb ge s3 s4) t M O none) := by
  have key : ∀ (k : Nat) (x : Nat × va_E), (wsA cT (adF b sb ge s3 s4) t M O none)[k]? = some x → ∃ z, PP[k]? = some z ∧ x.1 = b + posN z.1 z.2 := by
    intro k x hk
    unfold wsA at hk
    rw [show wsT cT t none = [] from rfl, List.append_nil] at hk
    unfold wsP at hk
    rw [List.getElem?_map] at hk
    cases hq : PP[k]? with
    | none => rw [hq] at hk; cases hk
    | some z =>
      rw [hq] at hk
      cases hk
      exact ⟨z, rfl, adF_lt (cnt_lt (of_mem_PP (List.mem_of_getElem? hq))) _⟩
  refine ⟨fun i j x y hi hj hxy => ?_, fun k x hk => ?_⟩
  · obtain ⟨z, h1, h2⟩ := key i x hi
    obtain ⟨w, h3, h4⟩ := key j y hj
    have e : posN z.1 z.2 = posN w.1 w.2 := by omega
    have a1 : (PP.map fun q => posN q.1 q.2)[i]? = some (posN z.1 z.2) := by rw [List.getElem?_map, h1]; rfl
    have a2 : (PP.map fun q => posN q.1 q.2)[j]? = some (posN z.1 z.2) := by rw [List.getElem?_map, h3, e]; rfl
    obtain ⟨l1, g1⟩ := List.getElem?_eq_some_iff.mp a1
    obtain ⟨l2, g2⟩ := List.getElem?_eq_some_iff.mp a2
    exact (List.getElem_inj pos_nd).mp (g1.trans g2.symm)
  · obtain ⟨z, h1, h2⟩ := key k x hk
    show b ≤ x.1
    omega
theorem w_DD (cT : Nat → ClassId) (b sb ge s3 s4 : Nat) : DD cT (adF b sb ge s3 s4) := ⟨(w_D cT b sb ge s3 s4 0 _ 0).1, fun _ _ _ => trivial⟩
