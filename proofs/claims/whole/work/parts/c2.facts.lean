/-! What the Statement gives of the start. -/
theorem tW {args : Array Value} {s : State} (hts : ∀ w ∈ lw_tbl, w.before args s = true) {w : Cond} (p : Nat) (h : lw_tbl[p]? = some w) : w.before args s = true := hts w (List.mem_of_getElem? h)
theorem nF {args : Array Value} {s : State} (hg : (Jvm.Cond.and given_1 narrow_1).before args s = true) {c : Cond} (k : Nat) (h : (flatC (Jvm.Cond.and given_1 narrow_1))[k]? = some c) : c.before args s = true := flat_of_before _ hg _ (List.mem_of_getElem? h)
theorem gTb_in {w : Cond} (h : w ∈ gTb) : w ∈ lw_tbl := (List.mem_filter.mp h).1
theorem arrT {args : Array Value} {s : State} {ty : FieldType} (ho : ∀ C, ty ≠ .object C) (h : (Cond.arrayClass ty).before args s = true) : ∃ c : ClassId, ArrOfT s c ty ∧ va_RA s c ty := by
  obtain ⟨c, k, comp, h1, h2, h3⟩ := Cond.arrayClass_spec (args := args) (first := s) (o := none) (s := s) (idx := []) h
  refine ⟨c, fun N z => ⟨(fun q hq => by cases hq), k, h2, comp, h3⟩, ?_⟩
  cases ty
  all_goals first | exact absurd rfl (ho _) | exact h1
theorem arrQ {s : State} {C : String} (h : va_AO C s) : ∃ c : ClassId, ArrOfT s c (.object C) ∧ va_RA s c (.object C) := by
  obtain ⟨comp, c, k, h1, h2, h3, h4, h5⟩ := Cond.arrayOver_spec h
  exact ⟨c, fun N z => ⟨(fun q hq => by cases hq), k, h3, comp, h4⟩, k, comp, h3, h4, h1, h5⟩
theorem arrA {s : State} (h : AOA .int s) : ∃ c : ClassId, ArrOfT s c (.array .int) ∧ va_RA s c (.array .int) := by
  obtain ⟨comp, c, k, h1, h2, h3, h4, h5⟩ := AOA_spec h
  exact ⟨c, fun N z => ⟨(fun q hq => by cases hq), k, h3, comp, h4⟩, h5⟩
theorem nTb_at {args : Array Value} {s : State} (hts : ∀ w ∈ lw_tbl, w.before args s = true) : ∀ w ∈ nTb, va_Nw w s := by
  intro w hw
  obtain ⟨h1, h2⟩ := List.mem_filter.mp hw
  refine va_Nw.of ?_ (hts w h1)
  cases w <;> first | rfl | (simp [isNest] at h2; done)
theorem cTb_at {args : Array Value} {s : State} (hts : ∀ w ∈ lw_tbl, w.before args s = true) : ∀ w ∈ cTb, va_Nw w s := by
  intro w hw
  obtain ⟨h1, h2⟩ := List.mem_filter.mp hw
  refine va_Nw.of ?_ (hts w h1)
  cases w <;> first | rfl | (simp [isCast] at h2; done)
theorem start_Z {args : Array Value} {s : State} (hts : ∀ w ∈ lw_tbl, w.before args s = true) : BZ s :=
  ⟨nTb_at hts, tW hts (w := .arrayOver (.array .int)) 354 (by decide +kernel), va_AO.of (tW hts (w := .arrayOver (.object RX0)) 270 (by decide +kernel)), va_AO.of (tW hts (w := .arrayOver (.object RX2)) 303 (by decide +kernel))⟩
theorem start_K {args : Array Value} {s : State} (hts : ∀ w ∈ lw_tbl, w.before args s = true) : ∃ (D : va_G) (cT : Nat → ClassId), va_K D vwCl (tysT cT) s := by
  have hZ := start_Z hts
  have hg : ∀ w ∈ gTb, w.before args s = true := fun w h => hts w (gTb_in h)
  have h0 : ∀ c : Nat, ∃ q : ClassId × (Nat → Nat), ∀ r : vw_C, vwCl[c]? = some r → u_Kn s r.1 r.2.1 r.2.2 q.1 q.2 := by
    intro c
    have one : ∀ (r : vw_C) (n : Nat), vwCl[c]? = some r → Cond.instantiable r.1 n ∈ gTb → ∃ q : ClassId × (Nat → Nat), ∀ r : vw_C, vwCl[c]? = some r → u_Kn s r.1 r.2.1 r.2.2 q.1 q.2 := by
      intro r n hr hi
      obtain ⟨cC, iS, hk⟩ := u_known hg (cls_in r (List.mem_of_getElem? hr)) (hg _ hi)
      refine ⟨(cC, iS), fun r' hr' => ?_⟩
      cases Option.some.inj (hr.symm.trans hr')
      exact hk
    match c with
    | 0 => exact one _ _ rfl wn_X0
    | 1 => exact one _ _ rfl wn_X1
    | 2 => exact one _ _ rfl wn_X2
    | 3 => exact one _ _ rfl wn_X3
    | 4 => exact one _ _ rfl wn_X4
    | 5 => exact one _ _ rfl wn_X5
    | 6 => exact one _ _ rfl wn_X6
    | 7 => exact one _ _ rfl wn_X7
    | c + 8 => exact ⟨(0, fun _ => 0), fun r hr => by cases hr⟩
  obtain ⟨f, hf⟩ := Classical.axiomOfChoice h0
  obtain ⟨c0, k0⟩ := arrT (args := args) (ty := .int) (fun C h => by cases h) (hg _ wa_int)
  obtain ⟨c1, k1⟩ := arrT (args := args) (ty := .boolean) (fun C h => by cases h) (hg _ wa_bool)
  obtain ⟨c2, k2⟩ := arrT (args := args) (ty := .long) (fun C h => by cases h) (hg _ wa_long)
  obtain ⟨c3, k3⟩ := arrQ hZ.2.2.1
  obtain ⟨c4, k4⟩ := arrQ hZ.2.2.2
  obtain ⟨c5, k5⟩ := arrA hZ.2.1
  refine ⟨(fun c => (f c).1, fun c => (f c).2), fun k => match k with
    | 0 => c0
    | 1 => c1
    | 2 => c2
    | 3 => c3
    | 4 => c4
    | _ => c5, fun c r hr => hf c r hr, fun k q hk => ?_⟩
  match k, hk with
  | 0, hk => cases hk; exact k0
  | 1, hk => cases hk; exact k1
  | 2, hk => cases hk; exact k2
  | 3, hk => cases hk; exact k3
  | 4, hk => cases hk; exact k4
  | 5, hk => cases hk; exact k5
  | k + 6, hk => cases hk
def tmS (i : Nat) : Term := match i with
  | 0 => .string RX1 105
  | _ => .string RX0 44
set_option maxRecDepth 100000 in
theorem f93 : ∀ j, j < 56 → (flatC (Jvm.Cond.and given_1 narrow_1))[99 + j]? = some (Cond.eq (.elem (.field (.string RX1 105) "java/lang/String" "value" "[B") (.int (Int32.ofNat j))) (.int (str_93.getD j 0))) := by decide +kernel
set_option maxRecDepth 100000 in
theorem f94 : ∀ j, j < 23 → (flatC (Jvm.Cond.and given_1 narrow_1))[160 + j]? = some (Cond.eq (.elem (.field (.string RX0 44) "java/lang/String" "value" "[B") (.int (Int32.ofNat j))) (.int (str_94.getD j 0))) := by decide +kernel
set_option maxRecDepth 100000 in
theorem fGE : ∀ j, j < 4 → (flatC (Jvm.Cond.and given_1 narrow_1))[14 + j]? = some (Cond.eq (.elem (.static RX6 "GROUND_EATS" "[I") (.int (Int32.ofNat j))) (.int (geats j))) := by decide +kernel
section
variable {args : Array Value} {s : State}
theorem start_S (hg : (Jvm.Cond.and given_1 narrow_1).before args s = true) {A : Nat → Prop} (hA : ∀ a : Nat, a < s.heap.size → ¬ A a) : ∃ adK adV : Nat → Nat, vk_S 2 [56, 23] [str_93, str_94] adK adV A s s.heap ∧ ∀ i : Nat, i < 2 → (tmS i).eval args s none [] s = some (.ref (adK i)) := by
  refine vk_Sof (tm := tmS) ?_ ?_ ?_ ?_ ?_ ?_ ?_ hA
  · intro i hi
    match i, hi with
    | 0, _ => decide
    | 1, _ => decide
  · intro i hi
    match i, hi with
    | 0, _ => exact nF hg 95 (by decide +kernel)
    | 1, _ => exact nF hg 156 (by decide +kernel)
  · intro i hi
    match i, hi with
    | 0, _ => exact nF hg 96 (by decide +kernel)
    | 1, _ => exact nF hg 157 (by decide +kernel)
  · intro i hi
    match i, hi with
    | 0, _ => exact nF hg 97 (by decide +kernel)
    | 1, _ => exact nF hg 158 (by decide +kernel)
  · intro i hi
    match i, hi with
    | 0, _ => exact nF hg 98 (by decide +kernel)
    | 1, _ => exact nF hg 159 (by decide +kernel)
  · intro i hi
    match i, hi with
    | 0, _ => exact fun j hj => nF hg (99 + j) (f93 j hj)
    | 1, _ => exact fun j hj => nF hg (160 + j) (f94 j hj)
  · intro i j hi hj hij
    match i, j, hi, hj with
    | 0, 0, _, _ => exact absurd rfl hij
    | 0, 1, _, _ => exact Or.inl (nF hg 184 (by decide +kernel))
    | 1, 0, _, _ => exact Or.inr (nF hg 184 (by decide +kernel))
    | 1, 1, _, _ => exact absurd rfl hij
theorem start_R (hts : ∀ w ∈ lw_tbl, w.before args s = true) (hg : (Jvm.Cond.and given_1 narrow_1).before args s = true) (own tx : String) (k p q : Nat) (h1 : lw_tbl[p]? = some (Cond.stringRef own k tx)) (h2 : (flatC (Jvm.Cond.and given_1 narrow_1))[q]? = some (Cond.exactly (.string own k) "java/lang/String")) : ∃ sa, vk_R own k tx sa s := by
  obtain ⟨a, c, cA, kA, q1, -⟩ := Cond.exactly_spec (args := args) (first := s) (o := none) (s := s) (idx := []) (t := .string own k) (cls := "java/lang/String") (nF hg q h2)
  exact ⟨a, vk_R.of (A := args) (tW hts p h1) q1⟩
theorem start_F (hts : ∀ w ∈ lw_tbl, w.before args s = true) (hg : (Jvm.Cond.and given_1 narrow_1).before args s = true) {b L : Nat} {xs : Nat → Int32} (bb : Nat) (hX : va_X b L xs s s.heap) (hbl : b < s.heap.size) : ∃ ge s3 s4, sFx (adF bb b ge s3 s4) L xs (fun q => s.heap.size ≤ q) s s.heap := by
  have hA : ∀ a : Nat, a < s.heap.size → ¬ (fun q : Nat => s.heap.size ≤ q) a := fun a h1 h2 => absurd (show s.heap.size ≤ a from h2) (by omega)
  obtain ⟨ge, hge, hT⟩ := va_Tof (args := args) (s := s) (tm := .static RX6 "GROUND_EATS" "[I") (ty := .int) (N := 4) (f := fun j => .int (geats j)) (A := fun q => s.heap.size ≤ q) (by decide) (nF hg 12 (by decide +kernel)) (va_eqt (nF hg 13 (by decide +kernel))) (fun j hj => va_eqt (nF hg (14 + j) (fGE j hj))) hA
  obtain ⟨adK, adV, hS, hev⟩ := start_S hg hA
  refine ⟨ge, adK 0, adK 1, ⟨hX, hbl, hA b hbl⟩, va_Zof (args := args) (tW hts 898 (by decide +kernel)) (tW hts 121 (by decide +kernel)) hge hA, hT, ⟨adV, ⟨fun i hi => ?_, fun i j hi hj hij => ?_⟩, va_Zof (args := args) (tW hts 633 (by decide +kernel)) (tW hts 135 (by decide +kernel)) (va_eqt (nF hg 6 (by decide +kernel))) hA, va_Zqof (args := args) (tW hts 649 (by decide +kernel)) (tW hts 137 (by decide +kernel)) (nF hg 7 (by decide +kernel)) hA⟩,
    vx_Zqof (args := args) (tW hts 553 (by decide +kernel)) (tW hts 130 (by decide +kernel)) (nF hg 4 (by decide +kernel)) hA, vx_Zqof (args := args) (tW hts 555 (by decide +kernel)) (tW hts 130 (by decide +kernel)) (nF hg 5 (by decide +kernel)) hA,
    nTb_at hts, cTb_at hts, vk_R.of (A := args) (tW hts 619 (by decide +kernel)) (hev 0 (by omega)), vk_R.of (A := args) (tW hts 742 (by decide +kernel)) (hev 1 (by omega)), start_R hts hg _ _ _ 783 185 (by decide +kernel) (by decide +kernel), start_R hts hg _ _ _ 830 204 (by decide +kernel) (by decide +kernel), start_R hts hg _ _ _ 567 72 (by decide +kernel) (by decide +kernel), fun x y hx hy hxy => ?_⟩
  · match i, hi with
    | 0, _ => exact hS.1 0 (by omega)
    | 1, _ => exact hS.1 1 (by omega)
  · match i, j, hi, hj, hij with
    | 0, 0, _, _, _ => rfl
    | 0, 1, _, _, h => exact hS.2 0 1 (by omega) (by omega) h
    | 1, 0, _, _, h => exact hS.2 1 0 (by omega) (by omega) h
    | 1, 1, _, _, _ => rfl
  · match x, y, hx, hy, hxy with
    | 0, 0, _, _, h => exact absurd rfl h
    | 0, 1, _, _, _ => exact va_Nc.of (args := args) (nF hg 47 (by decide +kernel))
    | 0, 2, _, _, _ => exact va_Nc.of (args := args) (nF hg 26 (by decide +kernel))
    | 1, 0, _, _, _ => exact va_Nc.of (args := args) (nF hg 37 (by decide +kernel))
    | 1, 1, _, _, h => exact absurd rfl h
    | 1, 2, _, _, _ => exact va_Nc.of (args := args) (nF hg 27 (by decide +kernel))
    | 2, 0, _, _, _ => exact va_Nc.of (args := args) (nF hg 36 (by decide +kernel))
    | 2, 1, _, _, _ => exact va_Nc.of (args := args) (nF hg 46 (by decide +kernel))
    | 2, 2, _, _, h => exact absurd rfl h
end
