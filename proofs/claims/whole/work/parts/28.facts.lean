/-! What holds besides the picture: statics, texts, words of the tables alone; it is kept over calls. -/
def isCast : Cond → Bool
  | .castable .. => true
  | .declares .. => true
  | _ => false
def cTb : List Cond := lw_tbl.filter isCast
def excN : Nat → String
  | 0 => "java/lang/IndexOutOfBoundsException"
  | 1 => "java/util/NoSuchElementException"
  | _ => "java/lang/IllegalArgumentException"
def vmF (ad : Nat → Nat → Nat) (U : State) : Prop := (∀ w ∈ nTb, va_Nw w U) ∧ (∀ w ∈ cTb, va_Nw w U) ∧ vk_R RX1 105 "cells ground wall house hum source screen tar hush foam " (ad 93 0) U ∧ vk_R RX0 44 "layer wind weight fine " (ad 94 0) U ∧
  (∃ sa, vk_R RX6 308 "no such cell" sa U) ∧ (∃ sa, vk_R RX6 315 "no such house, source, work or air" sa U) ∧ (∃ sa, vk_R RX6 320 "no such number here" sa U) ∧ (∀ a b : Nat, a < 3 → b < 3 → a ≠ b → va_Nc (excN a) (excN b) U)
/-- what a text's methods read of statics -/
def strF (A : Nat → Prop) (U : State) (H : Heap) : Prop := va_Z "java/lang/String" "COMPACT_STRINGS" "Z" (.int 1) A U H ∧ va_Zq "jdk/internal/util/Preconditions" "SIOOBE_FORMATTER" "Ljava/util/function/BiFunction;" A U H
def sFx (ad : Nat → Nat → Nat) (L : Nat) (xs : Nat → Int32) (A : Nat → Prop) (U : State) (H : Heap) : Prop :=
  (va_X (ad 91 0) L xs U H ∧ ad 91 0 < H.size ∧ ¬ A (ad 91 0)) ∧ va_Z RX6 "GROUND_EATS" "[I" (.ref (ad 92 0)) A U H ∧ va_T .int (ad 92 0) 4 (fun j => .int (geats j)) A U H ∧
  (∃ adV : Nat → Nat, vk_S 2 [56, 23] [str_93, str_94] (fun i => ad (93 + i) 0) adV A U H ∧ strF A U H) ∧ vx_Zq Bundle.tN "UNASSIGNED_STACK" Bundle.steD A U H ∧ vx_Zq Bundle.tN "SUPPRESSED_SENTINEL" Bundle.listD A U H ∧ vmF ad U
theorem nTb_warm {s U : State} (hW : s.WarmedH U.vm) (h : ∀ w ∈ nTb, va_Nw w s) : ∀ w ∈ nTb, va_Nw w U := by
  intro w hw
  have h1 := h w hw
  have h2 := (List.mem_filter.mp hw).2
  cases w
  all_goals first
    | exact va_Nw.warmF hW h1
    | exact va_Nw.warmM hW h1
    | (simp [isNest] at h2; done)
theorem cTb_warm {s U : State} (hW : s.WarmedH U.vm) (h : ∀ w ∈ cTb, va_Nw w s) : ∀ w ∈ cTb, va_Nw w U := by
  intro w hw
  have h1 := h w hw
  have h2 := (List.mem_filter.mp hw).2
  cases w
  all_goals first
    | exact va_Nw.warmC hW h1
    | exact va_Nw.warmD hW h1
    | (simp [isCast] at h2; done)
theorem vmF.warm {ad : Nat → Nat → Nat} {s U : State} (hW : s.WarmedH U.vm) (h : vmF ad s) : vmF ad U := by
  obtain ⟨h1, h2, h3, h4, ⟨a5, h5⟩, ⟨a6, h6⟩, ⟨a7, h7⟩, h8⟩ := h
  exact ⟨nTb_warm hW h1, cTb_warm hW h2, h3.warm hW, h4.warm hW, ⟨a5, h5.warm hW⟩, ⟨a6, h6.warm hW⟩, ⟨a7, h7.warm hW⟩, fun a b ha hb hab => (h8 a b ha hb hab).moved hW.alike⟩
theorem sFx.warm {ad : Nat → Nat → Nat} {L : Nat} {xs : Nat → Int32} {A : Nat → Prop} {s U : State} {H : Heap} (hW : s.WarmedH U.vm) (h : sFx ad L xs A s H) : sFx ad L xs A U H := by
  obtain ⟨⟨h1, h2, h3⟩, h4, h5, ⟨adV, h6, hs1, hs2⟩, h7, h8, h9⟩ := h
  exact ⟨⟨h1.moved hW.alike, h2, h3⟩, h4.moved hW.alike, h5.moved hW.alike, ⟨adV, h6.moved hW.alike, hs1.moved hW.alike, hs2.moved hW.alike⟩, h7.moved hW.alike, h8.moved hW.alike, h9.warm hW⟩
theorem sFx.kept {ad : Nat → Nat → Nat} {L : Nat} {xs : Nat → Int32} {A : Nat → Prop} {U : State} {H H1 : Heap} (h : sFx ad L xs A U H) (hz : H.size ≤ H1.size) (hq : ∀ a : Nat, a < H.size → ¬ A a → H1[a]? = H[a]?) : sFx ad L xs A U H1 := by
  obtain ⟨⟨h1, h2, h3⟩, h4, h5, ⟨adV, h6, hs1, hs2⟩, h7, h8, h9⟩ := h
  exact ⟨⟨h1.kept (hq _ h2 h3), Nat.lt_of_lt_of_le h2 hz, h3⟩, h4.kept hq, h5.kept hq, ⟨adV, h6.kept hq, hs1.kept hq, hs2.kept hq⟩, h7.kept hq, h8.kept hq, h9⟩
theorem sFx.narrow {ad : Nat → Nat → Nat} {L : Nat} {xs : Nat → Int32} {A B : Nat → Prop} {U : State} {H : Heap} (h : sFx ad L xs A U H) (hAB : ∀ q, B q → A q) : sFx ad L xs B U H := by
  obtain ⟨⟨h1, h2, h3⟩, h4, h5, ⟨adV, h6, hs1, hs2⟩, h7, h8, h9⟩ := h
  exact ⟨⟨h1, h2, fun z => h3 (hAB _ z)⟩, h4.narrow hAB, h5.narrow hAB, ⟨adV, h6.narrow hAB, hs1.narrow hAB, hs2.narrow hAB⟩, h7.narrow hAB, h8.narrow hAB, h9⟩
/-- what a method may change: the picture's cells and new ones -/
def APre (ad : Nat → Nat → Nat) (sz : Nat) : Nat → Prop := fun q => (∃ g i, i < cnt g ∧ q = ad g i) ∨ sz ≤ q
def DD (cT : Nat → ClassId) (ad : Nat → Nat → Nat) : Prop := va_D (fun _ => True) (wsA cT ad 0 (fun _ _ _ => 0) 0 none)
theorem DD.at {cT : Nat → ClassId} {ad : Nat → Nat → Nat} (h : DD cT ad) (t : Nat) (M : Mem) (O : Int64) (sz : Nat) : va_D (APre ad sz) (wsA cT ad t M O none) := by
  have h1 : va_D (fun _ => True) (wsA cT ad t M O none) := va_D_fst h (ws_fst cT ad t M _ O _ none)
  refine ⟨h1.1, fun k q hk => ?_⟩
  unfold wsA at hk
  rw [show wsT cT t none = [] from rfl, List.append_nil] at hk
  unfold wsP at hk
  rw [List.getElem?_map] at hk
  cases hq : PP[k]? with
  | none => rw [hq] at hk; cases hk
  | some z =>
    rw [hq] at hk
    cases hk
    exact Or.inl ⟨z.1, z.2, of_mem_PP (List.mem_of_getElem? hq), rfl⟩
def wfO (v : Option AV) : Prop := ∀ w, v = some w → wfV none w
def PcB (D : va_G) (cT : Nat → ClassId) (ad : Nat → Nat → Nat) (L : Nat) (xs : Nat → Int32) (sz : Nat) (M : Mem) (O : Int64) (U : State) : Prop := U.heap.size = sz ∧ va_P D vwCl (wsA cT ad 0 M O none) U.heap ∧ va_K D vwCl (tysT cT) U ∧ sFx ad L xs (APre ad sz) U U.heap
def PcR (D : va_G) (cT : Nat → ClassId) (ad : Nat → Nat → Nat) (L : Nat) (xs : Nat → Int32) (sz : Nat) (as : List AV) (M : Mem) (O : Int64) : Array Value → State → Prop := va_Pc (as.map (vrel ad 0)) (PcB D cT ad L xs sz M O)
def QcR (D : va_G) (cT : Nat → ClassId) (ad : Nat → Nat → Nat) (sz : Nat) (v : Option AV) (M : Mem) (O : Int64) : Array Value → State → Outcome → State → Prop := fun _ st o t => o = .returned (v.map (vrel ad 0)) ∧ (wfO v ∧ va_P D vwCl (wsA cT ad 0 M O none) t.heap) ∧ va_F (APre ad sz) st t
def XcR (D : va_G) (cT : Nat → ClassId) (ad : Nat → Nat → Nat) (sz : Nat) (X : Nat) (M : Mem) (O : Int64) : String → State → State → Prop := fun E st t => (E = excN X ∧ va_P D vwCl (wsA cT ad 0 M O none) t.heap) ∧ va_F (APre ad sz) st t
theorem PcR.blind {D : va_G} {cT : Nat → ClassId} {ad : Nat → Nat → Nat} {L : Nat} {xs : Nat → Int32} {sz : Nat} {as : List AV} {M : Mem} {O : Int64} : FrameBlind (PcR D cT ad L xs sz as M O) := by
  intro a U g mk h
  obtain ⟨h1, h2, h3, h4, h5⟩ := h
  exact ⟨h1, h2, h3, va_K.moved (u := U) (U := U.calling g mk a) (Vm.Alike.refl U.vm) h4, sFx.warm (s := U) (U := U.calling g mk a) (State.WarmedH.refl U) h5⟩
abbrev rmOf (mi : MI) (mc ms : Nat) : Room := { frames := mi_fr mi, cells := mc, slots := ms, locals := mi_lw mi }
/-- what a call of a method comes to -/
def CK (l : Launch) (L : Nat) (xs : Nat → Int32) (y : Nat) (as : List AV) (M : Mem) (O : Int64) (r : Out) : Prop :=
  ∀ mi : MI, getN y = some mi → ∀ (D : va_G) (cT : Nat → ClassId) (ad : Nat → Nat → Nat) (sz : Nat), DD cT ad → wfS none as → match r with
  | (.inl v, M', O', mc, ms) => Met l (mi_y mi) (cdW mi :: gTb) (rmOf mi mc ms) (PcR D cT ad L xs sz as M O) (QcR D cT ad sz v M' O') mc ms (APre ad sz)
  | (.inr X, M', O', mc, ms) => mi_hh mi = [] → vx_Met l (mi_y mi) (cdW mi :: gTb) (rmOf mi mc ms) (PcR D cT ad L xs sz as M O) (fun _ _ _ _ => False) (XcR D cT ad sz X M' O') mc ms (APre ad sz)
