/-! Branches. -/
def Good (Wf : Heap → List Loc → Nat → Nat → JFrame → Prop) (m : MethodId) (wd : Nat → Mem → Int64 → Tmp → Heap → List Loc → Prop) (ad : Nat → Nat → Nat) (nL : Nat) (pc : Nat) (ls : Lcs) (st : List AV) (M : Mem) (O : Int64) (T : Tmp) (c s : Nat) : Prop :=
  ∀ (t : Nat) (lr : Array Slot) (H : Heap) (locs : List Loc), LR ad t nL ls lr → wfL T ls → wfS T st → wd t M O T H locs → Wf H locs c s (F0 m pc lr (st.map (vrel ad t)))
abbrev WG (p : Program) (l : Launch) (e : Env) (R : Room) (s : State) (m : MethodId) (args : Array Value) (below : List Frame) (meth : Method) (c : Code) (Q : State → Prop) : Heap → List Loc → Nat → Nat → JFrame → Prop := fun H locs cells slots g => W p l e R s m args below meth c H locs cells slots Q g
theorem xgo_eq {k : RecT} {back : BackT} {pc tgt : Nat} {off : Int} (h : (pc : Int) + off = (tgt : Int)) (ls : Lcs) (st : List AV) (M : Mem) (O : Int64) (T : Tmp) (c s : Nat) :
    xgo k back pc off ls st M O T c s = bif Nat.ble tgt pc then (match st with
    | [] => back tgt ls M O T c s
    | _ :: _ => none) else k tgt ls st M O T c s := by
  unfold xgo
  rw [h]
  rfl
section S2
variable {p : Program} {l : Launch} {e : Env} {R : Room} {s : State} {m : MethodId} {args : Array Value} {below : List Frame} {meth : Method} {c : Code} {Q : State → Prop} {cc : ByteArray}
  {wd : Nat → Mem → Int64 → Tmp → Heap → List Loc → Prop} {ad : Nat → Nat → Nat} {nL pc : Nat} {k : RecT} {back : BackT} {r : Out} {ls : Lcs} {st : List AV} {M : Mem} {O : Int64} {T : Tmp} {c1 s1 : Nat}
theorem xgo_ok (hk : ∀ pc ls st M O T c1 s1, k pc ls st M O T c1 s1 = some r → Good (WG p l e R s m args below meth c Q) m wd ad nL pc ls st M O T c1 s1)
    (hbk : ∀ pc ls M O T c1 s1, back pc ls M O T c1 s1 = some r → Good (WG p l e R s m args below meth c Q) m wd ad nL pc ls [] M O T c1 s1)
    {off : Int} {tgt : Nat} (ht : (pc : Int) + off = (tgt : Int)) (h : xgo k back pc off ls st M O T c1 s1 = some r) : Good (WG p l e R s m args below meth c Q) m wd ad nL tgt ls st M O T c1 s1 := by
  rw [xgo_eq ht] at h
  cases hb : Nat.ble tgt pc with
  | false => rw [hb] at h; exact hk _ _ _ _ _ _ _ _ h
  | true =>
    rw [hb] at h
    cases st with
    | nil => exact hbk _ _ _ _ _ _ _ h
    | cons a b => cases h
theorem tgt_of {pc : Nat} {off : Int} (h : 0 ≤ (pc : Int) + off) : (pc : Int) + off = ((((pc : Int) + off).toNat : Nat) : Int) := (Int.toNat_of_nonneg h).symm
theorem lsw_mem (df x : Int) : ∀ ps : List (Int × Int), Op.lookupswitch.offset ps df x = df ∨ ∃ q ∈ ps, Op.lookupswitch.offset ps df x = q.2 := by
  intro ps
  induction ps with
  | nil => exact Or.inl rfl
  | cons a b ih =>
    unfold Op.lookupswitch.offset
    split
    · exact Or.inr ⟨a, List.mem_cons_self, rfl⟩
    · rcases ih with h | ⟨q, hq, h⟩
      · exact Or.inl h
      · exact Or.inr ⟨q, List.mem_cons_of_mem _ hq, h⟩
set_option maxHeartbeats 4000000 in
theorem stepB_ok (hx : p.tables.exec = Jvm.exec) (hb : c.code = cc)
    (hk : ∀ pc ls st M O T c1 s1, k pc ls st M O T c1 s1 = some r → Good (WG p l e R s m args below meth c Q) m wd ad nL pc ls st M O T c1 s1)
    (hbk : ∀ pc ls M O T c1 s1, back pc ls M O T c1 s1 = some r → Good (WG p l e R s m args below meth c Q) m wd ad nL pc ls [] M O T c1 s1)
    {i : Instr} {len : Nat} (hd : decode cc pc = .ok (i, len)) (hlen : (match i with
      | .tableswitch _ _ _ _ => True
      | .lookupswitch _ _ => True
      | i => len = ilen i)) (hj : jok pc i = true)
    (h : stepB i len k back pc ls st M O T c1 s1 = some r) : Good (WG p l e R s m args below meth c Q) m wd ad nL pc ls st M O T c1 s1 := by
  intro t lr H locs hl hwl hws hwd
  cases i
  all_goals first
    | exact nomatch (show (none : Res) = some r from h)
    | skip
  case goto off =>
    cases hlen
    have ht := tgt_of (of_decide_eq_true hj)
    exact lv_goto hx hb hd ht (xgo_ok hk hbk ht h t lr H locs hl hwl hws hwd)
  case ifCond cd off =>
    cases hlen
    have ht := tgt_of (of_decide_eq_true hj)
    simp only [stepB] at h
    split at h
    · rename_i x st'
      have J := fun h' => xgo_ok (st := st') (M := M) (O := O) (T := T) (c1 := c1) (s1 := s1) hk hbk ht h' t lr H locs hl hwl hws.tl hwd
      have N := fun h' => hk (pc + 3) ls st' M O T c1 s1 h' t lr H locs hl hwl hws.tl hwd
      split at h
      · exact lv_if_eq hx hb hd ht (fun q => J (by rw [if_pos q] at h; exact h)) (fun q => N (by rw [if_neg q] at h; exact h))
      · exact lv_if_ne hx hb hd ht (fun q => J (by rw [if_neg q] at h; exact h)) (fun q => N (by rw [if_pos q] at h; exact h))
      · exact lv_if_lt hx hb hd ht (fun q => J (by rw [if_pos q] at h; exact h)) (fun q => N (by rw [if_neg q] at h; exact h))
      · exact lv_if_ge hx hb hd ht (fun q => J (by rw [if_pos q] at h; exact h)) (fun q => N (by rw [if_neg q] at h; exact h))
      · exact lv_if_gt hx hb hd ht (fun q => J (by rw [if_pos q] at h; exact h)) (fun q => N (by rw [if_neg q] at h; exact h))
      · exact lv_if_le hx hb hd ht (fun q => J (by rw [if_pos q] at h; exact h)) (fun q => N (by rw [if_neg q] at h; exact h))
    · cases h
  case if_icmp cd off =>
    cases hlen
    have ht := tgt_of (of_decide_eq_true hj)
    simp only [stepB] at h
    split at h
    · rename_i y x st'
      have J := fun h' => xgo_ok (st := st') (M := M) (O := O) (T := T) (c1 := c1) (s1 := s1) hk hbk ht h' t lr H locs hl hwl hws.tl.tl hwd
      have N := fun h' => hk (pc + 3) ls st' M O T c1 s1 h' t lr H locs hl hwl hws.tl.tl hwd
      split at h
      · exact lv_icmp_eq hx hb hd ht (fun q => J (by rw [if_pos q] at h; exact h)) (fun q => N (by rw [if_neg q] at h; exact h))
      · exact lv_icmp_ne hx hb hd ht (fun q => J (by rw [if_neg q] at h; exact h)) (fun q => N (by rw [if_pos q] at h; exact h))
      · exact lv_icmp_lt hx hb hd ht (fun q => J (by rw [if_pos q] at h; exact h)) (fun q => N (by rw [if_neg q] at h; exact h))
      · exact lv_icmp_ge hx hb hd ht (fun q => J (by rw [if_pos q] at h; exact h)) (fun q => N (by rw [if_neg q] at h; exact h))
      · exact lv_icmp_gt hx hb hd ht (fun q => J (by rw [if_pos q] at h; exact h)) (fun q => N (by rw [if_neg q] at h; exact h))
      · exact lv_icmp_le hx hb hd ht (fun q => J (by rw [if_pos q] at h; exact h)) (fun q => N (by rw [if_neg q] at h; exact h))
    · cases h
  case tableswitch df lo hi offs =>
    simp only [jok, Bool.and_eq_true, decide_eq_true_eq, List.all_eq_true] at hj
    simp only [stepB] at h
    split at h
    · rename_i x st'
      by_cases q : x.toInt < lo ∨ hi < x.toInt
      · rw [if_pos q] at h
        have ht := tgt_of hj.1
        exact lv_tableOut hx hb hd q ht (xgo_ok hk hbk ht h t lr H locs hl hwl hws.tl hwd)
      · rw [if_neg q] at h
        split at h
        · rename_i off ho
          have ht := tgt_of (hj.2 off (by simpa using Array.mem_of_getElem? ho))
          exact lv_tableIn hx hb hd (fun z => q (Or.inl z)) (fun z => q (Or.inr z)) ho ht (xgo_ok hk hbk ht h t lr H locs hl hwl hws.tl hwd)
        · cases h
    · cases h
  case lookupswitch df ps =>
    simp only [jok, Bool.and_eq_true, decide_eq_true_eq] at hj
    obtain ⟨⟨hj1, hj2⟩, hj3⟩ := hj
    simp only [stepB] at h
    split at h
    · rename_i x st'
      have h0 : 0 ≤ (pc : Int) + Op.lookupswitch.offset ps.toList df x.toInt := by
        rcases lsw_mem df x.toInt ps.toList with q | ⟨a, ha, q⟩
        · rw [q]; exact hj1
        · rw [q]; exact of_decide_eq_true (List.all_eq_true.mp hj2 a ha)
      have ht := tgt_of h0
      exact lv_lookup hx hb hd hj3 rfl ht (xgo_ok hk hbk ht h t lr H locs hl hwl hws.tl hwd)
    · cases h
end S2
