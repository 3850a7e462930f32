/-! Calls and ends, all together. -/
section C8
variable {p : Program} {l : Launch} {e : Env} {R : Room} {s : State} {m : MethodId} {args : Array Value} {below : List Frame} {meth : Method} {c : Code} {Q : State → Prop}
  {D : va_G} {cT : Nat → ClassId} {ad : Nat → Nat → Nat} {A : Nat → Prop} {pc L : Nat} {xs : Nat → Int32} {mi : MI} {k : RecT} {r : Out} {ls : Lcs} {st : List AV} {M : Mem} {O : Int64} {T : Tmp} {c1 s1 : Nat} {E : CallT}
/-- what a body owes where it ends: by the picture's outcome r -/
def Ends (p : Program) (l : Launch) (e : Env) (R : Room) (s : State) (m : MethodId) (args : Array Value) (below : List Frame) (meth : Method) (c : Code) (Q : State → Prop) (D : va_G) (cT : Nat → ClassId) (ad : Nat → Nat → Nat) (A : Nat → Prop) (mi : MI) (r : Out) : Prop :=
  (∀ pc lr H locs t M O T c1 s1 x, decode (mi_b mi) pc = .ok (.ireturn, 1) → r = (.inl (some (.inl x)), M, O, c1, s1) → (mi_ret mi = some .int ∨ (mi_ret mi = some .boolean ∧ (x = 0 ∨ x = 1))) → WDp D cT ad A s.heap t M O T H locs → W p l e R s m args below meth c H locs c1 s1 Q (F0 m pc lr [.int x])) ∧
  (∀ pc lr H locs t M O T c1 s1 x, decode (mi_b mi) pc = .ok (.lreturn, 1) → r = (.inl (some (.inr (.inl x))), M, O, c1, s1) → mi_ret mi = some .long → WDp D cT ad A s.heap t M O T H locs → W p l e R s m args below meth c H locs c1 s1 Q (F0 m pc lr [.long x])) ∧
  (∀ pc lr H locs t M O c1 s1 g i, decode (mi_b mi) pc = .ok (.areturn, 1) → r = (.inl (some (.inr (.inr (g, i)))), M, O, c1, s1) → mi_ret mi = some (.array .int) → okR none g i → WDp D cT ad A s.heap t M O none H locs → W p l e R s m args below meth c H locs c1 s1 Q (F0 m pc lr [vrel ad t (.inr (.inr (g, i)))])) ∧
  (∀ pc lr H locs t M O T c1 s1, decode (mi_b mi) pc = .ok (.return_, 1) → r = (.inl none, M, O, c1, s1) → mi_ret mi = none → WDp D cT ad A s.heap t M O T H locs → W p l e R s m args below meth c H locs c1 s1 Q (F0 m pc lr [])) ∧
  (∀ pc lr H locs t M O T c1 s1 X n, List.lookup pc (mi_tab mi) = some (.new n, 3) → List.lookup n (cps (mi_cls mi)).2.2.2 = some X → r = (.inr X, M, O, c1 + 1, s1 + 6) → lr.size = mi_L mi → WDp D cT ad A s.heap t M O T H locs → W p l e R s m args below meth c H locs c1 s1 Q (F0 m pc lr [])) ∧
  (∀ pc lr (rst : List Value) H locs t M O T c1 s1 X (ce : Cell) (q9 : Addr), r = (.inr X, M, O, c1, s1) → H[q9]? = some ce → ce.vm = .none → s.vm.findClass (excN X) = some ce.cls → WDp D cT ad A s.heap t M O T H locs → vx_W p l e R s m args below meth c H locs c1 s1 Q (F0 m pc lr rst) q9)
/-- what the picture's calls come to -/
def EOK (l : Launch) (L : Nat) (xs : Nat → Int32) (E : CallT) : Prop := ∀ y as M O rc, E y as M O = some rc → (900 ≤ y → intr shape strs y as M O = some rc) ∧ (y < 900 → (∃ mi, getN y = some mi) ∧ CK l L xs y as M O rc) ∧ ∀ X, rc.1 = .inr X → X < 3
theorem ble_f {y : Nat} (h : y < 900) : Nat.ble 900 y = false := by
  cases e : Nat.ble 900 y with
  | false => rfl
  | true => exact absurd (Nat.le_of_ble_eq_true e) (by omega)
theorem ble_t {y : Nat} (h : 900 ≤ y) : Nat.ble 900 y = true := Nat.ble_eq_true_of_le h
theorem intr_norm {y : Nat} {as : List AV} {rc : Out} (h : intr shape strs y as M O = some rc) : ∃ v M' O', rc = (.inl v, M', O', 0, 0) := by
  unfold intr at h
  split at h
  · split at h
    · cases h; exact ⟨_, _, _, rfl⟩
    · cases h
  · split at h
    · split at h
      · cases h; exact ⟨_, _, _, rfl⟩
      · cases h
    · cases h
  · rename_i g i sp g' i' dp nn
    split at h
    · rename_i n0 n1 hsh hsh'
      cases hlt : Nat.blt g 90 && Nat.blt g' 90 with
      | false => simp only [hlt, cond_false] at h; cases h
      | true =>
        simp only [hlt, cond_true] at h
        split at h
        · cases h; exact ⟨_, _, _, rfl⟩
        · cases h
    · cases h
  · cases h; exact ⟨_, _, _, rfl⟩
  · cases h; exact ⟨_, _, _, rfl⟩
  · cases h; exact ⟨_, _, _, rfl⟩
  · cases h
set_option maxHeartbeats 2000000 in
theorem stepC_call (C : CX p s m args c D cT ad L xs A mi) (hM : MOKT mi) (hTab : c.exceptionTable.toList = tableOf (mi_hh mi)) (hE : EOK l L xs E) (hMO : ∀ y mi', getN y = some mi' → MOK mi') (hRf : mi_fr mi ≤ R.frames) (hRl : mi_lw mi ≤ R.locals) (hrc : r.2.2.2.1 ≤ R.cells ∧ r.2.2.2.2 ≤ R.slots)
    (hk : ∀ pc ls st M O T c1 s1, k pc ls st M O T c1 s1 = some r → Good (WG p l e R s m args below meth c Q) m (WDp D cT ad A s.heap) ad (mi_L mi) pc ls st M O T c1 s1)
    (hmo : ∀ pc ls st M O T c1 s1, k pc ls st M O T c1 s1 = some r → c1 ≤ R.cells ∧ s1 ≤ R.slots)
    (hEnd : Ends p l e R s m args below meth c Q D cT ad A mi r) {n kd y na : Nat} {as rest : List AV}
    (hlk : List.lookup n (cps (mi_cls mi)).2.1 = some (kd, y, na)) (hrB : rB mi n = true) (hpop : popN na [] st = some (as, rest)) (hcat : (rest.map acat).sum ≤ 8) (h90 : as.all no90 = true)
    (hd : (kd < 2 ∧ decode (mi_b mi) pc = .ok (.invokevirtual n, 3) ∧ rcv shape clsY y as = true) ∨ (2 ≤ kd ∧ decode (mi_b mi) pc = .ok (.invokestatic n, 3)))
    (h : xret tkT mi kd (E y as M O) k pc ls rest T c1 s1 = some r) : Good (WG p l e R s m args below meth c Q) m (WDp D cT ad A s.heap) ad (mi_L mi) pc ls st M O T c1 s1 := by
  have C' := C
  obtain ⟨hx, hb, hml, hown, hts, hK, hF, hA, hAA, hDD, hcl⟩ := C
  intro t lr H locs hl hwl hws hwd
  obtain ⟨ps, hps1, hps2, hps3⟩ := popN_spec _ _ _ _ _ hpop
  rw [List.append_nil] at hps2
  have hst : st = as.reverse ++ rest := by rw [hps2, List.reverse_reverse]; exact hps3
  have hna : na = as.length := by rw [hps2, List.length_reverse, hps1]
  have hwas : ∀ v ∈ as, wfV none v := fun v hv => (hws v (by rw [hst]; simp [hv])).down (List.all_eq_true.mp h90 v hv)
  have hwr : wfS T rest := fun v hv => hws v (by rw [hst]; simp [hv])
  have hcOK := cps_M hcl _ (lookup_mem hlk)
  have hiOK := cps_I hcl _ (lookup_mem hlk)
  have hsz : lr.size = mi_L mi := hl.2.1
  unfold rB at hrB
  rw [hlk] at hrB
  simp only at hrB
  cases hEr : E y as M O with
  | none => rw [hEr] at h; cases h
  | some rc =>
    rw [hEr] at h
    obtain ⟨hE1, hE2, hE3⟩ := hE y as M O rc hEr
    show W p l e R s m args below meth c H locs c1 s1 Q (F0 m pc lr (st.map (vrel ad t)))
    rw [hst]
    rcases Nat.lt_or_ge y 900 with hy | hy
    · obtain ⟨⟨mi', hg⟩, hCK⟩ := hE2 hy
      have hgM := getN_M hg
      rw [ble_f hy] at hrB
      simp only [cond_false, hg, Bool.and_eq_true, Bool.or_eq_true, decide_eq_true_eq, Nat.ble_eq, List.isEmpty_iff, Nat.beq_eq] at hrB
      obtain ⟨⟨⟨⟨⟨r1, r2⟩, r3⟩, r4⟩, r5⟩, r6⟩ := hrB
      have hmok := hMO y mi' hg
      have hck := hCK mi' hg D cT ad H.size hDD hwas
      obtain ⟨o, M', O', mc, ms⟩ := rc
      cases o with
      | inl v =>
        have hck : Met l (mi_y mi') (cdW mi' :: gTb) (rmOf mi' mc ms) (PcR D cT ad L xs H.size as M O) (QcR D cT ad H.size v M' O') mc ms (APre ad H.size) := hck
        have hnext : k (pc + 3) ls (v.toList ++ rest) M' O' T (c1 + mc) (s1 + ms) = some r := by
          cases v with
          | none => exact h
          | some w => exact h
        have hmo' := hmo _ _ _ _ _ _ _ _ hnext
        rcases hd with ⟨hkd, hdv, hrcv⟩ | ⟨hkd, hds⟩
        · have hh : mi_hh mi' = [] := by
            rcases r3 with q | q
            · omega
            · exact q
          unfold rcv at hrcv
          rw [ble_f hy] at hrcv
          simp only [Bool.false_or] at hrcv
          split at hrcv
          · rename_i g i as' zz
            split at hrcv
            · rename_i ci fs hsh
              have hci : ci = mi_cls mi' := by
                have : ci = clsY y := by simpa using hrcv
                rw [this]
                unfold clsY
                rw [hg]
              have hgi : i < cnt g := by
                refine okR_n (T := none) (hwas (.inr (.inr (g, i))) List.mem_cons_self) ?_ ?_ ?_ ?_
                · rintro rfl; cases hsh
                · rintro rfl; cases hsh
                · rintro rfl; cases hsh
                · intro fs' q
                  rw [hsh] at q
                  cases q
                  have := hmok.2.2.2.2.1
                  omega
              exact call_norm C' hwd (runVN C' hwd hck hmok hh hcOK hgM hy hkd rfl hsh hci hgi (by omega) hna hwas hsz hcat hdv (by omega) (by omega) ⟨by omega, by omega⟩) hl hwl hwr (hk _ _ _ _ _ _ _ _ hnext)
            · cases hrcv
          · cases hrcv
        · exact call_norm C' hwd (runSN C' hwd hck hmok hcOK hgM hy hkd (fun q => r4.elim (fun z => absurd z q) id) hna hwas hsz hcat hds (by omega) (by omega) ⟨by omega, by omega⟩) hl hwl hwr (hk _ _ _ _ _ _ _ _ hnext)
      | inr X =>
        have hX3 : X < 3 := hE3 X rfl
        have hck : mi_hh mi' = [] → vx_Met l (mi_y mi') (cdW mi' :: gTb) (rmOf mi' mc ms) (PcR D cT ad L xs H.size as M O) (fun _ _ _ _ => False) (XcR D cT ad H.size X M' O') mc ms (APre ad H.size) := hck
        simp only [xret] at h
        cases hk0 : kd == 0 with
        | false => rw [hk0] at h; cases h
        | true =>
          rw [hk0] at h
          have hkd0 : kd = 0 := by simpa using hk0
          subst hkd0
          simp only [cond_true] at h
          rcases hd with ⟨hkd, hdv, hrcv⟩ | ⟨hkd, hds⟩
          · have hh : mi_hh mi' = [] := by
              rcases r3 with q | q
              · omega
              · exact q
            unfold rcv at hrcv
            rw [ble_f hy] at hrcv
            simp only [Bool.false_or] at hrcv
            split at hrcv
            · rename_i g i as' zz
              split at hrcv
              · rename_i ci fs hsh
                have hci : ci = mi_cls mi' := by
                  have : ci = clsY y := by simpa using hrcv
                  rw [this]
                  unfold clsY
                  rw [hg]
                have hgi : i < cnt g := by
                  refine okR_n (T := none) (hwas (.inr (.inr (g, i))) List.mem_cons_self) ?_ ?_ ?_ ?_
                  · rintro rfl; cases hsh
                  · rintro rfl; cases hsh
                  · rintro rfl; cases hsh
                  · intro fs' q
                    rw [hsh] at q
                    cases q
                    have := hmok.2.2.2.2.1
                    omega
                have hrr : c1 + mc ≤ R.cells ∧ s1 + ms ≤ R.slots := by
                  split at h
                  · cases h; exact hrc
                  · split at h
                    · cases h; exact hrc
                    · cases h
                refine callThr (Px := fun E h => E = excN X ∧ va_P D vwCl (wsA cT ad 0 M' O' none) h) (runVX C' hwd (hck hh) hmok hh hcOK hgM hy rfl hsh hci hgi (by omega) hna hwas hsz hcat hdv (by omega) (by omega) hrr) hwd.2.2 (fun q _ h => sub_A C' hwd q h) (sub_A C' hwd) (fun E ce q9 H1 locs1 hp hz hkq hS hce hcv hcls => ?_)
                have hwd1 := rejoin hwd hp.2 hkq hS
                split at h
                · cases h
                  have hcls' := hcls
                  rw [hp.1] at hcls'
                  exact hEnd.2.2.2.2.2 _ _ _ _ _ _ _ _ _ _ _ _ _ _ rfl hce hcv hcls' hwd1
                · rename_i hf
                  split at h
                  · rename_i vv hrv
                    cases h
                    exact catch_ok C' hM hTab hX3 hf hrv hwd1 hl hp.1 hce hcv hcls (fun pc' lr' d' => hEnd.1 pc' lr' H1 locs1 t _ _ T _ _ vv d' rfl (Or.inl (hret_int hrv)) hwd1)
                  · cases h
              · cases hrcv
            · cases hrcv
          · omega
    · have hi := hE1 hy
      obtain ⟨v, M', O', rfl⟩ := intr_norm hi
      rw [ble_t hy] at hrB
      simp only [cond_true, Bool.and_eq_true, decide_eq_true_eq] at hrB
      have hnext : k (pc + 3) ls (v.toList ++ rest) M' O' T (c1 + 0) (s1 + 0) = some r := by
        cases v with
        | none => exact h
        | some w => exact h
      have hmo' := hmo _ _ _ _ _ _ _ _ hnext
      refine intr_ok C' hwd hiOK hy hi hwas hsz hcat (by omega) (by omega) ⟨by omega, by omega⟩ (hd.elim (fun q => Or.inl ⟨q.1, q.2.1⟩) Or.inr) (fun v0 M0 O0 H1 locs1 he hwo hwd1 => ?_)
      cases he
      cases v with
      | none => exact hk _ _ _ _ _ _ _ _ hnext t lr H1 locs1 hl hwl hwr hwd1
      | some w => exact hk _ _ _ _ _ _ _ _ hnext t lr H1 locs1 hl hwl (wfS.cons (hwo w rfl).any hwr) hwd1
set_option maxHeartbeats 2000000 in
theorem stepC_ok (C : CX p s m args c D cT ad L xs A mi) (hM : MOKT mi) (hTab : c.exceptionTable.toList = tableOf (mi_hh mi)) (hE : EOK l L xs E) (hMO : ∀ y mi', getN y = some mi' → MOK mi') (hRf : mi_fr mi ≤ R.frames) (hRl : mi_lw mi ≤ R.locals) (hrc : r.2.2.2.1 ≤ R.cells ∧ r.2.2.2.2 ≤ R.slots)
    (hk : ∀ pc ls st M O T c1 s1, k pc ls st M O T c1 s1 = some r → Good (WG p l e R s m args below meth c Q) m (WDp D cT ad A s.heap) ad (mi_L mi) pc ls st M O T c1 s1)
    (hmo : ∀ pc ls st M O T c1 s1, k pc ls st M O T c1 s1 = some r → c1 ≤ R.cells ∧ s1 ≤ R.slots)
    (hEnd : Ends p l e R s m args below meth c Q D cT ad A mi r) {i : Instr} (hfam : fam i = 3) (hlk : List.lookup pc (mi_tab mi) = some (i, ilen i))
    (h : stepC shape cps tkT clsY E mi i k pc ls st M O T c1 s1 = some r) : Good (WG p l e R s m args below meth c Q) m (WDp D cT ad A s.heap) ad (mi_L mi) pc ls st M O T c1 s1 := by
  have hd := (eOK_dec hM.1 hlk).1
  have hcb := List.all_eq_true.mp hM.2.1 _ (lookup_mem hlk)
  cases i
  all_goals first
    | exact absurd (show (0 : Nat) = 3 from hfam) (by decide)
    | exact absurd (show (1 : Nat) = 3 from hfam) (by decide)
    | exact absurd (show (2 : Nat) = 3 from hfam) (by decide)
    | exact absurd (show (4 : Nat) = 3 from hfam) (by decide)
    | skip
  case invokevirtual n =>
    simp only [stepC] at h
    split at h
    · rename_i kd y na hlk2
      split at h
      · rename_i as rest hpop
        cases hb : (Nat.ble (rest.map acat).sum 8 && (Nat.blt kd 2 && (rcv shape clsY y as && as.all no90))) with
        | false => rw [hb] at h; cases h
        | true =>
          rw [hb] at h
          simp only [Bool.and_eq_true, Nat.ble_eq, Nat.blt_eq] at hb
          exact stepC_call C hM hTab hE hMO hRf hRl hrc hk hmo hEnd hlk2 hcb hpop hb.1 hb.2.2.2 (Or.inl ⟨hb.2.1, hd, hb.2.2.1⟩) h
      · cases h
    · cases h
  case invokestatic n =>
    simp only [stepC] at h
    split at h
    · rename_i kd y na hlk2
      split at h
      · rename_i as rest hpop
        cases hb : (Nat.ble (rest.map acat).sum 8 && (Nat.ble 2 kd && as.all no90)) with
        | false => rw [hb] at h; cases h
        | true =>
          rw [hb] at h
          simp only [Bool.and_eq_true, Nat.ble_eq] at hb
          exact stepC_call C hM hTab hE hMO hRf hRl hrc hk hmo hEnd hlk2 hcb hpop hb.1 hb.2.2 (Or.inr ⟨hb.2.1, hd⟩) h
      · cases h
    · cases h
  case new n =>
    intro t lr H locs hl hwl hws hwd
    simp only [stepC] at h
    split at h
    · rename_i X hlkX
      split at h
      · cases h
        exact hEnd.2.2.2.2.1 _ _ _ _ _ _ _ _ _ _ _ _ hlk hlkX rfl hl.2.1 hwd
      · cases h
    · cases h
  case ireturn =>
    intro t lr H locs hl hwl hws hwd
    simp only [stepC] at h
    split at h
    · rename_i x
      split at h
      · rename_i hret
        cases h
        exact hEnd.1 _ _ _ _ _ _ _ _ _ _ _ hd rfl (Or.inl hret) hwd
      · rename_i hret
        split at h
        · rename_i h01
          cases h
          exact hEnd.1 _ _ _ _ _ _ _ _ _ _ _ hd rfl (Or.inr ⟨hret, h01⟩) hwd
        · cases h
      · cases h
    · cases h
  case lreturn =>
    intro t lr H locs hl hwl hws hwd
    simp only [stepC] at h
    split at h
    · rename_i x hret
      cases h
      exact hEnd.2.1 _ _ _ _ _ _ _ _ _ _ _ hd rfl hret hwd
    · cases h
  case areturn =>
    intro t lr H locs hl hwl hws hwd
    simp only [stepC] at h
    split at h
    · rename_i q hret
      obtain ⟨g, i⟩ := q
      cases h
      exact hEnd.2.2.1 _ _ _ _ _ _ _ _ _ _ _ hd rfl hret hws.hd hwd
    · cases h
  case return_ =>
    intro t lr H locs hl hwl hws hwd
    simp only [stepC] at h
    split at h
    · rename_i hret
      cases h
      exact hEnd.2.2.2.1 _ _ _ _ _ _ _ _ _ _ hd rfl hret hwd
    · cases h
end C8
