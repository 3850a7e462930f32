/-! constants: printed by wip/gen/gen6.py -/
def kOK (cls : Nat) (q : Nat × AV) : Prop := match q.2 with
  | .inl x => Cond.constant (clsN cls) q.1 x ∈ gTb
  | .inr (.inr (92, i)) => cls = 3 ∧ q.1 = 70 ∧ i = 0
  | .inr (.inr (93, i)) => cls = 1 ∧ q.1 = 105 ∧ i = 0
  | .inr (.inr (94, i)) => cls = 0 ∧ q.1 = 44 ∧ i = 0
  | _ => False
theorem cls_K_0 : ∀ q ∈ (cp_0).2.2.1, kOK 0 q := List.forall_mem_cons.mpr ⟨(⟨rfl, rfl, rfl⟩ : kOK 0 (44, (Sum.inr (Sum.inr (94, 0)) : AV))), List.forall_mem_nil _⟩
theorem cls_K_1 : ∀ q ∈ (cp_1).2.2.1, kOK 1 q := List.forall_mem_cons.mpr ⟨(⟨rfl, rfl, rfl⟩ : kOK 1 (105, (Sum.inr (Sum.inr (93, 0)) : AV))), List.forall_mem_cons.mpr ⟨(kc_1_150 : kOK 1 (150, (Sum.inl (16777215) : AV))), List.forall_mem_nil _⟩⟩
theorem cls_K_2 : ∀ q ∈ (cp_2).2.2.1, kOK 2 q := List.forall_mem_nil _
theorem cls_K_3 : ∀ q ∈ (cp_3).2.2.1, kOK 3 q := List.forall_mem_cons.mpr ⟨(⟨rfl, rfl, rfl⟩ : kOK 3 (70, (Sum.inr (Sum.inr (92, 0)) : AV))), List.forall_mem_nil _⟩
theorem cls_K_4 : ∀ q ∈ (cp_4).2.2.1, kOK 4 q := List.forall_mem_nil _
theorem cls_K_5 : ∀ q ∈ (cp_5).2.2.1, kOK 5 q := List.forall_mem_cons.mpr ⟨(kc_5_62 : kOK 5 (62, (Sum.inl (99999999) : AV))), List.forall_mem_nil _⟩
theorem cls_K_6 : ∀ q ∈ (cp_6).2.2.1, kOK 6 q := List.forall_mem_nil _
theorem cls_K_7 : ∀ q ∈ (cp_7).2.2.1, kOK 7 q := List.forall_mem_cons.mpr ⟨(kc_7_148 : kOK 7 (148, (Sum.inl (100000000) : AV))), List.forall_mem_cons.mpr ⟨(kc_7_181 : kOK 7 (181, (Sum.inl (16777215) : AV))), List.forall_mem_cons.mpr ⟨(kc_7_304 : kOK 7 (304, (Sum.inl (-1000000) : AV))), List.forall_mem_cons.mpr ⟨(kc_7_305 : kOK 7 (305, (Sum.inl (1000000) : AV))), List.forall_mem_nil _⟩⟩⟩⟩
theorem cls_K_8 : ∀ q ∈ (cp_8).2.2.1, kOK 8 q := List.forall_mem_nil _
theorem cls_K_9 : ∀ q ∈ (cp_9).2.2.1, kOK 9 q := List.forall_mem_nil _
theorem cps_K {cls : Nat} (h : cls < 10) : ∀ q ∈ (cps cls).2.2.1, kOK cls q := by
  match cls, h with
  | 0, _ => exact cls_K_0
  | 1, _ => exact cls_K_1
  | 2, _ => exact cls_K_2
  | 3, _ => exact cls_K_3
  | 4, _ => exact cls_K_4
  | 5, _ => exact cls_K_5
  | 6, _ => exact cls_K_6
  | 7, _ => exact cls_K_7
  | 8, _ => exact cls_K_8
  | 9, _ => exact cls_K_9
