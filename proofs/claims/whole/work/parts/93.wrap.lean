/-! The law's own calls that catch. -/
section
variable (L : Nat) (xs : Nat → Int32) (O : Int64)
theorem w_land_v {d : Nat} (a1 v : Int32) (M M' : Mem) (h : EX L xs (d + 1) q_X6_land [.inr (.inr (0, 0)), .inl (a1)] M O = (some (.inl (some (.inl (v))), M', O, 0, 0) : Res)) : EX L xs (d + 1 + 1) q_L_land [.inr (.inr (0, 0)), .inl (a1), .inr (.inr (83, 0))] M O = (some (.inl (some (.inl 0)), M', v.toInt64, 0, 0) : Res) := by
  refine (EX_in mi_L_land rfl rfl rfl (ls := [some (.inr (.inr (0, 0))), some (.inl (a1)), some (.inr (.inr (83, 0))), none]) rfl).trans ?_
  rw [e_L_land_0, h]
  simp only [xr_v, Nat.reduceAdd, Nat.add_zero]
  rw [e_L_land_7, if_pos rfl]
theorem w_land_2 {d : Nat} (a1 : Int32) (M M' : Mem) (h : EX L xs (d + 1) q_X6_land [.inr (.inr (0, 0)), .inl (a1)] M O = (some (.inr 2, M', O, 1, 6) : Res)) : EX L xs (d + 1 + 1) q_L_land [.inr (.inr (0, 0)), .inl (a1), .inr (.inr (83, 0))] M O = (some (.inl (some (.inl (nI 1))), M', O, 1, 6) : Res) := by
  refine (EX_in mi_L_land rfl rfl rfl (ls := [some (.inr (.inr (0, 0))), some (.inl (a1)), some (.inr (.inr (83, 0))), none]) rfl).trans ?_
  rw [e_L_land_0, h]
  rfl
theorem w_air_v {d : Nat} (a1 v : Int32) (M M' : Mem) (h : EX L xs (d + 1) q_X6_air [.inr (.inr (0, 0)), .inl (a1)] M O = (some (.inl (some (.inl (v))), M', O, 0, 0) : Res)) : EX L xs (d + 1 + 1) q_L_air [.inr (.inr (0, 0)), .inl (a1), .inr (.inr (83, 0))] M O = (some (.inl (some (.inl 0)), M', v.toInt64, 0, 0) : Res) := by
  refine (EX_in mi_L_air rfl rfl rfl (ls := [some (.inr (.inr (0, 0))), some (.inl (a1)), some (.inr (.inr (83, 0))), none]) rfl).trans ?_
  rw [e_L_air_0, h]
  simp only [xr_v, Nat.reduceAdd, Nat.add_zero]
  rw [e_L_air_7, if_pos rfl]
theorem w_air_2 {d : Nat} (a1 : Int32) (M M' : Mem) (h : EX L xs (d + 1) q_X6_air [.inr (.inr (0, 0)), .inl (a1)] M O = (some (.inr 2, M', O, 1, 6) : Res)) : EX L xs (d + 1 + 1) q_L_air [.inr (.inr (0, 0)), .inl (a1), .inr (.inr (83, 0))] M O = (some (.inl (some (.inl (nI 1))), M', O, 1, 6) : Res) := by
  refine (EX_in mi_L_air rfl rfl rfl (ls := [some (.inr (.inr (0, 0))), some (.inl (a1)), some (.inr (.inr (83, 0))), none]) rfl).trans ?_
  rw [e_L_air_0, h]
  rfl
theorem w_told_v {d : Nat} (a1 v : Int32) (M M' : Mem) (h : EX L xs (d + 1) q_X6_told [.inr (.inr (0, 0)), .inl (a1)] M O = (some (.inl (some (.inl (v))), M', O, 0, 0) : Res)) : EX L xs (d + 1 + 1) q_L_told [.inr (.inr (0, 0)), .inl (a1), .inr (.inr (83, 0))] M O = (some (.inl (some (.inl 0)), M', v.toInt64, 0, 0) : Res) := by
  refine (EX_in mi_L_told rfl rfl rfl (ls := [some (.inr (.inr (0, 0))), some (.inl (a1)), some (.inr (.inr (83, 0))), none]) rfl).trans ?_
  rw [e_L_told_0, h]
  simp only [xr_v, Nat.reduceAdd, Nat.add_zero]
  rw [e_L_told_7, if_pos rfl]
theorem w_told_2 {d : Nat} (a1 : Int32) (M M' : Mem) (h : EX L xs (d + 1) q_X6_told [.inr (.inr (0, 0)), .inl (a1)] M O = (some (.inr 2, M', O, 1, 6) : Res)) : EX L xs (d + 1 + 1) q_L_told [.inr (.inr (0, 0)), .inl (a1), .inr (.inr (83, 0))] M O = (some (.inl (some (.inl (nI 1))), M', O, 1, 6) : Res) := by
  refine (EX_in mi_L_told rfl rfl rfl (ls := [some (.inr (.inr (0, 0))), some (.inl (a1)), some (.inr (.inr (83, 0))), none]) rfl).trans ?_
  rw [e_L_told_0, h]
  rfl
theorem w_cell_v {d : Nat} (a1 a2 v : Int32) (M M' : Mem) (h : EX L xs (d + 1) q_X6_cell [.inr (.inr (0, 0)), .inl (a1), .inl (a2)] M O = (some (.inl (some (.inl (v))), M', O, 0, 0) : Res)) : EX L xs (d + 1 + 1) q_L_cell [.inr (.inr (0, 0)), .inl (a1), .inl (a2), .inr (.inr (83, 0))] M O = (some (.inl (some (.inl 0)), M', v.toInt64, 0, 0) : Res) := by
  refine (EX_in mi_L_cell rfl rfl rfl (ls := [some (.inr (.inr (0, 0))), some (.inl (a1)), some (.inl (a2)), some (.inr (.inr (83, 0))), none]) rfl).trans ?_
  rw [e_L_cell_0, h]
  simp only [xr_v, Nat.reduceAdd, Nat.add_zero]
  rw [e_L_cell_8, if_pos rfl]
theorem w_cell_0 {d : Nat} (a1 a2 : Int32) (M M' : Mem) (h : EX L xs (d + 1) q_X6_cell [.inr (.inr (0, 0)), .inl (a1), .inl (a2)] M O = (some (.inr 0, M', O, 1, 6) : Res)) : EX L xs (d + 1 + 1) q_L_cell [.inr (.inr (0, 0)), .inl (a1), .inl (a2), .inr (.inr (83, 0))] M O = (some (.inl (some (.inl (nI 1))), M', O, 1, 6) : Res) := by
  refine (EX_in mi_L_cell rfl rfl rfl (ls := [some (.inr (.inr (0, 0))), some (.inl (a1)), some (.inl (a2)), some (.inr (.inr (83, 0))), none]) rfl).trans ?_
  rw [e_L_cell_0, h]
  rfl
theorem w_cell_2 {d : Nat} (a1 a2 : Int32) (M M' : Mem) (h : EX L xs (d + 1) q_X6_cell [.inr (.inr (0, 0)), .inl (a1), .inl (a2)] M O = (some (.inr 2, M', O, 1, 6) : Res)) : EX L xs (d + 1 + 1) q_L_cell [.inr (.inr (0, 0)), .inl (a1), .inl (a2), .inr (.inr (83, 0))] M O = (some (.inl (some (.inl (nI 2))), M', O, 1, 6) : Res) := by
  refine (EX_in mi_L_cell rfl rfl rfl (ls := [some (.inr (.inr (0, 0))), some (.inl (a1)), some (.inl (a2)), some (.inr (.inr (83, 0))), none]) rfl).trans ?_
  rw [e_L_cell_0, h]
  rfl
theorem w_hum_v {d : Nat} (a1 v : Int32) (M M' : Mem) (h : EX L xs (d + 1) q_X6_hum [.inr (.inr (0, 0)), .inl (a1)] M O = (some (.inl (some (.inl (v))), M', O, 0, 0) : Res)) : EX L xs (d + 1 + 1) q_L_hum [.inr (.inr (0, 0)), .inl (a1), .inr (.inr (83, 0))] M O = (some (.inl (some (.inl 0)), M', v.toInt64, 0, 0) : Res) := by
  refine (EX_in mi_L_hum rfl rfl rfl (ls := [some (.inr (.inr (0, 0))), some (.inl (a1)), some (.inr (.inr (83, 0))), none]) rfl).trans ?_
  rw [e_L_hum_0, h]
  simp only [xr_v, Nat.reduceAdd, Nat.add_zero]
  rw [e_L_hum_7, if_pos rfl]
theorem w_hum_2 {d : Nat} (a1 : Int32) (M M' : Mem) (h : EX L xs (d + 1) q_X6_hum [.inr (.inr (0, 0)), .inl (a1)] M O = (some (.inr 2, M', O, 1, 6) : Res)) : EX L xs (d + 1 + 1) q_L_hum [.inr (.inr (0, 0)), .inl (a1), .inr (.inr (83, 0))] M O = (some (.inl (some (.inl (nI 1))), M', O, 1, 6) : Res) := by
  refine (EX_in mi_L_hum rfl rfl rfl (ls := [some (.inr (.inr (0, 0))), some (.inl (a1)), some (.inr (.inr (83, 0))), none]) rfl).trans ?_
  rw [e_L_hum_0, h]
  rfl
theorem w_ear_v {d : Nat} (a1 v : Int32) (M M' : Mem) (h : EX L xs (d + 1) q_X6_ear [.inr (.inr (0, 0)), .inl (a1)] M O = (some (.inl (some (.inl (v))), M', O, 0, 0) : Res)) : EX L xs (d + 1 + 1) q_L_ear [.inr (.inr (0, 0)), .inl (a1), .inr (.inr (83, 0))] M O = (some (.inl (some (.inl 0)), M', v.toInt64, 0, 0) : Res) := by
  refine (EX_in mi_L_ear rfl rfl rfl (ls := [some (.inr (.inr (0, 0))), some (.inl (a1)), some (.inr (.inr (83, 0))), none]) rfl).trans ?_
  rw [e_L_ear_0, h]
  simp only [xr_v, Nat.reduceAdd, Nat.add_zero]
  rw [e_L_ear_7, if_pos rfl]
theorem w_ear_1 {d : Nat} (a1 : Int32) (M M' : Mem) (h : EX L xs (d + 1) q_X6_ear [.inr (.inr (0, 0)), .inl (a1)] M O = (some (.inr 1, M', O, 1, 6) : Res)) : EX L xs (d + 1 + 1) q_L_ear [.inr (.inr (0, 0)), .inl (a1), .inr (.inr (83, 0))] M O = (some (.inl (some (.inl (nI 1))), M', O, 1, 6) : Res) := by
  refine (EX_in mi_L_ear rfl rfl rfl (ls := [some (.inr (.inr (0, 0))), some (.inl (a1)), some (.inr (.inr (83, 0))), none]) rfl).trans ?_
  rw [e_L_ear_0, h]
  rfl
theorem w_does_v {d : Nat} (a1 v : Int32) (M M' : Mem) (h : EX L xs (d + 1) q_X6_does [.inr (.inr (0, 0)), .inl (a1)] M O = (some (.inl (some (.inl (v))), M', O, 0, 0) : Res)) : EX L xs (d + 1 + 1) q_L_does [.inr (.inr (0, 0)), .inl (a1), .inr (.inr (83, 0))] M O = (some (.inl (some (.inl 0)), M', v.toInt64, 0, 0) : Res) := by
  refine (EX_in mi_L_does rfl rfl rfl (ls := [some (.inr (.inr (0, 0))), some (.inl (a1)), some (.inr (.inr (83, 0))), none]) rfl).trans ?_
  rw [e_L_does_0, h]
  simp only [xr_v, Nat.reduceAdd, Nat.add_zero]
  rw [e_L_does_7, if_pos rfl]
theorem w_does_1 {d : Nat} (a1 : Int32) (M M' : Mem) (h : EX L xs (d + 1) q_X6_does [.inr (.inr (0, 0)), .inl (a1)] M O = (some (.inr 1, M', O, 1, 6) : Res)) : EX L xs (d + 1 + 1) q_L_does [.inr (.inr (0, 0)), .inl (a1), .inr (.inr (83, 0))] M O = (some (.inl (some (.inl (nI 1))), M', O, 1, 6) : Res) := by
  refine (EX_in mi_L_does rfl rfl rfl (ls := [some (.inr (.inr (0, 0))), some (.inl (a1)), some (.inr (.inr (83, 0))), none]) rfl).trans ?_
  rw [e_L_does_0, h]
  rfl
theorem w_ray_v {d : Nat} (a1 a2 a3 a4 a5 v : Int32) (M M' : Mem) (h : EX L xs (d + 1) q_X6_ray [.inr (.inr (0, 0)), .inl (a1), .inl (a2), .inl (a3), .inl (a4), .inl (a5)] M O = (some (.inl (some (.inl (v))), M', O, 0, 0) : Res)) : EX L xs (d + 1 + 1) q_L_ray [.inr (.inr (0, 0)), .inl (a1), .inl (a2), .inl (a3), .inl (a4), .inl (a5), .inr (.inr (83, 0))] M O = (some (.inl (some (.inl 0)), M', v.toInt64, 0, 0) : Res) := by
  refine (EX_in mi_L_ray rfl rfl rfl (ls := [some (.inr (.inr (0, 0))), some (.inl (a1)), some (.inl (a2)), some (.inl (a3)), some (.inl (a4)), some (.inl (a5)), some (.inr (.inr (83, 0))), none]) rfl).trans ?_
  rw [e_L_ray_0, h]
  simp only [xr_v, Nat.reduceAdd, Nat.add_zero]
  rw [e_L_ray_14, if_pos rfl]
theorem w_ray_1 {d : Nat} (a1 a2 a3 a4 a5 : Int32) (M M' : Mem) (h : EX L xs (d + 1) q_X6_ray [.inr (.inr (0, 0)), .inl (a1), .inl (a2), .inl (a3), .inl (a4), .inl (a5)] M O = (some (.inr 1, M', O, 1, 6) : Res)) : EX L xs (d + 1 + 1) q_L_ray [.inr (.inr (0, 0)), .inl (a1), .inl (a2), .inl (a3), .inl (a4), .inl (a5), .inr (.inr (83, 0))] M O = (some (.inl (some (.inl (nI 1))), M', O, 1, 6) : Res) := by
  refine (EX_in mi_L_ray rfl rfl rfl (ls := [some (.inr (.inr (0, 0))), some (.inl (a1)), some (.inl (a2)), some (.inl (a3)), some (.inl (a4)), some (.inl (a5)), some (.inr (.inr (83, 0))), none]) rfl).trans ?_
  rw [e_L_ray_0, h]
  rfl
theorem w_ray_2 {d : Nat} (a1 a2 a3 a4 a5 : Int32) (M M' : Mem) (h : EX L xs (d + 1) q_X6_ray [.inr (.inr (0, 0)), .inl (a1), .inl (a2), .inl (a3), .inl (a4), .inl (a5)] M O = (some (.inr 2, M', O, 1, 6) : Res)) : EX L xs (d + 1 + 1) q_L_ray [.inr (.inr (0, 0)), .inl (a1), .inl (a2), .inl (a3), .inl (a4), .inl (a5), .inr (.inr (83, 0))] M O = (some (.inl (some (.inl (nI 2))), M', O, 1, 6) : Res) := by
  refine (EX_in mi_L_ray rfl rfl rfl (ls := [some (.inr (.inr (0, 0))), some (.inl (a1)), some (.inl (a2)), some (.inl (a3)), some (.inl (a4)), some (.inl (a5)), some (.inr (.inr (83, 0))), none]) rfl).trans ?_
  rw [e_L_ray_0, h]
  rfl
theorem w_left_v {d : Nat} (a1 a2 a3 a4 a5 v : Int32) (M M' : Mem) (h : EX L xs (d + 1) q_X6_left [.inr (.inr (0, 0)), .inl (a1), .inl (a2), .inl (a3), .inl (a4), .inl (a5)] M O = (some (.inl (some (.inl (v))), M', O, 0, 0) : Res)) : EX L xs (d + 1 + 1) q_L_left [.inr (.inr (0, 0)), .inl (a1), .inl (a2), .inl (a3), .inl (a4), .inl (a5), .inr (.inr (83, 0))] M O = (some (.inl (some (.inl 0)), M', v.toInt64, 0, 0) : Res) := by
  refine (EX_in mi_L_left rfl rfl rfl (ls := [some (.inr (.inr (0, 0))), some (.inl (a1)), some (.inl (a2)), some (.inl (a3)), some (.inl (a4)), some (.inl (a5)), some (.inr (.inr (83, 0))), none]) rfl).trans ?_
  rw [e_L_left_0, h]
  simp only [xr_v, Nat.reduceAdd, Nat.add_zero]
  rw [e_L_left_14, if_pos rfl]
theorem w_left_1 {d : Nat} (a1 a2 a3 a4 a5 : Int32) (M M' : Mem) (h : EX L xs (d + 1) q_X6_left [.inr (.inr (0, 0)), .inl (a1), .inl (a2), .inl (a3), .inl (a4), .inl (a5)] M O = (some (.inr 1, M', O, 1, 6) : Res)) : EX L xs (d + 1 + 1) q_L_left [.inr (.inr (0, 0)), .inl (a1), .inl (a2), .inl (a3), .inl (a4), .inl (a5), .inr (.inr (83, 0))] M O = (some (.inl (some (.inl (nI 1))), M', O, 1, 6) : Res) := by
  refine (EX_in mi_L_left rfl rfl rfl (ls := [some (.inr (.inr (0, 0))), some (.inl (a1)), some (.inl (a2)), some (.inl (a3)), some (.inl (a4)), some (.inl (a5)), some (.inr (.inr (83, 0))), none]) rfl).trans ?_
  rw [e_L_left_0, h]
  rfl
theorem w_left_2 {d : Nat} (a1 a2 a3 a4 a5 : Int32) (M M' : Mem) (h : EX L xs (d + 1) q_X6_left [.inr (.inr (0, 0)), .inl (a1), .inl (a2), .inl (a3), .inl (a4), .inl (a5)] M O = (some (.inr 2, M', O, 1, 6) : Res)) : EX L xs (d + 1 + 1) q_L_left [.inr (.inr (0, 0)), .inl (a1), .inl (a2), .inl (a3), .inl (a4), .inl (a5), .inr (.inr (83, 0))] M O = (some (.inl (some (.inl (nI 2))), M', O, 1, 6) : Res) := by
  refine (EX_in mi_L_left rfl rfl rfl (ls := [some (.inr (.inr (0, 0))), some (.inl (a1)), some (.inl (a2)), some (.inl (a3)), some (.inl (a4)), some (.inl (a5)), some (.inr (.inr (83, 0))), none]) rfl).trans ?_
  rw [e_L_left_0, h]
  rfl
theorem w_loud_v {d : Nat} (a1 a2 a3 v : Int32) (M M' : Mem) (h : EX L xs (d + 1) q_X6_loud [.inr (.inr (0, 0)), .inl (a1), .inl (a2), .inl (a3)] M O = (some (.inl (some (.inl (v))), M', O, 0, 0) : Res)) : EX L xs (d + 1 + 1) q_L_loud [.inr (.inr (0, 0)), .inl (a1), .inl (a2), .inl (a3), .inr (.inr (83, 0))] M O = (some (.inl (some (.inl 0)), M', v.toInt64, 0, 0) : Res) := by
  refine (EX_in mi_L_loud rfl rfl rfl (ls := [some (.inr (.inr (0, 0))), some (.inl (a1)), some (.inl (a2)), some (.inl (a3)), some (.inr (.inr (83, 0))), none]) rfl).trans ?_
  rw [e_L_loud_0, h]
  simp only [xr_v, Nat.reduceAdd, Nat.add_zero]
  rw [e_L_loud_10, if_pos rfl]
theorem w_loud_0 {d : Nat} (a1 a2 a3 : Int32) (M M' : Mem) (h : EX L xs (d + 1) q_X6_loud [.inr (.inr (0, 0)), .inl (a1), .inl (a2), .inl (a3)] M O = (some (.inr 0, M', O, 1, 6) : Res)) : EX L xs (d + 1 + 1) q_L_loud [.inr (.inr (0, 0)), .inl (a1), .inl (a2), .inl (a3), .inr (.inr (83, 0))] M O = (some (.inl (some (.inl (nI 1))), M', O, 1, 6) : Res) := by
  refine (EX_in mi_L_loud rfl rfl rfl (ls := [some (.inr (.inr (0, 0))), some (.inl (a1)), some (.inl (a2)), some (.inl (a3)), some (.inr (.inr (83, 0))), none]) rfl).trans ?_
  rw [e_L_loud_0, h]
  rfl
theorem w_loud_1 {d : Nat} (a1 a2 a3 : Int32) (M M' : Mem) (h : EX L xs (d + 1) q_X6_loud [.inr (.inr (0, 0)), .inl (a1), .inl (a2), .inl (a3)] M O = (some (.inr 1, M', O, 1, 6) : Res)) : EX L xs (d + 1 + 1) q_L_loud [.inr (.inr (0, 0)), .inl (a1), .inl (a2), .inl (a3), .inr (.inr (83, 0))] M O = (some (.inl (some (.inl (nI 2))), M', O, 1, 6) : Res) := by
  refine (EX_in mi_L_loud rfl rfl rfl (ls := [some (.inr (.inr (0, 0))), some (.inl (a1)), some (.inl (a2)), some (.inl (a3)), some (.inr (.inr (83, 0))), none]) rfl).trans ?_
  rw [e_L_loud_0, h]
  rfl
theorem w_at_v {d : Nat} (a1 a2 a3 v : Int32) (M M' : Mem) (h : EX L xs (d + 1) q_X6_at [.inr (.inr (0, 0)), .inl (a1), .inl (a2), .inl (a3)] M O = (some (.inl (some (.inl (v))), M', O, 0, 0) : Res)) : EX L xs (d + 1 + 1) q_L_at [.inr (.inr (0, 0)), .inl (a1), .inl (a2), .inl (a3), .inr (.inr (83, 0))] M O = (some (.inl (some (.inl 0)), M', v.toInt64, 0, 0) : Res) := by
  refine (EX_in mi_L_at rfl rfl rfl (ls := [some (.inr (.inr (0, 0))), some (.inl (a1)), some (.inl (a2)), some (.inl (a3)), some (.inr (.inr (83, 0))), none]) rfl).trans ?_
  rw [e_L_at_0, h]
  simp only [xr_v, Nat.reduceAdd, Nat.add_zero]
  rw [e_L_at_10, if_pos rfl]
theorem w_at_0 {d : Nat} (a1 a2 a3 : Int32) (M M' : Mem) (h : EX L xs (d + 1) q_X6_at [.inr (.inr (0, 0)), .inl (a1), .inl (a2), .inl (a3)] M O = (some (.inr 0, M', O, 1, 6) : Res)) : EX L xs (d + 1 + 1) q_L_at [.inr (.inr (0, 0)), .inl (a1), .inl (a2), .inl (a3), .inr (.inr (83, 0))] M O = (some (.inl (some (.inl (nI 1))), M', O, 1, 6) : Res) := by
  refine (EX_in mi_L_at rfl rfl rfl (ls := [some (.inr (.inr (0, 0))), some (.inl (a1)), some (.inl (a2)), some (.inl (a3)), some (.inr (.inr (83, 0))), none]) rfl).trans ?_
  rw [e_L_at_0, h]
  rfl
theorem w_at_1 {d : Nat} (a1 a2 a3 : Int32) (M M' : Mem) (h : EX L xs (d + 1) q_X6_at [.inr (.inr (0, 0)), .inl (a1), .inl (a2), .inl (a3)] M O = (some (.inr 1, M', O, 1, 6) : Res)) : EX L xs (d + 1 + 1) q_L_at [.inr (.inr (0, 0)), .inl (a1), .inl (a2), .inl (a3), .inr (.inr (83, 0))] M O = (some (.inl (some (.inl (nI 2))), M', O, 1, 6) : Res) := by
  refine (EX_in mi_L_at rfl rfl rfl (ls := [some (.inr (.inr (0, 0))), some (.inl (a1)), some (.inl (a2)), some (.inl (a3)), some (.inr (.inr (83, 0))), none]) rfl).trans ?_
  rw [e_L_at_0, h]
  rfl
theorem w_at_2 {d : Nat} (a1 a2 a3 : Int32) (M M' : Mem) (h : EX L xs (d + 1) q_X6_at [.inr (.inr (0, 0)), .inl (a1), .inl (a2), .inl (a3)] M O = (some (.inr 2, M', O, 1, 6) : Res)) : EX L xs (d + 1 + 1) q_L_at [.inr (.inr (0, 0)), .inl (a1), .inl (a2), .inl (a3), .inr (.inr (83, 0))] M O = (some (.inl (some (.inl (nI 3))), M', O, 1, 6) : Res) := by
  refine (EX_in mi_L_at rfl rfl rfl (ls := [some (.inr (.inr (0, 0))), some (.inl (a1)), some (.inl (a2)), some (.inl (a3)), some (.inr (.inr (83, 0))), none]) rfl).trans ?_
  rw [e_L_at_0, h]
  rfl
theorem w_hears_v {d : Nat} (a1 a2 v : Int32) (M M' : Mem) (h : EX L xs (d + 1) q_X6_hears [.inr (.inr (0, 0)), .inl (a1), .inl (a2)] M O = (some (.inl (some (.inl (v))), M', O, 0, 0) : Res)) : EX L xs (d + 1 + 1) q_L_hears [.inr (.inr (0, 0)), .inl (a1), .inl (a2), .inr (.inr (83, 0))] M O = (some (.inl (some (.inl 0)), M', v.toInt64, 0, 0) : Res) := by
  refine (EX_in mi_L_hears rfl rfl rfl (ls := [some (.inr (.inr (0, 0))), some (.inl (a1)), some (.inl (a2)), some (.inr (.inr (83, 0))), none]) rfl).trans ?_
  rw [e_L_hears_0, h]
  simp only [xr_v, Nat.reduceAdd, Nat.add_zero]
  rw [e_L_hears_8, if_pos rfl]
theorem w_hears_1 {d : Nat} (a1 a2 : Int32) (M M' : Mem) (h : EX L xs (d + 1) q_X6_hears [.inr (.inr (0, 0)), .inl (a1), .inl (a2)] M O = (some (.inr 1, M', O, 1, 6) : Res)) : EX L xs (d + 1 + 1) q_L_hears [.inr (.inr (0, 0)), .inl (a1), .inl (a2), .inr (.inr (83, 0))] M O = (some (.inl (some (.inl (nI 1))), M', O, 1, 6) : Res) := by
  refine (EX_in mi_L_hears rfl rfl rfl (ls := [some (.inr (.inr (0, 0))), some (.inl (a1)), some (.inl (a2)), some (.inr (.inr (83, 0))), none]) rfl).trans ?_
  rw [e_L_hears_0, h]
  rfl
theorem w_hears_2 {d : Nat} (a1 a2 : Int32) (M M' : Mem) (h : EX L xs (d + 1) q_X6_hears [.inr (.inr (0, 0)), .inl (a1), .inl (a2)] M O = (some (.inr 2, M', O, 1, 6) : Res)) : EX L xs (d + 1 + 1) q_L_hears [.inr (.inr (0, 0)), .inl (a1), .inl (a2), .inr (.inr (83, 0))] M O = (some (.inl (some (.inl (nI 2))), M', O, 1, 6) : Res) := by
  refine (EX_in mi_L_hears rfl rfl rfl (ls := [some (.inr (.inr (0, 0))), some (.inl (a1)), some (.inl (a2)), some (.inr (.inr (83, 0))), none]) rfl).trans ?_
  rw [e_L_hears_0, h]
  rfl
theorem w_zones_v {d : Nat} (a1 a2 a3 v : Int32) (M M' : Mem) (h : EX L xs (d + 1) q_X6_zones [.inr (.inr (0, 0)), .inl (a1), .inl (a2), .inl (a3)] M O = (some (.inl (some (.inl (v))), M', O, 0, 0) : Res)) : EX L xs (d + 1 + 1) q_L_zones [.inr (.inr (0, 0)), .inl (a1), .inl (a2), .inl (a3), .inr (.inr (83, 0))] M O = (some (.inl (some (.inl 0)), M', v.toInt64, 0, 0) : Res) := by
  refine (EX_in mi_L_zones rfl rfl rfl (ls := [some (.inr (.inr (0, 0))), some (.inl (a1)), some (.inl (a2)), some (.inl (a3)), some (.inr (.inr (83, 0))), none]) rfl).trans ?_
  rw [e_L_zones_0, h]
  simp only [xr_v, Nat.reduceAdd, Nat.add_zero]
  rw [e_L_zones_10, if_pos rfl]
theorem w_zones_1 {d : Nat} (a1 a2 a3 : Int32) (M M' : Mem) (h : EX L xs (d + 1) q_X6_zones [.inr (.inr (0, 0)), .inl (a1), .inl (a2), .inl (a3)] M O = (some (.inr 1, M', O, 1, 6) : Res)) : EX L xs (d + 1 + 1) q_L_zones [.inr (.inr (0, 0)), .inl (a1), .inl (a2), .inl (a3), .inr (.inr (83, 0))] M O = (some (.inl (some (.inl (nI 1))), M', O, 1, 6) : Res) := by
  refine (EX_in mi_L_zones rfl rfl rfl (ls := [some (.inr (.inr (0, 0))), some (.inl (a1)), some (.inl (a2)), some (.inl (a3)), some (.inr (.inr (83, 0))), none]) rfl).trans ?_
  rw [e_L_zones_0, h]
  rfl
theorem w_zones_2 {d : Nat} (a1 a2 a3 : Int32) (M M' : Mem) (h : EX L xs (d + 1) q_X6_zones [.inr (.inr (0, 0)), .inl (a1), .inl (a2), .inl (a3)] M O = (some (.inr 2, M', O, 1, 6) : Res)) : EX L xs (d + 1 + 1) q_L_zones [.inr (.inr (0, 0)), .inl (a1), .inl (a2), .inl (a3), .inr (.inr (83, 0))] M O = (some (.inl (some (.inl (nI 2))), M', O, 1, 6) : Res) := by
  refine (EX_in mi_L_zones rfl rfl rfl (ls := [some (.inr (.inr (0, 0))), some (.inl (a1)), some (.inl (a2)), some (.inl (a3)), some (.inr (.inr (83, 0))), none]) rfl).trans ?_
  rw [e_L_zones_0, h]
  rfl
theorem w_why_v {d : Nat} (a1 a2 a3 v : Int32) (M M' : Mem) (h : EX L xs (d + 1) q_X6_why [.inr (.inr (0, 0)), .inl (a1), .inl (a2), .inl (a3)] M O = (some (.inl (some (.inl (v))), M', O, 0, 0) : Res)) : EX L xs (d + 1 + 1) q_L_why [.inr (.inr (0, 0)), .inl (a1), .inl (a2), .inl (a3), .inr (.inr (83, 0))] M O = (some (.inl (some (.inl 0)), M', v.toInt64, 0, 0) : Res) := by
  refine (EX_in mi_L_why rfl rfl rfl (ls := [some (.inr (.inr (0, 0))), some (.inl (a1)), some (.inl (a2)), some (.inl (a3)), some (.inr (.inr (83, 0))), none]) rfl).trans ?_
  rw [e_L_why_0, h]
  simp only [xr_v, Nat.reduceAdd, Nat.add_zero]
  rw [e_L_why_10, if_pos rfl]
theorem w_why_1 {d : Nat} (a1 a2 a3 : Int32) (M M' : Mem) (h : EX L xs (d + 1) q_X6_why [.inr (.inr (0, 0)), .inl (a1), .inl (a2), .inl (a3)] M O = (some (.inr 1, M', O, 1, 6) : Res)) : EX L xs (d + 1 + 1) q_L_why [.inr (.inr (0, 0)), .inl (a1), .inl (a2), .inl (a3), .inr (.inr (83, 0))] M O = (some (.inl (some (.inl (nI 1))), M', O, 1, 6) : Res) := by
  refine (EX_in mi_L_why rfl rfl rfl (ls := [some (.inr (.inr (0, 0))), some (.inl (a1)), some (.inl (a2)), some (.inl (a3)), some (.inr (.inr (83, 0))), none]) rfl).trans ?_
  rw [e_L_why_0, h]
  rfl
theorem w_nights_v {d : Nat} (a1 a2 a3 v : Int32) (M M' : Mem) (h : EX L xs (d + 1) q_X6_nights [.inr (.inr (0, 0)), .inl (a1), .inl (a2), .inl (a3)] M O = (some (.inl (some (.inl (v))), M', O, 0, 0) : Res)) : EX L xs (d + 1 + 1) q_L_nights [.inr (.inr (0, 0)), .inl (a1), .inl (a2), .inl (a3), .inr (.inr (83, 0))] M O = (some (.inl (some (.inl 0)), M', v.toInt64, 0, 0) : Res) := by
  refine (EX_in mi_L_nights rfl rfl rfl (ls := [some (.inr (.inr (0, 0))), some (.inl (a1)), some (.inl (a2)), some (.inl (a3)), some (.inr (.inr (83, 0))), none]) rfl).trans ?_
  rw [e_L_nights_0, h]
  simp only [xr_v, Nat.reduceAdd, Nat.add_zero]
  rw [e_L_nights_10, if_pos rfl]
theorem w_nights_1 {d : Nat} (a1 a2 a3 : Int32) (M M' : Mem) (h : EX L xs (d + 1) q_X6_nights [.inr (.inr (0, 0)), .inl (a1), .inl (a2), .inl (a3)] M O = (some (.inr 1, M', O, 1, 6) : Res)) : EX L xs (d + 1 + 1) q_L_nights [.inr (.inr (0, 0)), .inl (a1), .inl (a2), .inl (a3), .inr (.inr (83, 0))] M O = (some (.inl (some (.inl (nI 1))), M', O, 1, 6) : Res) := by
  refine (EX_in mi_L_nights rfl rfl rfl (ls := [some (.inr (.inr (0, 0))), some (.inl (a1)), some (.inl (a2)), some (.inl (a3)), some (.inr (.inr (83, 0))), none]) rfl).trans ?_
  rw [e_L_nights_0, h]
  rfl
theorem w_nights_2 {d : Nat} (a1 a2 a3 : Int32) (M M' : Mem) (h : EX L xs (d + 1) q_X6_nights [.inr (.inr (0, 0)), .inl (a1), .inl (a2), .inl (a3)] M O = (some (.inr 2, M', O, 1, 6) : Res)) : EX L xs (d + 1 + 1) q_L_nights [.inr (.inr (0, 0)), .inl (a1), .inl (a2), .inl (a3), .inr (.inr (83, 0))] M O = (some (.inl (some (.inl (nI 2))), M', O, 1, 6) : Res) := by
  refine (EX_in mi_L_nights rfl rfl rfl (ls := [some (.inr (.inr (0, 0))), some (.inl (a1)), some (.inl (a2)), some (.inl (a3)), some (.inr (.inr (83, 0))), none]) rfl).trans ?_
  rw [e_L_nights_0, h]
  rfl
theorem w_wakes_v {d : Nat} (a1 a2 v : Int32) (M M' : Mem) (h : EX L xs (d + 1) q_X6_wakes [.inr (.inr (0, 0)), .inl (a1), .inl (a2)] M O = (some (.inl (some (.inl (v))), M', O, 0, 0) : Res)) : EX L xs (d + 1 + 1) q_L_wakes [.inr (.inr (0, 0)), .inl (a1), .inl (a2), .inr (.inr (83, 0))] M O = (some (.inl (some (.inl 0)), M', v.toInt64, 0, 0) : Res) := by
  refine (EX_in mi_L_wakes rfl rfl rfl (ls := [some (.inr (.inr (0, 0))), some (.inl (a1)), some (.inl (a2)), some (.inr (.inr (83, 0))), none]) rfl).trans ?_
  rw [e_L_wakes_0, h]
  simp only [xr_v, Nat.reduceAdd, Nat.add_zero]
  rw [e_L_wakes_8, if_pos rfl]
theorem w_wakes_1 {d : Nat} (a1 a2 : Int32) (M M' : Mem) (h : EX L xs (d + 1) q_X6_wakes [.inr (.inr (0, 0)), .inl (a1), .inl (a2)] M O = (some (.inr 1, M', O, 1, 6) : Res)) : EX L xs (d + 1 + 1) q_L_wakes [.inr (.inr (0, 0)), .inl (a1), .inl (a2), .inr (.inr (83, 0))] M O = (some (.inl (some (.inl (nI 1))), M', O, 1, 6) : Res) := by
  refine (EX_in mi_L_wakes rfl rfl rfl (ls := [some (.inr (.inr (0, 0))), some (.inl (a1)), some (.inl (a2)), some (.inr (.inr (83, 0))), none]) rfl).trans ?_
  rw [e_L_wakes_0, h]
  rfl
theorem w_badly_v {d : Nat} (a1 v : Int32) (M M' : Mem) (h : EX L xs (d + 1) q_X6_badly [.inr (.inr (0, 0)), .inl (a1)] M O = (some (.inl (some (.inl (v))), M', O, 0, 0) : Res)) : EX L xs (d + 1 + 1) q_L_badly [.inr (.inr (0, 0)), .inl (a1), .inr (.inr (83, 0))] M O = (some (.inl (some (.inl 0)), M', v.toInt64, 0, 0) : Res) := by
  refine (EX_in mi_L_badly rfl rfl rfl (ls := [some (.inr (.inr (0, 0))), some (.inl (a1)), some (.inr (.inr (83, 0))), none]) rfl).trans ?_
  rw [e_L_badly_0, h]
  simp only [xr_v, Nat.reduceAdd, Nat.add_zero]
  rw [e_L_badly_7, if_pos rfl]
theorem w_badly_1 {d : Nat} (a1 : Int32) (M M' : Mem) (h : EX L xs (d + 1) q_X6_badly [.inr (.inr (0, 0)), .inl (a1)] M O = (some (.inr 1, M', O, 1, 6) : Res)) : EX L xs (d + 1 + 1) q_L_badly [.inr (.inr (0, 0)), .inl (a1), .inr (.inr (83, 0))] M O = (some (.inl (some (.inl (nI 1))), M', O, 1, 6) : Res) := by
  refine (EX_in mi_L_badly rfl rfl rfl (ls := [some (.inr (.inr (0, 0))), some (.inl (a1)), some (.inr (.inr (83, 0))), none]) rfl).trans ?_
  rw [e_L_badly_0, h]
  rfl
theorem w_mean_v {d : Nat} (a1 a2 v : Int32) (M M' : Mem) (h : EX L xs (d + 1) q_X6_mean [.inr (.inr (0, 0)), .inl (a1), .inl (a2)] M O = (some (.inl (some (.inl (v))), M', O, 0, 0) : Res)) : EX L xs (d + 1 + 1) q_L_mean [.inr (.inr (0, 0)), .inl (a1), .inl (a2), .inr (.inr (83, 0))] M O = (some (.inl (some (.inl 0)), M', v.toInt64, 0, 0) : Res) := by
  refine (EX_in mi_L_mean rfl rfl rfl (ls := [some (.inr (.inr (0, 0))), some (.inl (a1)), some (.inl (a2)), some (.inr (.inr (83, 0))), none]) rfl).trans ?_
  rw [e_L_mean_0, h]
  simp only [xr_v, Nat.reduceAdd, Nat.add_zero]
  rw [e_L_mean_8, if_pos rfl]
theorem w_mean_1 {d : Nat} (a1 a2 : Int32) (M M' : Mem) (h : EX L xs (d + 1) q_X6_mean [.inr (.inr (0, 0)), .inl (a1), .inl (a2)] M O = (some (.inr 1, M', O, 1, 6) : Res)) : EX L xs (d + 1 + 1) q_L_mean [.inr (.inr (0, 0)), .inl (a1), .inl (a2), .inr (.inr (83, 0))] M O = (some (.inl (some (.inl (nI 1))), M', O, 1, 6) : Res) := by
  refine (EX_in mi_L_mean rfl rfl rfl (ls := [some (.inr (.inr (0, 0))), some (.inl (a1)), some (.inl (a2)), some (.inr (.inr (83, 0))), none]) rfl).trans ?_
  rw [e_L_mean_0, h]
  rfl
theorem w_mean_2 {d : Nat} (a1 a2 : Int32) (M M' : Mem) (h : EX L xs (d + 1) q_X6_mean [.inr (.inr (0, 0)), .inl (a1), .inl (a2)] M O = (some (.inr 2, M', O, 1, 6) : Res)) : EX L xs (d + 1 + 1) q_L_mean [.inr (.inr (0, 0)), .inl (a1), .inl (a2), .inr (.inr (83, 0))] M O = (some (.inl (some (.inl (nI 2))), M', O, 1, 6) : Res) := by
  refine (EX_in mi_L_mean rfl rfl rfl (ls := [some (.inr (.inr (0, 0))), some (.inl (a1)), some (.inl (a2)), some (.inr (.inr (83, 0))), none]) rfl).trans ?_
  rw [e_L_mean_0, h]
  rfl
theorem w_hides_v {d : Nat} (a1 a2 a3 v : Int32) (M M' : Mem) (h : EX L xs (d + 1) q_X6_hides [.inr (.inr (0, 0)), .inl (a1), .inl (a2), .inl (a3)] M O = (some (.inl (some (.inl (v))), M', O, 0, 0) : Res)) : EX L xs (d + 1 + 1) q_L_hides [.inr (.inr (0, 0)), .inl (a1), .inl (a2), .inl (a3), .inr (.inr (83, 0))] M O = (some (.inl (some (.inl 0)), M', v.toInt64, 0, 0) : Res) := by
  refine (EX_in mi_L_hides rfl rfl rfl (ls := [some (.inr (.inr (0, 0))), some (.inl (a1)), some (.inl (a2)), some (.inl (a3)), some (.inr (.inr (83, 0))), none]) rfl).trans ?_
  rw [e_L_hides_0, h]
  simp only [xr_v, Nat.reduceAdd, Nat.add_zero]
  rw [e_L_hides_10, if_pos rfl]
theorem w_hides_1 {d : Nat} (a1 a2 a3 : Int32) (M M' : Mem) (h : EX L xs (d + 1) q_X6_hides [.inr (.inr (0, 0)), .inl (a1), .inl (a2), .inl (a3)] M O = (some (.inr 1, M', O, 1, 6) : Res)) : EX L xs (d + 1 + 1) q_L_hides [.inr (.inr (0, 0)), .inl (a1), .inl (a2), .inl (a3), .inr (.inr (83, 0))] M O = (some (.inl (some (.inl (nI 1))), M', O, 1, 6) : Res) := by
  refine (EX_in mi_L_hides rfl rfl rfl (ls := [some (.inr (.inr (0, 0))), some (.inl (a1)), some (.inl (a2)), some (.inl (a3)), some (.inr (.inr (83, 0))), none]) rfl).trans ?_
  rw [e_L_hides_0, h]
  rfl
theorem w_hides_2 {d : Nat} (a1 a2 a3 : Int32) (M M' : Mem) (h : EX L xs (d + 1) q_X6_hides [.inr (.inr (0, 0)), .inl (a1), .inl (a2), .inl (a3)] M O = (some (.inr 2, M', O, 1, 6) : Res)) : EX L xs (d + 1 + 1) q_L_hides [.inr (.inr (0, 0)), .inl (a1), .inl (a2), .inl (a3), .inr (.inr (83, 0))] M O = (some (.inl (some (.inl (nI 2))), M', O, 1, 6) : Res) := by
  refine (EX_in mi_L_hides rfl rfl rfl (ls := [some (.inr (.inr (0, 0))), some (.inl (a1)), some (.inl (a2)), some (.inl (a3)), some (.inr (.inr (83, 0))), none]) rfl).trans ?_
  rw [e_L_hides_0, h]
  rfl
theorem w_least_v {d : Nat} (a1 a2 a3 a4 v : Int32) (M M' : Mem) (h : EX L xs (d + 1) q_X6_least [.inr (.inr (0, 0)), .inl (a1), .inl (a2), .inl (a3), .inl (a4)] M O = (some (.inl (some (.inl (v))), M', O, 0, 0) : Res)) : EX L xs (d + 1 + 1) q_L_least [.inr (.inr (0, 0)), .inl (a1), .inl (a2), .inl (a3), .inl (a4), .inr (.inr (83, 0))] M O = (some (.inl (some (.inl 0)), M', v.toInt64, 0, 0) : Res) := by
  refine (EX_in mi_L_least rfl rfl rfl (ls := [some (.inr (.inr (0, 0))), some (.inl (a1)), some (.inl (a2)), some (.inl (a3)), some (.inl (a4)), some (.inr (.inr (83, 0))), none]) rfl).trans ?_
  rw [e_L_least_0, h]
  simp only [xr_v, Nat.reduceAdd, Nat.add_zero]
  rw [e_L_least_12, if_pos rfl]
theorem w_least_1 {d : Nat} (a1 a2 a3 a4 : Int32) (M M' : Mem) (h : EX L xs (d + 1) q_X6_least [.inr (.inr (0, 0)), .inl (a1), .inl (a2), .inl (a3), .inl (a4)] M O = (some (.inr 1, M', O, 1, 6) : Res)) : EX L xs (d + 1 + 1) q_L_least [.inr (.inr (0, 0)), .inl (a1), .inl (a2), .inl (a3), .inl (a4), .inr (.inr (83, 0))] M O = (some (.inl (some (.inl (nI 1))), M', O, 1, 6) : Res) := by
  refine (EX_in mi_L_least rfl rfl rfl (ls := [some (.inr (.inr (0, 0))), some (.inl (a1)), some (.inl (a2)), some (.inl (a3)), some (.inl (a4)), some (.inr (.inr (83, 0))), none]) rfl).trans ?_
  rw [e_L_least_0, h]
  rfl
theorem w_least_2 {d : Nat} (a1 a2 a3 a4 : Int32) (M M' : Mem) (h : EX L xs (d + 1) q_X6_least [.inr (.inr (0, 0)), .inl (a1), .inl (a2), .inl (a3), .inl (a4)] M O = (some (.inr 2, M', O, 1, 6) : Res)) : EX L xs (d + 1 + 1) q_L_least [.inr (.inr (0, 0)), .inl (a1), .inl (a2), .inl (a3), .inl (a4), .inr (.inr (83, 0))] M O = (some (.inl (some (.inl (nI 2))), M', O, 1, 6) : Res) := by
  refine (EX_in mi_L_least rfl rfl rfl (ls := [some (.inr (.inr (0, 0))), some (.inl (a1)), some (.inl (a2)), some (.inl (a3)), some (.inl (a4)), some (.inr (.inr (83, 0))), none]) rfl).trans ?_
  rw [e_L_least_0, h]
  rfl
theorem w_bound_v {d : Nat} (a1 a2 a3 v : Int32) (M M' : Mem) (h : EX L xs (d + 1) q_X6_bound [.inr (.inr (0, 0)), .inl (a1), .inl (a2), .inl (a3)] M O = (some (.inl (some (.inl (v))), M', O, 0, 0) : Res)) : EX L xs (d + 1 + 1) q_L_bound [.inr (.inr (0, 0)), .inl (a1), .inl (a2), .inl (a3), .inr (.inr (83, 0))] M O = (some (.inl (some (.inl 0)), M', v.toInt64, 0, 0) : Res) := by
  refine (EX_in mi_L_bound rfl rfl rfl (ls := [some (.inr (.inr (0, 0))), some (.inl (a1)), some (.inl (a2)), some (.inl (a3)), some (.inr (.inr (83, 0))), none]) rfl).trans ?_
  rw [e_L_bound_0, h]
  simp only [xr_v, Nat.reduceAdd, Nat.add_zero]
  rw [e_L_bound_10, if_pos rfl]
theorem w_bound_1 {d : Nat} (a1 a2 a3 : Int32) (M M' : Mem) (h : EX L xs (d + 1) q_X6_bound [.inr (.inr (0, 0)), .inl (a1), .inl (a2), .inl (a3)] M O = (some (.inr 1, M', O, 1, 6) : Res)) : EX L xs (d + 1 + 1) q_L_bound [.inr (.inr (0, 0)), .inl (a1), .inl (a2), .inl (a3), .inr (.inr (83, 0))] M O = (some (.inl (some (.inl (nI 1))), M', O, 1, 6) : Res) := by
  refine (EX_in mi_L_bound rfl rfl rfl (ls := [some (.inr (.inr (0, 0))), some (.inl (a1)), some (.inl (a2)), some (.inl (a3)), some (.inr (.inr (83, 0))), none]) rfl).trans ?_
  rw [e_L_bound_0, h]
  rfl
theorem w_bound_2 {d : Nat} (a1 a2 a3 : Int32) (M M' : Mem) (h : EX L xs (d + 1) q_X6_bound [.inr (.inr (0, 0)), .inl (a1), .inl (a2), .inl (a3)] M O = (some (.inr 2, M', O, 1, 6) : Res)) : EX L xs (d + 1 + 1) q_L_bound [.inr (.inr (0, 0)), .inl (a1), .inl (a2), .inl (a3), .inr (.inr (83, 0))] M O = (some (.inl (some (.inl (nI 2))), M', O, 1, 6) : Res) := by
  refine (EX_in mi_L_bound rfl rfl rfl (ls := [some (.inr (.inr (0, 0))), some (.inl (a1)), some (.inl (a2)), some (.inl (a3)), some (.inr (.inr (83, 0))), none]) rfl).trans ?_
  rw [e_L_bound_0, h]
  rfl
theorem w_helps_v {d : Nat} (a1 a2 a3 a4 a5 v : Int32) (M M' : Mem) (h : EX L xs (d + 1) q_X6_helps [.inr (.inr (0, 0)), .inl (a1), .inl (a2), .inl (a3), .inl (a4), .inl (a5)] M O = (some (.inl (some (.inl (v))), M', O, 0, 0) : Res)) : EX L xs (d + 1 + 1) q_L_helps [.inr (.inr (0, 0)), .inl (a1), .inl (a2), .inl (a3), .inl (a4), .inl (a5), .inr (.inr (83, 0))] M O = (some (.inl (some (.inl 0)), M', v.toInt64, 0, 0) : Res) := by
  refine (EX_in mi_L_helps rfl rfl rfl (ls := [some (.inr (.inr (0, 0))), some (.inl (a1)), some (.inl (a2)), some (.inl (a3)), some (.inl (a4)), some (.inl (a5)), some (.inr (.inr (83, 0))), none]) rfl).trans ?_
  rw [e_L_helps_0, h]
  simp only [xr_v, Nat.reduceAdd, Nat.add_zero]
  rw [e_L_helps_14, if_pos rfl]
theorem w_helps_0 {d : Nat} (a1 a2 a3 a4 a5 : Int32) (M M' : Mem) (h : EX L xs (d + 1) q_X6_helps [.inr (.inr (0, 0)), .inl (a1), .inl (a2), .inl (a3), .inl (a4), .inl (a5)] M O = (some (.inr 0, M', O, 1, 6) : Res)) : EX L xs (d + 1 + 1) q_L_helps [.inr (.inr (0, 0)), .inl (a1), .inl (a2), .inl (a3), .inl (a4), .inl (a5), .inr (.inr (83, 0))] M O = (some (.inl (some (.inl (nI 1))), M', O, 1, 6) : Res) := by
  refine (EX_in mi_L_helps rfl rfl rfl (ls := [some (.inr (.inr (0, 0))), some (.inl (a1)), some (.inl (a2)), some (.inl (a3)), some (.inl (a4)), some (.inl (a5)), some (.inr (.inr (83, 0))), none]) rfl).trans ?_
  rw [e_L_helps_0, h]
  rfl
theorem w_helps_1 {d : Nat} (a1 a2 a3 a4 a5 : Int32) (M M' : Mem) (h : EX L xs (d + 1) q_X6_helps [.inr (.inr (0, 0)), .inl (a1), .inl (a2), .inl (a3), .inl (a4), .inl (a5)] M O = (some (.inr 1, M', O, 1, 6) : Res)) : EX L xs (d + 1 + 1) q_L_helps [.inr (.inr (0, 0)), .inl (a1), .inl (a2), .inl (a3), .inl (a4), .inl (a5), .inr (.inr (83, 0))] M O = (some (.inl (some (.inl (nI 2))), M', O, 1, 6) : Res) := by
  refine (EX_in mi_L_helps rfl rfl rfl (ls := [some (.inr (.inr (0, 0))), some (.inl (a1)), some (.inl (a2)), some (.inl (a3)), some (.inl (a4)), some (.inl (a5)), some (.inr (.inr (83, 0))), none]) rfl).trans ?_
  rw [e_L_helps_0, h]
  rfl
theorem w_helps_2 {d : Nat} (a1 a2 a3 a4 a5 : Int32) (M M' : Mem) (h : EX L xs (d + 1) q_X6_helps [.inr (.inr (0, 0)), .inl (a1), .inl (a2), .inl (a3), .inl (a4), .inl (a5)] M O = (some (.inr 2, M', O, 1, 6) : Res)) : EX L xs (d + 1 + 1) q_L_helps [.inr (.inr (0, 0)), .inl (a1), .inl (a2), .inl (a3), .inl (a4), .inl (a5), .inr (.inr (83, 0))] M O = (some (.inl (some (.inl (nI 3))), M', O, 1, 6) : Res) := by
  refine (EX_in mi_L_helps rfl rfl rfl (ls := [some (.inr (.inr (0, 0))), some (.inl (a1)), some (.inl (a2)), some (.inl (a3)), some (.inl (a4)), some (.inl (a5)), some (.inr (.inr (83, 0))), none]) rfl).trans ?_
  rw [e_L_helps_0, h]
  rfl
theorem w_bell_v {d : Nat} (a1 a2 a3 a4 a5 v : Int32) (M M' : Mem) (h : EX L xs (d + 1) q_X6_bell [.inr (.inr (0, 0)), .inl (a1), .inl (a2), .inl (a3), .inl (a4), .inl (a5)] M O = (some (.inl (some (.inl (v))), M', O, 0, 0) : Res)) : EX L xs (d + 1 + 1) q_L_bell [.inr (.inr (0, 0)), .inl (a1), .inl (a2), .inl (a3), .inl (a4), .inl (a5), .inr (.inr (83, 0))] M O = (some (.inl (some (.inl 0)), M', v.toInt64, 0, 0) : Res) := by
  refine (EX_in mi_L_bell rfl rfl rfl (ls := [some (.inr (.inr (0, 0))), some (.inl (a1)), some (.inl (a2)), some (.inl (a3)), some (.inl (a4)), some (.inl (a5)), some (.inr (.inr (83, 0))), none]) rfl).trans ?_
  rw [e_L_bell_0, h]
  simp only [xr_v, Nat.reduceAdd, Nat.add_zero]
  rw [e_L_bell_14, if_pos rfl]
theorem w_bell_1 {d : Nat} (a1 a2 a3 a4 a5 : Int32) (M M' : Mem) (h : EX L xs (d + 1) q_X6_bell [.inr (.inr (0, 0)), .inl (a1), .inl (a2), .inl (a3), .inl (a4), .inl (a5)] M O = (some (.inr 1, M', O, 1, 6) : Res)) : EX L xs (d + 1 + 1) q_L_bell [.inr (.inr (0, 0)), .inl (a1), .inl (a2), .inl (a3), .inl (a4), .inl (a5), .inr (.inr (83, 0))] M O = (some (.inl (some (.inl (nI 1))), M', O, 1, 6) : Res) := by
  refine (EX_in mi_L_bell rfl rfl rfl (ls := [some (.inr (.inr (0, 0))), some (.inl (a1)), some (.inl (a2)), some (.inl (a3)), some (.inl (a4)), some (.inl (a5)), some (.inr (.inr (83, 0))), none]) rfl).trans ?_
  rw [e_L_bell_0, h]
  rfl
theorem w_bell_2 {d : Nat} (a1 a2 a3 a4 a5 : Int32) (M M' : Mem) (h : EX L xs (d + 1) q_X6_bell [.inr (.inr (0, 0)), .inl (a1), .inl (a2), .inl (a3), .inl (a4), .inl (a5)] M O = (some (.inr 2, M', O, 1, 6) : Res)) : EX L xs (d + 1 + 1) q_L_bell [.inr (.inr (0, 0)), .inl (a1), .inl (a2), .inl (a3), .inl (a4), .inl (a5), .inr (.inr (83, 0))] M O = (some (.inl (some (.inl (nI 2))), M', O, 1, 6) : Res) := by
  refine (EX_in mi_L_bell rfl rfl rfl (ls := [some (.inr (.inr (0, 0))), some (.inl (a1)), some (.inl (a2)), some (.inl (a3)), some (.inl (a4)), some (.inl (a5)), some (.inr (.inr (83, 0))), none]) rfl).trans ?_
  rw [e_L_bell_0, h]
  rfl
theorem w_which_v {d : Nat} (a1 a2 a3 a4 v : Int32) (M M' : Mem) (h : EX L xs (d + 1) q_X6_which [.inr (.inr (0, 0)), .inl (a1), .inl (a2), .inl (a3), .inl (a4)] M O = (some (.inl (some (.inl (v))), M', O, 0, 0) : Res)) : EX L xs (d + 1 + 1) q_L_which [.inr (.inr (0, 0)), .inl (a1), .inl (a2), .inl (a3), .inl (a4), .inr (.inr (83, 0))] M O = (some (.inl (some (.inl 0)), M', v.toInt64, 0, 0) : Res) := by
  refine (EX_in mi_L_which rfl rfl rfl (ls := [some (.inr (.inr (0, 0))), some (.inl (a1)), some (.inl (a2)), some (.inl (a3)), some (.inl (a4)), some (.inr (.inr (83, 0))), none]) rfl).trans ?_
  rw [e_L_which_0, h]
  simp only [xr_v, Nat.reduceAdd, Nat.add_zero]
  rw [e_L_which_12, if_pos rfl]
theorem w_which_1 {d : Nat} (a1 a2 a3 a4 : Int32) (M M' : Mem) (h : EX L xs (d + 1) q_X6_which [.inr (.inr (0, 0)), .inl (a1), .inl (a2), .inl (a3), .inl (a4)] M O = (some (.inr 1, M', O, 1, 6) : Res)) : EX L xs (d + 1 + 1) q_L_which [.inr (.inr (0, 0)), .inl (a1), .inl (a2), .inl (a3), .inl (a4), .inr (.inr (83, 0))] M O = (some (.inl (some (.inl (nI 1))), M', O, 1, 6) : Res) := by
  refine (EX_in mi_L_which rfl rfl rfl (ls := [some (.inr (.inr (0, 0))), some (.inl (a1)), some (.inl (a2)), some (.inl (a3)), some (.inl (a4)), some (.inr (.inr (83, 0))), none]) rfl).trans ?_
  rw [e_L_which_0, h]
  rfl
theorem w_which_2 {d : Nat} (a1 a2 a3 a4 : Int32) (M M' : Mem) (h : EX L xs (d + 1) q_X6_which [.inr (.inr (0, 0)), .inl (a1), .inl (a2), .inl (a3), .inl (a4)] M O = (some (.inr 2, M', O, 1, 6) : Res)) : EX L xs (d + 1 + 1) q_L_which [.inr (.inr (0, 0)), .inl (a1), .inl (a2), .inl (a3), .inl (a4), .inr (.inr (83, 0))] M O = (some (.inl (some (.inl (nI 2))), M', O, 1, 6) : Res) := by
  refine (EX_in mi_L_which rfl rfl rfl (ls := [some (.inr (.inr (0, 0))), some (.inl (a1)), some (.inl (a2)), some (.inl (a3)), some (.inl (a4)), some (.inr (.inr (83, 0))), none]) rfl).trans ?_
  rw [e_L_which_0, h]
  rfl
theorem w_saying_v {d : Nat} (a1 a2 a3 a4 v : Int32) (M M' : Mem) (h : EX L xs (d + 1) q_X6_saying [.inr (.inr (0, 0)), .inl (a1), .inl (a2), .inl (a3), .inl (a4)] M O = (some (.inl (some (.inl (v))), M', O, 0, 0) : Res)) : EX L xs (d + 1 + 1) q_L_saying [.inr (.inr (0, 0)), .inl (a1), .inl (a2), .inl (a3), .inl (a4), .inr (.inr (83, 0))] M O = (some (.inl (some (.inl 0)), M', v.toInt64, 0, 0) : Res) := by
  refine (EX_in mi_L_saying rfl rfl rfl (ls := [some (.inr (.inr (0, 0))), some (.inl (a1)), some (.inl (a2)), some (.inl (a3)), some (.inl (a4)), some (.inr (.inr (83, 0))), none]) rfl).trans ?_
  rw [e_L_saying_0, h]
  simp only [xr_v, Nat.reduceAdd, Nat.add_zero]
  rw [e_L_saying_12, if_pos rfl]
theorem w_saying_1 {d : Nat} (a1 a2 a3 a4 : Int32) (M M' : Mem) (h : EX L xs (d + 1) q_X6_saying [.inr (.inr (0, 0)), .inl (a1), .inl (a2), .inl (a3), .inl (a4)] M O = (some (.inr 1, M', O, 1, 6) : Res)) : EX L xs (d + 1 + 1) q_L_saying [.inr (.inr (0, 0)), .inl (a1), .inl (a2), .inl (a3), .inl (a4), .inr (.inr (83, 0))] M O = (some (.inl (some (.inl (nI 1))), M', O, 1, 6) : Res) := by
  refine (EX_in mi_L_saying rfl rfl rfl (ls := [some (.inr (.inr (0, 0))), some (.inl (a1)), some (.inl (a2)), some (.inl (a3)), some (.inl (a4)), some (.inr (.inr (83, 0))), none]) rfl).trans ?_
  rw [e_L_saying_0, h]
  rfl
theorem w_saying_2 {d : Nat} (a1 a2 a3 a4 : Int32) (M M' : Mem) (h : EX L xs (d + 1) q_X6_saying [.inr (.inr (0, 0)), .inl (a1), .inl (a2), .inl (a3), .inl (a4)] M O = (some (.inr 2, M', O, 1, 6) : Res)) : EX L xs (d + 1 + 1) q_L_saying [.inr (.inr (0, 0)), .inl (a1), .inl (a2), .inl (a3), .inl (a4), .inr (.inr (83, 0))] M O = (some (.inl (some (.inl (nI 2))), M', O, 1, 6) : Res) := by
  refine (EX_in mi_L_saying rfl rfl rfl (ls := [some (.inr (.inr (0, 0))), some (.inl (a1)), some (.inl (a2)), some (.inl (a3)), some (.inl (a4)), some (.inr (.inr (83, 0))), none]) rfl).trans ?_
  rw [e_L_saying_0, h]
  rfl
theorem w_tell_v {d : Nat} (a1 a2 v : Int32) (M M' : Mem) (h : EX L xs (d + 1) q_X6_tell [.inr (.inr (0, 0)), .inl (a1), .inl (a2)] M O = (some (.inl (some (.inl (v))), M', O, 0, 0) : Res)) : EX L xs (d + 1 + 1) q_L_tell [.inr (.inr (0, 0)), .inl (a1), .inl (a2), .inr (.inr (83, 0))] M O = (some (.inl (some (.inl 0)), M', v.toInt64, 0, 0) : Res) := by
  refine (EX_in mi_L_tell rfl rfl rfl (ls := [some (.inr (.inr (0, 0))), some (.inl (a1)), some (.inl (a2)), some (.inr (.inr (83, 0))), none]) rfl).trans ?_
  rw [e_L_tell_0, h]
  simp only [xr_v, Nat.reduceAdd, Nat.add_zero]
  rw [e_L_tell_8, if_pos rfl]
theorem w_tell_1 {d : Nat} (a1 a2 : Int32) (M M' : Mem) (h : EX L xs (d + 1) q_X6_tell [.inr (.inr (0, 0)), .inl (a1), .inl (a2)] M O = (some (.inr 1, M', O, 1, 6) : Res)) : EX L xs (d + 1 + 1) q_L_tell [.inr (.inr (0, 0)), .inl (a1), .inl (a2), .inr (.inr (83, 0))] M O = (some (.inl (some (.inl (nI 1))), M', O, 1, 6) : Res) := by
  refine (EX_in mi_L_tell rfl rfl rfl (ls := [some (.inr (.inr (0, 0))), some (.inl (a1)), some (.inl (a2)), some (.inr (.inr (83, 0))), none]) rfl).trans ?_
  rw [e_L_tell_0, h]
  rfl
theorem w_tell_2 {d : Nat} (a1 a2 : Int32) (M M' : Mem) (h : EX L xs (d + 1) q_X6_tell [.inr (.inr (0, 0)), .inl (a1), .inl (a2)] M O = (some (.inr 2, M', O, 1, 6) : Res)) : EX L xs (d + 1 + 1) q_L_tell [.inr (.inr (0, 0)), .inl (a1), .inl (a2), .inr (.inr (83, 0))] M O = (some (.inl (some (.inl (nI 2))), M', O, 1, 6) : Res) := by
  refine (EX_in mi_L_tell rfl rfl rfl (ls := [some (.inr (.inr (0, 0))), some (.inl (a1)), some (.inl (a2)), some (.inr (.inr (83, 0))), none]) rfl).trans ?_
  rw [e_L_tell_0, h]
  rfl
theorem w_bang_v {d : Nat} (a1 a2 a3 a4 a5 : Int32) (v : Int64) (M M' : Mem) (h : EX L xs (d + 1) q_X6_bang [.inr (.inr (0, 0)), .inl (a1), .inl (a2), .inl (a3), .inl (a4), .inl (a5)] M O = (some (.inl (some (.inr (.inl v))), M', O, 0, 0) : Res)) : EX L xs (d + 1 + 1) q_L_bang [.inr (.inr (0, 0)), .inl (a1), .inl (a2), .inl (a3), .inl (a4), .inl (a5), .inr (.inr (83, 0))] M O = (some (.inl (some (.inl 0)), M', v, 0, 0) : Res) := by
  refine (EX_in mi_L_bang rfl rfl rfl (ls := [some (.inr (.inr (0, 0))), some (.inl (a1)), some (.inl (a2)), some (.inl (a3)), some (.inl (a4)), some (.inl (a5)), some (.inr (.inr (83, 0))), none]) rfl).trans ?_
  rw [e_L_bang_0, h]
  simp only [xr_v, Nat.reduceAdd, Nat.add_zero]
  rw [e_L_bang_14, if_pos rfl]
theorem w_bang_1 {d : Nat} (a1 a2 a3 a4 a5 : Int32) (M M' : Mem) (h : EX L xs (d + 1) q_X6_bang [.inr (.inr (0, 0)), .inl (a1), .inl (a2), .inl (a3), .inl (a4), .inl (a5)] M O = (some (.inr 1, M', O, 1, 6) : Res)) : EX L xs (d + 1 + 1) q_L_bang [.inr (.inr (0, 0)), .inl (a1), .inl (a2), .inl (a3), .inl (a4), .inl (a5), .inr (.inr (83, 0))] M O = (some (.inl (some (.inl (nI 1))), M', O, 1, 6) : Res) := by
  refine (EX_in mi_L_bang rfl rfl rfl (ls := [some (.inr (.inr (0, 0))), some (.inl (a1)), some (.inl (a2)), some (.inl (a3)), some (.inl (a4)), some (.inl (a5)), some (.inr (.inr (83, 0))), none]) rfl).trans ?_
  rw [e_L_bang_0, h]
  rfl
theorem w_bang_2 {d : Nat} (a1 a2 a3 a4 a5 : Int32) (M M' : Mem) (h : EX L xs (d + 1) q_X6_bang [.inr (.inr (0, 0)), .inl (a1), .inl (a2), .inl (a3), .inl (a4), .inl (a5)] M O = (some (.inr 2, M', O, 1, 6) : Res)) : EX L xs (d + 1 + 1) q_L_bang [.inr (.inr (0, 0)), .inl (a1), .inl (a2), .inl (a3), .inl (a4), .inl (a5), .inr (.inr (83, 0))] M O = (some (.inl (some (.inl (nI 2))), M', O, 1, 6) : Res) := by
  refine (EX_in mi_L_bang rfl rfl rfl (ls := [some (.inr (.inr (0, 0))), some (.inl (a1)), some (.inl (a2)), some (.inl (a3)), some (.inl (a4)), some (.inl (a5)), some (.inr (.inr (83, 0))), none]) rfl).trans ?_
  rw [e_L_bang_0, h]
  rfl
theorem w_click_v {d : Nat} (a1 v : Int32) (M M' : Mem) (h : EX L xs (d + 1) q_X6_click [.inr (.inr (0, 0)), .inl (a1)] M O = (some (.inl (some (.inl (v))), M', O, 0, 0) : Res)) : EX L xs (d + 1 + 1) q_L_click [.inr (.inr (0, 0)), .inl (a1), .inr (.inr (83, 0))] M O = (some (.inl (some (.inl 0)), M', v.toInt64, 0, 0) : Res) := by
  refine (EX_in mi_L_click rfl rfl rfl (ls := [some (.inr (.inr (0, 0))), some (.inl (a1)), some (.inr (.inr (83, 0))), none]) rfl).trans ?_
  rw [e_L_click_0, h]
  simp only [xr_v, Nat.reduceAdd, Nat.add_zero]
  rw [e_L_click_7, if_pos rfl]
theorem w_click_2 {d : Nat} (a1 : Int32) (M M' : Mem) (h : EX L xs (d + 1) q_X6_click [.inr (.inr (0, 0)), .inl (a1)] M O = (some (.inr 2, M', O, 1, 6) : Res)) : EX L xs (d + 1 + 1) q_L_click [.inr (.inr (0, 0)), .inl (a1), .inr (.inr (83, 0))] M O = (some (.inl (some (.inl (nI 1))), M', O, 1, 6) : Res) := by
  refine (EX_in mi_L_click rfl rfl rfl (ls := [some (.inr (.inr (0, 0))), some (.inl (a1)), some (.inr (.inr (83, 0))), none]) rfl).trans ?_
  rw [e_L_click_0, h]
  rfl
theorem w_wagons_v {d : Nat} (a1 a2 v : Int32) (M M' : Mem) (h : EX L xs (d + 1) q_X6_wagons [.inr (.inr (0, 0)), .inl (a1), .inl (a2)] M O = (some (.inl (some (.inl (v))), M', O, 0, 0) : Res)) : EX L xs (d + 1 + 1) q_L_wagons [.inr (.inr (0, 0)), .inl (a1), .inl (a2), .inr (.inr (83, 0))] M O = (some (.inl (some (.inl 0)), M', v.toInt64, 0, 0) : Res) := by
  refine (EX_in mi_L_wagons rfl rfl rfl (ls := [some (.inr (.inr (0, 0))), some (.inl (a1)), some (.inl (a2)), some (.inr (.inr (83, 0))), none]) rfl).trans ?_
  rw [e_L_wagons_0, h]
  simp only [xr_v, Nat.reduceAdd, Nat.add_zero]
  rw [e_L_wagons_8, if_pos rfl]
theorem w_wagons_2 {d : Nat} (a1 a2 : Int32) (M M' : Mem) (h : EX L xs (d + 1) q_X6_wagons [.inr (.inr (0, 0)), .inl (a1), .inl (a2)] M O = (some (.inr 2, M', O, 1, 6) : Res)) : EX L xs (d + 1 + 1) q_L_wagons [.inr (.inr (0, 0)), .inl (a1), .inl (a2), .inr (.inr (83, 0))] M O = (some (.inl (some (.inl (nI 1))), M', O, 1, 6) : Res) := by
  refine (EX_in mi_L_wagons rfl rfl rfl (ls := [some (.inr (.inr (0, 0))), some (.inl (a1)), some (.inl (a2)), some (.inr (.inr (83, 0))), none]) rfl).trans ?_
  rw [e_L_wagons_0, h]
  rfl
end
