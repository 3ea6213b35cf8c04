theorem mv_sub_l {x y : Int32} : x + y - x = y := by rw [Int32.add_comm, Int32.add_sub_cancel]
theorem mv_cp_00 {f g : Nat → Int32} {i : Nat} (hi : i < 128) : mv_cp f g 0 0 128 i = f i := by
  unfold mv_cp
  rw [if_pos (by omega), show 0 + (i - 0) = i by omega]
