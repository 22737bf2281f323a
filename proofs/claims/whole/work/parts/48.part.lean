/-! PARTINGS -/
theorem op_parted (x : Int32) : Op2 (J_X9_parted 0 x) (J_X10_parted 60 x) := sorry
theorem op_part (x y : Int32) : Op2 (J_X9_part 0 x y) (J_X10_part 60 x y) := sorry
