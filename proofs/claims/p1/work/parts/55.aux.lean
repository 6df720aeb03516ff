theorem pu_i3 (x : Int32) : x.toInt64.toInt32 = x := by
  first | exact Int32.toInt32_toInt64 x | simp
