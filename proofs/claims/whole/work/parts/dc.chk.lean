/-! THE CHECK of a record -/
theorem vI_bm (x : Int) : vI (x.bmod 4294967296) = vI x := by
  unfold vI
  refine congrArg Value.int ?_
  apply Int32.toInt_inj.mp
  rw [Int32.toInt_ofInt, Int32.toInt_ofInt]
  exact Int.bmod_bmod
theorem bm_i32 (x : Int) : im_i32 (x.bmod 4294967296) := by
  have h1 := Int.le_bmod (x := x) (m := 4294967296) (by decide)
  have h2 := Int.bmod_lt (x := x) (m := 4294967296) (by decide)
  constructor <;> omega
