theorem im_u9 {u : UInt32} (h : Nat.blt u.toNat 30 = true) : Nat.blt u.toNat 900 = true := by
  have := Nat.le_of_ble_eq_true h
  exact Nat.ble_eq_true_of_le (by omega)
