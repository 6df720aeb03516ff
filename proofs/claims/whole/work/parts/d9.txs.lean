/-! the texts of the parts of an input -/
theorem tx_17 : (tx 17).map Int32.toInt = [] := by decide +kernel
theorem tx_18 : (tx 18).map Int32.toInt = [49, 50, 51, 110] := by decide +kernel
theorem tx_19 : (tx 19).map Int32.toInt = [49, 50, 110] := by decide +kernel
