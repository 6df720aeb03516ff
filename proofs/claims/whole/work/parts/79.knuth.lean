/-! long division, pure. B the base; W the window, V the divisor; P = B ^ (m - 1), v1 the divisor's highest place. -/
/-- scaled so, the highest place is at least half the base -/
theorem kn_half {B v s : Int} (hB : 0 < B) (he : B % 2 = 0) (hv : 1 ≤ v) (hs : s = B / (v + 1)) (hvB : v < B) : B ≤ 2 * (s * v) := by
  have h1 : s * (v + 1) ≤ B := by rw [hs]; exact Int.ediv_mul_le B (by omega)
  have h2 : B < (s + 1) * (v + 1) := by rw [hs]; exact Int.lt_ediv_add_one_mul_self B (by omega)
  have hs1 : 1 ≤ s := by
    rw [hs]
    exact (Int.le_ediv_iff_mul_le (by omega)).mpr (by omega)
  have h3 : 0 ≤ (s - 1) * (v - 1) := Int.mul_nonneg (by omega) (by omega)
  have h4 : (s - 1) * (v - 1) = s * v - s - v + 1 := by rw [Int.sub_mul, Int.mul_sub, Int.mul_sub]; omega
  have h5 : (s + 1) * (v + 1) = s * v + s + v + 1 := by rw [Int.add_mul, Int.mul_add, Int.mul_add]; omega
  omega
/-- a product of the divisor that the window holds is no more than the guess from two places -/
theorem kn_le {B P v1 Vl W two Wl V q : Int} (hP : 0 < P) (hV : V = v1 * P + Vl) (hW : W = two * P + Wl) (hVl : 0 ≤ Vl) (hWl : Wl < P) (hq : 0 ≤ q) (h : q * V ≤ W) : q * v1 ≤ two := by
  have h1 : q * V = q * v1 * P + q * Vl := by rw [hV, Int.mul_add, Int.mul_assoc]
  have h2 := Int.mul_nonneg hq hVl
  apply Decidable.byContradiction
  intro hn
  have h3 : (two + 1) * P ≤ q * v1 * P := Int.mul_le_mul_of_nonneg_right (by omega) (by omega)
  rw [Int.add_mul, Int.one_mul] at h3
  omega
/-- .. by three places -/
theorem kn_le3 {B P v1 v2 Vl W two u3 Wl V q rest : Int} (hP : 0 < P) (hV : V = (v1 * B + v2) * P + Vl) (hW : W = (two * B + u3) * P + Wl) (hVl : 0 ≤ Vl) (hWl : Wl < P) (hq : 0 ≤ q) (h : q * V ≤ W) (hr : q * v1 + rest = two) : q * v2 ≤ rest * B + u3 := by
  have h0 := kn_le (B := B) (v1 := v1 * B + v2) (two := two * B + u3) hP hV hW hVl hWl hq h
  have h1 : q * (v1 * B + v2) = q * v1 * B + q * v2 := by rw [Int.mul_add, Int.mul_assoc]
  have h2 : (q * v1 + rest) * B = q * v1 * B + rest * B := Int.add_mul _ _ _
  rw [hr] at h2
  omega
/-- what the test leaves is one too great at most -/
theorem kn_one {B P v1 v2 Vl W two u3 Wl V q rest : Int} (hP : 0 < P) (hB : 0 < B) (hV : V = (v1 * B + v2) * P + Vl) (hW : W = (two * B + u3) * P + Wl) (hVl : 0 ≤ Vl) (hVl2 : Vl < P) (hWl : 0 ≤ Wl) (hq : 0 ≤ q) (hv1 : 1 ≤ v1) (hv2 : 0 ≤ v2 ∧ v2 < B) (hu3 : 0 ≤ u3) (hr : q * v1 + rest = two) (hx : (B ≤ rest ∧ q ≤ B) ∨ (q < B ∧ q * v2 ≤ rest * B + u3)) : q * V ≤ W + V := by
  have h1 : q * V = q * (v1 * B + v2) * P + q * Vl := by rw [hV, Int.mul_add, Int.mul_assoc]
  have h2 : q * (v1 * B + v2) = q * v1 * B + q * v2 := by rw [Int.mul_add, Int.mul_assoc]
  have h3 : (q * v1 + rest) * B = q * v1 * B + rest * B := Int.add_mul _ _ _
  rw [hr] at h3
  have hBP : B * P ≤ v1 * B * P := by
    have := Int.mul_le_mul_of_nonneg_right (show B ≤ v1 * B from by
      have := Int.mul_le_mul_of_nonneg_right hv1 (Int.le_of_lt hB)
      omega) (Int.le_of_lt hP)
    exact this
  have hV2 : B * P ≤ V := by
    rw [hV, Int.add_mul]
    have := Int.mul_nonneg hv2.1 (Int.le_of_lt hP)
    omega
  have hqVl : q * Vl ≤ B * P := by
    have hqB : q ≤ B := by omega
    exact Int.mul_le_mul hqB (by omega) hVl (by omega)
  have h4 : q * v2 ≤ rest * B + u3 := by
    rcases hx with ⟨z, w⟩ | ⟨_, z⟩
    · have a1 : q * v2 ≤ B * (B - 1) := Int.mul_le_mul w (by omega) hv2.1 (by omega)
      have a2 : B * B ≤ rest * B := Int.mul_le_mul_of_nonneg_right z (by omega)
      rw [Int.mul_sub] at a1
      omega
    · exact z
  have h5 : q * (v1 * B + v2) * P ≤ (two * B + u3) * P := Int.mul_le_mul_of_nonneg_right (by omega) (by omega)
  omega
/-- the quotient's place is what is left over less than the divisor -/
theorem kn_uniq {W V q q' : Int} (hV : 0 < V) (h0 : 0 ≤ W - q * V) (h1 : W - q * V < V) (h : q' * V ≤ W) : q' ≤ q := by
  apply Decidable.byContradiction
  intro hn
  have h3 : (q + 1) * V ≤ q' * V := Int.mul_le_mul_of_nonneg_right (by omega) (by omega)
  rw [Int.add_mul, Int.one_mul] at h3
  omega
