theorem cstep {B v q m P : Int} (h : v = B * q + m) : v * P = m * P + q * (P * B) := by
  subst h
  rw [Int.add_mul, Int.add_comm, Int.mul_comm B q, Int.mul_assoc, Int.mul_comm B P]
theorem im_up_dv {B : Int} {f : Int → Int} {o x : Int} {k : Nat} : dv B (im_up f (o + k) x) o (k + 1) = dv B f o k + x * B ^ k := by
  rw [dv_succ, im_up_eq, dv_congr (f' := f) (o' := o) (fun i i0 i1 => im_up_ne _ _ (by omega))]
theorem im_up_dok {B : Int} {f : Int → Int} {o x : Int} {k : Nat} (h : dok B f o k) (h0 : 0 ≤ x) (h1 : x < B) : dok B (im_up f (o + k) x) o (k + 1) := by
  intro i i0 i1
  by_cases hi : i = k
  · subst hi; rw [im_up_eq]; exact ⟨h0, h1⟩
  · rw [im_up_ne _ _ (by omega)]; exact h i i0 (by omega)
theorem dv_set {B : Int} {f : Int → Int} {o x : Int} {n j : Nat} (hj : j < n) : dv B (im_up f (o + j) x) o n = dv B f o n + (x - f (o + j)) * B ^ j := by
  induction n with
  | zero => omega
  | succ n ih =>
    rw [dv_succ, dv_succ]
    by_cases h : j = n
    · subst h
      rw [im_up_eq, dv_congr (f' := f) (o' := o) (fun i i0 i1 => im_up_ne _ _ (by omega)), Int.sub_mul]
      omega
    · rw [ih (by omega), im_up_ne _ _ (by omega)]
      omega
theorem dok_set {B : Int} {f : Int → Int} {o x : Int} {n j : Nat} (h : dok B f o n) (h0 : 0 ≤ x) (h1 : x < B) : dok B (im_up f (o + j) x) o n := by
  intro i i0 i1
  by_cases hi : i = j
  · subst hi; rw [im_up_eq]; exact ⟨h0, h1⟩
  · rw [im_up_ne _ _ (by omega)]; exact h i i0 i1
/-- one step of a product's row -/
theorem mul_step {B F u l c P v q m : Int} (hv : v = F + u * l + c) (hq : v = B * q + m) : (m - F) * P + q * (P * B) = c * P + u * (l * P) := by
  have h1 := cstep (B := B) (P := P) hq
  rw [hv, Int.add_mul, Int.add_mul, Int.mul_assoc] at h1
  rw [Int.sub_mul]
  omega
theorem mul_bd {B F u l c : Int} (hB : 1 < B) (hF : 0 ≤ F ∧ F < B) (hu : 0 ≤ u ∧ u < B) (hl : 0 ≤ l ∧ l < B) (hc : 0 ≤ c ∧ c < B) : 0 ≤ F + u * l + c ∧ F + u * l + c < B * B := by
  have h1 := Int.mul_nonneg hu.1 hl.1
  have h2 : u * l ≤ (B - 1) * (B - 1) := Int.mul_le_mul (by omega) (by omega) hl.1 (by omega)
  have h3 : (B - 1) * (B - 1) = B * B - 2 * B + 1 := by rw [Int.sub_mul, Int.mul_sub, Int.mul_sub]; omega
  omega
/-- digits in groups of k -/
theorem dv_grp (B : Int) (f : Int → Int) (k n : Nat) : dv B f 0 (k * n) = dv (B ^ k) (fun i => dv B f (k * i) k) 0 n := by
  induction n with
  | zero => rfl
  | succ n ih =>
    rw [Nat.mul_succ, dv_add, ih, dv_succ, Int.zero_add, Int.zero_add, Int.pow_mul, Int.mul_comm]
    congr 2
