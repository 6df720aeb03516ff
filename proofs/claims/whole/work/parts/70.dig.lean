/-! NUMBERS BY DIGITS, pure: dv B f o n is what the n digits from o on are worth, the lowest first. -/
def dv (B : Int) (f : Int → Int) (o : Int) : Nat → Int
  | 0 => 0
  | n + 1 => dv B f o n + f (o + (n : Int)) * B ^ n
def dok (B : Int) (f : Int → Int) (o : Int) (n : Nat) : Prop := ∀ i : Int, 0 ≤ i → i < n → 0 ≤ f (o + i) ∧ f (o + i) < B
theorem dv_succ (B : Int) (f : Int → Int) (o : Int) (n : Nat) : dv B f o (n + 1) = dv B f o n + f (o + (n : Int)) * B ^ n := rfl
theorem dv_congr {B : Int} {f f' : Int → Int} {o o' : Int} {n : Nat} (h : ∀ i : Int, 0 ≤ i → i < n → f (o + i) = f' (o' + i)) : dv B f o n = dv B f' o' n := by
  induction n with
  | zero => rfl
  | succ n ih =>
    rw [dv_succ, dv_succ, ih (fun i h0 h1 => h i h0 (by omega)), h n (by omega) (by omega)]
theorem dok.le {B : Int} {f : Int → Int} {o : Int} {n k : Nat} (h : dok B f o n) (hk : k ≤ n) : dok B f o k := fun i h0 h1 => h i h0 (by omega)
theorem dok_congr {B : Int} {f f' : Int → Int} {o o' : Int} {n : Nat} (h : ∀ i : Int, 0 ≤ i → i < n → f (o + i) = f' (o' + i)) (hd : dok B f o n) : dok B f' o' n := fun i h0 h1 => by rw [← h i h0 h1]; exact hd i h0 h1
theorem bpow_pos {B : Int} (hB : 0 < B) (n : Nat) : 0 < B ^ n := Int.pow_pos hB
theorem dv_bd {B : Int} (hB : 0 < B) {f : Int → Int} {o : Int} {n : Nat} (h : dok B f o n) : 0 ≤ dv B f o n ∧ dv B f o n < B ^ n := by
  induction n with
  | zero => exact ⟨Int.le_refl 0, by show (0 : Int) < B ^ 0; rw [Int.pow_zero]; decide⟩
  | succ n ih =>
    obtain ⟨h1, h2⟩ := ih (h.le (Nat.le_succ n))
    obtain ⟨h3, h4⟩ := h n (by omega) (by omega)
    have hp := bpow_pos hB n
    rw [dv_succ, Int.pow_succ]
    constructor
    · have := Int.mul_nonneg h3 (Int.le_of_lt hp); omega
    · have h5 : f (o + n) * B ^ n ≤ (B - 1) * B ^ n := Int.mul_le_mul_of_nonneg_right (by omega) (Int.le_of_lt hp)
      rw [Int.sub_mul, Int.one_mul, Int.mul_comm B] at h5
      omega
theorem dv_top {B : Int} (hB : 0 < B) {f : Int → Int} {o : Int} {n : Nat} (h : dok B f o (n + 1)) (ht : f (o + (n : Int)) ≠ 0) : B ^ n ≤ dv B f o (n + 1) := by
  obtain ⟨h1, h2⟩ := dv_bd hB (h.le (Nat.le_succ n))
  obtain ⟨h3, h4⟩ := h n (by omega) (by omega)
  have hp := bpow_pos hB n
  rw [dv_succ]
  have h5 : 1 * B ^ n ≤ f (o + n) * B ^ n := Int.mul_le_mul_of_nonneg_right (by omega) (Int.le_of_lt hp)
  rw [Int.one_mul] at h5
  omega
/-- digits above are 0 -/
theorem dv_zeros {B : Int} {f : Int → Int} {o : Int} {n k : Nat} (h : ∀ i : Int, n ≤ i → i < n + k → f (o + i) = 0) : dv B f o (n + k) = dv B f o n := by
  induction k with
  | zero => rfl
  | succ k ih =>
    rw [Nat.add_succ, dv_succ, ih (fun i h0 h1 => h i h0 (by omega)), h ((n + k : Nat) : Int) (by omega) (by omega), Int.zero_mul, Int.add_zero]
/-- digits apart: the low ones, the high ones -/
theorem dv_add (B : Int) (f : Int → Int) (o : Int) (n k : Nat) : dv B f o (n + k) = dv B f o n + B ^ n * dv B f (o + n) k := by
  induction k with
  | zero => show dv B f o n = dv B f o n + B ^ n * 0; rw [Int.mul_zero, Int.add_zero]
  | succ k ih =>
    rw [Nat.add_succ, dv_succ, ih, dv_succ, Int.mul_add, Int.pow_add]
    have e : o + ((n + k : Nat) : Int) = o + (n : Int) + (k : Int) := by omega
    rw [e, Int.add_assoc]
    congr 2
    rw [Int.mul_left_comm]
/-- a higher digit that is less, those above it the same -/
theorem dv_lt {B : Int} (hB : 0 < B) {f f' : Int → Int} {o o' : Int} {n k : Nat} (hk : k < n) (h : dok B f o n) (h' : dok B f' o' n) (hlt : f (o + (k : Int)) < f' (o' + (k : Int))) (hs : ∀ i : Int, k < i → i < n → f (o + i) = f' (o' + i)) : dv B f o n < dv B f' o' n := by
  obtain ⟨j, rfl⟩ : ∃ j, n = k + 1 + j := ⟨n - (k + 1), by omega⟩
  rw [dv_add B f o (k + 1) j, dv_add B f' o' (k + 1) j, dv_congr (n := j) (o := o + ((k + 1 : Nat) : Int)) (o' := o' + ((k + 1 : Nat) : Int)) (f' := f') (fun i h0 h1 => by
    have := hs ((k + 1 : Nat) + i) (by omega) (by omega)
    rw [← Int.add_assoc, ← Int.add_assoc] at this
    exact this)]
  have h1 := dv_bd hB (h.le (k := k) (by omega))
  have h2 := dv_bd hB (h'.le (k := k) (by omega))
  have hp := bpow_pos hB k
  rw [dv_succ B f o k, dv_succ B f' o' k]
  have h5 : (f (o + k) + 1) * B ^ k ≤ f' (o' + k) * B ^ k := Int.mul_le_mul_of_nonneg_right (by omega) (Int.le_of_lt hp)
  rw [Int.add_mul, Int.one_mul] at h5
  omega
/-- a number: sign and size -/
def sg (x : Int) : Int := if x < 0 then -1 else if x = 0 then 0 else 1
/-- LARGE -/
def LIM : Int := 10 ^ 300
theorem LIM_pos : 0 < LIM := by unfold LIM; exact bpow_pos (by decide) 300
/-- the unique form: n digits, the highest one not 0 -/
def dnf (B : Int) (f : Int → Int) (o : Int) (n : Nat) : Prop := dok B f o n ∧ (0 < n → f (o + ((n : Int) - 1)) ≠ 0)
theorem dnf_pos {B : Int} (hB : 0 < B) {f : Int → Int} {o : Int} {n : Nat} (h : dnf B f o n) (hn : 0 < n) : B ^ (n - 1) ≤ dv B f o n := by
  obtain ⟨k, rfl⟩ : ∃ k, n = k + 1 := ⟨n - 1, by omega⟩
  have h2 := h.2 (by omega)
  rw [show ((k + 1 : Nat) : Int) - 1 = (k : Int) from by omega] at h2
  exact dv_top hB h.1 h2
theorem bpow_le {B : Int} (hB : 1 ≤ B) {n m : Nat} (h : n ≤ m) : B ^ n ≤ B ^ m := by
  obtain ⟨k, rfl⟩ : ∃ k, m = n + k := ⟨m - n, by omega⟩
  rw [Int.pow_add]
  have h1 : 1 ≤ B ^ k := by have := bpow_pos (B := B) (by omega) k; omega
  have h2 := bpow_pos (B := B) (by omega) n
  have h3 : B ^ n * 1 ≤ B ^ n * B ^ k := Int.mul_le_mul_of_nonneg_left h1 (Int.le_of_lt h2)
  rw [Int.mul_one] at h3
  exact h3
/-- fewer digits: a smaller number -/
theorem dnf_lt {B : Int} (hB : 1 < B) {f f' : Int → Int} {o o' : Int} {n n' : Nat} (h : dok B f o n) (h' : dnf B f' o' n') (hn : n < n') : dv B f o n < dv B f' o' n' := by
  have h1 := (dv_bd (by omega) h).2
  have h2 := dnf_pos (by omega) h' (by omega)
  have h3 := bpow_le (B := B) (by omega) (n := n) (m := n' - 1) (by omega)
  omega
