/-! AN ABSTRACT MACHINE over cells by number: one interpreter (am_), proved once against the machine, for all methods of the class, the law and the reference. Group A: instructions that touch neither heap nor callers. -/
abbrev am_L : Type := List (Nat × Value)
/-- a value of the abstract machine as the machine has it: a reference is the number of a cell above the base b; a float stands for a constant object outside, by its number -/
def am_r (b : Nat) (sa : Nat → Option Nat) : Value → Value
  | .ref i => .ref (b + i)
  | .float u => va_rf (sa u.toNat)
  | v => v
def am_rl (b : Nat) (sa : Nat → Option Nat) (lv : am_L) : am_L := lv.map (fun q => (q.1, am_r b sa q.2))
theorem am_r_cat (b : Nat) (sa : Nat → Option Nat) (v : Value) : (am_r b sa v).category = v.category := by cases v <;> first | rfl | (show (va_rf (sa _)).category = 1; cases sa _ <;> rfl)
theorem am_r_int (b : Nat) (sa : Nat → Option Nat) (x : Int32) : am_r b sa (.int x) = .int x := rfl
theorem am_r_long (b : Nat) (sa : Nat → Option Nat) (x : Int64) : am_r b sa (.long x) = .long x := rfl
def am_ld (lv : am_L) (i : Nat) : Option Value := (lv.find? (fun q => q.1 == i)).map (fun q => q.2)
def am_s1 (lv : am_L) (i : Nat) (v : Value) : am_L := (i, v) :: lv.filter (fun q => !(q.1 == i) && !(q.1 + 1 == i && q.2.category == 2))
def am_s2 (lv : am_L) (i : Nat) (v : Value) : am_L := (i, v) :: lv.filter (fun q => !(q.1 == i) && (!(q.1 == i + 1) && !(q.1 + 1 == i && q.2.category == 2)))
theorem am_ld_has {b : Nat} {sa : Nat → Option Nat} {ls : Array Slot} {nL : Nat} {lv : am_L} (h : lv_has ls nL (am_rl b sa lv)) {i : Nat} {v : Value} (hl : am_ld lv i = some v) : ls[i]? = some (.val (am_r b sa v)) := by
  unfold am_ld at hl
  cases hf : lv.find? (fun q => q.1 == i) with
  | none => rw [hf] at hl; cases hl
  | some q =>
    rw [hf] at hl
    cases hl
    have h1 := List.find?_some hf
    have h2 := List.mem_of_find?_eq_some hf
    have h3 : q.1 = i := by simpa using h1
    subst h3
    exact h.2.2 (q.1, am_r b sa q.2) (List.mem_map.mpr ⟨q, h2, rfl⟩)
theorem am_s1_r {b : Nat} {sa : Nat → Option Nat} {lv : am_L} {i : Nat} {v : Value} : (i, am_r b sa v) :: (am_rl b sa lv).filter (fun q => !(q.1 == i) && !(q.1 + 1 == i && q.2.category == 2)) = am_rl b sa (am_s1 lv i v) := by
  unfold am_s1 am_rl
  rw [List.map_cons, List.filter_map]
  congr 2
  apply List.filter_congr
  intro q _
  simp only [Function.comp, am_r_cat]
theorem am_s2_r {b : Nat} {sa : Nat → Option Nat} {lv : am_L} {i : Nat} {v : Value} : (i, am_r b sa v) :: (am_rl b sa lv).filter (fun q => !(q.1 == i) && (!(q.1 == i + 1) && !(q.1 + 1 == i && q.2.category == 2))) = am_rl b sa (am_s2 lv i v) := by
  unfold am_s2 am_rl
  rw [List.map_cons, List.filter_map]
  congr 2
  apply List.filter_congr
  intro q _
  simp only [Function.comp, am_r_cat]
/-- what a conditional branch asks -/
def am_tst (cnd : Jvm.ClassFile.Cond) (x y : Int32) : Bool := match cnd with
  | .eq => decide (x = y)
  | .ne => decide (¬ x = y)
  | .lt => decide (x < y)
  | .ge => decide (y ≤ x)
  | .gt => decide (y < x)
  | .le => decide (x ≤ y)
