/-! STEPS WITH SYMBOLS: what a walk over one call needs: branches as facts about integers, loads at an index of which only the bounds are known, throws over an overlay. -/
theorem pu_lgc (a b : Int64) : (lg_cmp a b).toInt = if a.toInt < b.toInt then -1 else if a.toInt = b.toInt then 0 else 1 := by
  have e : lg_cmp a b = if b < a then 1 else if a = b then 0 else -1 := by
    unfold lg_cmp
    simp
  rw [e]
  by_cases h1 : a.toInt < b.toInt
  · have h2 : ¬ b < a := fun z => by have := Int64.lt_iff_toInt_lt.mp z; omega
    have h3 : ¬ a = b := fun z => by rw [z] at h1; omega
    rw [if_neg h2, if_neg h3, if_pos h1]; rfl
  · rw [if_neg h1]
    by_cases h3 : a.toInt = b.toInt
    · have h4 : a = b := Int64.toInt_inj.mp h3
      have h2 : ¬ b < a := fun z => by have := Int64.lt_iff_toInt_lt.mp z; omega
      rw [if_neg h2, if_pos h4, if_pos h3]; rfl
    · have h2 : b < a := Int64.lt_iff_toInt_lt.mpr (by omega)
      rw [if_pos h2, if_neg h3]; rfl

theorem pu_c_eq_t {x y : Int32} {X Y : Int} (hc : am_tst .eq x y = true) (hx : x.toInt = X) (hy : y.toInt = Y) : X = Y := by
  subst hx; subst hy
  simp only [am_tst, decide_eq_true_eq, decide_eq_false_iff_not, Int32.lt_iff_toInt_lt, Int32.le_iff_toInt_le, ← Int32.toInt_inj] at hc
  omega
theorem pu_p_eq_t {x y : Int32} {X Y : Int} (hx : x.toInt = X) (hy : y.toInt = Y) (hc : X = Y) : am_tst .eq x y = true := by
  subst hx; subst hy
  simp only [am_tst, decide_eq_true_eq, decide_eq_false_iff_not, Int32.lt_iff_toInt_lt, Int32.le_iff_toInt_le, ← Int32.toInt_inj]
  omega
theorem pu_lc_eq_t {x y : Int64} {X Y : Int} (hc : am_tst .eq (lg_cmp x y) 0 = true) (hx : x.toInt = X) (hy : y.toInt = Y) : X = Y := by
  subst hx; subst hy
  have h := pu_c_eq_t (Y := 0) hc (pu_lgc x y) rfl
  split at h
  · omega
  · (repeat' split at h) <;> omega
theorem pu_lp_eq_t {x y : Int64} {X Y : Int} (hx : x.toInt = X) (hy : y.toInt = Y) (hc : X = Y) : am_tst .eq (lg_cmp x y) 0 = true := by
  subst hx; subst hy
  refine pu_p_eq_t (Y := 0) (pu_lgc x y) rfl ?_
  (repeat' split) <;> omega
theorem pu_c_eq_f {x y : Int32} {X Y : Int} (hc : am_tst .eq x y = false) (hx : x.toInt = X) (hy : y.toInt = Y) : ¬ X = Y := by
  subst hx; subst hy
  simp only [am_tst, decide_eq_true_eq, decide_eq_false_iff_not, Int32.lt_iff_toInt_lt, Int32.le_iff_toInt_le, ← Int32.toInt_inj] at hc
  omega
theorem pu_p_eq_f {x y : Int32} {X Y : Int} (hx : x.toInt = X) (hy : y.toInt = Y) (hc : ¬ X = Y) : am_tst .eq x y = false := by
  subst hx; subst hy
  simp only [am_tst, decide_eq_true_eq, decide_eq_false_iff_not, Int32.lt_iff_toInt_lt, Int32.le_iff_toInt_le, ← Int32.toInt_inj]
  omega
theorem pu_lc_eq_f {x y : Int64} {X Y : Int} (hc : am_tst .eq (lg_cmp x y) 0 = false) (hx : x.toInt = X) (hy : y.toInt = Y) : ¬ X = Y := by
  subst hx; subst hy
  have h := pu_c_eq_f (Y := 0) hc (pu_lgc x y) rfl
  split at h
  · omega
  · (repeat' split at h) <;> omega
theorem pu_lp_eq_f {x y : Int64} {X Y : Int} (hx : x.toInt = X) (hy : y.toInt = Y) (hc : ¬ X = Y) : am_tst .eq (lg_cmp x y) 0 = false := by
  subst hx; subst hy
  refine pu_p_eq_f (Y := 0) (pu_lgc x y) rfl ?_
  (repeat' split) <;> omega
theorem pu_c_ne_t {x y : Int32} {X Y : Int} (hc : am_tst .ne x y = true) (hx : x.toInt = X) (hy : y.toInt = Y) : ¬ X = Y := by
  subst hx; subst hy
  simp only [am_tst, decide_eq_true_eq, decide_eq_false_iff_not, Int32.lt_iff_toInt_lt, Int32.le_iff_toInt_le, ← Int32.toInt_inj] at hc
  omega
theorem pu_p_ne_t {x y : Int32} {X Y : Int} (hx : x.toInt = X) (hy : y.toInt = Y) (hc : ¬ X = Y) : am_tst .ne x y = true := by
  subst hx; subst hy
  simp only [am_tst, decide_eq_true_eq, decide_eq_false_iff_not, Int32.lt_iff_toInt_lt, Int32.le_iff_toInt_le, ← Int32.toInt_inj]
  omega
theorem pu_lc_ne_t {x y : Int64} {X Y : Int} (hc : am_tst .ne (lg_cmp x y) 0 = true) (hx : x.toInt = X) (hy : y.toInt = Y) : ¬ X = Y := by
  subst hx; subst hy
  have h := pu_c_ne_t (Y := 0) hc (pu_lgc x y) rfl
  split at h
  · omega
  · (repeat' split at h) <;> omega
theorem pu_lp_ne_t {x y : Int64} {X Y : Int} (hx : x.toInt = X) (hy : y.toInt = Y) (hc : ¬ X = Y) : am_tst .ne (lg_cmp x y) 0 = true := by
  subst hx; subst hy
  refine pu_p_ne_t (Y := 0) (pu_lgc x y) rfl ?_
  (repeat' split) <;> omega
theorem pu_c_ne_f {x y : Int32} {X Y : Int} (hc : am_tst .ne x y = false) (hx : x.toInt = X) (hy : y.toInt = Y) : X = Y := by
  subst hx; subst hy
  simp only [am_tst, decide_eq_true_eq, decide_eq_false_iff_not, Int32.lt_iff_toInt_lt, Int32.le_iff_toInt_le, ← Int32.toInt_inj] at hc
  omega
theorem pu_p_ne_f {x y : Int32} {X Y : Int} (hx : x.toInt = X) (hy : y.toInt = Y) (hc : X = Y) : am_tst .ne x y = false := by
  subst hx; subst hy
  simp only [am_tst, decide_eq_true_eq, decide_eq_false_iff_not, Int32.lt_iff_toInt_lt, Int32.le_iff_toInt_le, ← Int32.toInt_inj]
  omega
theorem pu_lc_ne_f {x y : Int64} {X Y : Int} (hc : am_tst .ne (lg_cmp x y) 0 = false) (hx : x.toInt = X) (hy : y.toInt = Y) : X = Y := by
  subst hx; subst hy
  have h := pu_c_ne_f (Y := 0) hc (pu_lgc x y) rfl
  split at h
  · omega
  · (repeat' split at h) <;> omega
theorem pu_lp_ne_f {x y : Int64} {X Y : Int} (hx : x.toInt = X) (hy : y.toInt = Y) (hc : X = Y) : am_tst .ne (lg_cmp x y) 0 = false := by
  subst hx; subst hy
  refine pu_p_ne_f (Y := 0) (pu_lgc x y) rfl ?_
  (repeat' split) <;> omega
theorem pu_c_lt_t {x y : Int32} {X Y : Int} (hc : am_tst .lt x y = true) (hx : x.toInt = X) (hy : y.toInt = Y) : X < Y := by
  subst hx; subst hy
  simp only [am_tst, decide_eq_true_eq, decide_eq_false_iff_not, Int32.lt_iff_toInt_lt, Int32.le_iff_toInt_le, ← Int32.toInt_inj] at hc
  omega
theorem pu_p_lt_t {x y : Int32} {X Y : Int} (hx : x.toInt = X) (hy : y.toInt = Y) (hc : X < Y) : am_tst .lt x y = true := by
  subst hx; subst hy
  simp only [am_tst, decide_eq_true_eq, decide_eq_false_iff_not, Int32.lt_iff_toInt_lt, Int32.le_iff_toInt_le, ← Int32.toInt_inj]
  omega
theorem pu_lc_lt_t {x y : Int64} {X Y : Int} (hc : am_tst .lt (lg_cmp x y) 0 = true) (hx : x.toInt = X) (hy : y.toInt = Y) : X < Y := by
  subst hx; subst hy
  have h := pu_c_lt_t (Y := 0) hc (pu_lgc x y) rfl
  split at h
  · omega
  · (repeat' split at h) <;> omega
theorem pu_lp_lt_t {x y : Int64} {X Y : Int} (hx : x.toInt = X) (hy : y.toInt = Y) (hc : X < Y) : am_tst .lt (lg_cmp x y) 0 = true := by
  subst hx; subst hy
  refine pu_p_lt_t (Y := 0) (pu_lgc x y) rfl ?_
  (repeat' split) <;> omega
theorem pu_c_lt_f {x y : Int32} {X Y : Int} (hc : am_tst .lt x y = false) (hx : x.toInt = X) (hy : y.toInt = Y) : Y ≤ X := by
  subst hx; subst hy
  simp only [am_tst, decide_eq_true_eq, decide_eq_false_iff_not, Int32.lt_iff_toInt_lt, Int32.le_iff_toInt_le, ← Int32.toInt_inj] at hc
  omega
theorem pu_p_lt_f {x y : Int32} {X Y : Int} (hx : x.toInt = X) (hy : y.toInt = Y) (hc : Y ≤ X) : am_tst .lt x y = false := by
  subst hx; subst hy
  simp only [am_tst, decide_eq_true_eq, decide_eq_false_iff_not, Int32.lt_iff_toInt_lt, Int32.le_iff_toInt_le, ← Int32.toInt_inj]
  omega
theorem pu_lc_lt_f {x y : Int64} {X Y : Int} (hc : am_tst .lt (lg_cmp x y) 0 = false) (hx : x.toInt = X) (hy : y.toInt = Y) : Y ≤ X := by
  subst hx; subst hy
  have h := pu_c_lt_f (Y := 0) hc (pu_lgc x y) rfl
  split at h
  · omega
  · (repeat' split at h) <;> omega
theorem pu_lp_lt_f {x y : Int64} {X Y : Int} (hx : x.toInt = X) (hy : y.toInt = Y) (hc : Y ≤ X) : am_tst .lt (lg_cmp x y) 0 = false := by
  subst hx; subst hy
  refine pu_p_lt_f (Y := 0) (pu_lgc x y) rfl ?_
  (repeat' split) <;> omega
theorem pu_c_ge_t {x y : Int32} {X Y : Int} (hc : am_tst .ge x y = true) (hx : x.toInt = X) (hy : y.toInt = Y) : Y ≤ X := by
  subst hx; subst hy
  simp only [am_tst, decide_eq_true_eq, decide_eq_false_iff_not, Int32.lt_iff_toInt_lt, Int32.le_iff_toInt_le, ← Int32.toInt_inj] at hc
  omega
theorem pu_p_ge_t {x y : Int32} {X Y : Int} (hx : x.toInt = X) (hy : y.toInt = Y) (hc : Y ≤ X) : am_tst .ge x y = true := by
  subst hx; subst hy
  simp only [am_tst, decide_eq_true_eq, decide_eq_false_iff_not, Int32.lt_iff_toInt_lt, Int32.le_iff_toInt_le, ← Int32.toInt_inj]
  omega
theorem pu_lc_ge_t {x y : Int64} {X Y : Int} (hc : am_tst .ge (lg_cmp x y) 0 = true) (hx : x.toInt = X) (hy : y.toInt = Y) : Y ≤ X := by
  subst hx; subst hy
  have h := pu_c_ge_t (Y := 0) hc (pu_lgc x y) rfl
  split at h
  · omega
  · (repeat' split at h) <;> omega
theorem pu_lp_ge_t {x y : Int64} {X Y : Int} (hx : x.toInt = X) (hy : y.toInt = Y) (hc : Y ≤ X) : am_tst .ge (lg_cmp x y) 0 = true := by
  subst hx; subst hy
  refine pu_p_ge_t (Y := 0) (pu_lgc x y) rfl ?_
  (repeat' split) <;> omega
theorem pu_c_ge_f {x y : Int32} {X Y : Int} (hc : am_tst .ge x y = false) (hx : x.toInt = X) (hy : y.toInt = Y) : X < Y := by
  subst hx; subst hy
  simp only [am_tst, decide_eq_true_eq, decide_eq_false_iff_not, Int32.lt_iff_toInt_lt, Int32.le_iff_toInt_le, ← Int32.toInt_inj] at hc
  omega
theorem pu_p_ge_f {x y : Int32} {X Y : Int} (hx : x.toInt = X) (hy : y.toInt = Y) (hc : X < Y) : am_tst .ge x y = false := by
  subst hx; subst hy
  simp only [am_tst, decide_eq_true_eq, decide_eq_false_iff_not, Int32.lt_iff_toInt_lt, Int32.le_iff_toInt_le, ← Int32.toInt_inj]
  omega
theorem pu_lc_ge_f {x y : Int64} {X Y : Int} (hc : am_tst .ge (lg_cmp x y) 0 = false) (hx : x.toInt = X) (hy : y.toInt = Y) : X < Y := by
  subst hx; subst hy
  have h := pu_c_ge_f (Y := 0) hc (pu_lgc x y) rfl
  split at h
  · omega
  · (repeat' split at h) <;> omega
theorem pu_lp_ge_f {x y : Int64} {X Y : Int} (hx : x.toInt = X) (hy : y.toInt = Y) (hc : X < Y) : am_tst .ge (lg_cmp x y) 0 = false := by
  subst hx; subst hy
  refine pu_p_ge_f (Y := 0) (pu_lgc x y) rfl ?_
  (repeat' split) <;> omega
theorem pu_c_gt_t {x y : Int32} {X Y : Int} (hc : am_tst .gt x y = true) (hx : x.toInt = X) (hy : y.toInt = Y) : Y < X := by
  subst hx; subst hy
  simp only [am_tst, decide_eq_true_eq, decide_eq_false_iff_not, Int32.lt_iff_toInt_lt, Int32.le_iff_toInt_le, ← Int32.toInt_inj] at hc
  omega
theorem pu_p_gt_t {x y : Int32} {X Y : Int} (hx : x.toInt = X) (hy : y.toInt = Y) (hc : Y < X) : am_tst .gt x y = true := by
  subst hx; subst hy
  simp only [am_tst, decide_eq_true_eq, decide_eq_false_iff_not, Int32.lt_iff_toInt_lt, Int32.le_iff_toInt_le, ← Int32.toInt_inj]
  omega
theorem pu_lc_gt_t {x y : Int64} {X Y : Int} (hc : am_tst .gt (lg_cmp x y) 0 = true) (hx : x.toInt = X) (hy : y.toInt = Y) : Y < X := by
  subst hx; subst hy
  have h := pu_c_gt_t (Y := 0) hc (pu_lgc x y) rfl
  split at h
  · omega
  · (repeat' split at h) <;> omega
theorem pu_lp_gt_t {x y : Int64} {X Y : Int} (hx : x.toInt = X) (hy : y.toInt = Y) (hc : Y < X) : am_tst .gt (lg_cmp x y) 0 = true := by
  subst hx; subst hy
  refine pu_p_gt_t (Y := 0) (pu_lgc x y) rfl ?_
  (repeat' split) <;> omega
theorem pu_c_gt_f {x y : Int32} {X Y : Int} (hc : am_tst .gt x y = false) (hx : x.toInt = X) (hy : y.toInt = Y) : X ≤ Y := by
  subst hx; subst hy
  simp only [am_tst, decide_eq_true_eq, decide_eq_false_iff_not, Int32.lt_iff_toInt_lt, Int32.le_iff_toInt_le, ← Int32.toInt_inj] at hc
  omega
theorem pu_p_gt_f {x y : Int32} {X Y : Int} (hx : x.toInt = X) (hy : y.toInt = Y) (hc : X ≤ Y) : am_tst .gt x y = false := by
  subst hx; subst hy
  simp only [am_tst, decide_eq_true_eq, decide_eq_false_iff_not, Int32.lt_iff_toInt_lt, Int32.le_iff_toInt_le, ← Int32.toInt_inj]
  omega
theorem pu_lc_gt_f {x y : Int64} {X Y : Int} (hc : am_tst .gt (lg_cmp x y) 0 = false) (hx : x.toInt = X) (hy : y.toInt = Y) : X ≤ Y := by
  subst hx; subst hy
  have h := pu_c_gt_f (Y := 0) hc (pu_lgc x y) rfl
  split at h
  · omega
  · (repeat' split at h) <;> omega
theorem pu_lp_gt_f {x y : Int64} {X Y : Int} (hx : x.toInt = X) (hy : y.toInt = Y) (hc : X ≤ Y) : am_tst .gt (lg_cmp x y) 0 = false := by
  subst hx; subst hy
  refine pu_p_gt_f (Y := 0) (pu_lgc x y) rfl ?_
  (repeat' split) <;> omega
theorem pu_c_le_t {x y : Int32} {X Y : Int} (hc : am_tst .le x y = true) (hx : x.toInt = X) (hy : y.toInt = Y) : X ≤ Y := by
  subst hx; subst hy
  simp only [am_tst, decide_eq_true_eq, decide_eq_false_iff_not, Int32.lt_iff_toInt_lt, Int32.le_iff_toInt_le, ← Int32.toInt_inj] at hc
  omega
theorem pu_p_le_t {x y : Int32} {X Y : Int} (hx : x.toInt = X) (hy : y.toInt = Y) (hc : X ≤ Y) : am_tst .le x y = true := by
  subst hx; subst hy
  simp only [am_tst, decide_eq_true_eq, decide_eq_false_iff_not, Int32.lt_iff_toInt_lt, Int32.le_iff_toInt_le, ← Int32.toInt_inj]
  omega
theorem pu_lc_le_t {x y : Int64} {X Y : Int} (hc : am_tst .le (lg_cmp x y) 0 = true) (hx : x.toInt = X) (hy : y.toInt = Y) : X ≤ Y := by
  subst hx; subst hy
  have h := pu_c_le_t (Y := 0) hc (pu_lgc x y) rfl
  split at h
  · omega
  · (repeat' split at h) <;> omega
theorem pu_lp_le_t {x y : Int64} {X Y : Int} (hx : x.toInt = X) (hy : y.toInt = Y) (hc : X ≤ Y) : am_tst .le (lg_cmp x y) 0 = true := by
  subst hx; subst hy
  refine pu_p_le_t (Y := 0) (pu_lgc x y) rfl ?_
  (repeat' split) <;> omega
theorem pu_c_le_f {x y : Int32} {X Y : Int} (hc : am_tst .le x y = false) (hx : x.toInt = X) (hy : y.toInt = Y) : Y < X := by
  subst hx; subst hy
  simp only [am_tst, decide_eq_true_eq, decide_eq_false_iff_not, Int32.lt_iff_toInt_lt, Int32.le_iff_toInt_le, ← Int32.toInt_inj] at hc
  omega
theorem pu_p_le_f {x y : Int32} {X Y : Int} (hx : x.toInt = X) (hy : y.toInt = Y) (hc : Y < X) : am_tst .le x y = false := by
  subst hx; subst hy
  simp only [am_tst, decide_eq_true_eq, decide_eq_false_iff_not, Int32.lt_iff_toInt_lt, Int32.le_iff_toInt_le, ← Int32.toInt_inj]
  omega
theorem pu_lc_le_f {x y : Int64} {X Y : Int} (hc : am_tst .le (lg_cmp x y) 0 = false) (hx : x.toInt = X) (hy : y.toInt = Y) : Y < X := by
  subst hx; subst hy
  have h := pu_c_le_f (Y := 0) hc (pu_lgc x y) rfl
  split at h
  · omega
  · (repeat' split at h) <;> omega
theorem pu_lp_le_f {x y : Int64} {X Y : Int} (hx : x.toInt = X) (hy : y.toInt = Y) (hc : Y < X) : am_tst .le (lg_cmp x y) 0 = false := by
  subst hx; subst hy
  refine pu_p_le_f (Y := 0) (pu_lgc x y) rfl ?_
  (repeat' split) <;> omega
theorem pu_ix {j : Int32} {n : Nat} (h0 : 0 ≤ j.toInt) (h1 : j.toInt < n) : ¬ (j < 0 ∨ n ≤ j.toNatClampNeg) := by
  have e : j.toNatClampNeg = j.toInt.toNat := rfl
  rintro (h | h)
  · have := Int32.lt_iff_toInt_lt.mp h
    rw [show Int32.toInt 0 = 0 from rfl] at this
    omega
  · rw [e] at h; omega
theorem pu_ix2 {j : Int32} {n : Nat} (hj : ¬ (j < 0 ∨ n ≤ j.toNatClampNeg)) : j.toNatClampNeg < n := by omega
section AMT5
variable {G : am_G} {d M pc N : Nat} {lv : am_L} {st r : List Value} {h : am_H} {k : am_Out → am_H → Prop} {ov : am_O}
theorem am_T.lvq {lv' : am_L} (e : lv = lv') (kk : am_T G d M pc lv' st h k) : am_T G d M pc lv st h k := e ▸ kk
theorem am_T.bck {kd pc' : Nat} {v : Option Value} {st' : List Value} (hp : pc + 3 = pc') (hs : v.toList ++ r = st') (kk : am_T G (d + 1) M pc' lv st' h k) : am_bk G d M pc kd lv r k (.inl v) h := by
  subst hp; subst hs; exact kk
theorem am_T.heap {ins : Instr} {st' : List Value} {pc' : Nat} {h1 : am_H} (hn : am_No G M pc st ins) (ha : am_a (am_kk G M) (am_mxl G M) ins pc lv st = none) (hb : am_b (am_X G) (am_lkk G M) (am_ini G M) ins pc st h = some (pc', st', h1)) (kk : am_T G d M pc' lv st' h1 k) : am_T G d M pc lv st h k := by
  obtain ⟨o, h', a, b⟩ := kk
  exact ⟨o, h', am_R.heap hn ha hb a, b⟩
theorem am_T.ialdS {i n : Nat} {j v : Int32} {f : Nat → Int32} (hN : N ≤ h.length) (hn : am_No G M pc (.int j :: .ref i :: r) .iaload) (hg : am_get N ov i = some (.inl (1, n, .inl f))) (hj : ¬ (j < 0 ∨ n ≤ j.toNatClampNeg)) (hv : ∀ m, m < n → f m = v) (kk : am_T G d M (pc + 1) lv (.int v :: r) (am_ov ov h) k) : am_T G d M pc lv (.int j :: .ref i :: r) (am_ov ov h) k := by
  have e := hv _ (pu_ix2 hj)
  refine am_T.heap hn rfl ?_ kk
  simp only [am_b, am_ov_get hN hg]
  rw [if_neg hj, e]
theorem am_T.baldS {i n t : Nat} {j v : Int32} {f : Nat → Int32} (ht : t = 0 ∨ t = 3) (hN : N ≤ h.length) (hn : am_No G M pc (.int j :: .ref i :: r) .baload) (hg : am_get N ov i = some (.inl (t, n, .inl f))) (hj : ¬ (j < 0 ∨ n ≤ j.toNatClampNeg)) (hv : ∀ m, m < n → f m = v) (kk : am_T G d M (pc + 1) lv (.int v :: r) (am_ov ov h) k) : am_T G d M pc lv (.int j :: .ref i :: r) (am_ov ov h) k := by
  have e := hv _ (pu_ix2 hj)
  refine am_T.heap hn rfl ?_ kk
  rcases ht with ht | ht
  · subst ht
    simp only [am_b, am_ov_get hN hg]
    rw [if_neg hj, e]
  · subst ht
    simp only [am_b, am_ov_get hN hg]
    rw [if_neg hj, e]
theorem am_T.aaldS {i n : Nat} {j : Int32} {f : Nat → Option Nat} (hN : N ≤ h.length) (hn : am_No G M pc (.int j :: .ref i :: r) .aaload) (hg : am_get N ov i = some (.inl (5, n, .inr (.inr (.inr (.inr f)))))) (hj : ¬ (j < 0 ∨ n ≤ j.toNatClampNeg)) (hv : ∀ m, m < n → f m = some (2072 + 305 * m)) (kk : ∀ m, m < n → am_T G d M (pc + 1) lv (.ref (2072 + 305 * m) :: r) (am_ov ov h) k) : am_T G d M pc lv (.int j :: .ref i :: r) (am_ov ov h) k := by
  refine am_T.heap hn rfl ?_ (kk _ (pu_ix2 hj))
  simp only [am_b, am_ov_get hN hg]
  first | rw [if_pos ⟨Or.inr trivial, hj⟩, hv _ (pu_ix2 hj)] | rw [if_pos ⟨Or.inr rfl, hj⟩, hv _ (pu_ix2 hj)]
  rfl
theorem am_T.gfS {ix i ci kf md : Nat} {fs : List Value} {v : Value} (hN : N ≤ h.length) (hn : am_No G M pc (.ref i :: r) (.getfield ix)) (hl : (am_lkk G M).1 ix = some (ci, kf, md)) (hg : am_get N ov i = some (.inr (ci, fs))) (hv : fs[kf]? = some v) (hc : ¬ ci = 99) (kk : am_T G d M (pc + 3) lv (v :: r) (am_ov ov h) k) : am_T G d M pc lv (.ref i :: r) (am_ov ov h) k := by
  refine am_T.heap hn rfl ?_ kk
  simp only [am_b, hl, am_ov_get hN hg]
  first | rw [if_pos ⟨trivial, hc⟩] | rw [if_pos ⟨rfl, hc⟩]
  simp only [hv]
theorem am_T.gfI {ix kf md m : Nat} {v : Value} (hN : N ≤ h.length) (hn : am_No G M pc (.ref (2072 + 305 * m) :: r) (.getfield ix)) (hl : (am_lkk G M).1 ix = some (9, kf, md)) (hm : m < 16) (hg : ∀ j, j < 16 → ∃ r1 r2 r3 r4, am_get N ov (2072 + 305 * j) = some (.inr (9, [.ref r1, .ref r2, .ref r3, .ref r4, .long 0, .int 0, .int 0]))) (hv : ∀ r1 r2 r3 r4 : Nat, ([.ref r1, .ref r2, .ref r3, .ref r4, .long 0, .int 0, .int 0] : List Value)[kf]? = some v) (kk : am_T G d M (pc + 3) lv (v :: r) (am_ov ov h) k) : am_T G d M pc lv (.ref (2072 + 305 * m) :: r) (am_ov ov h) k := by
  obtain ⟨r1, r2, r3, r4, e⟩ := hg m hm
  exact am_T.gfS hN hn hl e (hv r1 r2 r3 r4) (by decide) kk
def am_bds (N : Nat) (ov : am_O) : Bool := ov.all (fun p => Nat.blt p.1 N)
theorem am_T.thrO {E : String} (hN : N ≤ h.length) (h0 : am_spc G M pc st = none) (hs : am_thr G M pc = some E) (hc : Nat.ble (am_cat st) 8 = true) (ht : am_tab G M = false) (hb : am_bds N ov = true) (kk : k (.inr E) (am_ov ov (h ++ [.inr (99, [.null, .null, .null, .null, .null, .null])]))) : am_T G d M pc lv st (am_ov ov h) k := by
  refine am_T.thrw h0 hs (Nat.le_of_ble_eq_true hc) ht ?_
  rw [am_ov_push ov h _ (fun p hp => Nat.lt_of_lt_of_le (Nat.le_of_ble_eq_true (List.all_eq_true.mp hb p hp)) hN)]
  exact kk
end AMT5
theorem pu_hN {N : Nat} {h : am_H} (hN : N ≤ h.length) (e : am_H) : N ≤ (h ++ e).length := by rw [List.length_append]; omega
theorem pu_tI : Int32.toInt 0 = 0 := rfl
/-- a call whose answer is known -/
theorem am_T.use {G : am_G} {d M pc N kd y ix : Nat} {lv : am_L} {st vs r : List Value} {h h1 : am_H} {k : am_Out → am_H → Prop} {ov : am_O} {v : Option Value} (hN : N ≤ h.length) (hs : am_cllO G N M pc st ov = some (kd, y, ix, vs, r)) (hr : am_R G d y 0 (lv_args 0 vs) [] (am_ov ov h) (.inl v) h1) (kk : am_T G (d + 1) M (pc + 3) lv (v.toList ++ r) h1 k) : am_T G (d + 1) M pc lv st (am_ov ov h) k :=
  am_T.go hN hs ⟨_, _, hr, kk⟩
theorem am_T.useB {G : am_G} {d M pc pc' N kd y ix : Nat} {b : Bool} {lv : am_L} {st vs r : List Value} {h : am_H} {k : am_Out → am_H → Prop} {ov : am_O} (hN : N ≤ h.length) (hp : pc + 3 = pc') (hs : am_cllO G N M pc st ov = some (kd, y, ix, vs, r)) (hr : am_R G d y 0 (lv_args 0 vs) [] (am_ov ov h) (.inl (some (.int (if b = true then 1 else 0)))) (am_ov ov h)) (k1 : b = true → am_T G (d + 1) M pc' lv (.int 1 :: r) (am_ov ov h) k) (k2 : b = false → am_T G (d + 1) M pc' lv (.int 0 :: r) (am_ov ov h) k) : am_T G (d + 1) M pc lv st (am_ov ov h) k := by
  subst hp
  refine am_T.use hN hs hr ?_
  cases b with
  | true => exact k1 rfl
  | false => exact k2 rfl

