/-! rules of the heap, of calls, returns, throws -/
theorem im_c_ob (ci n : Nat) (rs : List Int) (f : Int → Int) : im_c (ci + 10, n, rs) f = .inr (ci, (List.range n).map (im_fv ci rs f)) := rfl
theorem im_fv_ne {ci : Nat} {rs : List Int} {f : Int → Int} {k i : Nat} {x : Int} (h : i ≠ k) : im_fv ci rs (im_up f k x) i = im_fv ci rs f i := by
  have e : im_up f (k : Int) x (i : Int) = f i := im_up_ne f x (by omega)
  unfold im_fv im_ft im_fr
  simp only [e]
theorem im_fset {ci n : Nat} {rs : List Int} {f : Int → Int} {k : Nat} {x : Int} {v : Value} (hv : im_fv ci rs (im_up f k x) k = v) : ((List.range n).map (im_fv ci rs f)).set k v = (List.range n).map (im_fv ci rs (im_up f k x)) := by
  apply List.ext_getElem?
  intro i
  rw [List.getElem?_set, List.getElem?_map, List.getElem?_map, List.length_map, List.length_range]
  by_cases e : k = i
  · subst e
    rw [if_pos rfl]
    by_cases hk : k < n
    · rw [if_pos hk, List.getElem?_range hk]; simp [hv]
    · rw [if_neg hk, List.getElem?_eq_none (by simpa using hk)]; rfl
  · rw [if_neg e]
    by_cases hi : i < n
    · rw [List.getElem?_range hi]; simp [im_fv_ne (fun z => e z.symm)]
    · rw [List.getElem?_eq_none (by simpa using hi)]; rfl
def im_isI (ty : FieldType) : Bool := match ty with
  | .int => true
  | .boolean => true
  | _ => false
def im_isL (ty : FieldType) : Bool := match ty with
  | .long => true
  | _ => false
def im_isR (ty : FieldType) : Bool := match ty with
  | .object _ => true
  | .array _ => true
  | _ => false
theorem im_ft_I {ty : FieldType} {rs : List Int} {f : Int → Int} {k : Nat} (h : im_isI ty = true) : im_ft ty rs f k = vI (f k) := by cases ty <;> first | rfl | cases h
theorem im_ft_L {ty : FieldType} {rs : List Int} {f : Int → Int} {k : Nat} (h : im_isL ty = true) : im_ft ty rs f k = vL (f k) := by cases ty <;> first | rfl | cases h
theorem im_ft_R {ty : FieldType} {rs : List Int} {f : Int → Int} {k : Nat} (h : im_isR ty = true) : im_ft ty rs f k = im_rv (im_fr rs f k) := by cases ty <;> first | rfl | cases h
theorem im_rv_ref (b : Nat) : im_rv (b : Int) = .ref b := by unfold im_rv; rw [if_neg (by omega)]; rfl
section IMH
variable {g : im_g} {d m pc q : Nat} {L : im_L} {st r : List Value} {e e' : im_E} {M M' : im_M} {K : im_K}
theorem im_heap {ins : Instr} {st' : List Value} (hD : im_D g m pc ins q) (hs : am_spc (im_G g) m pc st = none) (ha : ∀ lv, am_a (am_kk (im_G g) m) (am_mxl (im_G g) m) ins pc lv st = none) (hb : ∀ h, im_W (im_sh0 ++ e) M h → ∃ h', am_b (am_X (im_G g)) (am_lkk (im_G g) m) (am_ini (im_G g) m) ins pc st h = some (pc + am_len ins, st', h') ∧ im_W (im_sh0 ++ e') M' h') (k : im_T g d m q L st' e' M' K) : im_T g d m pc L st e M K := by
  intro lv h hl hw
  obtain ⟨h1, len, h2, h3⟩ := hD
  obtain ⟨h', hb, hw'⟩ := hb h hw
  rw [h3] at hb
  refine am_T.one (pc' := q) (lv' := lv) (st' := st') (h1 := h') ?_ (k lv h' hl hw')
  unfold am_one
  simp only [hs, h1, h2, ha, hb]
theorem im_sp_r {ins : Instr} {a : Nat} (hD : im_D g m pc ins q) (hi : ins = .arraylength ∨ ∃ ix, ins = .getfield ix) : am_spc (im_G g) m pc (.ref a :: r) = none := by
  obtain ⟨h1, len, h2, h3⟩ := hD
  have h2 : (am_2 am_tbs [] m).lookup pc = some (ins, len) := h2
  show am_sp g.1 g.2 m pc (.ref a :: r) = none
  unfold am_sp
  rw [h2]
  rcases hi with rfl | ⟨ix, rfl⟩ <;> rfl
theorem im_sp_a {ins : Instr} {a : Nat} {v : Value} (hD : im_D g m pc ins q) (hi : ins = .iaload ∨ ins = .baload) : am_spc (im_G g) m pc (v :: .ref a :: r) = none := by
  obtain ⟨h1, len, h2, h3⟩ := hD
  have h2 : (am_2 am_tbs [] m).lookup pc = some (ins, len) := h2
  show am_sp g.1 g.2 m pc _ = none
  unfold am_sp
  rw [h2]
  rcases hi with rfl | rfl <;> cases v <;> rfl
theorem im_rng {a : Nat} {s : im_Sh} {j : Int} (hs : (im_sh0 ++ e)[a]? = some s) (h0 : 0 ≤ j) (h1 : j < s.2.1) (k : im_rg s j (M a j) → im_T g d m pc L st e M K) : im_T g d m pc L st e M K := fun lv h hl hw => k ((hw.2 a s hs).2 j h0 h1) lv h hl hw
theorem im_gf {ix a ci kf md n : Nat} {rs : List Int} {v : Value} (hD : im_D g m pc (.getfield ix) q) (hk : (am_lkk (im_G g) m).1 ix = some (ci, kf, md)) (hs : (im_sh0 ++ e)[a]? = some (ci + 10, n, rs)) (hn : kf < n) (hc : ¬ ci = 99) (hv : im_fv ci rs (M a) kf = v) (k : im_T g d m q L (v :: r) e M K) : im_T g d m pc L (.ref a :: r) e M K := by
  refine im_heap hD (im_sp_r hD (Or.inr ⟨ix, rfl⟩)) (fun _ => rfl) (fun h hw => ⟨h, ?_, hw⟩) k
  have h1 := (hw.2 a _ hs).1
  rw [im_c_ob] at h1
  simp only [am_b, hk, h1]
  rw [if_pos ⟨trivial, hc⟩, List.getElem?_map, List.getElem?_range hn]
  simp only [Option.map_some, hv]
  rfl
theorem im_gfI {ix a ci kf md n : Nat} {rs : List Int} {x : Int} (hD : im_D g m pc (.getfield ix) q) (hk : (am_lkk (im_G g) m).1 ix = some (ci, kf, md)) (hs : (im_sh0 ++ e)[a]? = some (ci + 10, n, rs)) (hn : Nat.blt kf n = true) (hc : Nat.blt ci 99 = true) (ht : im_isI (am_tyF ci kf) = true) (hv : M a kf = x) (k : im_T g d m q L (vI x :: r) e M K) : im_T g d m pc L (.ref a :: r) e M K :=
  im_gf hD hk hs (Nat.le_of_ble_eq_true hn) (by have := Nat.le_of_ble_eq_true hc; omega) ((im_ft_I ht).trans (by rw [hv])) k
theorem im_gfL {ix a ci kf md n : Nat} {rs : List Int} {x : Int} (hD : im_D g m pc (.getfield ix) q) (hk : (am_lkk (im_G g) m).1 ix = some (ci, kf, md)) (hs : (im_sh0 ++ e)[a]? = some (ci + 10, n, rs)) (hn : Nat.blt kf n = true) (hc : Nat.blt ci 99 = true) (ht : im_isL (am_tyF ci kf) = true) (hv : M a kf = x) (k : im_T g d m q L (vL x :: r) e M K) : im_T g d m pc L (.ref a :: r) e M K :=
  im_gf hD hk hs (Nat.le_of_ble_eq_true hn) (by have := Nat.le_of_ble_eq_true hc; omega) ((im_ft_L ht).trans (by rw [hv])) k
/-- a fixed reference -/
theorem im_gfR {ix a ci kf md n b : Nat} {rs : List Int} (hD : im_D g m pc (.getfield ix) q) (hk : (am_lkk (im_G g) m).1 ix = some (ci, kf, md)) (hs : (im_sh0 ++ e)[a]? = some (ci + 10, n, rs)) (hn : Nat.blt kf n = true) (hc : Nat.blt ci 99 = true) (ht : im_isR (am_tyF ci kf) = true) (hr : rs[kf]? = some (b : Int)) (k : im_T g d m q L (.ref b :: r) e M K) : im_T g d m pc L (.ref a :: r) e M K :=
  im_gf hD hk hs (Nat.le_of_ble_eq_true hn) (by have := Nat.le_of_ble_eq_true hc; omega) ((im_ft_R ht).trans (by unfold im_fr; rw [hr]; simp only; rw [if_pos (by omega), im_rv_ref])) k
/-- a reference of the memory -/
theorem im_gfD {ix a ci kf md n b : Nat} {rs : List Int} (hD : im_D g m pc (.getfield ix) q) (hk : (am_lkk (im_G g) m).1 ix = some (ci, kf, md)) (hs : (im_sh0 ++ e)[a]? = some (ci + 10, n, rs)) (hn : Nat.blt kf n = true) (hc : Nat.blt ci 99 = true) (ht : im_isR (am_tyF ci kf) = true) (hr : rs[kf]? = some (-1)) (hb : M a kf = (b : Int)) (k : im_T g d m q L (.ref b :: r) e M K) : im_T g d m pc L (.ref a :: r) e M K :=
  im_gf hD hk hs (Nat.le_of_ble_eq_true hn) (by have := Nat.le_of_ble_eq_true hc; omega) ((im_ft_R ht).trans (by unfold im_fr; rw [hr]; simp only; rw [if_neg (by omega), hb, im_rv_ref])) k
theorem im_pf {ix a ci kf n : Nat} {rs : List Int} {v : Value} {x : Int} (hD : im_D g m pc (.putfield ix) q) (hk : (am_lkk (im_G g) m).1 ix = some (ci, kf, 0)) (hs : (im_sh0 ++ e)[a]? = some (ci + 10, n, rs)) (hn : kf < n) (hc : ¬ ci = 99) (hv : im_fv ci rs (im_up (M a) kf x) kf = v) (hr : im_rt (am_tyF ci kf) x) (h1 : narrow (am_tyF ci kf) v = v) (h2 : fits (am_tyF ci kf) v = true) (h3 : am_nf v = true) (k : im_T g d m q L r e (im_u M a kf x) K) : im_T g d m pc L (v :: .ref a :: r) e M K := by
  refine im_heap hD (im_spn hD.2.choose_spec.1 rfl) (fun _ => by cases v <;> rfl) (fun h hw => ⟨_, ?_, hw.set hs (j := kf) (v := x) hr⟩) k
  have h9 := (hw.2 a _ hs).1
  rw [im_c_ob] at h9
  simp only [am_b, hk, h9]
  rw [if_pos ⟨trivial, hc, by simpa using hn, Or.inl trivial, h1, h2, h3⟩, im_fset hv, im_c_ob]
  rfl
theorem im_pfI {ix a ci kf n : Nat} {rs : List Int} {x : Int} (hD : im_D g m pc (.putfield ix) q) (hk : (am_lkk (im_G g) m).1 ix = some (ci, kf, 0)) (hs : (im_sh0 ++ e)[a]? = some (ci + 10, n, rs)) (hn : Nat.blt kf n = true) (hc : Nat.blt ci 99 = true) (ht : am_tyF ci kf = .int) (hx : im_i32 x) (k : im_T g d m q L r e (im_u M a kf x) K) : im_T g d m pc L (vI x :: .ref a :: r) e M K :=
  im_pf hD hk hs (Nat.le_of_ble_eq_true hn) (by have := Nat.le_of_ble_eq_true hc; omega) (by unfold im_fv; rw [ht]; show vI _ = vI _; rw [im_up_eq]) (by rw [ht]; exact hx) (by rw [ht]; rfl) (by rw [ht]; rfl) rfl k
theorem im_pfZ {ix a ci kf n : Nat} {rs : List Int} {x : Int} (hD : im_D g m pc (.putfield ix) q) (hk : (am_lkk (im_G g) m).1 ix = some (ci, kf, 0)) (hs : (im_sh0 ++ e)[a]? = some (ci + 10, n, rs)) (hn : Nat.blt kf n = true) (hc : Nat.blt ci 99 = true) (ht : am_tyF ci kf = .boolean) (hx : 0 ≤ x ∧ x ≤ 1) (k : im_T g d m q L r e (im_u M a kf x) K) : im_T g d m pc L (vI x :: .ref a :: r) e M K := by
  have h01 : x = 0 ∨ x = 1 := by omega
  refine im_pf hD hk hs (Nat.le_of_ble_eq_true hn) (by have := Nat.le_of_ble_eq_true hc; omega) (by unfold im_fv; rw [ht]; show vI _ = vI _; rw [im_up_eq]) (by rw [ht]; exact hx) (by rw [ht]; rcases h01 with rfl | rfl <;> rfl) (by rw [ht]; rcases h01 with rfl | rfl <;> rfl) rfl k
theorem im_pfL {ix a ci kf n : Nat} {rs : List Int} {x : Int} (hD : im_D g m pc (.putfield ix) q) (hk : (am_lkk (im_G g) m).1 ix = some (ci, kf, 0)) (hs : (im_sh0 ++ e)[a]? = some (ci + 10, n, rs)) (hn : Nat.blt kf n = true) (hc : Nat.blt ci 99 = true) (ht : am_tyF ci kf = .long) (hx : im_i64 x) (k : im_T g d m q L r e (im_u M a kf x) K) : im_T g d m pc L (vL x :: .ref a :: r) e M K :=
  im_pf hD hk hs (Nat.le_of_ble_eq_true hn) (by have := Nat.le_of_ble_eq_true hc; omega) (by unfold im_fv; rw [ht]; show vL _ = vL _; rw [im_up_eq]) (by rw [ht]; exact hx) (by rw [ht]; rfl) (by rw [ht]; rfl) rfl k
theorem im_pfR {ix a ci kf n b : Nat} {rs : List Int} (hD : im_D g m pc (.putfield ix) q) (hk : (am_lkk (im_G g) m).1 ix = some (ci, kf, 0)) (hs : (im_sh0 ++ e)[a]? = some (ci + 10, n, rs)) (hn : Nat.blt kf n = true) (hc : Nat.blt ci 99 = true) (ht : im_isR (am_tyF ci kf) = true) (hr : rs[kf]? = some (-1)) (k : im_T g d m q L r e (im_u M a kf (b : Int)) K) : im_T g d m pc L (.ref b :: .ref a :: r) e M K :=
  im_pf hD hk hs (Nat.le_of_ble_eq_true hn) (by have := Nat.le_of_ble_eq_true hc; omega) ((im_ft_R ht).trans (by unfold im_fr; rw [hr]; simp only; rw [if_neg (by omega), im_up_eq, im_rv_ref])) (by cases h : am_tyF ci kf <;> rw [h] at ht <;> first | exact trivial | cases ht) (by cases h : am_tyF ci kf <;> rw [h] at ht <;> first | rfl | cases ht) (by cases h : am_tyF ci kf <;> rw [h] at ht <;> first | rfl | cases ht) rfl k
/-- an index -/
theorem im_ix {j : Int} {n : Nat} (h0 : 0 ≤ j) (h1 : j < n) (hn : n ≤ 2147483647) : ¬ (Int32.ofInt j < 0 ∨ n ≤ (Int32.ofInt j).toNatClampNeg) ∧ (Int32.ofInt j).toNatClampNeg = j.toNat := by
  have e1 : (Int32.ofInt j).toNatClampNeg = j.toNat := by
    show (Int32.ofInt j).toInt.toNat = j.toNat
    rw [im_o32 (by constructor <;> omega)]
  refine ⟨fun z => ?_, e1⟩
  rw [e1] at z
  rcases z with z | z
  · have z := Int32.lt_iff_toInt_lt.mp z
    rw [im_o32 (by constructor <;> omega)] at z
    have z : j < 0 := z
    omega
  · omega
theorem im_iald {a n : Nat} {rs : List Int} {j x : Int} (hD : im_D g m pc .iaload q) (hs : (im_sh0 ++ e)[a]? = some (1, n, rs)) (h0 : 0 ≤ j) (h1 : j < n) (hn : n ≤ 2147483647) (hv : M a j = x) (k : im_T g d m q L (vI x :: r) e M K) : im_T g d m pc L (vI j :: .ref a :: r) e M K := by
  subst hv
  refine im_heap hD (im_sp_a hD (Or.inl rfl)) (fun _ => rfl) (fun h hw => ⟨h, ?_, hw⟩) k
  have h9 := (hw.2 a _ hs).1
  obtain ⟨i1, i2⟩ := im_ix h0 h1 hn
  simp only [am_b, vI, h9, im_c]
  rw [if_neg i1, i2, Int.toNat_of_nonneg h0]
  rfl
theorem im_bald {a n t : Nat} {rs : List Int} {j x : Int} (hD : im_D g m pc .baload q) (hs : (im_sh0 ++ e)[a]? = some (t, n, rs)) (ht : t = 0 ∨ t = 3) (h0 : 0 ≤ j) (h1 : j < n) (hn : n ≤ 2147483647) (hv : M a j = x) (k : im_T g d m q L (vI x :: r) e M K) : im_T g d m pc L (vI j :: .ref a :: r) e M K := by
  subst hv
  refine im_heap hD (im_sp_a hD (Or.inr rfl)) (fun _ => rfl) (fun h hw => ⟨h, ?_, hw⟩) k
  have h9 := (hw.2 a _ hs).1
  obtain ⟨i1, i2⟩ := im_ix h0 h1 hn
  rcases ht with rfl | rfl
  · simp only [am_b, vI, h9, im_c]
    rw [if_neg i1, i2, Int.toNat_of_nonneg h0]
    rfl
  · simp only [am_b, vI, h9, im_c]
    rw [if_neg i1, i2, Int.toNat_of_nonneg h0]
    rfl
theorem im_lald {a n : Nat} {rs : List Int} {j x : Int} (hD : im_D g m pc .laload q) (hs : (im_sh0 ++ e)[a]? = some (2, n, rs)) (h0 : 0 ≤ j) (h1 : j < n) (hn : n ≤ 2147483647) (hv : M a j = x) (k : im_T g d m q L (vL x :: r) e M K) : im_T g d m pc L (vI j :: .ref a :: r) e M K := by
  subst hv
  refine im_heap hD (im_spn hD.2.choose_spec.1 rfl) (fun _ => rfl) (fun h hw => ⟨h, ?_, hw⟩) k
  have h9 := (hw.2 a _ hs).1
  obtain ⟨i1, i2⟩ := im_ix h0 h1 hn
  simp only [am_b, vI, vL, h9, im_c]
  rw [if_neg i1, i2, Int.toNat_of_nonneg h0]
  rfl
theorem im_aald {a n t b : Nat} {rs : List Int} {j : Int} (hD : im_D g m pc .aaload q) (hs : (im_sh0 ++ e)[a]? = some (t, n, rs)) (ht : t = 4 ∨ t = 5) (h0 : 0 ≤ j) (h1 : j < n) (hn : n ≤ 2147483647) (hb : M a j = (b : Int)) (k : im_T g d m q L (.ref b :: r) e M K) : im_T g d m pc L (vI j :: .ref a :: r) e M K := by
  refine im_heap hD (im_spn hD.2.choose_spec.1 rfl) (fun _ => rfl) (fun h hw => ⟨h, ?_, hw⟩) k
  have h9 := (hw.2 a _ hs).1
  obtain ⟨i1, i2⟩ := im_ix h0 h1 hn
  rcases ht with rfl | rfl
  · simp only [am_b, vI, h9, im_c]
    rw [if_pos ⟨Or.inl trivial, i1⟩, i2, Int.toNat_of_nonneg h0, hb, if_neg (by omega)]
    rfl
  · simp only [am_b, vI, h9, im_c]
    rw [if_pos ⟨Or.inr trivial, i1⟩, i2, Int.toNat_of_nonneg h0, hb, if_neg (by omega)]
    rfl
theorem im_aaldN {a n t : Nat} {rs : List Int} {j : Int} (hD : im_D g m pc .aaload q) (hs : (im_sh0 ++ e)[a]? = some (t, n, rs)) (ht : t = 4 ∨ t = 5) (h0 : 0 ≤ j) (h1 : j < n) (hn : n ≤ 2147483647) (hb : M a j < 0) (k : im_T g d m q L (.null :: r) e M K) : im_T g d m pc L (vI j :: .ref a :: r) e M K := by
  refine im_heap hD (im_spn hD.2.choose_spec.1 rfl) (fun _ => rfl) (fun h hw => ⟨h, ?_, hw⟩) k
  have h9 := (hw.2 a _ hs).1
  obtain ⟨i1, i2⟩ := im_ix h0 h1 hn
  rcases ht with rfl | rfl
  · simp only [am_b, vI, h9, im_c]
    rw [if_pos ⟨Or.inl trivial, i1⟩, i2, Int.toNat_of_nonneg h0, if_pos hb]
    rfl
  · simp only [am_b, vI, h9, im_c]
    rw [if_pos ⟨Or.inr trivial, i1⟩, i2, Int.toNat_of_nonneg h0, if_pos hb]
    rfl
theorem im_updI {f : Int → Int} {j x : Int} (h0 : 0 ≤ j) : upd (fun i : Nat => Int32.ofInt (f i)) j.toNat (Int32.ofInt x) = fun i : Nat => Int32.ofInt (im_up f j x i) := by
  funext i
  unfold upd im_up
  by_cases hi : i = j.toNat
  · rw [if_pos hi, if_pos (by omega)]
  · rw [if_neg hi, if_neg (by omega)]
theorem im_iast {a n : Nat} {rs : List Int} {j x : Int} (hD : im_D g m pc .iastore q) (hs : (im_sh0 ++ e)[a]? = some (1, n, rs)) (h0 : 0 ≤ j) (h1 : j < n) (hn : n ≤ 2147483647) (hx : im_i32 x) (k : im_T g d m q L r e (im_u M a j x) K) : im_T g d m pc L (vI x :: vI j :: .ref a :: r) e M K := by
  refine im_heap hD (im_spn hD.2.choose_spec.1 rfl) (fun _ => rfl) (fun h hw => ⟨_, ?_, hw.set hs (j := j) (v := x) hx⟩) k
  have h9 := (hw.2 a _ hs).1
  obtain ⟨i1, i2⟩ := im_ix h0 h1 hn
  simp only [am_b, vI, h9, im_c]
  rw [if_neg i1, i2, im_updI h0]
  rfl
theorem im_nb (x : Int) : vp_nar .byte (Int32.ofInt x) = Int32.ofInt (x.bmod 256) := by
  show (Int32.ofInt x).toInt8.toInt32 = _
  rw [Int32.toInt8_ofInt, ← Int32.ofInt_int8ToInt, Int8.toInt_ofInt]
theorem im_bmr (x : Int) : -128 ≤ x.bmod 256 ∧ x.bmod 256 ≤ 127 := by
  have h1 := @Int.le_bmod x 256 (by decide)
  have h2 := @Int.bmod_lt x 256 (by decide)
  omega
theorem im_bast {a n : Nat} {rs : List Int} {j x : Int} (hD : im_D g m pc .bastore q) (hs : (im_sh0 ++ e)[a]? = some (0, n, rs)) (h0 : 0 ≤ j) (h1 : j < n) (hn : n ≤ 2147483647) (k : im_T g d m q L r e (im_u M a j (x.bmod 256)) K) : im_T g d m pc L (vI x :: vI j :: .ref a :: r) e M K := by
  refine im_heap hD (im_spn hD.2.choose_spec.1 rfl) (fun _ => rfl) (fun h hw => ⟨_, ?_, hw.set hs (j := j) (v := x.bmod 256) (im_bmr x)⟩) k
  have h9 := (hw.2 a _ hs).1
  obtain ⟨i1, i2⟩ := im_ix h0 h1 hn
  simp only [am_b, vI, h9, im_c]
  rw [if_neg i1, i2, im_nb, im_updI h0]
  rfl
theorem im_zast {a n : Nat} {rs : List Int} {j x : Int} (hD : im_D g m pc .bastore q) (hs : (im_sh0 ++ e)[a]? = some (3, n, rs)) (h0 : 0 ≤ j) (h1 : j < n) (hn : n ≤ 2147483647) (hx : 0 ≤ x ∧ x ≤ 1) (k : im_T g d m q L r e (im_u M a j x) K) : im_T g d m pc L (vI x :: vI j :: .ref a :: r) e M K := by
  refine im_heap hD (im_spn hD.2.choose_spec.1 rfl) (fun _ => rfl) (fun h hw => ⟨_, ?_, hw.set hs (j := j) (v := x) hx⟩) k
  have h9 := (hw.2 a _ hs).1
  obtain ⟨i1, i2⟩ := im_ix h0 h1 hn
  have hz : vp_nar .boolean (Int32.ofInt x) = Int32.ofInt x := by
    have : x = 0 ∨ x = 1 := by omega
    rcases this with rfl | rfl <;> rfl
  simp only [am_b, vI, h9, im_c]
  rw [if_neg i1, i2, hz, im_updI h0]
  rfl
theorem im_last {a n : Nat} {rs : List Int} {j x : Int} (hD : im_D g m pc .lastore q) (hs : (im_sh0 ++ e)[a]? = some (2, n, rs)) (h0 : 0 ≤ j) (h1 : j < n) (hn : n ≤ 2147483647) (hx : im_i64 x) (k : im_T g d m q L r e (im_u M a j x) K) : im_T g d m pc L (vL x :: vI j :: .ref a :: r) e M K := by
  refine im_heap hD (im_spn hD.2.choose_spec.1 rfl) (fun _ => rfl) (fun h hw => ⟨_, ?_, hw.set hs (j := j) (v := x) hx⟩) k
  have h9 := (hw.2 a _ hs).1
  obtain ⟨i1, i2⟩ := im_ix h0 h1 hn
  simp only [am_b, vI, vL, h9, im_c]
  rw [if_neg i1, i2]
  have e9 : vp_updL (fun i : Nat => Int64.ofInt (M a i)) j.toNat (Int64.ofInt x) = fun i : Nat => Int64.ofInt (im_up (M a) j x i) := by
    funext i
    unfold vp_updL im_up
    by_cases hi : i = j.toNat
    · rw [if_pos hi, if_pos (by omega)]
    · rw [if_neg hi, if_neg (by omega)]
  rw [e9]
  rfl
theorem im_aast {a n t b ci n2 : Nat} {rs rs2 : List Int} {j : Int} (hD : im_D g m pc .aastore q) (hs : (im_sh0 ++ e)[a]? = some (t, n, rs)) (ht : t = 4 ∨ t = 5) (hb : (im_sh0 ++ e)[b]? = some (ci + 10, n2, rs2)) (hc : am_cmp t ci = true) (h0 : 0 ≤ j) (h1 : j < n) (hn : n ≤ 2147483647) (k : im_T g d m q L r e (im_u M a j (b : Int)) K) : im_T g d m pc L (.ref b :: vI j :: .ref a :: r) e M K := by
  refine im_heap hD (im_spn hD.2.choose_spec.1 rfl) (fun _ => rfl) (fun h hw => ⟨_, ?_, hw.set hs (j := j) (v := (b : Int)) (by rcases ht with rfl | rfl <;> trivial)⟩) k
  have h9 := (hw.2 a _ hs).1
  have h8 := (hw.2 b _ hb).1
  rw [im_c_ob] at h8
  obtain ⟨i1, i2⟩ := im_ix h0 h1 hn
  have e9 : va_up (fun i : Nat => if M a i < 0 then none else some (M a i).toNat) j.toNat (some b) = fun i : Nat => if im_up (M a) j b i < 0 then none else some (im_up (M a) j b i).toNat := by
    funext i
    unfold va_up
    by_cases hi : i = j.toNat
    · have e8 : im_up (M a) j b (i : Int) = b := by unfold im_up; rw [if_pos (by omega)]
      rw [if_pos hi, e8, if_neg (by omega)]
      rfl
    · rw [if_neg hi, im_up_ne _ _ (by omega)]
  rcases ht with rfl | rfl
  · simp only [am_b, vI, h9, h8, im_c]
    rw [if_pos ⟨hc, i1⟩, i2, e9]
    rfl
  · simp only [am_b, vI, h9, h8, im_c]
    rw [if_pos ⟨hc, i1⟩, i2, e9]
    rfl
theorem im_alen {a n t : Nat} {rs : List Int} (hD : im_D g m pc .arraylength q) (hs : (im_sh0 ++ e)[a]? = some (t, n, rs)) (ht : t < 6) (k : im_T g d m q L (vI n :: r) e M K) : im_T g d m pc L (.ref a :: r) e M K := by
  refine im_heap hD (im_sp_r hD (Or.inl rfl)) (fun _ => rfl) (fun h hw => ⟨h, ?_, hw⟩) k
  have h9 := (hw.2 a _ hs).1
  have h5 : t = 0 ∨ t = 1 ∨ t = 2 ∨ t = 3 ∨ t = 4 ∨ t = 5 := by omega
  rcases h5 with rfl | rfl | rfl | rfl | rfl | rfl <;> (simp only [am_b, h9, im_c, vI, Int32.ofInt_eq_ofNat]; rfl)
end IMH
