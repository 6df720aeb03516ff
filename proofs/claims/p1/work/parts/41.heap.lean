/-! rules of the heap: cells by hypotheses. 'am_No G M pc st': nothing special, no throw here -/
def am_No (G : am_G) (M pc : Nat) (st : List Value) (ins : Instr) : Prop := am_spc G M pc st = none ∧ am_thr G M pc = none ∧ ∃ len, am_dec G M pc = some (ins, len)
section AMRH
variable {G : am_G} {d M pc : Nat} {lv : am_L} {r : List Value} {h h' : am_H} {o : am_Out}
theorem am_R.heap {ins : Instr} {st st' : List Value} {pc' : Nat} {h1 : am_H} (hn : am_No G M pc st ins) (ha : am_a (am_kk G M) (am_mxl G M) ins pc lv st = none) (hb : am_b (am_X G) (am_lkk G M) (am_ini G M) ins pc st h = some (pc', st', h1)) (k : am_R G d M pc' lv st' h1 o h') : am_R G d M pc lv st h o h' := by
  obtain ⟨h0, h1, len, hd⟩ := hn
  refine am_R.one ?_ k
  unfold am_one
  simp only [h0, h1, hd, ha, hb]
theorem am_R.getf {ix i ci k md : Nat} {fs : List Value} {v : Value} (hn : am_No G M pc (.ref i :: r) (.getfield ix)) (hl : (am_lkk G M).1 ix = some (ci, k, md)) (hi : h[i]? = some (.inr (ci, fs))) (hv : fs[k]? = some v) (hc : ¬ ci = 99 := by decide) (kk : am_R G d M (pc + 3) lv (v :: r) h o h') : am_R G d M pc lv (.ref i :: r) h o h' :=
  am_R.heap hn rfl (by simp only [am_b, hl, hi]; rw [if_pos ⟨trivial, hc⟩]; simp only [hv]) kk
theorem am_R.putf {ix i ci k md : Nat} {fs : List Value} {v : Value} (hn : am_No G M pc (v :: .ref i :: r) (.putfield ix)) (hl : (am_lkk G M).1 ix = some (ci, k, md)) (hi : h[i]? = some (.inr (ci, fs))) (hk : k < fs.length) (hm : md = 0 ∨ (md = 1 ∧ am_ini G M = true)) (h1 : narrow ((am_X G).1 ci k) v = v) (h2 : fits ((am_X G).1 ci k) v = true) (h3 : am_nf v = true) (hc : ¬ ci = 99 := by decide) (kk : am_R G d M (pc + 3) lv r (h.set i (.inr (ci, fs.set k v))) o h') : am_R G d M pc lv (v :: .ref i :: r) h o h' :=
  am_R.heap hn (by cases v <;> rfl) (by simp only [am_b, hl, hi]; rw [if_pos ⟨trivial, hc, hk, hm, h1, h2, h3⟩]) kk
theorem am_R.iald {i n : Nat} {j : Int32} {f : Nat → Int32} (hn : am_No G M pc (.int j :: .ref i :: r) .iaload) (hi : h[i]? = some (.inl (1, n, .inl f))) (hj : ¬ (j < 0 ∨ n ≤ j.toNatClampNeg)) (kk : am_R G d M (pc + 1) lv (.int (f j.toNatClampNeg) :: r) h o h') : am_R G d M pc lv (.int j :: .ref i :: r) h o h' :=
  am_R.heap hn rfl (by simp only [am_b, hi]; rw [if_neg hj]) kk
theorem am_R.bald {i n : Nat} {j : Int32} {f : Nat → Int32} (hn : am_No G M pc (.int j :: .ref i :: r) .baload) (hi : h[i]? = some (.inl (0, n, .inl f)) ∨ h[i]? = some (.inl (3, n, .inl f))) (hj : ¬ (j < 0 ∨ n ≤ j.toNatClampNeg)) (kk : am_R G d M (pc + 1) lv (.int (f j.toNatClampNeg) :: r) h o h') : am_R G d M pc lv (.int j :: .ref i :: r) h o h' := by
  rcases hi with hi | hi
  · exact am_R.heap hn rfl (by simp only [am_b, hi]; rw [if_neg hj]) kk
  · exact am_R.heap hn rfl (by simp only [am_b, hi]; rw [if_neg hj]) kk
theorem am_R.lald {i n : Nat} {j : Int32} {f : Nat → Int64} (hn : am_No G M pc (.int j :: .ref i :: r) .laload) (hi : h[i]? = some (.inl (2, n, .inr (.inl f)))) (hj : ¬ (j < 0 ∨ n ≤ j.toNatClampNeg)) (kk : am_R G d M (pc + 1) lv (.long (f j.toNatClampNeg) :: r) h o h') : am_R G d M pc lv (.int j :: .ref i :: r) h o h' :=
  am_R.heap hn rfl (by simp only [am_b, hi]; rw [if_neg hj]) kk
theorem am_R.aald {i n t : Nat} {j : Int32} {f : Nat → Option Nat} (hn : am_No G M pc (.int j :: .ref i :: r) .aaload) (hi : h[i]? = some (.inl (t, n, .inr (.inr (.inr (.inr f)))))) (ht : t = 4 ∨ t = 5) (hj : ¬ (j < 0 ∨ n ≤ j.toNatClampNeg)) (kk : am_R G d M (pc + 1) lv (am_v (f j.toNatClampNeg) :: r) h o h') : am_R G d M pc lv (.int j :: .ref i :: r) h o h' :=
  am_R.heap hn rfl (by simp only [am_b, hi]; rw [if_pos ⟨ht, hj⟩]) kk
theorem am_R.iast {i n : Nat} {j x : Int32} {f : Nat → Int32} (hn : am_No G M pc (.int x :: .int j :: .ref i :: r) .iastore) (hi : h[i]? = some (.inl (1, n, .inl f))) (hj : ¬ (j < 0 ∨ n ≤ j.toNatClampNeg)) (kk : am_R G d M (pc + 1) lv r (h.set i (.inl (1, n, .inl (upd f j.toNatClampNeg x)))) o h') : am_R G d M pc lv (.int x :: .int j :: .ref i :: r) h o h' :=
  am_R.heap hn rfl (by simp only [am_b, hi]; rw [if_neg hj]) kk
theorem am_R.bast {i n : Nat} {j x : Int32} {f : Nat → Int32} (hn : am_No G M pc (.int x :: .int j :: .ref i :: r) .bastore) (hi : h[i]? = some (.inl (0, n, .inl f))) (hj : ¬ (j < 0 ∨ n ≤ j.toNatClampNeg)) (kk : am_R G d M (pc + 1) lv r (h.set i (.inl (0, n, .inl (upd f j.toNatClampNeg (vp_nar .byte x))))) o h') : am_R G d M pc lv (.int x :: .int j :: .ref i :: r) h o h' :=
  am_R.heap hn rfl (by simp only [am_b, hi]; rw [if_neg hj]) kk
theorem am_R.zast {i n : Nat} {j x : Int32} {f : Nat → Int32} (hn : am_No G M pc (.int x :: .int j :: .ref i :: r) .bastore) (hi : h[i]? = some (.inl (3, n, .inl f))) (hj : ¬ (j < 0 ∨ n ≤ j.toNatClampNeg)) (kk : am_R G d M (pc + 1) lv r (h.set i (.inl (3, n, .inl (upd f j.toNatClampNeg (vp_nar .boolean x))))) o h') : am_R G d M pc lv (.int x :: .int j :: .ref i :: r) h o h' :=
  am_R.heap hn rfl (by simp only [am_b, hi]; rw [if_neg hj]) kk
theorem am_R.last {i n : Nat} {j : Int32} {x : Int64} {f : Nat → Int64} (hn : am_No G M pc (.long x :: .int j :: .ref i :: r) .lastore) (hi : h[i]? = some (.inl (2, n, .inr (.inl f)))) (hj : ¬ (j < 0 ∨ n ≤ j.toNatClampNeg)) (kk : am_R G d M (pc + 1) lv r (h.set i (.inl (2, n, .inr (.inl (vp_updL f j.toNatClampNeg x))))) o h') : am_R G d M pc lv (.long x :: .int j :: .ref i :: r) h o h' :=
  am_R.heap hn rfl (by simp only [am_b, hi]; rw [if_neg hj]) kk
theorem am_R.aast {i n t v ci : Nat} {vs : List Value} {j : Int32} {f : Nat → Option Nat} (hn : am_No G M pc (.ref v :: .int j :: .ref i :: r) .aastore) (hi : h[i]? = some (.inl (t, n, .inr (.inr (.inr (.inr f)))))) (hv : h[v]? = some (.inr (ci, vs))) (hc : am_cmp t ci = true) (hj : ¬ (j < 0 ∨ n ≤ j.toNatClampNeg)) (kk : am_R G d M (pc + 1) lv r (h.set i (.inl (t, n, .inr (.inr (.inr (.inr (va_up f j.toNatClampNeg (some v)))))))) o h') : am_R G d M pc lv (.ref v :: .int j :: .ref i :: r) h o h' :=
  am_R.heap hn rfl (by simp only [am_b, hi, hv]; rw [if_pos ⟨hc, hj⟩]) kk
theorem am_R.alen {i n t : Nat} {a : (Nat → Int32) ⊕ (Nat → Int64) ⊕ (Nat → UInt32) ⊕ (Nat → UInt64) ⊕ (Nat → Option Nat)} (hn : am_No G M pc (.ref i :: r) .arraylength) (hi : h[i]? = some (.inl (t, n, a))) (ht : t < 6) (kk : am_R G d M (pc + 1) lv (.int (Int32.ofNat n) :: r) h o h') : am_R G d M pc lv (.ref i :: r) h o h' :=
  am_R.heap hn rfl (by simp only [am_b, hi]; rw [if_pos ht]) kk
end AMRH
/-- a call's preparation, by its pieces -/
theorem am_cll_of {G : am_G} {M pc k y ix : Nat} {lv : am_L} {st vs r : List Value} {h : am_H} {ins : Instr} (hn : am_No G M pc st ins) (ha : am_a (am_kk G M) (am_mxl G M) ins pc lv st = none) (hb : am_b (am_X G) (am_lkk G M) (am_ini G M) ins pc st h = none) (ht : am_rt (am_rty G M) ins st = none) (hi : am_inv G M ins st h = some (k, y, ix, vs, r)) (hl : k = 3 ∨ (lg_sl vs).length ≤ am_mxl G y) : am_cll G M pc lv st h = some (k, y, ix, vs, r) := by
  obtain ⟨h0, h1, len, hd⟩ := hn
  unfold am_cll
  simp only [h0, h1, hd, ha, hb, ht, hi]
  rw [if_pos hl]
theorem am_R.calls {G : am_G} {d M pc k y ix : Nat} {lv : am_L} {st vs r : List Value} {h h1 h' : am_H} {o : am_Out} {v : Option Value} {ins : Instr} (hn : am_No G M pc st ins) (ha : am_a (am_kk G M) (am_mxl G M) ins pc lv st = none) (hb : am_b (am_X G) (am_lkk G M) (am_ini G M) ins pc st h = none) (ht : am_rt (am_rty G M) ins st = none) (hi : am_inv G M ins st h = some (k, y, ix, vs, r)) (hl : (lg_sl vs).length ≤ am_mxl G y) (hk : ¬ k = 3) (hc : am_R G d y 0 (lv_args 0 vs) [] h (.inl v) h1) (kk : am_R G (d + 1) M (pc + 3) lv (v.toList ++ r) h1 o h') : am_R G (d + 1) M pc lv st h o h' :=
  am_R.call (am_cll_of hn ha hb ht hi (Or.inr hl)) hk hc kk
section AMRN
variable {G : am_G} {d M pc : Nat} {lv : am_L} {r : List Value} {h h' : am_H} {o : am_Out}
theorem am_R.newa {ty : ArrayType} {t N : Nat} {n : Int32} (hn : am_No G M pc (.int n :: r) (.newarray ty)) (ht : am_tag ty = some t) (h0 : ¬ n < 0) (hN : n.toNatClampNeg = N) (h1 : N * componentBytes (newarray.typeOf ty) ≤ 536870912) (kk : am_R G d M (pc + 2) lv (.ref h.length :: r) (h ++ [.inl (t, N, if t = 2 then .inr (.inl (fun _ => 0)) else .inl (fun _ => 0))]) o h') : am_R G d M pc lv (.int n :: r) h o h' := by
  subst hN
  exact am_R.heap hn rfl (by simp only [am_b, ht]; rw [if_neg (fun z => z.elim h0 (fun q => q h1))]) kk
theorem am_R.anewa {ix t N : Nat} {n : Int32} (hn : am_No G M pc (.int n :: r) (.anewarray ix)) (hl : (am_lkk G M).2.2 ix = some t) (ht : t = 4 ∨ t = 5) (h0 : ¬ n < 0) (hN : n.toNatClampNeg = N) (h1 : N * 4 ≤ 536870912) (kk : am_R G d M (pc + 3) lv (.ref h.length :: r) (h ++ [.inl (t, N, .inr (.inr (.inr (.inr (fun _ => none)))))]) o h') : am_R G d M pc lv (.int n :: r) h o h' := by
  subst hN
  exact am_R.heap hn rfl (by simp only [am_b, hl]; rw [if_pos ⟨ht, h0, h1⟩]) kk
end AMRN
