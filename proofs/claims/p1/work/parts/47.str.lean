/-! constant texts: length, charAt -/
def pu_txt (i : Nat) : Int32 := (am_txt.getD 0 []).getD i 0
theorem pu_txt_len : (am_txt.getD 0 []).length = 158 := by decide +kernel
theorem pu_txt_v : ∀ i, i < 158 → ((pu_txt i &&& (Int16.ofInt 255).toInt32).toUInt32 % 65536).toInt32 = pu_txt i ∧ (pu_txt i).toUInt32.toUInt16.toUInt32.toInt32 = pu_txt i := by decide +kernel
section AMT2
variable {G : am_G} {d M pc : Nat} {lv : am_L} {st : List Value} {h : am_H} {k : am_Out → am_H → Prop}
theorem am_T.spc {pc' : Nat} {st' : List Value} (hs : am_spc G M pc st = some (pc', st')) (kk : am_T G d M pc' lv st' h k) : am_T G d M pc lv st h k :=
  am_T.one (by unfold am_one; simp only [hs]) kk
theorem am_T.iret {v : Int32} {ty : FieldType} (hn : am_No G M pc [.int v] .ireturn) (hr : am_rty G M = some ty) (hv : narrow ty (.int v) = .int v) (kk : k (.inl (some (.int v))) h) : am_T G d M pc lv [.int v] h k := by
  obtain ⟨h0, h1, len, hd⟩ := hn
  refine am_T.fin ?_ kk
  unfold am_fin
  simp only [h0, h1, hd, am_a, am_b, am_rt, hr]
  rw [if_pos hv]
theorem am_T.toR {o1 : am_Out} {h1 : am_H} (ht : am_T G d M pc lv st h (fun o h' => o = o1 ∧ h' = h1)) : am_R G d M pc lv st h o1 h1 := by
  obtain ⟨o, h', a, b, c⟩ := ht
  subst b; subst c
  exact a
end AMT2
section PUS
variable (xs : Nat → Int32) (L : Nat)
set_option maxRecDepth 20000 in
set_option maxHeartbeats 4000000 in
theorem pu_slen0 (d : Nat) (h : am_H) : am_R (pu_G xs L) (d + 1) 3 0 (lv_args 0 [.float 0]) [] h (.inl (some (.int (nI 158)))) h := by
  refine am_T.toR ?_
  show am_T (pu_G xs L) (d + 1) 3 0 (lv_args 0 [.float 0]) [] (am_ov [] h) _
  have hN : 0 ≤ h.length := Nat.zero_le _
  repeat (first | refine am_T.stp hN rfl ?_ | refine am_T.go hN rfl ?_ | refine am_T.fin rfl ?_)
  exact ⟨rfl, rfl⟩
theorem pu_bald (i : Nat) (hi : i < 158) (r : List Value) : am_sp xs L 7 8 (.int (nI i) :: .float (UInt32.ofNat (30 + (0 : UInt32).toNat)) :: r) = some (9, .int (pu_txt i) :: r) := by
  show (if (30 ≤ (UInt32.ofNat (30 + (0 : UInt32).toNat)).toNat ∧ (UInt32.ofNat (30 + (0 : UInt32).toNat)).toNat < 60) ∧ ¬ (nI i < 0 ∨ (am_txt.getD (am_tn ((UInt32.ofNat (30 + (0 : UInt32).toNat)).toNat - 30)) []).length ≤ (nI i).toNatClampNeg) then some (8 + 1, .int ((am_txt.getD (am_tn ((UInt32.ofNat (30 + (0 : UInt32).toNat)).toNat - 30)) []).getD (nI i).toNatClampNeg 0) :: r) else none) = _
  have e1 : am_tn ((UInt32.ofNat (30 + (0 : UInt32).toNat)).toNat - 30) = 0 := by decide +kernel
  rw [e1, pu_txt_len, if_pos ⟨by decide, nI_in hi (by omega)⟩, nI_clamp (by omega)]
  rfl
set_option maxRecDepth 20000 in
set_option maxHeartbeats 4000000 in
theorem pu_char0 (d : Nat) (h : am_H) (i : Nat) (hi : i < 158) : am_R (pu_G xs L) (d + 4) 5 0 (lv_args 0 [.float 0, .int (nI i)]) [] h (.inl (some (.int (pu_txt i)))) h := by
  refine am_T.toR ?_
  show am_T (pu_G xs L) (d + 4) 5 0 (lv_args 0 [.float 0, .int (nI i)]) [] (am_ov [] h) _
  have hN : 0 ≤ h.length := Nat.zero_le _
  repeat (first | refine am_T.stp hN rfl ?_ | refine am_T.go hN rfl ?_ | refine am_T.ret rfl ?_)
  refine am_T.jf (by simp only [am_tst, decide_eq_false_iff_not]; exact nI_pos (by omega)) ?_
  repeat (first | refine am_T.stp hN rfl ?_ | refine am_T.go hN rfl ?_ | refine am_T.ret rfl ?_)
  refine am_T.jt (by simp only [am_tst, decide_eq_true_eq]; exact nI_lt (a := i) (b := 158) hi (by omega)) ?_
  repeat (first | refine am_T.stp hN rfl ?_ | refine am_T.go hN rfl ?_ | refine am_T.ret rfl ?_)
  refine am_T.spc (pu_bald xs L i hi _) ?_
  repeat (refine am_T.stp hN rfl ?_)
  obtain ⟨v1, v2⟩ := pu_txt_v i hi
  rw [v1]
  have v3 : narrow .char (.int (pu_txt i)) = .int (pu_txt i) := by show Value.int _ = Value.int _; rw [v2]
  refine am_T.iret ⟨rfl, rfl, 1, rfl⟩ rfl v3 ?_
  refine am_T.iret ⟨rfl, rfl, 1, rfl⟩ rfl v3 ?_
  exact ⟨rfl, rfl⟩
end PUS
/-! the Reader's keywords -/
def pu_rw : Nat → Nat
  | 0 => 0
  | i + 1 => if pu_txt i = 32 then pu_rw i + 1 else pu_rw i
def pu_rf : Nat → Nat → Int64
  | 0 => fun _ => 0
  | i + 1 => if pu_txt i = 32 then pu_rf i else vp_updL (pu_rf i) (pu_rw i) ((pu_rf i (pu_rw i) <<< (((Int8.ofInt 8).toInt32).toInt64 &&& 63)) ||| (pu_txt i).toInt64)
theorem pu_rw_lt : ∀ i, i < 158 → pu_rw i < 34 := by decide +kernel
def pu_words : Nat → Int64 := pu_rf 158
def pu_kws : List Int64 := [427021005669, 7364985, 26982, 2003330414, 7103860, 107148485161588, 1751477348, 7234919, 6382692, 7566690, 7173484, 6580598, 109300197582190, 495873782388, 6647396, 7697253, 1668247140, 6385252, 28530, 7237492, 426953896805, 26469, 26484, 27749, 27764, 25969, 1953658213, 439721161573, 28259031251642740, 109300196926309, 121424973489785, 1667330917, 29807, 1768846447]
theorem pu_words_eq : ∀ j, j < 34 → pu_words j = pu_kws.getD j 0 := by decide +kernel
def pu_reader (l : Nat) (f : Nat → Int64) : am_H := [.inr (6, [.ref (l + 1), .ref (l + 2), .int 0, .int 0, .int 0, .int 0, .long 0, .ref (l + 3), .int (-1), .int (-1)]), .inl (2, 34, .inr (.inl f)), .inl (0, 0, .inl (fun _ => 0)), pu_num (l + 4), pu_limb]
theorem pu_at1 (h0 : am_H) (B a : va_E) (t : am_H) : (h0 ++ B :: a :: t)[h0.length + 1]? = some a := by
  rw [List.getElem?_append_right (by omega), show h0.length + 1 - h0.length = 1 by omega]; rfl
theorem pu_set1 (h0 : am_H) (B a c : va_E) (t : am_H) : (h0 ++ B :: a :: t).set (h0.length + 1) c = h0 ++ B :: c :: t := by
  rw [List.set_append_right _ _ (by omega), show h0.length + 1 - h0.length = 1 by omega]; rfl
section PUD
variable (xs : Nat → Int32) (L : Nat)
set_option maxRecDepth 20000 in
set_option maxHeartbeats 4000000 in
theorem pu_Reader_loop (d : Nat) (h0 : am_H) : ∀ (m i : Nat), i + m = 158 → am_R (pu_G xs L) (d + 5) 1 44 [(0, .ref h0.length), (1, .int (nI (pu_rw i))), (2, .int (nI i))] [] (h0 ++ pu_reader h0.length (pu_rf i)) (.inl none) (h0 ++ pu_reader h0.length pu_words) := by
  intro m
  induction m with
  | zero =>
    intro i hi
    have hi : i = 158 := by omega
    subst hi
    refine am_R.one rfl ?_
    refine am_R.one rfl ?_
    refine am_R.calls (k := 9) (y := 3) (ix := 35) (ins := .invokevirtual 35) ⟨rfl, rfl, 3, rfl⟩ rfl rfl rfl rfl (Nat.le_of_ble_eq_true rfl) (by decide) (am_R.deep (pu_slen0 xs L 0 _) (by omega)) ?_
    refine am_R.one rfl ?_
    rw [if_pos (by simp only [am_tst, decide_eq_true_eq]; exact nI_le (Nat.le_refl _) (by omega))]
    exact am_R.fin rfl
  | succ m ih =>
    intro i hi
    have hi9 : i < 158 := by omega
    have hw : pu_rw i < 34 := pu_rw_lt i hi9
    refine am_R.one rfl ?_
    refine am_R.one rfl ?_
    refine am_R.calls (k := 9) (y := 3) (ix := 35) (ins := .invokevirtual 35) ⟨rfl, rfl, 3, rfl⟩ rfl rfl rfl rfl (Nat.le_of_ble_eq_true rfl) (by decide) (am_R.deep (pu_slen0 xs L 0 _) (by omega)) ?_
    refine am_R.one rfl ?_
    rw [if_neg (by simp only [am_tst, decide_eq_true_eq]; exact nI_ge hi9 (by omega))]
    refine am_R.one rfl ?_
    refine am_R.one rfl ?_
    refine am_R.one rfl ?_
    rw [if_neg (by simp only [am_tst, decide_eq_true_eq]; exact nI_ge (a := pu_rw i) (b := 34) hw (by omega))]
    refine am_R.one rfl ?_
    refine am_R.one rfl ?_
    refine am_R.calls (k := 9) (y := 5) (ix := 41) (ins := .invokevirtual 41) ⟨rfl, rfl, 3, rfl⟩ rfl rfl rfl rfl (Nat.le_of_ble_eq_true rfl) (by decide) (am_R.deep (pu_char0 xs L 0 _ i hi9) (by omega)) ?_
    refine am_R.one rfl ?_
    refine am_R.one rfl ?_
    refine am_R.one rfl ?_
    refine am_R.one rfl ?_
    have e1 : nI i + Int32.ofInt 1 = nI (i + 1) := nI_1 i
    have e2 : nI (pu_rw i) + Int32.ofInt 1 = nI (pu_rw i + 1) := nI_1 _
    have hih := ih (i + 1) (by omega)
    by_cases hc : pu_txt i = 32
    · rw [pu_rw, pu_rf, if_pos hc, if_pos hc, ← e1, ← e2] at hih
      rw [if_neg (by simp only [am_tst, decide_eq_true_eq]; exact fun z => z hc)]
      refine am_R.one rfl ?_
      refine am_R.one rfl ?_
      refine am_R.one rfl ?_
      refine am_R.one rfl ?_
      exact am_R.lv _ (am_sub.of (by repeat' (first | exact trivial | rfl | refine ⟨?_, ?_⟩))) hih
    · rw [pu_rw, pu_rf, if_neg hc, if_neg hc, ← e1] at hih
      rw [if_pos (by simp only [am_tst, decide_eq_true_eq]; exact hc)]
      have hj : ¬ (nI (pu_rw i) < 0 ∨ 34 ≤ (nI (pu_rw i)).toNatClampNeg) := nI_in hw (by omega)
      have hcl : (nI (pu_rw i)).toNatClampNeg = pu_rw i := nI_clamp (by omega)
      refine am_R.one rfl ?_
      refine am_R.getf (ci := 6) (k := 0) (md := 1) ⟨rfl, rfl, 3, rfl⟩ rfl (pu_at h0 _ _) rfl (by decide) ?_
      refine am_R.one rfl ?_
      refine am_R.one rfl ?_
      refine am_R.getf (ci := 6) (k := 0) (md := 1) ⟨rfl, rfl, 3, rfl⟩ rfl (pu_at h0 _ _) rfl (by decide) ?_
      refine am_R.one rfl ?_
      refine am_R.lald (n := 34) (f := pu_rf i) ⟨rfl, rfl, 1, rfl⟩ (pu_at1 h0 _ _ _) hj ?_
      refine am_R.one rfl ?_
      refine am_R.one rfl ?_
      refine am_R.one rfl ?_
      refine am_R.one rfl ?_
      refine am_R.one rfl ?_
      refine am_R.last (n := 34) (f := pu_rf i) ⟨rfl, rfl, 1, rfl⟩ (pu_at1 h0 _ _ _) hj ?_
      rw [hcl, pu_reader, pu_set1]
      refine am_R.one rfl ?_
      refine am_R.one rfl ?_
      exact am_R.lv _ (am_sub.of (by repeat' (first | exact trivial | rfl | refine ⟨?_, ?_⟩))) hih
end PUD
