/-! THE START: what the Statement gives of the world outside -/
def am_prm : List Cond := flatC (Jvm.Cond.and given_1 narrow_1)
def am_sps : List (Nat × Nat × Nat × Nat × List Nat) := [(68, 69, 70, 71, [72, 73, 74, 75, 76, 77, 78, 79, 80, 81, 82, 83, 84, 85, 86, 87, 88, 89, 90, 91, 92, 93, 94, 95, 96, 97, 98, 99, 100, 101, 102, 103, 104, 105, 106, 107, 108, 109, 110, 111, 112, 113, 114, 115, 116, 117, 118, 119, 120, 121, 122, 123, 124, 125, 126, 127, 128, 129, 130, 131, 132, 133, 134, 135, 136, 137, 138, 139, 140, 141, 142, 143, 144, 145, 146, 147, 148, 149, 150, 151, 152, 153, 154, 155, 156, 157, 158, 159, 160, 161, 162, 163, 164, 165, 166, 167, 168, 169, 170, 171, 172, 173, 174, 175, 176, 177, 178, 179, 180, 181, 182, 183, 184, 185, 186, 187, 188, 189, 190, 191, 192, 193, 194, 195, 196, 197, 198, 199, 200, 201, 202, 203, 204, 205, 206, 207, 208, 209, 210, 211, 212, 213, 214, 215, 216, 217, 218, 219, 220, 221, 222, 223, 224, 225, 226, 227, 228, 229]), (230, 231, 232, 233, [234, 235, 236, 237, 238, 239]), (240, 241, 242, 243, [244, 245, 246]), (247, 248, 249, 250, [251, 252, 253, 254]), (255, 256, 257, 258, [259, 260, 261]), (262, 263, 264, 265, [266, 267]), (268, 269, 270, 271, [272, 273]), (274, 275, 276, 277, [278]), (279, 280, 281, 282, [283]), (284, 285, 286, 287, [288, 289, 290]), (291, 292, 293, 294, [295, 296]), (297, 298, 299, 300, [301]), (302, 303, 304, 305, [306, 307]), (308, 309, 310, 311, [312]), (313, 314, 315, 316, [317, 318, 319, 320, 321]), (322, 323, 324, 325, [326, 327, 328, 329, 330]), (331, 332, 333, 334, []), (335, 336, 337, 338, []), (340, 341, 342, 343, [344, 345, 346, 347]), (348, 349, 350, 351, [352, 353, 354])]
def am_tm (u : Nat) : Term := Term.string (am_lds.getD u ("", 0, "", 0)).1 (am_lds.getD u ("", 0, "", 0)).2.1
def am_at9 (k : Nat) (w : Cond) : Bool := decide (am_prm[k]? = some w)
def am_els (tm : Term) (n : Nat) : List Int32 → List Nat → Bool
  | [], [] => true
  | x :: l, k :: m => am_at9 k (.eq (.elem tm (.int (Int32.ofNat n))) (.int x)) && am_els tm (n + 1) l m
  | _, _ => false
theorem am_els_mem {tm : Term} : ∀ {l : List Int32} {m : List Nat} {n : Nat}, am_els tm n l m = true → ∀ j, j < l.length → Cond.eq (.elem tm (.int (Int32.ofNat (n + j)))) (.int (l.getD j 0)) ∈ am_prm := by
  intro l
  induction l with
  | nil => intro m n _ j hj; cases hj
  | cons x l ih =>
    intro m n h j hj
    cases m with
    | nil => simp [am_els] at h
    | cons k m =>
      simp only [am_els, Bool.and_eq_true, am_at9, decide_eq_true_eq] at h
      cases j with
      | zero => exact List.mem_of_getElem? h.1
      | succ j =>
        have := ih h.2 j (by simpa using hj)
        rw [show n + 1 + j = n + (j + 1) by omega] at this
        simpa using this
def am_sck (u : Nat) : Bool := match am_sps.getD u (0, 0, 0, 0, []) with
  | (pe, pc, pa, pl, el) => am_at9 pe (.exactly (am_tm u) "java/lang/String") && am_at9 pc (.eq (.field (am_tm u) "java/lang/String" "coder" "B") (.int 0)) && am_at9 pa (.arrayOf (.field (am_tm u) "java/lang/String" "value" "[B") .byte) && am_at9 pl (.eq (.length (.field (am_tm u) "java/lang/String" "value" "[B")) (.int (Int32.ofNat (am_txt.getD u []).length))) && am_els (.field (am_tm u) "java/lang/String" "value" "[B") 0 (am_txt.getD u []) el && decide ((am_txt.getD u []).length < 2 ^ 31)
theorem am_sck_ok : ∀ u, u < 20 → am_sck u = true := by decide +kernel
def am_tps : List Nat := [375, 355, 395, 412, 428, 455]
theorem am_tps_ok : am_zip (fun (e : String × Nat × String) k => am_at9 k (.exactly (.string e.1 e.2.1) "java/lang/String")) am_txs am_tps = true := by decide +kernel
def am_at8 (w : Cond) (p : Nat × Nat) : Bool := decide ((am_tk p.1)[p.2]? = some w)
theorem am_at8_in {w : Cond} {p : Nat × Nat} (h : am_at8 w p = true) : w ∈ tables_1 := am_tk_in (List.mem_of_getElem? (of_decide_eq_true h))
theorem am_tpw_ok : am_zip (fun (e : String × Nat × String) p => am_at8 (.stringRef e.1 e.2.1 e.2.2) p) am_txs [(5, 105), (5, 70), (5, 123), (5, 169), (5, 173), (5, 186)] = true := by decide +kernel
theorem am_lpw_ok : am_zip (fun (e : String × Nat × String × Nat) p => am_at8 (.stringRef e.1 e.2.1 e.2.2.1) p) am_lds [(0, 68), (3, 72), (3, 73), (3, 74), (3, 75), (3, 76), (3, 77), (3, 78), (3, 79), (3, 80), (3, 81), (3, 82), (3, 83), (3, 84), (3, 85), (3, 86), (3, 87), (4, 41), (4, 55), (4, 56)] = true := by decide +kernel
theorem am_lds_n : ∀ u, u < 20 → (am_lds.getD u ("", 0, "", 0)).2.2.2 = u := by decide +kernel
theorem am_nc_ok : am_zip (fun (e : String × String) k => am_at9 k (.not (.castable e.1 e.2))) am_ncs [51, 66, 36, 67, 37, 52] = true := by decide +kernel
theorem am_rn_ok : am_at9 10 (.arrayOf (.static "PromisePlatform" "RECORD_NUMBERS" "[I") .int) = true ∧ am_at9 11 (.eq (.length (.static "PromisePlatform" "RECORD_NUMBERS" "[I")) (.int 9)) = true ∧ am_els (.static "PromisePlatform" "RECORD_NUMBERS" "[I") 0 [0, 1, 1, 3, 1, 2, 3, 1, 0] [12, 13, 14, 15, 16, 17, 18, 19, 20] = true := by decide +kernel
theorem am_st_ok : am_at9 4 (.eq (.static "java/lang/String" "COMPACT_STRINGS" "Z") (.int 1)) = true ∧ am_at9 5 (.isRef (.static "jdk/internal/util/Preconditions" "SIOOBE_FORMATTER" "Ljava/util/function/BiFunction;")) = true ∧ am_at9 21 (.isRef (.static Bundle.tN "UNASSIGNED_STACK" Bundle.steD)) = true ∧ am_at9 22 (.isRef (.static Bundle.tN "SUPPRESSED_SENTINEL" Bundle.listD)) = true := by decide +kernel
theorem am_ls_ok : am_at8 (.laysStatic "java/lang/String" "COMPACT_STRINGS" "Z") (0, 78) = true ∧ am_at8 (.laysStatic "jdk/internal/util/Preconditions" "SIOOBE_FORMATTER" "Ljava/util/function/BiFunction;") (0, 94) = true ∧ am_at8 (.laysStatic Bundle.tN "UNASSIGNED_STACK" Bundle.steD) (5, 56) = true ∧ am_at8 (.laysStatic Bundle.tN "SUPPRESSED_SENTINEL" Bundle.listD) (5, 58) = true ∧ am_at8 (.laysStatic "PromisePlatform" "RECORD_NUMBERS" "[I") (2, 182) = true := by decide +kernel
theorem am_in_ok : am_at8 (.initialized "java/lang/String") (0, 4) = true ∧ am_at8 (.initialized "jdk/internal/util/Preconditions") (0, 6) = true ∧ am_at8 (.initialized Bundle.tN) (0, 18) = true ∧ am_at8 (.initialized "PromisePlatform") (0, 1) = true := by decide +kernel
theorem am_ao_ok : am_at8 (.arrayOver (.object "PromisePlatform$Num")) (1, 61) = true ∧ am_at8 (.arrayOver (.object "PromisePlatform$State")) (1, 52) = true := by decide +kernel
theorem am_ins_ok : am_at8 (.instantiable RX0 5) (1, 54) = true ∧ am_at8 (.instantiable RX1 7) (2, 47) = true ∧ am_at8 (.instantiable RX2 14) (1, 179) = true ∧ am_at8 (.instantiable RX3 3) (0, 41) = true ∧ am_at8 (.instantiable RX4 8) (1, 18) = true ∧ am_at8 (.instantiable RX5 11) (0, 188) = true ∧ am_at8 (.instantiable RX6 10) (0, 35) = true ∧ am_at8 (.instantiable RX7 6) (1, 88) = true ∧ am_at8 (.instantiable RX8 10) (2, 2) = true ∧ am_at8 (.instantiable RX9 7) (1, 137) = true ∧ am_at8 (.instantiable RX10 7) (0, 156) = true ∧ am_at8 (.instantiable RX11 20) (0, 27) = true ∧ am_at8 (.instantiable RX12 182) (7, 84) = true := by decide +kernel
set_option maxHeartbeats 4000000 in
theorem am_start {s : State} {bs L : Nat} {xs : Nat → Int32} (hts : ∀ w ∈ lw_tbl, w.before #[Value.ref bs] s = true) (hX : va_X bs L xs s s.heap) (hbl : bs < s.heap.size) (hgv : (Jvm.Cond.and given_1 narrow_1).before #[Value.ref bs] s = true) :
    ∃ (D : va_G) (cy : Nat → ClassId) (sa : Nat → Option Nat), (∀ u : Nat, u < 900 → ∃ a, sa u = some a) ∧ sa 200 = some bs ∧ am_Ev D cy s.heap.size sa xs L s s.heap := by
  have ht1 : ∀ w ∈ tables_1, w.before #[Value.ref bs] s = true := fun w hw => hts w (List.mem_append_right _ hw)
  have hfl : ∀ w ∈ am_prm, w.before #[Value.ref bs] s = true := flat_of_before _ hgv
  have hf9 : ∀ {k : Nat} {w : Cond}, am_at9 k w = true → w.before #[Value.ref bs] s = true := fun h => hfl _ (List.mem_of_getElem? (of_decide_eq_true h))
  have hA : ∀ a : Nat, a < s.heap.size → ¬ (fun q => s.heap.size ≤ q) a := fun a h => Nat.not_le.mpr h
  have hU : ∀ w ∈ am_U, w.before #[Value.ref bs] s = true := fun w hw => hts w (List.mem_filter.mp hw).1
  -- the classes
  have hcls : ∀ ci : Nat, ∃ q : ClassId × (Nat → Nat), ∀ r : vw_C, vwCl[ci]? = some r → u_Kn s r.1 r.2.1 r.2.2 q.1 q.2 := by
    intro ci
    cases hr : vwCl[ci]? with
    | none => exact ⟨(0, fun _ => 0), fun r h => by cases h⟩
    | some r =>
      have hi : (Cond.instantiable r.1 r.2.2).before #[Value.ref bs] s = true := by
        have hl : ci < 13 := (List.getElem?_eq_some_iff.mp hr).1
        obtain ⟨i0, i1, i2, i3, i4, i5, i6, i7, i8, i9, i10, i11, i12⟩ := am_ins_ok
        rcases (show ci = 0 ∨ ci = 1 ∨ ci = 2 ∨ ci = 3 ∨ ci = 4 ∨ ci = 5 ∨ ci = 6 ∨ ci = 7 ∨ ci = 8 ∨ ci = 9 ∨ ci = 10 ∨ ci = 11 ∨ ci = 12 by omega) with rfl | rfl | rfl | rfl | rfl | rfl | rfl | rfl | rfl | rfl | rfl | rfl | rfl
        · cases hr; exact ht1 _ (am_at8_in i0)
        · cases hr; exact ht1 _ (am_at8_in i1)
        · cases hr; exact ht1 _ (am_at8_in i2)
        · cases hr; exact ht1 _ (am_at8_in i3)
        · cases hr; exact ht1 _ (am_at8_in i4)
        · cases hr; exact ht1 _ (am_at8_in i5)
        · cases hr; exact ht1 _ (am_at8_in i6)
        · cases hr; exact ht1 _ (am_at8_in i7)
        · cases hr; exact ht1 _ (am_at8_in i8)
        · cases hr; exact ht1 _ (am_at8_in i9)
        · cases hr; exact ht1 _ (am_at8_in i10)
        · cases hr; exact ht1 _ (am_at8_in i11)
        · cases hr; exact ht1 _ (am_at8_in i12)
      obtain ⟨cC, iS, hk⟩ := u_known (C := r.1) (T := r.2.1) (N := r.2.2) (n := r.2.2) hU (am_wsC hr) hi
      exact ⟨(cC, iS), fun r' h => by cases h; exact hk⟩
  obtain ⟨DD, hDD⟩ := Classical.axiomOfChoice hcls
  -- the arrays' classes
  have hpa : ∀ ty : FieldType, (Cond.arrayClass ty).before #[Value.ref bs] s = true → (∀ C, ty ≠ .object C) → ∃ cA : ClassId, ArrOfT s cA ty ∧ va_RA s cA ty := by
    intro ty h hno
    obtain ⟨c0, k0, comp0, f1, f2, f3⟩ := Cond.arrayClass_spec (args := #[Value.ref bs]) (first := s) (o := none) (s := s) (idx := []) h
    refine ⟨c0, fun n z => ⟨fun k h => (by cases h), k0, f2, comp0, f3⟩, ?_⟩
    cases ty <;> first | exact f1 | exact absurd rfl (hno _)
  have hpo : ∀ C : String, (Cond.arrayOver (.object C)).before #[Value.ref bs] s = true → ∃ cA : ClassId, ArrOfT s cA (.object C) ∧ va_RA s cA (.object C) := by
    intro C h
    obtain ⟨comp, c0, k0, g1, g2, g3, g4, g5⟩ := Cond.arrayOver_spec (args := #[Value.ref bs]) (first := s) (o := none) (s := s) (idx := []) h
    exact ⟨c0, fun n z => ⟨fun k h => (by cases h), k0, g3, comp, g4⟩, k0, comp, g3, g4, g1, g5⟩
  obtain ⟨y0, hy0⟩ := hpa .byte (hU _ (am_has_U am_okR.1)) (fun C h => by cases h)
  obtain ⟨y1, hy1⟩ := hpa .int (hU _ (am_has_U am_okR.2.1)) (fun C h => by cases h)
  obtain ⟨y2, hy2⟩ := hpa .long (hU _ (am_has_U am_okR.2.2.1)) (fun C h => by cases h)
  obtain ⟨y3, hy3⟩ := hpa .boolean (hU _ (am_has_U am_okR.2.2.2)) (fun C h => by cases h)
  obtain ⟨y4, hy4⟩ := hpo _ (ht1 _ (am_at8_in am_ao_ok.1))
  obtain ⟨y5, hy5⟩ := hpo _ (ht1 _ (am_at8_in am_ao_ok.2))
  -- the texts
  have hst : ∀ u : Nat, ∃ q : Nat × Nat, u < 20 → (am_tm u).eval #[Value.ref bs] s none [] s = some (.ref q.1) ∧ va_O "java/lang/String" q.1 (fun q => s.heap.size ≤ q) s s.heap ∧ va_OF "java/lang/String" "coder" "B" (.int 0) q.1 (fun q => s.heap.size ≤ q) s s.heap ∧ va_OF "java/lang/String" "value" "[B" (.ref q.2) q.1 (fun q => s.heap.size ≤ q) s s.heap ∧ va_T .byte q.2 (am_txt.getD u []).length (fun j => .int ((am_txt.getD u []).getD j 0)) (fun q => s.heap.size ≤ q) s s.heap := by
    intro u
    by_cases hu : u < 20
    · have h := am_sck_ok u hu
      unfold am_sck at h
      split at h
      rename_i pe pc pa pl el hps
      simp only [Bool.and_eq_true, decide_eq_true_eq] at h
      obtain ⟨⟨⟨⟨⟨h1, h2⟩, h3⟩, h4⟩, h5⟩, h6⟩ := h
      obtain ⟨a, c, cA, kA, q1, q2, q3, q4, q5, q6, -⟩ := Cond.exactly_spec (args := #[Value.ref bs]) (first := s) (o := none) (s := s) (idx := []) (t := am_tm u) (cls := "java/lang/String") (hf9 h1)
      obtain ⟨t, ht, hT⟩ := va_Tof (f := fun j => .int ((am_txt.getD u []).getD j 0)) (A := fun q => s.heap.size ≤ q) h6 (hf9 h3) (va_eqt (hf9 h4)) (fun j hj => va_eqt (by
        have := hfl _ (am_els_mem h5 j hj)
        rwa [Nat.zero_add] at this)) hA
      exact ⟨(a, t), fun _ => ⟨q1, ⟨cA, q3, q5, by rw [q6]; exact q2, hA a (Array.getElem?_eq_some_iff.mp q3).1⟩, vk_OFof q1 (va_eqt (hf9 h2)) hA, vk_OFof q1 ht hA, hT⟩⟩
    · exact ⟨(0, 0), fun h => absurd h hu⟩
  obtain ⟨ad, had⟩ := Classical.axiomOfChoice hst
  -- the constant row
  obtain ⟨t, ht, hT⟩ := va_Tof (f := fun j => .int (am_rec j)) (A := fun q => s.heap.size ≤ q) (N := 9) (by omega) (hf9 am_rn_ok.1) (va_eqt (hf9 am_rn_ok.2.1)) (fun j hj => va_eqt (by
    have := hfl _ (am_els_mem am_rn_ok.2.2 j hj)
    rwa [Nat.zero_add] at this)) hA
  have hZ1 := va_Zof (ht1 _ (am_at8_in am_ls_ok.2.2.2.2)) (ht1 _ (am_at8_in am_in_ok.2.2.2)) ht hA
  have hZ2 := va_Zof (ht1 _ (am_at8_in am_ls_ok.1)) (ht1 _ (am_at8_in am_in_ok.1)) (va_eqt (hf9 am_st_ok.1)) hA
  have hZ3 := vx_Zqof (ht1 _ (am_at8_in am_ls_ok.2.1)) (ht1 _ (am_at8_in am_in_ok.2.1)) (hf9 am_st_ok.2.1) hA
  have hZ4 := vx_Zqof (ht1 _ (am_at8_in am_ls_ok.2.2.1)) (ht1 _ (am_at8_in am_in_ok.2.2.1)) (hf9 am_st_ok.2.2.1) hA
  have hZ5 := vx_Zqof (ht1 _ (am_at8_in am_ls_ok.2.2.2.1)) (ht1 _ (am_at8_in am_in_ok.2.2.1)) (hf9 am_st_ok.2.2.2) hA
  obtain ⟨fm, hfm⟩ : ∃ r : Option Nat, va_Z "jdk/internal/util/Preconditions" "SIOOBE_FORMATTER" "Ljava/util/function/BiFunction;" (va_rf r) (fun q => s.heap.size ≤ q) s s.heap := by
    rcases hZ3.1 with z | ⟨t9, z⟩
    · exact ⟨none, z⟩
    · exact ⟨some t9, z⟩
  refine ⟨(fun k => (DD k).1, fun k => (DD k).2), fun k => if k = 0 then y0 else if k = 1 then y1 else if k = 2 then y2 else if k = 3 then y3 else if k = 4 then y4 else y5, fun u => if u < 30 then some (ad (am_tn u)).1 else if u < 60 then some (ad (am_tn (u - 30))).2 else if u = 100 then some t else if u = 999 then fm else some bs, ?_, rfl, ?_⟩
  · intro u hu
    dsimp only
    split
    · exact ⟨_, rfl⟩
    · split
      · exact ⟨_, rfl⟩
      · split
        · exact ⟨_, rfl⟩
        · split
          · omega
          · exact ⟨_, rfl⟩
  · refine ⟨⟨fun c q h => hDD c q h, ?_⟩, ?_, ⟨hZ4, hZ5⟩, ?_, ?_, ⟨bs, rfl, hbl, hX⟩, ⟨t, rfl, hT, hZ1⟩, hZ2, hfm, ?_, ?_⟩
    · intro k q h
      have hl : k < 6 := (List.getElem?_eq_some_iff.mp h).1
      rcases am_lt6 hl with rfl | rfl | rfl | rfl | rfl | rfl
      · cases h; exact hy0
      · cases h; exact hy1
      · cases h; exact hy2
      · cases h; exact hy3
      · cases h; exact hy4
      · cases h; exact hy5
    · intro w hw
      obtain ⟨h1, h2⟩ := List.mem_filter.mp hw
      have h3 := ht1 w h1
      unfold am_vk at h2
      split at h2 <;> first | exact va_Nw.of rfl h3 | exact va_AO.of h3 | (cases h2; done)
    · intro e he
      obtain ⟨k, hk⟩ := am_zip_mem am_tps_ok e he
      obtain ⟨p, hp⟩ := am_zip_mem am_tpw_ok e he
      obtain ⟨a, c, cA, kA, q1, -⟩ := Cond.exactly_spec (args := #[Value.ref bs]) (first := s) (o := none) (s := s) (idx := []) (t := .string e.1 e.2.1) (cls := "java/lang/String") (hf9 hk)
      exact ⟨a, vk_R.of (A := #[Value.ref bs]) (ht1 _ (am_at8_in hp)) q1⟩
    · intro e he
      obtain ⟨k, hk⟩ := am_zip_mem am_nc_ok e he
      exact va_Nc.of (hf9 hk)
    · intro u hu
      have hn : am_tn u < 20 := by unfold am_tn; split <;> omega
      obtain ⟨z1, z2, z3, z4, z5⟩ := had (am_tn u) hn
      refine ⟨(ad (am_tn u)).1, (ad (am_tn u)).2, by simp [hu], ?_, z2, z3, z4, z5⟩
      have e1 : ¬ 30 + u < 30 := by omega
      have e2 : 30 + u < 60 := by omega
      simp [e1, e2]
    · intro e he
      obtain ⟨p, hp⟩ := am_zip_mem am_lpw_ok e he
      obtain ⟨u, hu⟩ := List.mem_iff_getElem?.mp he
      have hul : u < 20 := (List.getElem?_eq_some_iff.mp hu).1
      have e1 : am_lds.getD u ("", 0, "", 0) = e := by rw [List.getD_eq_getElem?_getD, hu]; rfl
      have e2 := am_lds_n u hul
      rw [e1] at e2
      obtain ⟨z1, z2⟩ := had u hul
      have z1 : (Term.string e.1 e.2.1).eval #[Value.ref bs] s none [] s = some (.ref (ad u).1) := by
        have := z1
        unfold am_tm at this
        rwa [e1] at this
      refine ⟨(ad u).1, ?_, vk_R.of (A := #[Value.ref bs]) (ht1 _ (am_at8_in hp)) z1⟩
      have e3 : am_tn u = u := by unfold am_tn; rw [if_pos hul]
      have e4 : u < 30 := by omega
      rw [e2]
      simp [e3, e4]
