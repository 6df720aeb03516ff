/-! calls, returns, throws, switches, specials -/
def im_ar : List Value → im_L
  | [] => []
  | v :: vs => if v.category = 2 then some v :: none :: im_ar vs else some v :: im_ar vs
theorem im_ld_lt : ∀ (vs : List Value) (i j : Nat), j < i → am_ld (lv_args i vs) j = none := by
  intro vs
  induction vs with
  | nil => intro i j _; rfl
  | cons v vs ih =>
    intro i j hj
    have h1 : am_ld (lv_args (if v.category = 2 then i + 2 else i + 1) vs) j = none := ih _ j (by split <;> omega)
    show am_ld ((i, v) :: lv_args (if v.category = 2 then i + 2 else i + 1) vs) j = none
    unfold am_ld at h1 ⊢
    rw [List.find?_cons, show ((i, v).1 == j) = false from by simp; omega]
    exact h1
theorem im_ar_get : ∀ (vs : List Value) (i j : Nat) (w : Value), (im_ar vs)[j]? = some (some w) → am_ld (lv_args i vs) (i + j) = some w := by
  intro vs
  induction vs with
  | nil => intro i j w h; cases h
  | cons v vs ih =>
    intro i j w h
    show am_ld ((i, v) :: lv_args (if v.category = 2 then i + 2 else i + 1) vs) (i + j) = some w
    unfold im_ar at h
    cases j with
    | zero =>
      have h1 : some (some v) = some (some w) := by
        split at h <;> exact h
      cases h1
      unfold am_ld
      rw [List.find?_cons]
      simp
    | succ j =>
      by_cases hc : v.category = 2
      · rw [if_pos hc] at h ⊢
        cases j with
        | zero => cases h
        | succ j =>
          have h2 := ih (i + 2) j w h
          unfold am_ld at h2 ⊢
          rw [List.find?_cons, show ((i, v).1 == i + (j + 1 + 1)) = false from by simp]
          rw [show i + (j + 1 + 1) = i + 2 + j from by omega]
          exact h2
      · rw [if_neg hc] at h ⊢
        have h2 := ih (i + 1) j w h
        unfold am_ld at h2 ⊢
        rw [List.find?_cons, show ((i, v).1 == i + (j + 1)) = false from by simp]
        rw [show i + (j + 1) = i + 1 + j from by omega]
        exact h2
theorem im_ar_lv (vs : List Value) : im_lv (im_ar vs) (lv_args 0 vs) := fun j w h => by
  have := im_ar_get vs 0 j w h
  rwa [Nat.zero_add] at this
section IMC
variable {g : im_g} {d m pc q : Nat} {L : im_L} {st r : List Value} {e : im_E} {M : im_M} {K : im_K}
/-- behind a call -/
def im_bk (g : im_g) (d m pc q kd : Nat) (L : im_L) (r : List Value) (K : im_K) : im_K := fun o e1 M1 => match o with
  | .inl v => im_T g d m q L (v.toList ++ r) e1 M1 K
  | .inr E => ∃ o', am_thx (im_G g) kd m pc E = some o' ∧ K o' e1 M1
theorem im_callG {ins : Instr} {kd y ix : Nat} {vs : List Value} {L2 : im_L} (hD : im_D g m pc ins q) (hl3 : am_len ins = 3) (hs : am_spc (im_G g) m pc st = none) (ha : ∀ lv, am_a (am_kk (im_G g) m) (am_mxl (im_G g) m) ins pc lv st = none) (hb : ∀ h, am_b (am_X (im_G g)) (am_lkk (im_G g) m) (am_ini (im_G g) m) ins pc st h = none) (ht : am_rt (am_rty (im_G g) m) ins st = none) (hi : ∀ h, im_W (im_sh0 ++ e) M h → am_inv (im_G g) m ins st h = some (kd, y, ix, vs, r)) (hk : ¬ kd = 3) (hm : (lg_sl vs).length ≤ am_mxl (im_G g) y) (hd : 1 ≤ d) (hL : im_wk L2 (im_ar vs)) (k : im_T g (d - 1) y 0 L2 [] e M (im_bk g d m pc q kd L r K)) : im_T g d m pc L st e M K := by
  intro lv h hl hw
  obtain ⟨d, rfl⟩ : ∃ z, d = z + 1 := ⟨d - 1, by omega⟩
  obtain ⟨h1, len, h2, h3⟩ := hD
  rw [hl3] at h3
  have hc : am_cll (im_G g) m pc lv st h = some (kd, y, ix, vs, r) := am_cll_of ⟨hs, h1, len, h2⟩ (ha lv) (hb h) ht (hi h hw) (Or.inr hm)
  refine am_T.call hc hk ?_
  refine (k (lv_args 0 vs) h ((im_ar_lv vs).wk hL) hw).mono ?_
  rintro o h' ⟨e1, M1, hw1, hk1⟩
  cases o with
  | inl v =>
    have hk1 : im_T g (d + 1) m q L (v.toList ++ r) e1 M1 K := hk1
    show am_T (im_G g) (d + 1) m (pc + 3) lv (v.toList ++ r) h' _
    rw [h3]
    exact hk1 lv h' hl hw1
  | inr E =>
    obtain ⟨o', a, b⟩ := hk1
    exact ⟨o', a, e1, M1, hw1, b⟩
theorem im_callS {ix kd y n : Nat} {z : Nat} {vs : List Value} {L2 : im_L} (hD : im_D g m pc (.invokestatic ix) q) (hsm : (am_smt.getD (am_cn m) []).lookup ix = none) (hc : am_cal (im_G g) m ix = some (kd, y, n, z)) (hk : kd = 0 ∨ kd = 6) (hn : Nat.ble n st.length = true) (hv : (st.take n).reverse = vs) (hr : st.drop n = r) (hcat : Nat.ble (am_cat r) 8 = true) (hm : Nat.ble (lg_sl vs).length (am_mxl (im_G g) y) = true) (hd : 1 ≤ d) (hL : im_wk L2 (im_ar vs)) (k : im_T g (d - 1) y 0 L2 [] e M (im_bk g d m pc q kd L r K)) : im_T g d m pc L st e M K := by
  subst hv; subst hr
  refine im_callG (ins := .invokestatic ix) (ix := ix) hD rfl ?_ (fun _ => rfl) (fun _ => rfl) rfl (fun h _ => ?_) (by omega) (Nat.le_of_ble_eq_true hm) hd hL k
  · obtain ⟨h1, len, h2, h3⟩ := hD
    have h2 : (am_2 am_tbs [] m).lookup pc = some (.invokestatic ix, len) := h2
    show am_sp g.1 g.2 m pc _ = none
    unfold am_sp
    rw [h2]
    simp only [hsm]
  · simp only [am_inv, hc]
    rw [if_pos ⟨hk, Nat.le_of_ble_eq_true hn, Nat.le_of_ble_eq_true hcat⟩]
theorem im_callV {ix kd y n a ci n2 : Nat} {rs : List Int} {vs : List Value} {L2 : im_L} (hD : im_D g m pc (.invokevirtual ix) q) (hc : am_cal (im_G g) m ix = some (kd, y, n, ci)) (hk : kd = 1 ∨ kd = 7) (hr : st.drop n = .ref a :: r) (hs : (im_sh0 ++ e)[a]? = some (ci + 10, n2, rs)) (h99 : Nat.blt ci 99 = true) (hv : .ref a :: (st.take n).reverse = vs) (hcat : Nat.ble (am_cat r) 8 = true) (hm : Nat.ble (lg_sl vs).length (am_mxl (im_G g) y) = true) (hd : 1 ≤ d) (hL : im_wk L2 (im_ar vs)) (k : im_T g (d - 1) y 0 L2 [] e M (im_bk g d m pc q kd L r K)) : im_T g d m pc L st e M K := by
  subst hv
  refine im_callG (ins := .invokevirtual ix) (ix := ix) hD rfl (im_spn hD.2.choose_spec.1 rfl) (fun _ => rfl) (fun _ => rfl) rfl (fun h hw => ?_) (by omega) (Nat.le_of_ble_eq_true hm) hd hL k
  have h9 := (hw.2 a _ hs).1
  rw [im_c_ob] at h9
  simp only [am_inv, hc, hr, h9]
  rw [if_pos ⟨hk, trivial, by have := Nat.le_of_ble_eq_true h99; omega, Nat.le_of_ble_eq_true hcat⟩]
theorem im_callF {ix kd y n z : Nat} {u : UInt32} {vs : List Value} {L2 : im_L} (hD : im_D g m pc (.invokevirtual ix) q) (hc : am_cal (im_G g) m ix = some (kd, y, n, z)) (hk : kd = 9) (hr : st.drop n = .float u :: r) (hu : Nat.blt u.toNat 30 = true) (hv : .float u :: (st.take n).reverse = vs) (hcat : Nat.ble (am_cat r) 8 = true) (hm : Nat.ble (lg_sl vs).length (am_mxl (im_G g) y) = true) (hd : 1 ≤ d) (hL : im_wk L2 (im_ar vs)) (k : im_T g (d - 1) y 0 L2 [] e M (im_bk g d m pc q kd L r K)) : im_T g d m pc L st e M K := by
  subst hv
  refine im_callG (ins := .invokevirtual ix) (ix := ix) hD rfl (im_spn hD.2.choose_spec.1 rfl) (fun _ => rfl) (fun _ => rfl) rfl (fun h hw => ?_) (by omega) (Nat.le_of_ble_eq_true hm) hd hL k
  simp only [am_inv, hc, hr]
  rw [if_pos ⟨hk, Nat.le_of_ble_eq_true hu, Nat.le_of_ble_eq_true hcat⟩]
/-- returns -/
theorem im_retG {ins : Instr} {v : Option Value} (hD : im_D g m pc ins q) (hi : im_nsp ins = true) (ha : ∀ lv, am_a (am_kk (im_G g) m) (am_mxl (im_G g) m) ins pc lv st = none) (hb : ∀ h, am_b (am_X (im_G g)) (am_lkk (im_G g) m) (am_ini (im_G g) m) ins pc st h = none) (ht : am_rt (am_rty (im_G g) m) ins st = some v) (k : K (.inl v) e M) : im_T g d m pc L st e M K := by
  intro lv h hl hw
  obtain ⟨h1, len, h2, h3⟩ := hD
  refine am_T.fin (v := v) ?_ ⟨e, M, hw, k⟩
  unfold am_fin
  simp only [im_spn h2 hi, h1, h2, ha, hb, ht]
theorem im_iret {x : Int} (hD : im_D g m pc .ireturn q) (ht : am_rty (im_G g) m = some .int) (k : K (.inl (some (vI x))) e M) : im_T g d m pc L [vI x] e M K :=
  im_retG hD rfl (fun _ => rfl) (fun _ => rfl) (by rw [ht]; simp only [am_rt, vI, narrow]; rfl) k
theorem im_zret {x : Int} (hD : im_D g m pc .ireturn q) (ht : am_rty (im_G g) m = some .boolean) (hx : 0 ≤ x ∧ x ≤ 1) (k : K (.inl (some (vI x))) e M) : im_T g d m pc L [vI x] e M K :=
  im_retG hD rfl (fun _ => rfl) (fun _ => rfl) (by
    have h01 : x = 0 ∨ x = 1 := by omega
    rw [ht]; rcases h01 with rfl | rfl <;> rfl) k
theorem im_lret {x : Int} (hD : im_D g m pc .lreturn q) (ht : am_rty (im_G g) m = some .long) (k : K (.inl (some (vL x))) e M) : im_T g d m pc L [vL x] e M K :=
  im_retG hD rfl (fun _ => rfl) (fun _ => rfl) (by rw [ht]; rfl) k
theorem im_aret {a : Nat} {s : String} (hD : im_D g m pc .areturn q) (ht : am_rty (im_G g) m = some (.object s)) (k : K (.inl (some (.ref a))) e M) : im_T g d m pc L [.ref a] e M K :=
  im_retG hD rfl (fun _ => rfl) (fun _ => rfl) (by rw [ht]; rfl) k
theorem im_fret {u : UInt32} {s : String} (hD : im_D g m pc .areturn q) (ht : am_rty (im_G g) m = some (.object s)) (k : K (.inl (some (.float u))) e M) : im_T g d m pc L [.float u] e M K :=
  im_retG hD rfl (fun _ => rfl) (fun _ => rfl) (by rw [ht]; rfl) k
theorem im_vret (hD : im_D g m pc .return_ q) (ht : am_rty (im_G g) m = none) (k : K (.inl none) e M) : im_T g d m pc L [] e M K :=
  im_retG hD rfl (fun _ => rfl) (fun _ => rfl) (by rw [ht]; rfl) k
/-- a throw -/
def im_ex : im_Sh := (6, 6, [])
theorem im_W.ex {h : am_H} (hw : im_W (im_sh0 ++ e) M h) : im_W (im_sh0 ++ (e ++ [im_ex])) M (h ++ [.inr (99, [.null, .null, .null, .null, .null, .null])]) := by
  rw [← List.append_assoc]
  exact hw.push (s := im_ex) (M' := M) (fun _ _ => rfl) (fun _ _ _ => trivial)
theorem im_thw {E : String} (h0 : am_spc (im_G g) m pc st = none) (hs : am_thr (im_G g) m pc = some E) (hc : Nat.ble (am_cat st) 8 = true) (ht : am_tab (im_G g) m = false) (k : K (.inr E) (e ++ [im_ex]) M) : im_T g d m pc L st e M K := by
  intro lv h hl hw
  exact am_T.thrw h0 hs (Nat.le_of_ble_eq_true hc) ht ⟨_, M, hw.ex, k⟩
/-- switches -/
theorem im_tsw {dflt lo hi x : Int} {offs : Array Int} {t : Nat} (hD : im_D g m pc (.tableswitch dflt lo hi offs) q) (hx : im_i32 x) (ho : ¬ (x < lo ∨ hi < x) → (offs[(x - lo).toNat]?).isSome = true) (ht : am_to pc (if x < lo ∨ hi < x then dflt else (offs[(x - lo).toNat]?).getD dflt) = some t) (k : im_T g d m t L r e M K) : im_T g d m pc L (vI x :: r) e M K := by
  refine im_stp (t := t) hD rfl (fun lv h => ⟨lv, ?_, h⟩) k
  simp only [am_a, vI, im_o32 hx]
  rw [if_pos ho]
  simp only [ht]
theorem im_lsw {dflt x : Int} {ps : Array (Int × Int)} {t : Nat} (hD : im_D g m pc (.lookupswitch dflt ps) q) (hx : im_i32 x) (ho : (ps.toList.zip (ps.toList.drop 1)).all (fun (a, next) => a.1 < next.1) = true) (ht : am_to pc (Op.lookupswitch.offset ps.toList dflt x) = some t) (k : im_T g d m t L r e M K) : im_T g d m pc L (vI x :: r) e M K := by
  refine im_stp (t := t) hD rfl (fun lv h => ⟨lv, ?_, h⟩) k
  simp only [am_a, vI, im_o32 hx]
  rw [if_pos ho]
  simp only [ht]
/-- constants of a pool -/
theorem im_ldc {i : Nat} {n : Int} {ins : Instr} (hi : ins = .ldc i ∨ ins = .ldc_w i) (hD : im_D g m pc ins q) (hl : (am_sld.getD (am_cn m) []).lookup i = none) (hn : (am_kk (im_G g) m).1 i = some (Int32.ofInt n)) (k : im_T g d m q L (vI n :: st) e M K) : im_T g d m pc L st e M K := by
  have hs : am_spc (im_G g) m pc st = none := by
    obtain ⟨h1, len, h2, h3⟩ := hD
    have h2 : (am_2 am_tbs [] m).lookup pc = some (ins, len) := h2
    show am_sp g.1 g.2 m pc _ = none
    unfold am_sp
    rw [h2]
    rcases hi with rfl | rfl <;> simp only [hl]
  intro lv h hl' hw
  obtain ⟨h1, len, h2, h3⟩ := hD
  refine am_T.one (pc' := q) (lv' := lv) (st' := vI n :: st) (h1 := h) ?_ (k lv h hl' hw)
  unfold am_one
  rcases hi with rfl | rfl
  · simp only [hs, h1, h2, am_a, hn, vI]
    rw [← h3]; rfl
  · simp only [hs, h1, h2, am_a, hn, vI]
    rw [← h3]; rfl
/-- Math -/
theorem im_max32 {x y : Int} (hx : im_i32 x) (hy : im_i32 y) : (if Int32.ofInt x < Int32.ofInt y then Int32.ofInt y else Int32.ofInt x) = Int32.ofInt (max x y) := by
  by_cases h : x < y
  · rw [if_pos (Int32.lt_iff_toInt_lt.mpr (by rw [im_o32 hx, im_o32 hy]; exact h)), show max x y = y from by omega]
  · rw [if_neg (fun z => h (by have := Int32.lt_iff_toInt_lt.mp z; rwa [im_o32 hx, im_o32 hy] at this)), show max x y = x from by omega]
theorem im_min32 {x y : Int} (hx : im_i32 x) (hy : im_i32 y) : (if Int32.ofInt y < Int32.ofInt x then Int32.ofInt y else Int32.ofInt x) = Int32.ofInt (min x y) := by
  by_cases h : y < x
  · rw [if_pos (Int32.lt_iff_toInt_lt.mpr (by rw [im_o32 hx, im_o32 hy]; exact h)), show min x y = y from by omega]
  · rw [if_neg (fun z => h (by have := Int32.lt_iff_toInt_lt.mp z; rwa [im_o32 hx, im_o32 hy] at this)), show min x y = x from by omega]
theorem im_max64 {x y : Int} (hx : im_i64 x) (hy : im_i64 y) : (if Int64.ofInt y < Int64.ofInt x then Int64.ofInt x else Int64.ofInt y) = Int64.ofInt (max x y) := by
  by_cases h : y < x
  · rw [if_pos (Int64.lt_iff_toInt_lt.mpr (by rw [im_o64 hx, im_o64 hy]; exact h)), show max x y = x from by omega]
  · rw [if_neg (fun z => h (by have := Int64.lt_iff_toInt_lt.mp z; rwa [im_o64 hx, im_o64 hy] at this)), show max x y = y from by omega]
theorem im_min64 {x y : Int} (hx : im_i64 x) (hy : im_i64 y) : (if Int64.ofInt y < Int64.ofInt x then Int64.ofInt y else Int64.ofInt x) = Int64.ofInt (min x y) := by
  by_cases h : y < x
  · rw [if_pos (Int64.lt_iff_toInt_lt.mpr (by rw [im_o64 hx, im_o64 hy]; exact h)), show min x y = y from by omega]
  · rw [if_neg (fun z => h (by have := Int64.lt_iff_toInt_lt.mp z; rwa [im_o64 hx, im_o64 hy] at this)), show min x y = x from by omega]
theorem im_mth {ix kind : Nat} {st' : List Value} (hD : im_D g m pc (.invokestatic ix) q) (hm : (am_smt.getD (am_cn m) []).lookup ix = some kind) (hk : (match kind, st with
    | 0, .int y :: .int x :: r => some (.int (if x < y then y else x) :: r)
    | 1, .int y :: .int x :: r => some (.int (if y < x then y else x) :: r)
    | 2, .int x :: r => some (.int (if 0 ≤ x then x else 0 - x) :: r)
    | 3, .long y :: .long x :: r => some (.long (if y < x then x else y) :: r)
    | 4, .long y :: .long x :: r => some (.long (if y < x then y else x) :: r)
    | _, _ => none) = some st') (hc : Nat.ble (am_cat st'.tail) 8 = true) (k : im_T g d m q L st' e M K) : im_T g d m pc L st e M K := by
  obtain ⟨_, len, hd, hq⟩ := hD
  have hq : pc + 3 = q := hq
  refine im_spc (st' := st') ?_ k
  have hd : (am_2 am_tbs [] m).lookup pc = some (.invokestatic ix, len) := hd
  show am_sp g.1 g.2 m pc st = _
  unfold am_sp
  rw [hd]
  simp only [hm]
  subst hq
  have hc := Nat.le_of_ble_eq_true hc
  split at hk
  all_goals first | (cases hk; done) | skip
  all_goals (cases hk; simp only [List.tail_cons] at hc)
  · rw [if_pos rfl]; exact if_pos hc
  · rw [if_neg (by decide), if_pos rfl]; exact if_pos hc
  · rw [if_neg (by decide), if_neg (by decide), if_pos rfl]; exact if_pos hc
  · rw [if_neg (by decide), if_neg (by decide), if_neg (by decide), if_pos rfl]; exact if_pos hc
  · rw [if_neg (by decide), if_neg (by decide), if_neg (by decide), if_neg (by decide), if_pos rfl]; exact if_pos hc
theorem im_imax {ix : Nat} {x y : Int} (hD : im_D g m pc (.invokestatic ix) q) (hm : (am_smt.getD (am_cn m) []).lookup ix = some 0) (hx : im_i32 x) (hy : im_i32 y) (hc : Nat.ble (am_cat r) 8 = true) (k : im_T g d m q L (vI (max x y) :: r) e M K) : im_T g d m pc L (vI y :: vI x :: r) e M K :=
  im_mth (kind := 0) (st' := vI (max x y) :: r) hD hm (by simp only [vI]; rw [im_max32 hx hy]) hc k
theorem im_imin {ix : Nat} {x y : Int} (hD : im_D g m pc (.invokestatic ix) q) (hm : (am_smt.getD (am_cn m) []).lookup ix = some 1) (hx : im_i32 x) (hy : im_i32 y) (hc : Nat.ble (am_cat r) 8 = true) (k : im_T g d m q L (vI (min x y) :: r) e M K) : im_T g d m pc L (vI y :: vI x :: r) e M K :=
  im_mth (kind := 1) (st' := vI (min x y) :: r) hD hm (by simp only [vI]; rw [im_min32 hx hy]) hc k
theorem im_lmax {ix : Nat} {x y : Int} (hD : im_D g m pc (.invokestatic ix) q) (hm : (am_smt.getD (am_cn m) []).lookup ix = some 3) (hx : im_i64 x) (hy : im_i64 y) (hc : Nat.ble (am_cat r) 8 = true) (k : im_T g d m q L (vL (max x y) :: r) e M K) : im_T g d m pc L (vL y :: vL x :: r) e M K :=
  im_mth (kind := 3) (st' := vL (max x y) :: r) hD hm (by simp only [vL]; rw [im_max64 hx hy]) hc k
theorem im_lmin {ix : Nat} {x y : Int} (hD : im_D g m pc (.invokestatic ix) q) (hm : (am_smt.getD (am_cn m) []).lookup ix = some 4) (hx : im_i64 x) (hy : im_i64 y) (hc : Nat.ble (am_cat r) 8 = true) (k : im_T g d m q L (vL (min x y) :: r) e M K) : im_T g d m pc L (vL y :: vL x :: r) e M K :=
  im_mth (kind := 4) (st' := vL (min x y) :: r) hD hm (by simp only [vL]; rw [im_min64 hx hy]) hc k
theorem im_iabs {ix : Nat} {x : Int} (hD : im_D g m pc (.invokestatic ix) q) (hm : (am_smt.getD (am_cn m) []).lookup ix = some 2) (hx : im_i32 x) (hc : Nat.ble (am_cat r) 8 = true) (k : im_T g d m q L (vI (if 0 ≤ x then x else -x) :: r) e M K) : im_T g d m pc L (vI x :: r) e M K :=
  im_mth (kind := 2) (st' := vI (if 0 ≤ x then x else -x) :: r) hD hm (by
    simp only [vI]
    have h0 : (0 : Int32) = Int32.ofInt 0 := rfl
    by_cases h : 0 ≤ x
    · rw [if_pos h, if_pos (Int32.le_iff_toInt_le.mpr (by rw [im_o32 hx]; exact h))]
    · rw [if_neg h, if_neg (fun z => h (by have := Int32.le_iff_toInt_le.mp z; rw [im_o32 hx] at this; exact this)), Int32.ofInt_neg, h0, ← Int32.ofInt_sub, ← Int32.ofInt_neg, Int.zero_sub]) hc k
/-- what a callee answers -/
def im_ri (Q : Int → im_E → im_M → Prop) : im_K := fun o e1 M1 => ∃ x, o = .inl (some (vI x)) ∧ Q x e1 M1
def im_rl (Q : Int → im_E → im_M → Prop) : im_K := fun o e1 M1 => ∃ x, o = .inl (some (vL x)) ∧ Q x e1 M1
def im_r0 (Q : im_E → im_M → Prop) : im_K := fun o e1 M1 => o = .inl none ∧ Q e1 M1
def im_rr (Q : Nat → im_E → im_M → Prop) : im_K := fun o e1 M1 => ∃ a, o = .inl (some (.ref a)) ∧ Q a e1 M1
def im_rf (Q : UInt32 → im_E → im_M → Prop) : im_K := fun o e1 M1 => ∃ u, o = .inl (some (.float u)) ∧ Q u e1 M1
/-- .. or throws -/
def im_rx (Q : im_K) (X : String → im_E → im_M → Prop) : im_K := fun o e1 M1 => Q o e1 M1 ∨ ∃ E, o = .inr E ∧ X E e1 M1
end IMC
theorem im_sh_at {e : im_E} {a : Nat} {s : im_Sh} (h : im_sh0[a]? = some s) : (im_sh0 ++ e)[a]? = some s := by
  rw [List.getElem?_append_left (List.getElem?_eq_some_iff.mp h).1]; exact h
