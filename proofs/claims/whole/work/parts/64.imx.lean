/-! more rules, ranges, shapes of objects by number -/
section IMX
variable {g : im_g} {d m pc q : Nat} {L : im_L} {st r : List Value} {e : im_E} {M : im_M} {K : im_K}
theorem im_lconst {n : Fin 2} {z : Int} (hD : im_D g m pc (.lconst n) q) (hz : Int64.ofNat (n : Nat) = Int64.ofInt z) (k : im_T g d m q L (vL z :: st) e M K) : im_T g d m pc L st e M K :=
  im_stk hD rfl (fun lv => by simp only [am_a, vL, am_len, hz]) k
theorem im_lif {c : Jvm.ClassFile.Cond} {off x y : Int} {q2 t : Nat} (hD : im_D g m pc .lcmp q) (hD2 : im_D g m q (.ifCond c off) q2) (ht : am_to q off = some t) (hx : im_i64 x) (hy : im_i64 y) (k1 : im_tst c x y → im_T g d m t L r e M K) (k2 : ¬ im_tst c x y → im_T g d m q2 L r e M K) : im_T g d m pc L (vL y :: vL x :: r) e M K := by
  have hi : im_i32 (im_cmp x y) := by unfold im_cmp; constructor <;> (repeat' split) <;> omega
  have he : im_tst c (im_cmp x y) 0 ↔ im_tst c x y := by
    unfold im_cmp
    by_cases h1 : y < x
    · rw [if_pos h1]
      cases c <;> simp only [im_tst] <;> constructor <;> intro z <;> omega
    · rw [if_neg h1]
      by_cases h2 : x = y
      · rw [if_pos h2]
        subst h2
        cases c <;> simp [im_tst]
      · rw [if_neg h2]
        cases c <;> simp only [im_tst] <;> constructor <;> intro z <;> omega
  exact im_lcmp hD hx hy (im_ifc hD2 ht hi (fun z => k1 (he.mp z)) (fun z => k2 (fun w => z (he.mpr w))))
end IMX
theorem im_t32 (x : Int32) : im_i32 x.toInt := by
  have h1 := Int32.toInt_lt x
  have h2 := Int32.le_toInt x
  have e : (2 : Int) ^ 31 = 2147483648 := by decide
  rw [e] at h1 h2
  constructor <;> omega
theorem im_t64 (x : Int64) : im_i64 x.toInt := by
  have h1 := Int64.toInt_lt x
  have h2 := Int64.le_toInt x
  have e : (2 : Int) ^ 63 = 9223372036854775808 := by decide
  rw [e] at h1 h2
  constructor <;> omega
theorem xiand_r (x y : Int) : im_i32 (xiand x y) := im_t32 _
theorem xior_r (x y : Int) : im_i32 (xior x y) := im_t32 _
theorem xixor_r (x y : Int) : im_i32 (xixor x y) := im_t32 _
theorem xishl_r (x y : Int) : im_i32 (xishl x y) := im_t32 _
theorem xishr_r (x y : Int) : im_i32 (xishr x y) := im_t32 _
theorem xiushr_r (x y : Int) : im_i32 (xiushr x y) := im_t32 _
theorem xland_r (x y : Int) : im_i64 (xland x y) := im_t64 _
theorem xlor_r (x y : Int) : im_i64 (xlor x y) := im_t64 _
theorem xlxor_r (x y : Int) : im_i64 (xlxor x y) := im_t64 _
theorem xlshl_r (x y : Int) : im_i64 (xlshl x y) := im_t64 _
theorem xlshr_r (x y : Int) : im_i64 (xlshr x y) := im_t64 _
theorem xlushr_r (x y : Int) : im_i64 (xlushr x y) := im_t64 _
theorem im_32_64 {x : Int} (h : im_i32 x) : im_i64 x := by constructor <;> omega
theorem im_zz {x : Int} (h : 0 ≤ x ∧ x ≤ 1) : 0 ≤ x ∧ x ≤ 1 := h
theorem im_z32 {x : Int} (h : 0 ≤ x ∧ x ≤ 1) : im_i32 x := by constructor <;> omega
theorem im_b32 {x : Int} (h : -128 ≤ x ∧ x ≤ 127) : im_i32 x := by constructor <;> omega
theorem im_rgc {s : im_Sh} {j x y : Int} (h : im_rg s j y) (e : y = x) : im_rg s j x := e ▸ h
theorem im_maxr {x y : Int} (hx : im_i32 x) (hy : im_i32 y) : im_i32 (max x y) := by constructor <;> omega
theorem im_minr {x y : Int} (hx : im_i32 x) (hy : im_i32 y) : im_i32 (min x y) := by constructor <;> omega
theorem im_maxrL {x y : Int} (hx : im_i64 x) (hy : im_i64 y) : im_i64 (max x y) := by constructor <;> omega
theorem im_minrL {x y : Int} (hx : im_i64 x) (hy : im_i64 y) : im_i64 (min x y) := by constructor <;> omega
theorem im_rds (M : im_M) (a : Nat) (j v : Int) : im_u M a j v a j = v := by rw [im_u_eq, im_up_eq]
theorem im_rdk (M : im_M) (a : Nat) (v : Int) {i j : Int} (h : i ≠ j) : im_u M a j v a i = M a i := by rw [im_u_eq, im_up_ne _ _ h]
theorem im_rdn (M : im_M) (j v i : Int) {a b : Nat} (h : a ≠ b) : im_u M b j v a i = M a i := by rw [im_u_ne _ _ _ h]
def xrec (j : Int) : Int := ([0, 1, 1, 3, 1, 2, 3, 1, 0] : List Int).getD j.toNat 0
theorem xrec_in (n : Nat) : 0 ≤ ([0, 1, 1, 3, 1, 2, 3, 1, 0] : List Int).getD n 0 ∧ ([0, 1, 1, 3, 1, 2, 3, 1, 0] : List Int).getD n 0 ≤ 3 := by
  rcases Nat.lt_or_ge n 9 with h | h
  · exact (show ∀ k : Fin 9, 0 ≤ ([0, 1, 1, 3, 1, 2, 3, 1, 0] : List Int).getD k 0 ∧ ([0, 1, 1, 3, 1, 2, 3, 1, 0] : List Int).getD k 0 ≤ 3 by decide) ⟨n, h⟩
  · rw [List.getD, List.getElem?_eq_none (by simpa using h)]; decide
theorem xrec_r (j : Int) : im_i32 (xrec j) := by
  have := xrec_in j.toNat
  unfold xrec
  constructor <;> omega
theorem im_recv : ∀ k : Fin 9, am_rec k = Int32.ofInt (([0, 1, 1, 3, 1, 2, 3, 1, 0] : List Int).getD k 0) := by decide
theorem im_recld {g : im_g} {d m pc q : Nat} {L : im_L} {r : List Value} {e : im_E} {M : im_M} {K : im_K} {j : Int} (hD : im_D g m pc .iaload q) (h0 : 0 ≤ j) (h1 : j < 9) (k : im_T g d m q L (vI (xrec j) :: r) e M K) : im_T g d m pc L (vI j :: .float 100 :: r) e M K := by
  obtain ⟨_, len, hd, hq⟩ := hD
  have hq : pc + 1 = q := hq
  refine im_spc (q := q) (st' := vI (xrec j) :: r) ?_ k
  have hd : (am_2 am_tbs [] m).lookup pc = some (.iaload, len) := hd
  show am_sp g.1 g.2 m pc (vI j :: .float 100 :: r) = some (q, vI (xrec j) :: r)
  unfold am_sp
  rw [hd]
  obtain ⟨i1, i2⟩ := im_ix (n := 9) h0 h1 (by decide)
  simp only [vI]
  rw [if_neg (by decide), if_pos trivial, if_neg i1, i2]
  subst hq
  have h2 := im_recv ⟨j.toNat, by omega⟩
  simp only at h2
  rw [h2]
  rfl
/-- objects of the class by the number of their first cell -/
def im_num (e : im_E) (b : Nat) : Prop := (im_sh0 ++ e)[b]? = some (13, 3, [-1, -1, ((b + 1 : Nat) : Int)]) ∧ (im_sh0 ++ e)[b + 1]? = some (1, 34, [])
def im_book (e : im_E) (b n : Nat) : Prop := (im_sh0 ++ e)[b]? = some (10, 5, [((b + 3 : Nat) : Int), ((b + 4 : Nat) : Int), ((b + 5 : Nat) : Int), ((b + 1 : Nat) : Int), -1]) ∧ (im_sh0 ++ e)[b + 3]? = some (2, n, []) ∧ (im_sh0 ++ e)[b + 4]? = some (2, n, []) ∧ (im_sh0 ++ e)[b + 5]? = some (4, n, []) ∧ im_num e (b + 1) ∧ n ≤ 60
def im_row (e : im_E) (b n : Nat) : Prop := (im_sh0 ++ e)[b]? = some (17, 6, [((b + 1 : Nat) : Int), ((b + 2 : Nat) : Int), ((b + 3 : Nat) : Int), ((b + 4 : Nat) : Int), ((b + 5 : Nat) : Int), -1]) ∧ (im_sh0 ++ e)[b + 1]? = some (1, n, []) ∧ (im_sh0 ++ e)[b + 2]? = some (2, n, []) ∧ (im_sh0 ++ e)[b + 3]? = some (2, n, []) ∧ (im_sh0 ++ e)[b + 4]? = some (2, n, []) ∧ (im_sh0 ++ e)[b + 5]? = some (4, n, []) ∧ n ≤ 128
def im_state (e : im_E) (b : Nat) : Prop := (im_sh0 ++ e)[b]? = some (19, 7, [((b + 1 : Nat) : Int), ((b + 87 : Nat) : Int), ((b + 173 : Nat) : Int), ((b + 259 : Nat) : Int), -1, -1, -1]) ∧ im_book e (b + 1) 40 ∧ im_book e (b + 87) 40 ∧ im_book e (b + 173) 40
def im_Db (m pc : Nat) (ins : Instr) (q : Nat) : Bool := ((am_2 am_thrs [] m).lookup pc).isNone && (match (am_2 am_tbs [] m).lookup pc with
  | some (i, _) => decide (i = ins)
  | none => false) && Nat.beq (pc + am_len ins) q
theorem im_D.of {g : im_g} {m pc q : Nat} {ins : Instr} (h : im_Db m pc ins q = true) : im_D g m pc ins q := by
  unfold im_Db at h
  simp only [Bool.and_eq_true] at h
  obtain ⟨⟨h1, h2⟩, h3⟩ := h
  refine ⟨?_, ?_⟩
  · show (am_2 am_thrs [] m).lookup pc = none
    exact Option.isNone_iff_eq_none.mp h1
  · split at h2
    · rename_i i l hl
      have h2 := of_decide_eq_true h2
      subst h2
      exact ⟨l, hl, Nat.eq_of_beq_eq_true h3⟩
    · cases h2
theorem im_fl {g : im_g} {m c ix : Nat} {v : Option (Nat × Nat × Nat)} (hc : am_cn m = c) (h : (am_cfl.getD c []).lookup ix = v) : (am_lkk (im_G g) m).1 ix = v := by
  show (am_cfl.getD (am_cn m) []).lookup ix = v
  rw [hc]; exact h
theorem im_cal {g : im_g} {m c ix : Nat} {v : Option (Nat × Nat × Nat × Nat)} (hc : am_cn m = c) (h : (am_ccal.getD c []).lookup ix = v) : am_cal (im_G g) m ix = v := by
  show (am_ccal.getD (am_cn m) []).lookup ix = v
  rw [hc]; exact h
section IMBK
variable {g : im_g} {d m pc q kd : Nat} {L : im_L} {r : List Value} {e : im_E} {M : im_M} {K : im_K}
theorem im_bkS {v : Value} (h : im_T g d m q L (v :: r) e M K) : im_bk g d m pc q kd L r K (.inl (some v)) e M := by
  simp only [im_bk, Option.toList, List.cons_append, List.nil_append]
  exact h
theorem im_bkN (h : im_T g d m q L r e M K) : im_bk g d m pc q kd L r K (.inl none) e M := by
  simp only [im_bk, Option.toList, List.nil_append]
  exact h
theorem im_bkE {E : String} {o : am_Out} (ht : am_thx (im_G g) kd m pc E = some o) (h : K o e M) : im_bk g d m pc q kd L r K (.inr E) e M := by
  simp only [im_bk]
  exact ⟨o, ht, h⟩
end IMBK
