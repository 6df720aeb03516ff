/-! WHAT THE TABLES SAY OF THE PROGRAM: checks, decided by the kernel -/
def am_U : List Cond := lw_tbl.filter goodWord
def am_tk (c : Nat) : List Cond := match c with
  | 0 => tables_1_1
  | 1 => tables_1_2
  | 2 => tables_1_3
  | 3 => tables_1_4
  | 4 => tables_1_5
  | 5 => tables_1_6
  | 6 => tables_1_7
  | 7 => tables_1_8
  | 8 => tables_1_9
  | 9 => tables_1_10
  | 10 => tables_1_11
  | 11 => tables_1_12
  | 12 => tables_1_13
  | 13 => tables_1_14
  | _ => []
def am_pk (c : Nat) : List (MethodName × Nat) := match c with
  | 0 => lw_privs_1
  | 1 => lw_privs_2
  | 2 => lw_privs_3
  | 3 => lw_privs_4
  | 4 => lw_privs_5
  | 5 => lw_privs_6
  | 6 => lw_privs_7
  | 7 => lw_privs_8
  | 8 => lw_privs_9
  | 9 => lw_privs_10
  | 10 => lw_privs_11
  | 11 => lw_privs_12
  | 12 => lw_privs_13
  | 13 => lw_privs_14
  | 14 => lw_privs_15
  | _ => []
theorem am_tk_in {c : Nat} {w : Cond} (h : w ∈ am_tk c) : w ∈ tables_1 := by
  unfold am_tk at h
  unfold tables_1
  simp only [List.mem_append]
  split at h
  · exact Or.inl h
  · exact Or.inr (Or.inl h)
  · exact Or.inr (Or.inr (Or.inl h))
  · exact Or.inr (Or.inr (Or.inr (Or.inl h)))
  · exact Or.inr (Or.inr (Or.inr (Or.inr (Or.inl h))))
  · exact Or.inr (Or.inr (Or.inr (Or.inr (Or.inr (Or.inl h)))))
  · exact Or.inr (Or.inr (Or.inr (Or.inr (Or.inr (Or.inr (Or.inl h))))))
  · exact Or.inr (Or.inr (Or.inr (Or.inr (Or.inr (Or.inr (Or.inr (Or.inl h)))))))
  · exact Or.inr (Or.inr (Or.inr (Or.inr (Or.inr (Or.inr (Or.inr (Or.inr (Or.inl h))))))))
  · exact Or.inr (Or.inr (Or.inr (Or.inr (Or.inr (Or.inr (Or.inr (Or.inr (Or.inr (Or.inl h)))))))))
  · exact Or.inr (Or.inr (Or.inr (Or.inr (Or.inr (Or.inr (Or.inr (Or.inr (Or.inr (Or.inr (Or.inl h))))))))))
  · exact Or.inr (Or.inr (Or.inr (Or.inr (Or.inr (Or.inr (Or.inr (Or.inr (Or.inr (Or.inr (Or.inr (Or.inl h)))))))))))
  · exact Or.inr (Or.inr (Or.inr (Or.inr (Or.inr (Or.inr (Or.inr (Or.inr (Or.inr (Or.inr (Or.inr (Or.inr (Or.inl h))))))))))))
  · exact Or.inr (Or.inr (Or.inr (Or.inr (Or.inr (Or.inr (Or.inr (Or.inr (Or.inr (Or.inr (Or.inr (Or.inr (Or.inr (h)))))))))))))
  · cases h
theorem am_pk_in {c : Nat} {q : MethodName × Nat} (h : q ∈ am_pk c) : q ∈ lw_privs := by
  unfold am_pk at h
  unfold lw_privs
  simp only [List.mem_append]
  split at h
  · exact Or.inl h
  · exact Or.inr (Or.inl h)
  · exact Or.inr (Or.inr (Or.inl h))
  · exact Or.inr (Or.inr (Or.inr (Or.inl h)))
  · exact Or.inr (Or.inr (Or.inr (Or.inr (Or.inl h))))
  · exact Or.inr (Or.inr (Or.inr (Or.inr (Or.inr (Or.inl h)))))
  · exact Or.inr (Or.inr (Or.inr (Or.inr (Or.inr (Or.inr (Or.inl h))))))
  · exact Or.inr (Or.inr (Or.inr (Or.inr (Or.inr (Or.inr (Or.inr (Or.inl h)))))))
  · exact Or.inr (Or.inr (Or.inr (Or.inr (Or.inr (Or.inr (Or.inr (Or.inr (Or.inl h))))))))
  · exact Or.inr (Or.inr (Or.inr (Or.inr (Or.inr (Or.inr (Or.inr (Or.inr (Or.inr (Or.inl h)))))))))
  · exact Or.inr (Or.inr (Or.inr (Or.inr (Or.inr (Or.inr (Or.inr (Or.inr (Or.inr (Or.inr (Or.inl h))))))))))
  · exact Or.inr (Or.inr (Or.inr (Or.inr (Or.inr (Or.inr (Or.inr (Or.inr (Or.inr (Or.inr (Or.inr (Or.inl h)))))))))))
  · exact Or.inr (Or.inr (Or.inr (Or.inr (Or.inr (Or.inr (Or.inr (Or.inr (Or.inr (Or.inr (Or.inr (Or.inr (Or.inl h))))))))))))
  · exact Or.inr (Or.inr (Or.inr (Or.inr (Or.inr (Or.inr (Or.inr (Or.inr (Or.inr (Or.inr (Or.inr (Or.inr (Or.inr (Or.inl h)))))))))))))
  · exact Or.inr (Or.inr (Or.inr (Or.inr (Or.inr (Or.inr (Or.inr (Or.inr (Or.inr (Or.inr (Or.inr (Or.inr (Or.inr (Or.inr (h))))))))))))))
  · cases h
def am_has (w : Cond) (p : Nat × Nat) : Bool := decide ((am_tk p.1)[p.2]? = some w) && goodWord w
def am_hasP (y : MethodName) (p : Nat × Nat) : Bool := decide (((am_pk p.1)[p.2]?).map (fun q => q.1) = some y) && goodWord (Cond.selects y.cls y y)
theorem am_has_U {w : Cond} {p : Nat × Nat} (h : am_has w p = true) : w ∈ am_U := by
  unfold am_has at h
  simp only [Bool.and_eq_true, decide_eq_true_eq] at h
  exact List.mem_filter.mpr ⟨List.mem_append_right _ (am_tk_in (List.mem_of_getElem? h.1)), h.2⟩
theorem am_hasP_U {y : MethodName} {p : Nat × Nat} (h : am_hasP y p = true) : Cond.selects y.cls y y ∈ am_U := by
  unfold am_hasP at h
  simp only [Bool.and_eq_true, decide_eq_true_eq] at h
  cases hq : (am_pk p.1)[p.2]? with
  | none => rw [hq] at h; cases h.1
  | some q =>
    rw [hq] at h
    have h1 : q.1 = y := by simpa using h.1
    refine List.mem_filter.mpr ⟨List.mem_append_left _ (List.mem_map.mpr ⟨q, am_pk_in (List.mem_of_getElem? hq), by rw [h1]⟩), h.2⟩
/-- words that don't stay by themselves, but by laws of their own -/
def am_vk : Cond → Bool
  | .methodLinkNest _ _ _ _ => true
  | .fieldLinkNest _ _ _ _ _ _ => true
  | .arrayOver (.object _) => true
  | .castable _ _ => true
  | .declares _ => true
  | _ => false
def am_V : List Cond := tables_1.filter am_vk
def am_hasV (w : Cond) (p : Nat × Nat) : Bool := decide ((am_tk p.1)[p.2]? = some w) && am_vk w
theorem am_hasV_V {w : Cond} {p : Nat × Nat} (h : am_hasV w p = true) : w ∈ am_V := by
  unfold am_hasV at h
  simp only [Bool.and_eq_true, decide_eq_true_eq] at h
  exact List.mem_filter.mpr ⟨am_tk_in (List.mem_of_getElem? h.1), h.2⟩
def am_nm0 : MethodName := ⟨"A", "a", "()V"⟩
abbrev am_nam (M : Nat) : MethodName := am_2 am_nams am_nm0 M
abbrev am_cc (M : Nat) : ByteArray := am_2 am_ccos ⟨#[]⟩ M
abbrev am_hh (M : Nat) : List (Nat × Nat × Nat × Nat) := am_2 am_hhs [] M
abbrev am_cn (M : Nat) : Nat := am_2 am_cnos 99 M
/-- THE PROGRAM, of a script xs of L ints -/
def am_P (sp : Nat → Nat → List Value → Option (Nat × List Value)) : am_G :=
  (fun M pc => (am_2 am_tbs [] M).lookup pc,
   fun M => (fun i => (am_ckI.getD (am_cn M) []).lookup i, fun i => (am_ckL.getD (am_cn M) []).lookup i),
   fun M => (fun i => (am_cfl.getD (am_cn M) []).lookup i, fun i => (am_cnw.getD (am_cn M) []).lookup i, fun i => (am_canw.getD (am_cn M) []).lookup i),
   fun M => am_2 am_mxls 0 M,
   fun M => decide ((am_nam M).name = "<init>"),
   (am_tyF, am_dfl),
   fun M i => (am_ccal.getD (am_cn M) []).lookup i,
   fun M pc => (am_2 am_thrs [] M).lookup pc,
   fun M => am_2 am_rtys none M,
   fun M pc E => ((am_2 am_hnds [] M).find? (fun q => q.1 == pc && q.2.1 == E)).map (fun q => q.2.2),
   sp,
   fun M => !(am_hh M).isEmpty)
theorem am_lookup {α β : Type} [BEq α] [LawfulBEq α] {l : List (α × β)} {a : α} {v : β} (h : l.lookup a = some v) : (a, v) ∈ l := by
  induction l with
  | nil => cases h
  | cons q l ih =>
    obtain ⟨k, w⟩ := q
    rw [List.lookup_cons] at h
    split at h
    · rename_i hk
      cases h
      have : a = k := by simpa using hk
      subst this
      exact List.mem_cons_self
    · exact List.mem_cons_of_mem _ (ih h)
theorem am_2_all {α : Type} {L : List (List α)} {d : α} {p : α → Prop} (hd : p d) (h : ∀ l ∈ L, ∀ x ∈ l, p x) (M : Nat) : p (am_2 L d M) := by
  unfold am_2
  cases h1 : L[M / 32]? with
  | none => simp [List.getD, h1, hd]
  | some l =>
    cases h2 : l[M % 32]? with
    | none => simp [List.getD, h1, h2, hd]
    | some x => simp [List.getD, h1, h2]; exact h l (List.mem_of_getElem? h1) x (List.mem_of_getElem? h2)
/-- a check of every method, by groups -/
theorem am_grp {c : Nat → Bool} (h : ∀ g, g < 15 → ∀ j, j < 32 → c (32 * g + j) = true) (hd : ∀ M, 480 ≤ M → c M = true) (M : Nat) : c M = true := by
  rcases Nat.lt_or_ge M 480 with z | z
  · have := h (M / 32) (by omega) (M % 32) (by omega)
    rwa [Nat.div_add_mod] at this
  · exact hd M z
theorem am_2_out {α : Type} {L : List (List α)} {d : α} {M : Nat} (hL : L.length ≤ 15) (h : 480 ≤ M) : am_2 L d M = d := by
  unfold am_2
  have h1 : L[M / 32]? = none := List.getElem?_eq_none (by omega)
  simp [List.getD, h1]
def am_ck1 (cc : ByteArray) (q : Nat × Instr × Nat) : Bool := decide (decode cc q.1 = .ok (q.2.1, q.2.2)) && (am_sw q.2.1 || decide (q.2.2 = am_len q.2.1))
def am_c1 (M : Nat) : Bool := (am_2 am_tbs [] M).all (am_ck1 (am_cc M))
