/-- k instances from cell b on -/
def pu_states (b : Nat) : Nat → am_H
  | 0 => []
  | k + 1 => pu_states b k ++ pu_state (b + 305 * k) 20
theorem pu_states_len (b k : Nat) : (pu_states b k).length = 305 * k := by
  induction k with
  | zero => rfl
  | succ k ih => rw [pu_states, List.length_append, ih, pu_state_len]; omega
def pu_platA (l : Nat) : am_H := ((((([] ++ [.inl (0, 16384, .inl (fun _ => 0))]) ++ pu_reader (l + 2) pu_words) ++ pu_writer (l + 7) (l + 3)) ++ pu_pool (l + 13)) ++ pu_parser (l + 23) (l + 13) (l + 2))
theorem pu_platA_len (l : Nat) : (pu_platA l).length = 27 := by
  unfold pu_platA
  simp only [List.length_append, List.length_cons, List.length_nil, pu_book_len, pu_row_len, pu_journal_len, pu_writer_len, pu_pool_len, pu_parser_len, pu_state_len, pu_search_len, pu_reader_len, pu_mach_len]
def pu_platR (l : Nat) : am_H := ((((((((((([] ++ pu_book (l + 30) 20 20) ++ pu_book (l + 76) 60 60) ++ pu_book (l + 202) 60 60) ++ pu_row (l + 328) 40 40) ++ pu_row (l + 414) 60 60) ++ pu_row (l + 540) 60 60) ++ pu_state (l + 666) 0) ++ pu_mach (l + 931) (l + 13) 104) ++ pu_search (l + 1793) (l + 13) (l + 931)) ++ pu_journal (l + 2068)) ++ [pu_num (l + 2070 + 1), pu_limb])
theorem pu_platR_len (l : Nat) : (pu_platR l).length = 2042 := by
  unfold pu_platR
  simp only [List.length_append, List.length_cons, List.length_nil, pu_book_len, pu_row_len, pu_journal_len, pu_writer_len, pu_pool_len, pu_parser_len, pu_state_len, pu_search_len, pu_reader_len, pu_mach_len]
def pu_platB (l : Nat) : va_E := .inr (11, [.ref (l + 1), .int 0, .ref (l + 2), .ref (l + 7), .ref (l + 13), .ref (l + 23), .ref (l + 28), .ref (l + 29), .ref (l + 30), .ref (l + 76), .ref (l + 202), .ref (l + 328), .ref (l + 414), .ref (l + 540), .ref (l + 666), .ref (l + 931), .ref (l + 1793), .ref (l + 2068), .ref (l + 2070), .int 0])
def pu_roots (k : Nat) : va_E := .inl (1, 16, .inl (fun j => if j < k then -1 else 0))
def pu_insts (l k : Nat) : va_E := .inl (5, 16, .inr (.inr (.inr (.inr (fun j => if j < k then some (l + 2072 + 305 * j) else none)))))
/-- a platform, k of its instances made -/
def pu_plat (l k : Nat) : am_H := pu_platB l :: (pu_platA l ++ pu_roots k :: pu_insts l k :: (pu_platR l ++ pu_states (l + 2072) k))
theorem pu_plat_len (l k : Nat) : (pu_plat l k).length = 2072 + 305 * k := by
  unfold pu_plat
  simp only [List.length_cons, List.length_append, pu_platA_len, pu_platR_len, pu_states_len]
  omega
theorem am_R.heq {G : am_G} {d M pc : Nat} {lv : am_L} {st : List Value} {h h1 h' : am_H} {o : am_Out} (e : h = h1) (r : am_R G d M pc lv st h1 o h') : am_R G d M pc lv st h o h' := e ▸ r
theorem pu_atp (h0 : am_H) (B : va_E) (t u : am_H) : ((h0 ++ B :: t) ++ u)[h0.length]? = some B := by
  rw [List.append_assoc]; exact pu_at h0 _ _
theorem pu_at2 (h0 : am_H) (B a b : va_E) (t u : am_H) : ((h0 ++ B :: ([] ++ [a] ++ b :: t)) ++ u)[h0.length + 2]? = some b := by
  rw [List.append_assoc, List.getElem?_append_right (by omega), show h0.length + 2 - h0.length = 2 by omega]; rfl
theorem pu_atA (h0 A : am_H) (B x : va_E) (t : am_H) {n : Nat} (hn : n = A.length + 1) : (h0 ++ B :: (A ++ x :: t))[h0.length + n]? = some x := by
  subst hn
  rw [List.getElem?_append_right (by omega), show h0.length + (A.length + 1) - h0.length = A.length + 1 by omega, List.getElem?_cons_succ, List.getElem?_append_right (Nat.le_refl _), Nat.sub_self]
  rfl
theorem pu_setA (h0 A : am_H) (B x c : va_E) (t : am_H) {n : Nat} (hn : n = A.length + 1) : (h0 ++ B :: (A ++ x :: t)).set (h0.length + n) c = h0 ++ B :: (A ++ c :: t) := by
  subst hn
  rw [List.set_append_right _ _ (by omega), show h0.length + (A.length + 1) - h0.length = A.length + 1 by omega, List.set_cons_succ, List.set_append_right _ _ (Nat.le_refl _), Nat.sub_self]
  rfl
theorem pu_atB (h0 A : am_H) (B y x : va_E) (t : am_H) {n : Nat} (hn : n = A.length + 2) : (h0 ++ B :: (A ++ y :: x :: t))[h0.length + n]? = some x := by
  subst hn
  rw [List.getElem?_append_right (by omega), show h0.length + (A.length + 2) - h0.length = A.length + 1 + 1 by omega, List.getElem?_cons_succ, List.getElem?_append_right (by omega), show A.length + 1 - A.length = 1 by omega]
  rfl
theorem pu_setB (h0 A : am_H) (B y x c : va_E) (t : am_H) {n : Nat} (hn : n = A.length + 2) : (h0 ++ B :: (A ++ y :: x :: t)).set (h0.length + n) c = h0 ++ B :: (A ++ y :: c :: t) := by
  subst hn
  rw [List.set_append_right _ _ (by omega), show h0.length + (A.length + 2) - h0.length = A.length + 1 + 1 by omega, List.set_cons_succ, List.set_append_right _ _ (by omega), show A.length + 1 - A.length = 1 by omega]
  rfl
set_option maxRecDepth 20000 in
set_option maxHeartbeats 8000000 in
theorem pu_Plat_loop (xs : Nat → Int32) (L d : Nat) (h0 : am_H) : ∀ (m k : Nat), k + m = 16 → am_R (pu_G xs L) (d + 3) 0 237 [(1, .int (nI k)), (0, .ref h0.length)] [] (h0 ++ pu_plat h0.length k) (.inl none) (h0 ++ pu_plat h0.length 16) := by
  intro m
  induction m with
  | zero =>
    intro k hk
    have hk : k = 16 := by omega
    subst hk
    refine am_R.one rfl ?_
    refine am_R.one rfl ?_
    refine am_R.one rfl ?_
    rw [if_pos (by simp only [am_tst, decide_eq_true_eq]; exact nI_le (a := 16) (b := 16) (Nat.le_refl _) (by omega))]
    exact am_R.fin rfl
  | succ m ih =>
    intro k hk
    have hk9 : k < 16 := by omega
    have hA := pu_platA_len h0.length
    refine am_R.one rfl ?_
    refine am_R.one rfl ?_
    refine am_R.one rfl ?_
    rw [if_neg (by simp only [am_tst, decide_eq_true_eq]; exact nI_ge (a := k) (b := 16) hk9 (by omega))]
    have hj : ¬ (nI k < 0 ∨ 16 ≤ (nI k).toNatClampNeg) := nI_in hk9 (by omega)
    refine am_R.one rfl ?_
    refine am_R.getf (ci := 11) (k := 6) (md := 1) ⟨rfl, rfl, 3, rfl⟩ rfl (pu_at h0 _ _) rfl (by decide) ?_
    refine am_R.one rfl ?_
    refine am_R.one rfl ?_
    refine am_R.iast (n := 16) (f := fun j => if j < k then -1 else 0) ⟨rfl, rfl, 1, rfl⟩ (pu_atA h0 _ _ _ _ (by rw [hA])) hj ?_
    have e3 : (h0 ++ pu_plat h0.length k).set (h0.length + 28) (.inl (1, 16, .inl (upd (fun j => if j < k then -1 else 0) k (Int32.ofInt (-1))))) = h0 ++ pu_platB h0.length :: (pu_platA h0.length ++ pu_roots (k + 1) :: pu_insts h0.length k :: (pu_platR h0.length ++ pu_states (h0.length + 2072) k)) := by
      unfold pu_plat
      rw [pu_setA _ _ _ _ _ _ (by rw [hA])]
      congr 3
      unfold pu_roots
      congr 5
      funext j
      simp only [upd]
      by_cases hj : j = k
      · subst hj; simp
      · rw [if_neg hj]
        by_cases h1 : j < k
        · rw [if_pos h1, if_pos (by omega)]
        · rw [if_neg h1, if_neg (by omega)]
    rw [nI_clamp (by omega), e3]
    refine am_R.one rfl ?_
    refine am_R.getf (ci := 11) (k := 7) (md := 1) ⟨rfl, rfl, 3, rfl⟩ rfl (pu_at h0 _ _) rfl (by decide) ?_
    refine am_R.one rfl ?_
    refine am_R.one rfl ?_
    refine am_R.one rfl ?_
    refine am_R.one rfl ?_
    have hl : (h0 ++ pu_platB h0.length :: (pu_platA h0.length ++ pu_roots (k + 1) :: pu_insts h0.length k :: (pu_platR h0.length ++ pu_states (h0.length + 2072) k))).length = h0.length + 2072 + 305 * k := by
      simp only [List.length_append, List.length_cons, pu_platA_len, pu_platR_len, pu_states_len]; omega
    rw [show (Int8.ofInt 20).toInt32 = nI 20 from by decide]
    refine am_R.calls (k := 2) (y := 15) (ix := 87) (ins := .invokespecial 87) ⟨rfl, rfl, 3, rfl⟩ rfl rfl rfl rfl (Nat.le_of_ble_eq_true rfl) (by decide) (pu_State_init xs L d _ 20 (by omega)) ?_
    rw [hl]
    refine am_R.aast (ci := 9) (t := 5) (n := 16) (f := fun j => if j < k then some (h0.length + 2072 + 305 * j) else none) (vs := [.ref (h0.length + 2072 + 305 * k + 1), .ref (h0.length + 2072 + 305 * k + 87), .ref (h0.length + 2072 + 305 * k + 173), .ref (h0.length + 2072 + 305 * k + 259), .long 0, .int 0, .int 0]) ⟨rfl, rfl, 1, rfl⟩ ?_ ?_ rfl hj ?_
    · rw [pu_app h0]
      rw [show ∀ (A : am_H) (a b : va_E) (R S : am_H), (A ++ a :: b :: R) ++ S = A ++ a :: b :: (R ++ S) from fun A a b R S => by rw [List.append_assoc]; rfl]
      exact pu_atB h0 _ _ _ _ _ (by rw [hA])
    · rw [List.getElem?_append_right (by omega), hl, Nat.sub_self]
      rfl
    · rw [nI_clamp (by omega), pu_app h0]
      rw [show ∀ (A : am_H) (a b : va_E) (R S : am_H), (A ++ a :: b :: R) ++ S = A ++ a :: b :: (R ++ S) from fun A a b R S => by rw [List.append_assoc]; rfl]
      rw [pu_setB h0 _ _ _ _ _ _ (by rw [hA])]
      have e2 : h0 ++ pu_platB h0.length :: (pu_platA h0.length ++ pu_roots (k + 1) :: .inl (5, 16, .inr (.inr (.inr (.inr (va_up (fun j => if j < k then some (h0.length + 2072 + 305 * j) else none) k (some (h0.length + 2072 + 305 * k))))))) :: (pu_platR h0.length ++ pu_states (h0.length + 2072) k ++ pu_state (h0.length + 2072 + 305 * k) 20)) = h0 ++ pu_plat h0.length (k + 1) := by
        unfold pu_plat
        rw [pu_states, List.append_assoc]
        congr 4
        unfold pu_insts
        congr 8
        funext j
        simp only [va_up]
        by_cases hj : j = k
        · subst hj; simp
        · rw [if_neg hj]
          by_cases h1 : j < k
          · rw [if_pos h1, if_pos (by omega)]
          · rw [if_neg h1, if_neg (by omega)]
      rw [e2]
      refine am_R.one rfl ?_
      refine am_R.one rfl ?_
      have e1 : nI k + Int32.ofInt 1 = nI (k + 1) := nI_1 k
      have := ih (k + 1) (by omega)
      rw [← e1] at this
      exact this
