/-! THE SHAPES of all that stands from the start -/
def sbl (H : am_H) (l : Nat) (B : am_H) : Prop := ∀ i c, B[i]? = some c → H[l + i]? = some c
theorem sbl_l {H A B : am_H} {l : Nat} (h : sbl H l (A ++ B)) : sbl H l A := fun i c hi => h i c (pu_L hi)
theorem sbl_r {H A B : am_H} {l n m : Nat} (h : sbl H l (A ++ B)) (hn : A.length = n) (hm : m = l + n) : sbl H m B := fun i c hi => by
  subst hm
  have := h (n + i) c (pu_Rr hn rfl hi)
  rw [← Nat.add_assoc] at this; exact this
theorem sbl_c {H B : am_H} {a : va_E} {l m : Nat} (h : sbl H l (a :: B)) (hm : m = l + 1) : sbl H m B := fun i c hi => by
  subst hm
  have := h (i + 1) c (pu_Cc rfl hi)
  rw [show l + (i + 1) = l + 1 + i by omega] at this; exact this
theorem sbl_0 {H B : am_H} {a : va_E} {l : Nat} (h : sbl H l (a :: B)) : H[l]? = some a := h 0 a rfl
theorem pu_nums_at (b k : Nat) : ∀ j, j < k → (pu_nums b k)[2 * j]? = some (pu_num (b + 2 * j + 1)) ∧ (pu_nums b k)[2 * j + 1]? = some pu_limb := by
  induction k with
  | zero => intro j h; omega
  | succ k ih =>
    intro j h
    rw [pu_nums]
    by_cases hj : j < k
    · exact ⟨pu_L (ih j hj).1, pu_L (ih j hj).2⟩
    · have hj : j = k := by omega
      subst hj
      exact ⟨pu_Rr (i := 0) (pu_nums_len b j) (by omega) rfl, pu_Rr (i := 1) (pu_nums_len b j) (by omega) rfl⟩
theorem num_at {e : im_E} {b : Nat} (h0 : pu_H[b]? = some (pu_num (b + 1))) (h1 : pu_H[b + 1]? = some pu_limb) : im_num e b := ⟨im_sh_of h0 rfl, im_sh_of h1 rfl⟩
theorem nums_at {e : im_E} {b k : Nat} (h : sbl pu_H b (pu_nums b k)) : ∀ j : Nat, j < k → im_num e (b + 2 * j) := fun j hj => num_at (h _ _ (pu_nums_at b k j hj).1) (by
  have := h _ _ (pu_nums_at b k j hj).2
  rw [← Nat.add_assoc] at this; exact this)
theorem book_at {e : im_E} {l n : Nat} (h : sbl pu_H l (pu_book l n n)) (hn : n ≤ 60) : bkN e l n := by
  have h1 := sbl_c h rfl
  have h2 := sbl_c h1 rfl
  have h3 := sbl_c h2 rfl
  have h4 := sbl_c h3 rfl
  have h5 := sbl_c h4 rfl
  have h6 := sbl_c h5 rfl
  exact ⟨⟨im_sh_of (sbl_0 h) rfl, im_sh_of (sbl_0 h3) rfl, im_sh_of (sbl_0 h4) rfl, im_sh_of (sbl_0 h5) rfl, num_at (sbl_0 h1) (sbl_0 h2), hn⟩, nums_at h6⟩
theorem row_at {e : im_E} {l n : Nat} (h : sbl pu_H l (pu_row l n n)) (hn : n ≤ 128) : rwN e l n := by
  have h1 := sbl_c h rfl
  have h2 := sbl_c h1 rfl
  have h3 := sbl_c h2 rfl
  have h4 := sbl_c h3 rfl
  have h5 := sbl_c h4 rfl
  have h6 := sbl_c h5 rfl
  exact ⟨⟨im_sh_of (sbl_0 h) rfl, im_sh_of (sbl_0 h1) rfl, im_sh_of (sbl_0 h2) rfl, im_sh_of (sbl_0 h3) rfl, im_sh_of (sbl_0 h4) rfl, im_sh_of (sbl_0 h5) rfl, hn⟩, nums_at h6⟩
def stN (e : im_E) (b np : Nat) : Prop := im_state e b ∧ bkN e (b + 1) 40 ∧ bkN e (b + 87) 40 ∧ bkN e (b + 173) 40 ∧ bkN e (b + 259) np
theorem state_at {e : im_E} {l np : Nat} (h : sbl pu_H l (pu_state l np)) (hn : np ≤ 60) : stN e l np := by
  have h1 : sbl pu_H (l + 1) (((([] ++ pu_book (l + 1) 40 40) ++ pu_book (l + 87) 40 40) ++ pu_book (l + 173) 40 40) ++ pu_book (l + 259) np np) := sbl_c h rfl
  have a1 := book_at (e := e) (sbl_r (m := l + 1) (n := 0) (sbl_l (sbl_l (sbl_l h1))) rfl rfl) (by decide)
  have a2 := book_at (e := e) (sbl_r (m := l + 87) (n := 86) (sbl_l (sbl_l h1)) (by simp only [List.length_append, List.length_nil, pu_book_len]) (by omega)) (by decide)
  have a3 := book_at (e := e) (sbl_r (m := l + 173) (n := 172) (sbl_l h1) (by simp only [List.length_append, List.length_nil, pu_book_len]) (by omega)) (by decide)
  have a4 := book_at (e := e) (sbl_r (m := l + 259) (n := 258) h1 (by simp only [List.length_append, List.length_nil, pu_book_len]) (by omega)) hn
  exact ⟨⟨im_sh_of (sbl_0 h) rfl, a1.1, a2.1, a3.1⟩, a1, a2, a3, a4⟩
theorem sbl_plat : sbl pu_H 0 (pu_plat 0 16) := by
  have h : sbl pu_H 0 pu_H := fun i c hi => by rw [Nat.zero_add]; exact hi
  have h2 : sbl pu_H 0 (([] ++ pu_plat 0 16) ++ pu_model 6952 ++ [.inl (2, 1, .inr (.inl (fun _ => 0)))]) := h
  exact sbl_r (n := 0) (sbl_l (sbl_l h2)) rfl rfl
theorem sbl_R : sbl pu_H 30 (pu_platR 0 ++ pu_states 2072 16) := by
  have h := sbl_c (m := 1) sbl_plat rfl
  have h2 := sbl_r (n := 27) (m := 28) h (pu_platA_len 0) rfl
  exact sbl_c (sbl_c (m := 29) h2 rfl) rfl
theorem sbl_states : ∀ (k j : Nat), j < k → ∀ {H : am_H} {b : Nat}, sbl H b (pu_states b k) → sbl H (b + 305 * j) (pu_state (b + 305 * j) 20) := by
  intro k
  induction k with
  | zero => intro j h; omega
  | succ k ih =>
    intro j h H b hs
    rw [pu_states] at hs
    by_cases hj : j < k
    · exact ih j hj (sbl_l hs)
    · have hj : j = k := by omega
      subst hj
      exact sbl_r hs (pu_states_len b j) rfl
theorem st_inst {e : im_E} (j : Nat) (hj : j < 16) : stN e (2072 + 305 * j) 20 := state_at (sbl_states 16 j hj (sbl_r (m := 2072) (n := 2042) sbl_R (pu_platR_len 0) rfl)) (by decide)
theorem sbl_R2 : sbl pu_H 30 (pu_platR 0) := sbl_l sbl_R
theorem bk_params {e : im_E} : bkN e 30 20 := book_at (sbl_r (m := 30) (n := 0) (sbl_l (sbl_l (sbl_l (sbl_l (sbl_l (sbl_l (sbl_l (sbl_l (sbl_l (sbl_l sbl_R2)))))))))) rfl rfl) (by decide)
theorem bk_76 {e : im_E} : bkN e 76 60 := book_at (sbl_r (m := 76) (n := 46) (sbl_l (sbl_l (sbl_l (sbl_l (sbl_l (sbl_l (sbl_l (sbl_l (sbl_l sbl_R2))))))))) (by simp only [List.length_append, List.length_cons, List.length_nil, pu_book_len, pu_row_len, pu_journal_len, pu_state_len, pu_search_len, pu_mach_len]) rfl) (by decide)
theorem bk_202 {e : im_E} : bkN e 202 60 := book_at (sbl_r (m := 202) (n := 172) (sbl_l (sbl_l (sbl_l (sbl_l (sbl_l (sbl_l (sbl_l (sbl_l sbl_R2)))))))) (by simp only [List.length_append, List.length_cons, List.length_nil, pu_book_len, pu_row_len, pu_journal_len, pu_state_len, pu_search_len, pu_mach_len]) rfl) (by decide)
theorem rw_328 {e : im_E} : rwN e 328 40 := row_at (sbl_r (m := 328) (n := 298) (sbl_l (sbl_l (sbl_l (sbl_l (sbl_l (sbl_l (sbl_l sbl_R2))))))) (by simp only [List.length_append, List.length_cons, List.length_nil, pu_book_len, pu_row_len, pu_journal_len, pu_state_len, pu_search_len, pu_mach_len]) rfl) (by decide)
theorem rw_414 {e : im_E} : rwN e 414 60 := row_at (sbl_r (m := 414) (n := 384) (sbl_l (sbl_l (sbl_l (sbl_l (sbl_l (sbl_l sbl_R2)))))) (by simp only [List.length_append, List.length_cons, List.length_nil, pu_book_len, pu_row_len, pu_journal_len, pu_state_len, pu_search_len, pu_mach_len]) rfl) (by decide)
theorem rw_540 {e : im_E} : rwN e 540 60 := row_at (sbl_r (m := 540) (n := 510) (sbl_l (sbl_l (sbl_l (sbl_l (sbl_l sbl_R2))))) (by simp only [List.length_append, List.length_cons, List.length_nil, pu_book_len, pu_row_len, pu_journal_len, pu_state_len, pu_search_len, pu_mach_len]) rfl) (by decide)
theorem st_666 {e : im_E} : stN e 666 0 := state_at (sbl_r (m := 666) (n := 636) (sbl_l (sbl_l (sbl_l (sbl_l sbl_R2)))) (by simp only [List.length_append, List.length_cons, List.length_nil, pu_book_len, pu_row_len, pu_journal_len, pu_state_len, pu_search_len, pu_mach_len]) rfl) (by decide)
theorem sbl_mach : sbl pu_H 931 (pu_mach 931 13 104) := sbl_r (n := 901) (sbl_l (sbl_l (sbl_l sbl_R2))) (by simp only [List.length_append, List.length_cons, List.length_nil, pu_book_len, pu_row_len, pu_journal_len, pu_state_len, pu_search_len, pu_mach_len]) rfl
theorem sbl_search : sbl pu_H 1793 (pu_search 1793 13 931) := sbl_r (n := 1763) (sbl_l (sbl_l sbl_R2)) (by simp only [List.length_append, List.length_cons, List.length_nil, pu_book_len, pu_row_len, pu_journal_len, pu_state_len, pu_search_len, pu_mach_len]) rfl
theorem nm_2070 {e : im_E} : im_num e 2070 := by
  have h : sbl pu_H 2070 [pu_num 2071, pu_limb] := sbl_r (n := 2040) sbl_R2 (by simp only [List.length_append, List.length_cons, List.length_nil, pu_book_len, pu_row_len, pu_journal_len, pu_state_len, pu_search_len, pu_mach_len]) rfl
  exact num_at (sbl_0 h) (sbl_0 (sbl_c h rfl))
theorem sbl_machR : sbl pu_H 933 (pu_machR 931 ++ pu_nums 1585 104) := sbl_c (sbl_c (m := 932) sbl_mach rfl) rfl
theorem nm_nums {e : im_E} (j : Nat) (hj : j < 104) : im_num e (1585 + 2 * j) := nums_at (sbl_r (m := 1585) (n := 652) sbl_machR (by unfold pu_machR; simp only [List.length_append, List.length_cons, List.length_nil, pu_book_len, pu_row_len, pu_journal_len, pu_state_len, pu_search_len, pu_mach_len]) rfl) j hj
theorem nm_934 {e : im_E} : im_num e 934 := by
  have h : sbl pu_H 934 [pu_num 935, pu_limb] := sbl_r (n := 1) (sbl_l (sbl_l (sbl_l (sbl_l (sbl_l (sbl_l sbl_machR)))))) rfl rfl
  exact num_at (sbl_0 h) (sbl_0 (sbl_c h rfl))
theorem st_936 {e : im_E} : stN e 936 0 := state_at (sbl_r (m := 936) (n := 3) (sbl_l (sbl_l (sbl_l (sbl_l (sbl_l sbl_machR))))) (by simp only [List.length_append, List.length_cons, List.length_nil, pu_book_len, pu_row_len, pu_journal_len, pu_state_len, pu_search_len, pu_mach_len]) rfl) (by decide)
theorem bk_1201 {e : im_E} : bkN e 1201 0 := book_at (sbl_r (m := 1201) (n := 268) (sbl_l (sbl_l (sbl_l (sbl_l sbl_machR)))) (by simp only [List.length_append, List.length_cons, List.length_nil, pu_book_len, pu_row_len, pu_journal_len, pu_state_len, pu_search_len, pu_mach_len]) rfl) (by decide)
theorem bk_1207 {e : im_E} : bkN e 1207 60 := book_at (sbl_r (m := 1207) (n := 274) (sbl_l (sbl_l (sbl_l sbl_machR))) (by simp only [List.length_append, List.length_cons, List.length_nil, pu_book_len, pu_row_len, pu_journal_len, pu_state_len, pu_search_len, pu_mach_len]) rfl) (by decide)
theorem rw_1333 {e : im_E} : rwN e 1333 60 := row_at (sbl_r (m := 1333) (n := 400) (sbl_l (sbl_l sbl_machR)) (by simp only [List.length_append, List.length_cons, List.length_nil, pu_book_len, pu_row_len, pu_journal_len, pu_state_len, pu_search_len, pu_mach_len]) rfl) (by decide)
theorem rw_1459 {e : im_E} : rwN e 1459 60 := row_at (sbl_r (m := 1459) (n := 526) (sbl_l sbl_machR) (by simp only [List.length_append, List.length_cons, List.length_nil, pu_book_len, pu_row_len, pu_journal_len, pu_state_len, pu_search_len, pu_mach_len]) rfl) (by decide)
theorem sbl_sea : sbl pu_H 1794 ((((((([] ++ [.inl (5, 128, .inr (.inr (.inr (.inr (fun _ => none)))))]) ++ pu_row 1795 128 128) ++ [.inl (2, 128, .inr (.inl (fun _ => 0)))]) ++ [.inl (1, 128, .inl (fun _ => 0))]) ++ [.inl (1, 128, .inl (fun _ => 0))]) ++ [pu_num 2061, pu_limb]) ++ pu_book 2062 0 0) := sbl_c sbl_search rfl
theorem rw_1795 {e : im_E} : rwN e 1795 128 := row_at (sbl_r (m := 1795) (n := 1) (sbl_l (sbl_l (sbl_l (sbl_l (sbl_l sbl_sea))))) rfl rfl) (by decide)
theorem nm_2060 {e : im_E} : im_num e 2060 := by
  have h : sbl pu_H 2060 [pu_num 2061, pu_limb] := sbl_r (n := 266) (sbl_l sbl_sea) (by simp only [List.length_append, List.length_cons, List.length_nil, pu_book_len, pu_row_len, pu_journal_len, pu_state_len, pu_search_len, pu_mach_len]) rfl
  exact num_at (sbl_0 h) (sbl_0 (sbl_c h rfl))
theorem bk_2062 {e : im_E} : bkN e 2062 0 := book_at (sbl_r (m := 2062) (n := 268) sbl_sea (by simp only [List.length_append, List.length_cons, List.length_nil, pu_book_len, pu_row_len, pu_journal_len, pu_state_len, pu_search_len, pu_mach_len]) rfl) (by decide)
