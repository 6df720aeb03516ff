/-! LOCALS: fewer of them, in another order -/
def am_fk (i : Nat) (lv : am_L) : am_L := lv.filter (fun q => q.1 == i)
def am_sub (lv' lv : am_L) : Prop := ∀ i, am_fk i lv' = [] ∨ am_fk i lv' = am_fk i lv
theorem am_sub.rf (lv : am_L) : am_sub lv lv := fun _ => Or.inr rfl
theorem am_ld_fk (lv : am_L) (i : Nat) : am_ld lv i = (am_fk i lv).head?.map (fun q => q.2) := by
  unfold am_ld am_fk
  rw [List.head?_filter]
theorem am_sub.ld {lv' lv : am_L} (h : am_sub lv' lv) {i : Nat} {v : Value} (hv : am_ld lv' i = some v) : am_ld lv i = some v := by
  rw [am_ld_fk] at hv ⊢
  rcases h i with z | z
  · rw [z] at hv; cases hv
  · rw [← z]; exact hv
theorem am_fk_comm (i : Nat) (p : Nat × Value → Bool) (lv : am_L) : am_fk i (lv.filter p) = (am_fk i lv).filter p := by
  unfold am_fk
  rw [List.filter_filter, List.filter_filter]
  congr 1
  funext q
  rw [Bool.and_comm]
theorem am_sub.fl {lv' lv : am_L} (h : am_sub lv' lv) (p : Nat × Value → Bool) (i : Nat) : am_fk i (lv'.filter p) = [] ∨ am_fk i (lv'.filter p) = am_fk i (lv.filter p) := by
  rw [am_fk_comm, am_fk_comm]
  rcases h i with z | z
  · rw [z]; exact Or.inl rfl
  · rw [z]; exact Or.inr rfl
theorem am_sub.cons {lv' lv : am_L} {i : Nat} {v : Value} (h : am_sub lv' lv) (h0 : am_fk i lv' = am_fk i lv) : am_sub ((i, v) :: lv') ((i, v) :: lv) := by
  intro j
  unfold am_fk
  rw [List.filter_cons, List.filter_cons]
  by_cases hj : (i == j) = true
  · have hj' : i = j := by simpa using hj
    subst hj'
    simp only [beq_self_eq_true, ite_true]
    exact Or.inr (by have h0 : List.filter _ _ = List.filter _ _ := h0; rw [h0])
  · simp only [hj]
    exact h j
theorem am_fk_none {lv : am_L} {i : Nat} {p : Nat × Value → Bool} (hp : ∀ q : Nat × Value, q.1 = i → p q = false) : am_fk i (lv.filter p) = [] := by
  unfold am_fk
  rw [List.filter_filter, List.filter_eq_nil_iff]
  intro q _ hq
  simp only [Bool.and_eq_true, beq_iff_eq] at hq
  rw [hp q hq.1] at hq
  exact absurd hq.2 (by decide)
theorem am_sub.s1 {lv' lv : am_L} (h : am_sub lv' lv) (i : Nat) (v : Value) : am_sub (am_s1 lv' i v) (am_s1 lv i v) := by
  unfold am_s1
  refine am_sub.cons (fun j => h.fl _ j) ?_
  rw [am_fk_none (fun q hq => by simp [hq]), am_fk_none (fun q hq => by simp [hq])]
theorem am_sub.s2 {lv' lv : am_L} (h : am_sub lv' lv) (i : Nat) (v : Value) : am_sub (am_s2 lv' i v) (am_s2 lv i v) := by
  unfold am_s2
  refine am_sub.cons (fun j => h.fl _ j) ?_
  rw [am_fk_none (fun q hq => by simp [hq]), am_fk_none (fun q hq => by simp [hq])]
set_option maxHeartbeats 4000000 in
theorem am_sub.a {lv' lv : am_L} (h : am_sub lv' lv) {kk : am_K} {nL : Nat} {ins : Instr} {pc pc' : Nat} {st st' : List Value} {l1 : am_L} (hs : am_a kk nL ins pc lv' st = some (pc', l1, st')) : ∃ l2, am_a kk nL ins pc lv st = some (pc', l2, st') ∧ am_sub l1 l2 := by
  cases ins <;> simp only [am_a] at hs ⊢
  all_goals first | (cases hs; done) | skip
  all_goals (repeat' (split at hs))
  all_goals first | (cases hs; done) | skip
  all_goals cases hs
  all_goals first | exact ⟨_, rfl, h⟩ | skip
  all_goals first | (simp only [h.ld (by assumption)]; first | exact ⟨_, rfl, h⟩ | (rw [if_pos (by assumption)]; first | exact ⟨_, rfl, h⟩ | exact ⟨_, rfl, h.s1 _ _⟩)) | skip
  all_goals first | (rw [if_pos (by assumption)]; first | exact ⟨_, rfl, h⟩ | exact ⟨_, rfl, h.s1 _ _⟩ | exact ⟨_, rfl, h.s2 _ _⟩ | (simp only [*]; exact ⟨_, rfl, h⟩)) | skip
  all_goals first | (rw [if_neg (by assumption)]; exact ⟨_, rfl, h⟩) | skip
  all_goals first | (simp only [*]; exact ⟨_, rfl, h⟩) | skip
theorem am_sub.an {lv' lv : am_L} (h : am_sub lv' lv) {kk : am_K} {nL : Nat} {ins : Instr} {pc : Nat} {st : List Value} {G : am_G} {M : Nat} {hh : am_H} (hq : (∃ q, am_b (am_X G) (am_lkk G M) (am_ini G M) ins pc st hh = some q) ∨ (∃ q, am_rt (am_rty G M) ins st = some q) ∨ (∃ q, am_inv G M ins st hh = some q)) : am_a kk nL ins pc lv st = none := by
  rcases hq with ⟨q, hq⟩ | ⟨q, hq⟩ | ⟨q, hq⟩
  · cases ins <;> simp only [am_b] at hq <;> first | (cases hq; done) | rfl | skip
    all_goals (repeat' (split at hq))
    all_goals first | (cases hq; done) | rfl
  · exact am_rt_a hq
  · exact am_inv_a hq
theorem am_run_sub (G : am_G) : ∀ (f d M pc : Nat) (lv' lv : am_L) (st : List Value) (h : am_H) (r : am_Out × am_H), am_sub lv' lv → am_run G f d M pc lv' st h = some r → am_run G f d M pc lv st h = some r := by
  intro f
  induction f with
  | zero => intro d M pc lv' lv st h r hl hs; cases hs
  | succ f ih =>
    intro d M pc lv' lv st h r hl hs
    rw [am_run] at hs ⊢
    cases h1 : am_spc G M pc st with
    | some q => simp only [h1] at hs ⊢; exact ih _ _ _ _ _ _ _ _ hl hs
    | none =>
      simp only [h1] at hs ⊢
      cases h2 : am_thr G M pc with
      | some E => simp only [h2] at hs ⊢; exact hs
      | none =>
        simp only [h2] at hs ⊢
        cases h3 : am_dec G M pc with
        | none => simp only [h3] at hs; cases hs
        | some q =>
          obtain ⟨ins, len⟩ := q
          simp only [h3] at hs ⊢
          cases h4 : am_a (am_kk G M) (am_mxl G M) ins pc lv' st with
          | some q =>
            obtain ⟨q1, q2, q3⟩ := q
            simp only [h4] at hs
            obtain ⟨l2, h5, h6⟩ := hl.a h4
            simp only [h5]
            exact ih _ _ _ _ _ _ _ _ h6 hs
          | none =>
            simp only [h4] at hs
            cases h5 : am_b (am_X G) (am_lkk G M) (am_ini G M) ins pc st h with
            | some q =>
              obtain ⟨q1, q2, q3⟩ := q
              simp only [h5] at hs
              simp only [hl.an (Or.inl ⟨_, h5⟩), h5]
              exact ih _ _ _ _ _ _ _ _ hl hs
            | none =>
              simp only [h5] at hs
              cases h6 : am_rt (am_rty G M) ins st with
              | some v =>
                simp only [h6] at hs
                simp only [hl.an (hh := h) (Or.inr (Or.inl ⟨_, h6⟩)), h5, h6]
                exact hs
              | none =>
                simp only [h6] at hs
                cases h7 : am_inv G M ins st h with
                | none => simp only [h7] at hs; cases hs
                | some q =>
                  obtain ⟨k, y, ix, vs, r9⟩ := q
                  simp only [h7] at hs
                  simp only [hl.an (Or.inr (Or.inr ⟨_, h7⟩)), h5, h6, h7]
                  by_cases hk : k = 3
                  · rw [if_pos hk] at hs ⊢; exact ih _ _ _ _ _ _ _ _ hl hs
                  · rw [if_neg hk] at hs ⊢
                    by_cases hl9 : (lg_sl vs).length ≤ am_mxl G y
                    · rw [if_pos hl9] at hs ⊢
                      cases d with
                      | zero => cases hs
                      | succ d =>
                        simp only at hs ⊢
                        cases h8 : am_run G f d y 0 (lv_args 0 vs) [] h with
                        | none => simp only [h8] at hs; cases hs
                        | some q =>
                          simp only [h8] at hs ⊢
                          obtain ⟨o1, h1'⟩ := q
                          cases o1 with
                          | inl v => exact ih _ _ _ _ _ _ _ _ hl hs
                          | inr E => exact hs
                    · rw [if_neg hl9] at hs; cases hs
theorem am_R.lv {G : am_G} {d M pc : Nat} {lv : am_L} {st : List Value} {h h' : am_H} {o : am_Out} (lv' : am_L) (hs : am_sub lv' lv) (kk : am_R G d M pc lv' st h o h') : am_R G d M pc lv st h o h' := by
  obtain ⟨f, hf⟩ := kk
  exact ⟨f, am_run_sub G _ _ _ _ _ _ _ _ _ hs hf⟩
theorem am_T.lv {G : am_G} {d M pc : Nat} {lv : am_L} {st : List Value} {h : am_H} {k : am_Out → am_H → Prop} (lv' : am_L) (hs : am_sub lv' lv) (kk : am_T G d M pc lv' st h k) : am_T G d M pc lv st h k := by
  obtain ⟨o, h', a, b⟩ := kk
  exact ⟨o, h', am_R.lv lv' hs a, b⟩
/-- by keys -/
def am_sbp (lv' lv : am_L) : am_L → Prop
  | [] => True
  | p :: r => (am_fk p.1 lv' = [p] ∧ am_fk p.1 lv = [p]) ∧ am_sbp lv' lv r
theorem am_sub.of {lv' lv : am_L} (hp : am_sbp lv' lv lv') : am_sub lv' lv := by
  intro i
  have key : ∀ l : am_L, am_sbp lv' lv l → ∀ p ∈ l, am_fk p.1 lv' = [p] ∧ am_fk p.1 lv = [p] := by
    intro l
    induction l with
    | nil => intro _ p hp; cases hp
    | cons a r ih =>
      intro hl p hp
      rcases List.mem_cons.mp hp with z | z
      · subst z; exact hl.1
      · exact ih hl.2 p z
  by_cases hi : am_fk i lv' = []
  · exact Or.inl hi
  · right
    obtain ⟨p, hp9⟩ := List.exists_mem_of_ne_nil _ hi
    have h1 := (List.mem_filter.mp hp9)
    have h2 : p.1 = i := by simpa using h1.2
    obtain ⟨a, b⟩ := key lv' hp p h1.1
    rw [h2] at a b
    rw [a, b]
