/-! THE PURE SIDE: rules for am_run alone -/
theorem am_up (G : am_G) : ∀ (f d M pc : Nat) (lv : am_L) (st : List Value) (h : am_H) (r : am_Out × am_H), am_run G f d M pc lv st h = some r → ∀ f' d', f ≤ f' → d ≤ d' → am_run G f' d' M pc lv st h = some r := by
  intro f
  induction f with
  | zero => intro d M pc lv st h r hs; cases hs
  | succ f ih =>
    intro d M pc lv st h r hs f' d' hf hd
    obtain ⟨f', rfl⟩ : ∃ z, f' = z + 1 := ⟨f' - 1, by omega⟩
    have hf : f ≤ f' := by omega
    rw [am_run] at hs ⊢
    cases h1 : am_spc G M pc st with
    | some q => simp only [h1] at hs ⊢; exact ih _ _ _ _ _ _ _ hs _ _ hf hd
    | none =>
      simp only [h1] at hs ⊢
      cases h2 : am_thr G M pc with
      | some E => simp only [h2] at hs ⊢; exact hs
      | none =>
        simp only [h2] at hs ⊢
        cases h3 : am_dec G M pc with
        | none => simp only [h3] at hs; cases hs
        | some q =>
          obtain ⟨ins, len⟩ := q
          simp only [h3] at hs ⊢
          cases h4 : am_a (am_kk G M) (am_mxl G M) ins pc lv st with
          | some q => simp only [h4] at hs ⊢; exact ih _ _ _ _ _ _ _ hs _ _ hf hd
          | none =>
            simp only [h4] at hs ⊢
            cases h5 : am_b (am_X G) (am_lkk G M) (am_ini G M) ins pc st h with
            | some q => simp only [h5] at hs ⊢; exact ih _ _ _ _ _ _ _ hs _ _ hf hd
            | none =>
              simp only [h5] at hs ⊢
              cases h6 : am_rt (am_rty G M) ins st with
              | some v => simp only [h6] at hs ⊢; exact hs
              | none =>
                simp only [h6] at hs ⊢
                cases h7 : am_inv G M ins st h with
                | none => simp only [h7] at hs; cases hs
                | some q =>
                  obtain ⟨k, y, ix, vs, r9⟩ := q
                  simp only [h7] at hs ⊢
                  by_cases hk : k = 3
                  · rw [if_pos hk] at hs ⊢; exact ih _ _ _ _ _ _ _ hs _ _ hf hd
                  · rw [if_neg hk] at hs ⊢
                    by_cases hl : (lg_sl vs).length ≤ am_mxl G y
                    · rw [if_pos hl] at hs ⊢
                      cases d with
                      | zero => cases hs
                      | succ d =>
                        obtain ⟨d', rfl⟩ : ∃ z, d' = z + 1 := ⟨d' - 1, by omega⟩
                        simp only at hs ⊢
                        cases h8 : am_run G f d y 0 (lv_args 0 vs) [] h with
                        | none => simp only [h8] at hs; cases hs
                        | some q =>
                          have h9 := ih _ _ _ _ _ _ _ h8 f' d' hf (by omega)
                          simp only [h8] at hs
                          simp only [h9]
                          obtain ⟨o1, h1'⟩ := q
                          cases o1 with
                          | inl v => exact ih _ _ _ _ _ _ _ hs _ _ hf hd
                          | inr E => exact hs
                    · rw [if_neg hl] at hs; cases hs
/-- comes to an end -/
def am_R (G : am_G) (d M pc : Nat) (lv : am_L) (st : List Value) (h : am_H) (o : am_Out) (h' : am_H) : Prop := ∃ f, am_run G f d M pc lv st h = some (o, h')
/-- a step within a method -/
def am_one (G : am_G) (M pc : Nat) (lv : am_L) (st : List Value) (h : am_H) : Option (Nat × am_L × List Value × am_H) := match am_spc G M pc st with
  | some (pc', st') => some (pc', lv, st', h)
  | none => match am_thr G M pc with
    | some _ => none
    | none => match am_dec G M pc with
      | none => none
      | some (ins, _) => match am_a (am_kk G M) (am_mxl G M) ins pc lv st with
        | some (pc', lv', st') => some (pc', lv', st', h)
        | none => match am_b (am_X G) (am_lkk G M) (am_ini G M) ins pc st h with
          | some (pc', st', h') => some (pc', lv, st', h')
          | none => none
theorem am_R.one {G : am_G} {d M pc pc' : Nat} {lv lv' : am_L} {st st' : List Value} {h h1 h' : am_H} {o : am_Out} (hs : am_one G M pc lv st h = some (pc', lv', st', h1)) (k : am_R G d M pc' lv' st' h1 o h') : am_R G d M pc lv st h o h' := by
  obtain ⟨f, hf⟩ := k
  refine ⟨f + 1, ?_⟩
  rw [am_run]
  unfold am_one at hs
  cases h1 : am_spc G M pc st with
  | some q => simp only [h1] at hs ⊢; cases hs; exact hf
  | none =>
    simp only [h1] at hs ⊢
    cases h2 : am_thr G M pc with
    | some E => simp only [h2] at hs; cases hs
    | none =>
      simp only [h2] at hs ⊢
      cases h3 : am_dec G M pc with
      | none => simp only [h3] at hs; cases hs
      | some q =>
        obtain ⟨ins, len⟩ := q
        simp only [h3] at hs ⊢
        cases h4 : am_a (am_kk G M) (am_mxl G M) ins pc lv st with
        | some q => simp only [h4] at hs ⊢; cases hs; exact hf
        | none =>
          simp only [h4] at hs ⊢
          cases h5 : am_b (am_X G) (am_lkk G M) (am_ini G M) ins pc st h with
          | some q => simp only [h5] at hs ⊢; cases hs; exact hf
          | none => simp only [h5] at hs; cases hs
/-- a return -/
def am_fin (G : am_G) (M pc : Nat) (lv : am_L) (st : List Value) (h : am_H) : Option (Option Value) := match am_spc G M pc st with
  | some _ => none
  | none => match am_thr G M pc with
    | some _ => none
    | none => match am_dec G M pc with
      | none => none
      | some (ins, _) => match am_a (am_kk G M) (am_mxl G M) ins pc lv st with
        | some _ => none
        | none => match am_b (am_X G) (am_lkk G M) (am_ini G M) ins pc st h with
          | some _ => none
          | none => am_rt (am_rty G M) ins st
theorem am_R.fin {G : am_G} {d M pc : Nat} {lv : am_L} {st : List Value} {h : am_H} {v : Option Value} (hs : am_fin G M pc lv st h = some v) : am_R G d M pc lv st h (.inl v) h := by
  refine ⟨1, ?_⟩
  rw [am_run]
  unfold am_fin at hs
  cases h1 : am_spc G M pc st with
  | some q => simp only [h1] at hs; cases hs
  | none =>
    simp only [h1] at hs ⊢
    cases h2 : am_thr G M pc with
    | some E => simp only [h2] at hs; cases hs
    | none =>
      simp only [h2] at hs ⊢
      cases h3 : am_dec G M pc with
      | none => simp only [h3] at hs; cases hs
      | some q =>
        obtain ⟨ins, len⟩ := q
        simp only [h3] at hs ⊢
        cases h4 : am_a (am_kk G M) (am_mxl G M) ins pc lv st with
        | some q => simp only [h4] at hs; cases hs
        | none =>
          simp only [h4] at hs ⊢
          cases h5 : am_b (am_X G) (am_lkk G M) (am_ini G M) ins pc st h with
          | some q => simp only [h5] at hs; cases hs
          | none => simp only [h5] at hs ⊢; simp only [hs]
/-- a call's preparation -/
def am_cll (G : am_G) (M pc : Nat) (lv : am_L) (st : List Value) (h : am_H) : Option (Nat × Nat × Nat × List Value × List Value) := match am_spc G M pc st with
  | some _ => none
  | none => match am_thr G M pc with
    | some _ => none
    | none => match am_dec G M pc with
      | none => none
      | some (ins, _) => match am_a (am_kk G M) (am_mxl G M) ins pc lv st with
        | some _ => none
        | none => match am_b (am_X G) (am_lkk G M) (am_ini G M) ins pc st h with
          | some _ => none
          | none => match am_rt (am_rty G M) ins st with
            | some _ => none
            | none => match am_inv G M ins st h with
              | none => none
              | some q => if q.1 = 3 ∨ (lg_sl q.2.2.2.1).length ≤ am_mxl G q.2.1 then some q else none
theorem am_cll_run {G : am_G} {f d M pc k y ix : Nat} {lv : am_L} {st vs r : List Value} {h : am_H} (hs : am_cll G M pc lv st h = some (k, y, ix, vs, r)) : (k = 3 → am_run G (f + 1) d M pc lv st h = am_run G f d M (pc + 3) lv r h) ∧ (¬ k = 3 → ∀ o1 h1, am_run G f d y 0 (lv_args 0 vs) [] h = some (o1, h1) → am_run G (f + 1) (d + 1) M pc lv st h = (match o1 with
    | .inl v => am_run G f (d + 1) M (pc + 3) lv (v.toList ++ r) h1
    | .inr E => if k = 2 ∨ k = 6 ∨ k = 7 ∨ k = 8 then none else match am_hnd G M pc E with
      | some c => some (.inl (some (.int c)), h1)
      | none => if am_tab G M = false then some (.inr E, h1) else none)) := by
  unfold am_cll at hs
  cases h1 : am_spc G M pc st with
  | some q => simp only [h1] at hs; cases hs
  | none =>
    simp only [h1] at hs
    cases h2 : am_thr G M pc with
    | some E => simp only [h2] at hs; cases hs
    | none =>
      simp only [h2] at hs
      cases h3 : am_dec G M pc with
      | none => simp only [h3] at hs; cases hs
      | some q =>
        obtain ⟨ins, len⟩ := q
        simp only [h3] at hs
        cases h4 : am_a (am_kk G M) (am_mxl G M) ins pc lv st with
        | some q => simp only [h4] at hs; cases hs
        | none =>
          simp only [h4] at hs
          cases h5 : am_b (am_X G) (am_lkk G M) (am_ini G M) ins pc st h with
          | some q => simp only [h5] at hs; cases hs
          | none =>
            simp only [h5] at hs
            cases h6 : am_rt (am_rty G M) ins st with
            | some v => simp only [h6] at hs; cases hs
            | none =>
              simp only [h6] at hs
              cases h7 : am_inv G M ins st h with
              | none => simp only [h7] at hs; cases hs
              | some q =>
                simp only [h7] at hs
                split at hs
                · rename_i hq
                  cases hs
                  refine ⟨fun hk => ?_, fun hk o1 h9 hrun => ?_⟩
                  · rw [am_run]
                    simp only [h1, h2, h3, h4, h5, h6, h7]
                    rw [if_pos hk]
                  · rw [am_run]
                    simp only [h1, h2, h3, h4, h5, h6, h7]
                    rw [if_neg hk, if_pos (hq.resolve_left hk)]
                    simp only [hrun]
                    cases o1 <;> rfl
                · cases hs
theorem am_R.obj {G : am_G} {d M pc y ix : Nat} {lv : am_L} {st vs r : List Value} {h h' : am_H} {o : am_Out} (hs : am_cll G M pc lv st h = some (3, y, ix, vs, r)) (k : am_R G d M (pc + 3) lv r h o h') : am_R G d M pc lv st h o h' := by
  obtain ⟨f, hf⟩ := k
  exact ⟨f + 1, by rw [(am_cll_run hs).1 rfl]; exact hf⟩
theorem am_R.call {G : am_G} {d M pc k y ix : Nat} {lv : am_L} {st vs r : List Value} {h h1 h' : am_H} {o : am_Out} {v : Option Value} (hs : am_cll G M pc lv st h = some (k, y, ix, vs, r)) (hk : ¬ k = 3) (hc : am_R G d y 0 (lv_args 0 vs) [] h (.inl v) h1) (kk : am_R G (d + 1) M (pc + 3) lv (v.toList ++ r) h1 o h') : am_R G (d + 1) M pc lv st h o h' := by
  obtain ⟨f1, h9⟩ := hc
  obtain ⟨f2, h8⟩ := kk
  refine ⟨max f1 f2 + 1, ?_⟩
  rw [(am_cll_run hs).2 hk _ _ (am_up G _ _ _ _ _ _ _ _ h9 _ _ (Nat.le_max_left f1 f2) (Nat.le_refl d))]
  exact am_up G _ _ _ _ _ _ _ _ h8 _ _ (Nat.le_max_right f1 f2) (Nat.le_refl _)
/-- a callee that throws, caught here -/
theorem am_R.caught {G : am_G} {d M pc k y ix : Nat} {lv : am_L} {st vs r : List Value} {h h1 : am_H} {E : String} {c : Int32} (hs : am_cll G M pc lv st h = some (k, y, ix, vs, r)) (hk : k = 0 ∨ k = 1) (hc : am_R G d y 0 (lv_args 0 vs) [] h (.inr E) h1) (hh : am_hnd G M pc E = some c) : am_R G (d + 1) M pc lv st h (.inl (some (.int c))) h1 := by
  obtain ⟨f1, h9⟩ := hc
  refine ⟨f1 + 1, ?_⟩
  rw [(am_cll_run hs).2 (by omega) _ _ h9]
  simp only
  rw [if_neg (by omega), hh]
/-- .. not caught here -/
theorem am_R.past {G : am_G} {d M pc k y ix : Nat} {lv : am_L} {st vs r : List Value} {h h1 : am_H} {E : String} (hs : am_cll G M pc lv st h = some (k, y, ix, vs, r)) (hk : k = 0 ∨ k = 1) (hc : am_R G d y 0 (lv_args 0 vs) [] h (.inr E) h1) (hh : am_hnd G M pc E = none) (ht : am_tab G M = false) : am_R G (d + 1) M pc lv st h (.inr E) h1 := by
  obtain ⟨f1, h9⟩ := hc
  refine ⟨f1 + 1, ?_⟩
  rw [(am_cll_run hs).2 (by omega) _ _ h9]
  simp only
  rw [if_neg (by omega), hh]
  simp only
  rw [if_pos ht]
/-- a throw -/
theorem am_R.throw {G : am_G} {d M pc : Nat} {lv : am_L} {st : List Value} {h : am_H} {E : String} (h0 : am_spc G M pc st = none) (hs : am_thr G M pc = some E) (hc : am_cat st ≤ 8) (ht : am_tab G M = false) : am_R G d M pc lv st h (.inr E) (h ++ [.inr (99, [.null, .null, .null, .null, .null, .null])]) := by
  refine ⟨1, ?_⟩
  rw [am_run, h0]
  simp only [hs]
  rw [if_pos ⟨hc, ht⟩]
theorem am_R.deep {G : am_G} {d d' M pc : Nat} {lv : am_L} {st : List Value} {h h' : am_H} {o : am_Out} (hr : am_R G d M pc lv st h o h') (hd : d ≤ d') : am_R G d' M pc lv st h o h' := by
  obtain ⟨f, hf⟩ := hr
  exact ⟨f, am_up G _ _ _ _ _ _ _ _ hf _ _ (Nat.le_refl f) hd⟩
