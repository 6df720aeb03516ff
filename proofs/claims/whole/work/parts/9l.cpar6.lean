/-- whens are no more than deep + 1 -/
def w2 (R : Rw) (lo m : Int) : Prop := ∀ i, lo ≤ i → i < m → 0 ≤ R 2 i ∧ R 2 i ≤ R 1 i + 1
theorem rows12 {lo ty nm v : Int} {x : en} {r : List en} {R : Rw} {m lw : Int} {S' : pS} (h : stp lo ty nm v (x :: r, R, m, lw) = .inr S') (hw : wfS lo (x :: r, R, m, lw)) :
    (∀ i, i ≠ m → S'.2.1 1 i = R 1 i ∧ S'.2.1 2 i = R 2 i) ∧ (S'.2.2.1 = m ∨ (S'.2.2.1 = m + 1 ∧ (x.2.1 = -1 ∨ (lo ≤ x.2.1 ∧ x.2.1 < m)) ∧ S'.2.1 1 m = deepOf R x.2.1 ∧ (S'.2.1 2 m = whenOf R x.2.1 ∨ S'.2.1 2 m = whenOf R x.2.1 + 1))) ∧ S'.1.length ≤ (x :: r).length + 6 := by
  obtain ⟨w1, w2, w3, w4, _, w7, w8, w9⟩ := hw
  dsimp only at w2 w3 w4 w7 w8
  have hx : x.1 ≠ 41 → ent R lo m x := w7 x List.mem_cons_self
  have hlr : (x :: r).length = r.length + 1 := rfl
  rw [stp_cons] at h
  by_cases s1 : x.1 = 99 ∨ x.1 = 118 ∨ x.1 = 111
  · rw [if_pos s1] at h
    obtain ⟨e1, e2, e3⟩ := hx (by omega)
    have hso : x.2.1 = -1 ∨ (lo ≤ x.2.1 ∧ x.2.1 < m) := by
      rcases e3 with ⟨_, z⟩ | ⟨z1, z2, _⟩
      · exact Or.inl z
      · exact Or.inr ⟨z1, z2⟩
    unfold stpN at h
    by_cases t1 : ty = 37
    · rw [if_pos t1] at h; cases h
      refine ⟨fun _ _ => ⟨rfl, rfl⟩, Or.inl rfl, ?_⟩
      show (x :: _ :: r).length ≤ _
      simp only [List.length_cons]; omega
    · rw [if_neg t1] at h
      by_cases t2 : bgn x.1 ty
      · rw [if_neg (fun z => z t2)] at h
        by_cases t3 : much R lo m x.2.1
        · rw [if_pos t3] at h; cases h
        · rw [if_neg t3] at h
          have hsl : x.2.1 = -1 ∨ (1 ≤ x.2.2.1 ∧ x.2.2.1 ≤ 3) := by
            rcases e3 with ⟨_, z⟩ | ⟨_, _, z⟩
            · exact Or.inl z
            · exact Or.inr (z.2.2.2.2.2.2.2.2.1 s1)
          have hom : m ≠ x.2.1 := by omega
          have hS : S' = (shE ty m ++ r, nodR R m ty nm v x.2.1 x.2.2.1, m + 1, lw) := by cases h; rfl
          rw [hS]
          refine ⟨fun i hi => ⟨nodR_ne 1 i hi (by omega) hsl, nodR_ne 2 i hi (by omega) hsl⟩, Or.inr ⟨rfl, hso, ?_, ?_⟩, ?_⟩
          · show nodR R m ty nm v x.2.1 x.2.2.1 1 m = _
            rw [nodR_m 1 hom (by decide) hsl, newN_1]
          · show nodR R m ty nm v x.2.1 x.2.2.1 2 m = _ ∨ nodR R m ty nm v x.2.1 x.2.2.1 2 m = _
            rw [nodR_m 2 hom (by decide) hsl, newN_2]
            split
            · exact Or.inr rfl
            · exact Or.inl (by omega)
          · have := shp_len ty
            show (shE ty m ++ r).length ≤ _
            unfold shE
            rw [List.length_append, List.length_map]
            omega
      · rw [if_pos t2] at h; cases h
  rw [if_neg s1] at h
  by_cases s2 : x.1 = 107
  · rw [if_pos s2] at h
    obtain ⟨e1, e2, e3⟩ := hx (by omega)
    unfold stpK at h
    by_cases t1 : ty = 40
    · rw [if_pos t1] at h; cases h
      exact ⟨fun _ _ => ⟨rfl, rfl⟩, Or.inl rfl, by show r.length ≤ _; omega⟩
    · rw [if_neg t1] at h
      by_cases t2 : ty = 31
      · rw [if_neg (fun z => z t2)] at h
        split at h
        · cases h
        · split at h
          · cases h
          · cases h
            have hso : lo ≤ x.2.1 ∧ x.2.1 < m := by
              rcases e3 with ⟨z, _⟩ | ⟨z1, z2, _⟩
              · omega
              · exact ⟨z1, z2⟩
            refine ⟨fun i hi => ⟨caseR_ne 1 i hi (by decide), caseR_ne 2 i hi (by decide)⟩, Or.inr ⟨rfl, Or.inr hso, ?_, Or.inl ?_⟩, ?_⟩
            · show caseR R m x.2.1 1 m = _
              rw [caseR_m 1 (by omega) (by decide), newN_1]
              unfold deepOf
              rw [if_neg (by omega), if_neg (by omega), im_rdn _ _ _ _ (by decide)]
            · show caseR R m x.2.1 2 m = _
              rw [caseR_m 2 (by omega) (by decide), newN_2, if_neg (by decide)]
              unfold whenOf
              rw [if_neg (by omega), if_neg (by omega), im_rdn _ _ _ _ (by decide)]
              omega
            · show (_ :: x :: r).length ≤ _
              simp only [List.length_cons]; omega
      · rw [if_pos t2] at h; cases h
  rw [if_neg s2] at h
  have pop : ∀ {R' : Rw} {lw' : Int}, (∀ i, R' 1 i = R 1 i) → (∀ i, R' 2 i = R 2 i) → (∀ i, i ≠ m → ((r, R', m, lw') : pS).2.1 1 i = R 1 i ∧ ((r, R', m, lw') : pS).2.1 2 i = R 2 i) ∧ (((r, R', m, lw') : pS).2.2.1 = m ∨ (((r, R', m, lw') : pS).2.2.1 = m + 1 ∧ (x.2.1 = -1 ∨ (lo ≤ x.2.1 ∧ x.2.1 < m)) ∧ ((r, R', m, lw') : pS).2.1 1 m = deepOf R x.2.1 ∧ (((r, R', m, lw') : pS).2.1 2 m = whenOf R x.2.1 ∨ ((r, R', m, lw') : pS).2.1 2 m = whenOf R x.2.1 + 1))) ∧ ((r, R', m, lw') : pS).1.length ≤ (x :: r).length + 6 := fun a b => ⟨fun i _ => ⟨a i, b i⟩, Or.inl rfl, by show r.length ≤ _; omega⟩
  by_cases s3 : x.1 = 97
  · rw [if_pos s3] at h
    split at h
    · cases h
      refine ⟨fun i hi => ⟨show im_u R 0 x.2.1 ty 1 i = R 1 i from im_rdn _ _ _ _ (by decide), show im_u R 0 x.2.1 ty 2 i = R 2 i from im_rdn _ _ _ _ (by decide)⟩, Or.inl rfl, ?_⟩
      have := shp_len ty
      show (shE ty x.2.1 ++ r).length ≤ _
      unfold shE
      rw [List.length_append, List.length_map]
      omega
    · cases h
  rw [if_neg s3] at h
  by_cases s4 : x.1 = 116
  · rw [if_pos s4] at h
    split at h
    · cases h; exact pop (fun _ => im_rdn _ _ _ _ (by decide)) (fun _ => im_rdn _ _ _ _ (by decide))
    · split at h
      · cases h
      · split at h
        · cases h
        · cases h; exact pop (fun _ => im_rdn _ _ _ _ (by decide)) (fun _ => im_rdn _ _ _ _ (by decide))
  rw [if_neg s4] at h
  by_cases s5 : x.1 = 98
  · rw [if_pos s5] at h
    split at h
    · cases h; exact pop (fun _ => rfl) (fun _ => rfl)
    · split at h
      · cases h
      · split at h
        · cases h
        · cases h
          refine ⟨fun i hi => ⟨im_rdn _ _ _ _ (by omega), im_rdn _ _ _ _ (by omega)⟩, Or.inl rfl, ?_⟩
          show (_ :: x :: r).length ≤ _
          simp only [List.length_cons]; omega
  rw [if_neg s5] at h
  by_cases s6 : x.1 = 104
  · rw [if_pos s6] at h
    split at h
    · cases h
    · split at h
      · cases h
      · cases h; exact pop (fun _ => by rw [im_rdn _ _ _ _ (by decide), im_rdn _ _ _ _ (by omega)]) (fun _ => by rw [im_rdn _ _ _ _ (by decide), im_rdn _ _ _ _ (by omega)])
  rw [if_neg s6] at h
  by_cases s7 : x.1 = 41
  · rw [if_pos s7] at h
    split at h
    · cases h; exact pop (fun _ => rfl) (fun _ => rfl)
    · cases h
  rw [if_neg s7] at h
  by_cases s8 : x.1 = 100
  · rw [if_pos s8] at h
    split at h
    · cases h; exact pop (fun _ => im_rdn _ _ _ _ (by decide)) (fun _ => im_rdn _ _ _ _ (by decide))
    · cases h
  rw [if_neg s8] at h
  by_cases s9 : x.1 = 91
  · rw [if_pos s9] at h
    split at h
    · cases h; exact pop (fun _ => rfl) (fun _ => rfl)
    · cases h
  rw [if_neg s9] at h
  by_cases t1 : ty = 36
  · rw [if_pos t1] at h
    cases h
    refine pop (fun _ => im_rdn _ _ _ _ ?_) (fun _ => im_rdn _ _ _ _ ?_)
    · split <;> (try split) <;> decide
    · split <;> (try split) <;> decide
  · rw [if_neg t1] at h; cases h
theorem w2_stp {lo ty nm v : Int} {x : en} {r : List en} {R : Rw} {m lw : Int} {S' : pS} (h : stp lo ty nm v (x :: r, R, m, lw) = .inr S') (hw : wfS lo (x :: r, R, m, lw)) (h2 : w2 R lo m) : w2 S'.2.1 lo S'.2.2.1 := by
  obtain ⟨a, b, _⟩ := rows12 h hw
  intro i i0 i1
  rcases b with b | ⟨b1, b2, b3, b4⟩
  · rw [b] at i1
    rw [(a i (by omega)).1, (a i (by omega)).2]
    exact h2 i i0 i1
  · by_cases hi : i = m
    · subst hi
      rw [b3]
      unfold deepOf
      unfold whenOf at b4
      rcases b2 with z | ⟨z1, z2⟩
      · rw [if_pos z] at b4 ⊢; omega
      · have := h2 x.2.1 z1 z2
        have hlo := hw.1
        rw [if_neg (by omega)] at b4 ⊢
        omega
    · rw [(a i hi).1, (a i hi).2]
      exact h2 i i0 (by omega)
theorem cmp_cntU : ∀ (L : List en), ∀ y ∈ cmp L, y.1 = 41 → y.2 ≤ L.length := by
  intro L
  induction L with
  | nil => intro y hy; cases hy
  | cons x r ih =>
    intro y hy h41
    have hl : (x :: r).length = r.length + 1 := rfl
    unfold cmp at hy
    split at hy
    · split at hy
      · rcases List.mem_singleton.mp hy with rfl; show (1 : Int) ≤ _; omega
      · rename_i z r' heq
        split at hy
        · rename_i hz
          rcases List.mem_cons.mp hy with h | h
          · have := ih z (by rw [heq]; exact List.mem_cons_self) hz
            rw [h]; show z.2 + 1 ≤ _; omega
          · have := ih y (by rw [heq]; exact List.mem_cons_of_mem _ h) h41; omega
        · rcases List.mem_cons.mp hy with h | h
          · rw [h]; show (1 : Int) ≤ _; omega
          · have := ih y (by rw [heq]; exact h) h41; omega
    · rename_i hx
      rcases List.mem_cons.mp hy with h | h
      · rw [h] at h41; exact absurd h41 hx
      · have := ih y h h41; omega
