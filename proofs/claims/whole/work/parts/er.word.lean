/-! THE REFERENCE's words -/
section WORDOF
variable {g : im_g} {d : Nat} {e : im_E} {M : im_M} {K : im_K}
theorem wo_1 (hK : K (.inl (some (vL 427021005669))) e M) : im_T g d 326 0 [some (vI 1), none, none, none, none, none, none, none, none, none, none] [] e M K := by
  refine b_wordOf_0 ?_
  simp
  first | exact ⟨by decide, hK⟩ | exact hK
theorem wo_2 (hK : K (.inl (some (vL 7364985))) e M) : im_T g d 326 0 [some (vI 2), none, none, none, none, none, none, none, none, none, none] [] e M K := by
  refine b_wordOf_0 ?_
  simp
  first | exact ⟨by decide, hK⟩ | exact hK
theorem wo_3 (hK : K (.inl (some (vL 7364985))) e M) : im_T g d 326 0 [some (vI 3), none, none, none, none, none, none, none, none, none, none] [] e M K := by
  refine b_wordOf_0 ?_
  simp
  first | exact ⟨by decide, hK⟩ | exact hK
theorem wo_4 (hK : K (.inl (some (vL 26982))) e M) : im_T g d 326 0 [some (vI 4), none, none, none, none, none, none, none, none, none, none] [] e M K := by
  refine b_wordOf_0 ?_
  simp
  first | exact ⟨by decide, hK⟩ | exact hK
theorem wo_5 (hK : K (.inl (some (vL 2003330414))) e M) : im_T g d 326 0 [some (vI 5), none, none, none, none, none, none, none, none, none, none] [] e M K := by
  refine b_wordOf_0 ?_
  simp
  first | exact ⟨by decide, hK⟩ | exact hK
theorem wo_6 (hK : K (.inl (some (vL 7103860))) e M) : im_T g d 326 0 [some (vI 6), none, none, none, none, none, none, none, none, none, none] [] e M K := by
  refine b_wordOf_0 ?_
  simp
  first | exact ⟨by decide, hK⟩ | exact hK
theorem wo_7 (hK : K (.inl (some (vL 107148485161588))) e M) : im_T g d 326 0 [some (vI 7), none, none, none, none, none, none, none, none, none, none] [] e M K := by
  refine b_wordOf_0 ?_
  simp
  first | exact ⟨by decide, hK⟩ | exact hK
theorem wo_22 (hK : K (.inl (some (vL 1751477348))) e M) : im_T g d 326 0 [some (vI 22), none, none, none, none, none, none, none, none, none, none] [] e M K := by
  refine b_wordOf_0 ?_
  simp
  first | exact ⟨by decide, hK⟩ | exact hK
theorem wo_23 (hK : K (.inl (some (vL 7234919))) e M) : im_T g d 326 0 [some (vI 23), none, none, none, none, none, none, none, none, none, none] [] e M K := by
  refine b_wordOf_0 ?_
  simp
  first | exact ⟨by decide, hK⟩ | exact hK
theorem wo_24 (hK : K (.inl (some (vL 6382692))) e M) : im_T g d 326 0 [some (vI 24), none, none, none, none, none, none, none, none, none, none] [] e M K := by
  refine b_wordOf_0 ?_
  simp
  first | exact ⟨by decide, hK⟩ | exact hK
theorem wo_25 (hK : K (.inl (some (vL 7566690))) e M) : im_T g d 326 0 [some (vI 25), none, none, none, none, none, none, none, none, none, none] [] e M K := by
  refine b_wordOf_0 ?_
  simp
  first | exact ⟨by decide, hK⟩ | exact hK
theorem wo_26 (hK : K (.inl (some (vL 7173484))) e M) : im_T g d 326 0 [some (vI 26), none, none, none, none, none, none, none, none, none, none] [] e M K := by
  refine b_wordOf_0 ?_
  simp
  first | exact ⟨by decide, hK⟩ | exact hK
theorem wo_27 (hK : K (.inl (some (vL 6580598))) e M) : im_T g d 326 0 [some (vI 27), none, none, none, none, none, none, none, none, none, none] [] e M K := by
  refine b_wordOf_0 ?_
  simp
  first | exact ⟨by decide, hK⟩ | exact hK
theorem wo_28 (hK : K (.inl (some (vL 109300197582190))) e M) : im_T g d 326 0 [some (vI 28), none, none, none, none, none, none, none, none, none, none] [] e M K := by
  refine b_wordOf_0 ?_
  simp
  first | exact ⟨by decide, hK⟩ | exact hK
theorem wo_29 (hK : K (.inl (some (vL 495873782388))) e M) : im_T g d 326 0 [some (vI 29), none, none, none, none, none, none, none, none, none, none] [] e M K := by
  refine b_wordOf_0 ?_
  simp
  first | exact ⟨by decide, hK⟩ | exact hK
theorem wo_30 (hK : K (.inl (some (vL 6647396))) e M) : im_T g d 326 0 [some (vI 30), none, none, none, none, none, none, none, none, none, none] [] e M K := by
  refine b_wordOf_0 ?_
  simp
  first | exact ⟨by decide, hK⟩ | exact hK
theorem wo_31 (hK : K (.inl (some (vL 7697253))) e M) : im_T g d 326 0 [some (vI 31), none, none, none, none, none, none, none, none, none, none] [] e M K := by
  refine b_wordOf_0 ?_
  simp
  first | exact ⟨by decide, hK⟩ | exact hK
theorem wo_32 (hK : K (.inl (some (vL 1668247140))) e M) : im_T g d 326 0 [some (vI 32), none, none, none, none, none, none, none, none, none, none] [] e M K := by
  refine b_wordOf_0 ?_
  simp
  first | exact ⟨by decide, hK⟩ | exact hK
theorem wo_40 (hK : K (.inl (some (vL 6385252))) e M) : im_T g d 326 0 [some (vI 40), none, none, none, none, none, none, none, none, none, none] [] e M K := by
  refine b_wordOf_0 ?_
  simp
  first | exact ⟨by decide, hK⟩ | exact hK
theorem wo_41 (hK : K (.inl (some (vL 28530))) e M) : im_T g d 326 0 [some (vI 41), none, none, none, none, none, none, none, none, none, none] [] e M K := by
  refine b_wordOf_0 ?_
  simp
  first | exact ⟨by decide, hK⟩ | exact hK
theorem wo_42 (hK : K (.inl (some (vL 7237492))) e M) : im_T g d 326 0 [some (vI 42), none, none, none, none, none, none, none, none, none, none] [] e M K := by
  refine b_wordOf_0 ?_
  simp
  first | exact ⟨by decide, hK⟩ | exact hK
theorem wo_43 (hK : K (.inl (some (vL 426953896805))) e M) : im_T g d 326 0 [some (vI 43), none, none, none, none, none, none, none, none, none, none] [] e M K := by
  refine b_wordOf_0 ?_
  simp
  first | exact ⟨by decide, hK⟩ | exact hK
theorem wo_44 (hK : K (.inl (some (vL 26469))) e M) : im_T g d 326 0 [some (vI 44), none, none, none, none, none, none, none, none, none, none] [] e M K := by
  refine b_wordOf_0 ?_
  simp
  first | exact ⟨by decide, hK⟩ | exact hK
theorem wo_45 (hK : K (.inl (some (vL 26484))) e M) : im_T g d 326 0 [some (vI 45), none, none, none, none, none, none, none, none, none, none] [] e M K := by
  refine b_wordOf_0 ?_
  simp
  first | exact ⟨by decide, hK⟩ | exact hK
theorem wo_46 (hK : K (.inl (some (vL 27749))) e M) : im_T g d 326 0 [some (vI 46), none, none, none, none, none, none, none, none, none, none] [] e M K := by
  refine b_wordOf_0 ?_
  simp
  first | exact ⟨by decide, hK⟩ | exact hK
theorem wo_47 (hK : K (.inl (some (vL 27764))) e M) : im_T g d 326 0 [some (vI 47), none, none, none, none, none, none, none, none, none, none] [] e M K := by
  refine b_wordOf_0 ?_
  simp
  first | exact ⟨by decide, hK⟩ | exact hK
theorem wo_48 (hK : K (.inl (some (vL 25969))) e M) : im_T g d 326 0 [some (vI 48), none, none, none, none, none, none, none, none, none, none] [] e M K := by
  refine b_wordOf_0 ?_
  simp
  first | exact ⟨by decide, hK⟩ | exact hK
theorem wo_49 (hK : K (.inl (some (vL 1953658213))) e M) : im_T g d 326 0 [some (vI 49), none, none, none, none, none, none, none, none, none, none] [] e M K := by
  refine b_wordOf_0 ?_
  simp
  first | exact ⟨by decide, hK⟩ | exact hK
theorem wo_50 (hK : K (.inl (some (vL 439721161573))) e M) : im_T g d 326 0 [some (vI 50), none, none, none, none, none, none, none, none, none, none] [] e M K := by
  refine b_wordOf_0 ?_
  simp
  first | exact ⟨by decide, hK⟩ | exact hK
theorem c_wordOf {k a : Int} (hk : 0 ≤ k ∧ k ≤ 27) (ha : k = 1 → a = 0 ∨ a = 1) (hK : K (.inl (some (vL (kwv k)))) e M) : im_T g d 326 0 [some (vI (kR k a)), none, none, none, none, none, none, none, none, none, none] [] e M K := by
  have hc : k = 0 ∨ k = 1 ∨ k = 2 ∨ k = 3 ∨ k = 4 ∨ k = 5 ∨ k = 6 ∨ k = 7 ∨ k = 8 ∨ k = 9 ∨ k = 10 ∨ k = 11 ∨ k = 12 ∨ k = 13 ∨ k = 14 ∨ k = 15 ∨ k = 16 ∨ k = 17 ∨ k = 18 ∨ k = 19 ∨ k = 20 ∨ k = 21 ∨ k = 22 ∨ k = 23 ∨ k = 24 ∨ k = 25 ∨ k = 26 ∨ k = 27 := by omega
  rcases hc with z | z | z | z | z | z | z | z | z | z | z | z | z | z | z | z | z | z | z | z | z | z | z | z | z | z | z | z
  · subst z; exact wo_1 hK
  · subst z
    rcases ha rfl with z | z
    · subst z; exact wo_2 hK
    · subst z; exact wo_3 hK
  · subst z; exact wo_4 hK
  · subst z; exact wo_5 hK
  · subst z; exact wo_6 hK
  · subst z; exact wo_7 hK
  · subst z; exact wo_22 hK
  · subst z; exact wo_23 hK
  · subst z; exact wo_24 hK
  · subst z; exact wo_25 hK
  · subst z; exact wo_26 hK
  · subst z; exact wo_27 hK
  · subst z; exact wo_28 hK
  · subst z; exact wo_29 hK
  · subst z; exact wo_30 hK
  · subst z; exact wo_31 hK
  · subst z; exact wo_32 hK
  · subst z; exact wo_40 hK
  · subst z; exact wo_41 hK
  · subst z; exact wo_42 hK
  · subst z; exact wo_43 hK
  · subst z; exact wo_44 hK
  · subst z; exact wo_45 hK
  · subst z; exact wo_46 hK
  · subst z; exact wo_47 hK
  · subst z; exact wo_48 hK
  · subst z; exact wo_49 hK
  · subst z; exact wo_50 hK
end WORDOF
