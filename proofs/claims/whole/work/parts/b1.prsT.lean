/-! what a good text gives -/
theorem prs_inv {t : Int → Int} {n lo : Int} : ∀ (f : Nat) (a : Int) (S S' : pS) (a' : Int), prs t n lo f a S = .inr (S', a') → a ≤ n → RQ lo S → TI lo S → NI lo S → S'.1 = [] ∧ RQ lo S' ∧ TI lo S' ∧ NI lo S' := by
  intro f
  induction f with
  | zero => intro a S S' a' h; cases h
  | succ f ih =>
    intro a S S' a' h han hQ hT hN
    have h : (if S.1 = [] then .inr (S, a) else
      if (tk t n a).2.2.1 < 0 then .inl (-(tk t n a).2.2.1, (tk t n a).1)
      else if (tk t n a).2.2.1 = 41 then .inl (3, (tk t n a).1)
      else match stp lo (tk t n a).2.2.1 (tk t n a).2.2.2.1 (tk t n a).2.2.2.2 S with
        | .inl c => .inl (c, (tk t n a).1)
        | .inr S' => prs t n lo f (tk t n a).2.1 S' : Sum (Int × Int) (pS × Int)) = .inr (S', a') := h
    by_cases h0 : S.1 = []
    · rw [if_pos h0] at h
      cases h
      exact ⟨h0, hQ, hT, hN⟩
    rw [if_neg h0] at h
    by_cases h1 : (tk t n a).2.2.1 < 0
    · rw [if_pos h1] at h; cases h
    rw [if_neg h1] at h
    by_cases h2 : (tk t n a).2.2.1 = 41
    · rw [if_pos h2] at h; cases h
    rw [if_neg h2] at h
    have hk := tk_ok (t := t) han
    obtain ⟨k1, k2, k3, _⟩ := tkn_q hk h2
    obtain ⟨st, R, m, lw⟩ := S
    cases st with
    | nil => exact absurd rfl h0
    | cons x r =>
      generalize hs : stp lo (tk t n a).2.2.1 (tk t n a).2.2.2.1 (tk t n a).2.2.2.2 (x :: r, R, m, lw) = s at h
      cases s with
      | inl c => cases h
      | inr S1 =>
        exact ih _ S1 S' a' h k3 (RQ_stp hs hQ) (TI_stp hs hQ.1.1 hQ.2.1 hT) (NI_stp hs hQ.1.1 hQ.2.1 hQ.2.2.2.1 (fun z => by
          rcases z with z | z
          · exact (tkn_nm hk (Or.inl z)).1
          · exact (tkn_nm hk (Or.inr z)).1) hN)
theorem NI_bg (lo w0 : Int) : NI lo (bgS lo w0) := by
  refine ⟨fun i i0 i1 => ?_, fun z => absurd z (Int.lt_irrefl _)⟩
  have i1 : i < lo := i1
  omega
theorem prsT_inv {t : Int → Int} {n lo w0 : Int} {S : pS} (h : prsT t n lo w0 = .inr S) (hn : 0 ≤ n) (h0 : 0 ≤ lo) (h1 : lo ≤ 5000) : RQ lo S ∧ S.1 = [] ∧ NI lo S ∧ ∀ i, lo ≤ i → i < S.2.2.1 → TR S.2.1 S.2.2.1 i := by
  unfold prsT at h
  generalize hp : prs t n lo (n.toNat + 2) 0 (bgS lo w0) = y at h
  cases y with
  | inl f => cases h
  | inr p =>
    obtain ⟨S1, a⟩ := p
    have h : (if (tk t n a).2.2.1 < 0 then .inl (-(tk t n a).2.2.1, (tk t n a).1) else if (tk t n a).2.2.1 = 41 then .inr S1 else .inl (9, (tk t n a).1) : Sum (Int × Int) pS) = .inr S := h
    obtain ⟨a1, a2, a3, a4⟩ := prs_inv _ _ _ _ _ hp hn (RQ_bg h0 h1) (TI_bg lo w0) (NI_bg lo w0)
    have e : S1 = S := by
      by_cases c1 : (tk t n a).2.2.1 < 0
      · rw [if_pos c1] at h; cases h
      · rw [if_neg c1] at h
        by_cases c2 : (tk t n a).2.2.1 = 41
        · rw [if_pos c2] at h; cases h; rfl
        · rw [if_neg c2] at h; cases h
    subst e
    obtain ⟨st, R, m, lw⟩ := S1
    have a1 : st = [] := a1
    subst a1
    exact ⟨a2, rfl, a4, TI_end a3⟩
