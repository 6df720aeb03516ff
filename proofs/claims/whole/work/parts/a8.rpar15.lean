/-! the reference reads a text -/
section RPAR15
variable {g : im_g} {d : Nat} {e : im_E} {M M0 : im_M} {K : im_K} {lo kp pk nt : Int} {t : Int → Int}
theorem stq_c {ty nm v c : Int} {S : pS} (h1 : -2 ≤ ty) (h : stq lo ty nm v S = .inl c) : c ≠ 0 := by
  unfold stq at h
  by_cases c1 : ty < 0
  · rw [if_pos c1] at h; cases h; omega
  · rw [if_neg c1] at h
    by_cases c2 : ty = 41
    · rw [if_pos c2] at h; cases h; decide
    · rw [if_neg c2] at h
      have := stp_c h; omega
theorem stq_r {ty nm v : Int} {S S' : pS} (h : stq lo ty nm v S = .inr S') : ty ≠ 41 ∧ stp lo ty nm v S = .inr S' := by
  unfold stq at h
  by_cases c1 : ty < 0
  · rw [if_pos c1] at h; cases h
  · rw [if_neg c1] at h
    by_cases c2 : ty = 41
    · rw [if_pos c2] at h; cases h
    · rw [if_neg c2] at h; exact ⟨c2, h⟩
theorem l_readText (hrt : rtx M0 t nt) (h8 : M0 6952 8 = 0 ∨ M0 6952 8 = 1) (h38 : M0 6952 38 = lo) (hlo4 : lo ≤ 4000) (hkp : 0 ≤ kp) (hkp2 : kp + 3 * nt + 302 ≤ 1100000) (hpk : 0 ≤ pk) (hpk2 : 2 * pk + nt < 40800) (hd : 7 ≤ d) :
    ∀ (f : Nat) (a : Int) (S : pS) (M : im_M), (nt - a).toNat + 2 ≤ f → 0 ≤ a → a ≤ nt → RQ lo S → RI M0 M lo kp pk a S → M 6952 14 = a → M 6952 19 = 0 →
      (∀ c p, prs t nt lo f a S = .inl (c, p) → c ≠ 0 → ∀ M', XR lo kp pk M0 M' → M' 6952 19 = c → M' 6952 20 = p → K (.inl none) e M') →
      (∀ S' a', prs t nt lo f a S = .inr (S', a') → ∀ M', S'.1 = [] → RQ lo S' → RI M0 M' lo kp pk a' S' → M' 6952 14 = a' → M' 6952 19 = 0 → 0 ≤ a' → a' ≤ nt → im_T g (d - 1) 306 0 [some (.ref 6952)] [] e M' (im_r0 (fun e_ M10 => e = e_ ∧ K (.inl none) e M10))) →
      im_T g d 273 33 [some (.ref 6952)] [] e M K := by
  intro f
  induction f with
  | zero => intro a S M hf; omega
  | succ f ih =>
    intro a S M hf ha0 han hQ hI h14 h19 hKf hKs
    obtain ⟨st, R, m, lw⟩ := S
    have hsR : stR M (rst R false st) := hI.2.2.2.2.1
    cases st with
    | nil =>
      have hpr : prs t nt lo (f + 1) a ([], R, m, lw) = .inr (([], R, m, lw), a) := by
        show (if _ then _ else _) = _
        rw [if_pos rfl]
      have h45 : M 6952 45 = 0 := hsR.1
      exact b_readText_33 (by omega) ⟨fun z => by omega, fun _ => ⟨fun z => absurd h19 z, fun _ => hKs _ a hpr M rfl hQ hI h14 h19 ha0 han⟩⟩
    | cons x r =>
      have hk := tk_ok (t := t) han
      generalize hp : (tk t nt a).1 = p at hk
      generalize hq : (tk t nt a).2.1 = q at hk
      generalize hty : (tk t nt a).2.2.1 = ty at hk
      generalize hnm : (tk t nt a).2.2.2.1 = nm at hk
      generalize hvv : (tk t nt a).2.2.2.2 = v at hk
      have hpr : prs t nt lo (f + 1) a (x :: r, R, m, lw) = (if ty < 0 then .inl (-ty, p) else if ty = 41 then .inl (3, p) else match stp lo ty nm v (x :: r, R, m, lw) with
          | .inl c => .inl (c, p)
          | .inr S' => prs t nt lo f q S') := by
        show (if _ then _ else _) = _
        rw [if_neg (List.cons_ne_nil _ _), hp, hq, hty, hnm, hvv]
        rfl
      have hty2 : -2 ≤ ty ∧ (ty ≠ 41 → p < q ∧ q ≤ nt) := by
        by_cases h41 : ty = 41
        · exact ⟨by omega, fun z => absurd h41 z⟩
        · obtain ⟨_, z2, z3, z4, _⟩ := tkn_q hk h41
          exact ⟨z4, fun _ => ⟨z2, z3⟩⟩
      have hpl : ∀ c, stq lo ty nm v (x :: r, R, m, lw) = .inl c → prs t nt lo (f + 1) a (x :: r, R, m, lw) = .inl (c, p) := fun c hc => by
        rw [hpr]
        unfold stq at hc
        by_cases c1 : ty < 0
        · rw [if_pos c1] at hc ⊢; cases hc; rfl
        · rw [if_neg c1] at hc ⊢
          by_cases c2 : ty = 41
          · rw [if_pos c2] at hc ⊢; cases hc; rfl
          · rw [if_neg c2] at hc ⊢; rw [hc]
      have hX : XR lo kp pk M0 M := hI.1.1
      have hrtM : rtx M t nt := by
        obtain ⟨c1, c2, c3, c4⟩ := hrt
        exact ⟨(hX.2.1 13 (by decide) (by decide) (by decide) (by decide) (by decide) (by decide)).trans c1, c2, c3, fun i i0 i1 => by rw [hX.1 6959 (by decide) (by decide) (by decide)]; exact c4 i i0 i1⟩
      have h45 : 0 < M 6952 45 := by
        rw [hsR.1]
        have : (rst R false (x :: r)).length ≠ 0 := fun z => by
          by_cases h104 : x.1 = 104
          · obtain ⟨y0, r', hr0, hy0, _⟩ := hQ.1.1.2.2.2.2.2.2.2.1 h104
            subst hr0
            have e1 : rst R false (x :: y0 :: r') = re R false x ++ (re R (decide (x.1 = 104)) y0 ++ rst R (decide (y0.1 = 104)) r') := rfl
            rw [e1, List.length_append, List.length_append] at z
            have : (re R (decide (x.1 = 104)) y0).length ≠ 0 := by
              unfold re
              rw [if_neg (by omega), if_neg (by omega), if_neg (by omega), if_neg (by omega), if_neg (by omega), if_neg (by omega), if_neg (by omega), if_pos hy0]
              exact Nat.succ_ne_zero _
            omega
          · have e1 : rst R false (x :: r) = re R false x ++ rst R (decide (x.1 = 104)) r := rfl
            rw [e1, List.length_append] at z
            have : (re R false x).length ≠ 0 := by
              unfold re
              rw [if_neg h104]
              (repeat' split) <;> exact Nat.succ_ne_zero _
            omega
        omega
      refine b_readText_33 (by omega) ⟨fun _ _ => ?_, fun z => by
        rcases z with z | z
        · omega
        · exact absurd h19 z.2⟩
      refine c_readNext hI hQ h14 h19 hrtM hk ha0 (by rw [hX.2.1 8 (by decide) (by decide) (by decide) (by decide) (by decide) (by decide)]; exact h8) (by rw [hX.2.1 38 (by decide) (by decide) (by decide) (by decide) (by decide) (by decide)]; exact h38) hlo4 hkp hkp2 hpk hpk2 (by omega) (fun c hc M' b1 b2 b3 => ⟨rfl, rfl, ?_⟩) (fun S' hS M' b1 b2 b3 => ⟨rfl, rfl, ?_⟩)
      · have hc0 := stq_c hty2.1 hc
        have hKK := hKf c p (hpl c hc) hc0 M' b1 b2 b3
        exact b_readText_33 (by omega) ⟨fun _ z => absurd (b2.symm.trans z) hc0, fun _ => ⟨fun _ => hKK, fun z => absurd (b2.symm.trans z) hc0⟩⟩
      · obtain ⟨h41, hst⟩ := stq_r hS
        have hpq := hty2.2 h41
        have hap := hk.1
        have hpr2 : prs t nt lo (f + 1) a (x :: r, R, m, lw) = prs t nt lo f q S' := by
          have hn : ¬ ty < 0 := fun z => by
            unfold stq at hS; rw [if_pos z] at hS; cases hS
          rw [hpr, if_neg hn, if_neg h41, hst]
        rw [hpr2] at hKf hKs
        exact ih q S' M' (by omega) (by omega) hpq.2 (RQ_stp hst hQ) b1 b3 b2 hKf hKs
end RPAR15
