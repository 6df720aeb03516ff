/-- what stands when a token is met -/
def MH (M0 M : im_M) (lo dg ty nm v : Int) (x : en) (r : List en) (R : Rw) (m lw : Int) (L : Nat) : Prop := PI M0 M lo dg (x :: r, R, m, lw) ∧ wfS lo (x :: r, R, m, lw) ∧ c29 R lo m ∧ t98 (x :: r, R, m, lw) ∧ M 13 8 = lo ∧ M 13 10 = dg ∧ 0 ≤ dg ∧ dg + M 23 5 + 34 < 32836 ∧ M 2 4 = ty ∧ (0 ≤ ty ∧ ty ≤ 40) ∧ (ty = 35 ∨ ty = 36 → M 2 6 = nm) ∧ (ty = 34 → cn M 5 v ∧ -(10 ^ L) < v ∧ v < 10 ^ L)
def KF (e : im_E) (K : im_K) (M0 M : im_M) (lo dg ty nm v : Int) (S : pS) : Prop := ∀ c, stp lo ty nm v S = .inl c → ∀ M', FR lo dg M0 M' → M' 2 5 = M 2 5 → K (.inl (some (vI c))) e M'
def KS (e : im_E) (K : im_K) (M0 M : im_M) (lo dg ty nm v : Int) (S : pS) (L : Nat) : Prop := ∀ S', stp lo ty nm v S = .inr S' → ∀ M', PI M0 M' lo dg S' → (∀ k, M' 2 k = M 2 k) → M' 23 5 ≤ M 23 5 + (if ty = 34 then 1 + (L : Int) else 0) → K (.inl (some (vI 0))) e M'
section CPAR3
variable {g : im_g} {d : Nat} {e : im_E} {M M0 : im_M} {K : im_K} {lo dg ty nm v : Int} {x : en} {r : List en} {R : Rw} {m lw : Int} {L : Nat}
theorem MH.len (h : MH M0 M lo dg ty nm v x r R m lw L) : (cmp (x :: r)).length ≤ 821 := by
  obtain ⟨_, ⟨_, _, _, _, ⟨c, h5, h6⟩, _⟩, _⟩ := h
  have h7 : chn R 407 (x :: r) := chn_mono _ h6 h5
  have := (chn_len (x :: r) h7 (by decide)).1
  omega
theorem MH.top0 (h : MH M0 M lo dg ty nm v x r R m lw L) (h1 : x.1 ≠ 98) (h2 : x.1 ≠ 104) (M' : im_M) (R' : Rw) (E lw' : Int) (h6 : ∀ y ∈ r, y.1 = 98 → R' 6 y.2.1 = R 6 y.2.1) : topC M' R' E lw' r := by
  obtain ⟨_, hw, _, h98, _⟩ := h
  cases r with
  | nil => trivial
  | cons y r =>
    refine ⟨fun z z2 => ?_, fun z => absurd z (hw.2.2.2.2.2.2.2.2 y List.mem_cons_self)⟩
    exfalso
    rw [h6 y List.mem_cons_self z] at z2
    rcases h98 y (List.mem_cons_of_mem _ List.mem_cons_self) z with w | ⟨x', r', w, w2, _⟩
    · dsimp only at w; omega
    · cases w; omega
theorem MH.ow (h : MH M0 M lo dg ty nm v x r R m lw L) (h41 : x.1 ≠ 41) (h99 : ¬ (x.1 = 99 ∨ x.1 = 118 ∨ x.1 = 111)) : lo ≤ x.2.1 ∧ x.2.1 < m ∧ sgk R x ∧ 0 ≤ lo ∧ m ≤ 5000 := by
  obtain ⟨_, hw, _⟩ := h
  obtain ⟨_, _, z⟩ := hw.2.2.2.2.2.1 x List.mem_cons_self h41
  rcases z with ⟨z, _⟩ | ⟨z1, z2, z3⟩
  · omega
  · exact ⟨z1, z2, z3, hw.1, hw.2.2.2.1⟩
theorem c_meetLeft (h : MH M0 M lo dg ty nm v x r R m lw L) (hx : x.1 = 91) (hKf : KF e K M0 M lo dg ty nm v (x :: r, R, m, lw)) (hKs : KS e K M0 M lo dg ty nm v (x :: r, R, m, lw) L) : im_T g d 72 0 [some (.ref 23)] [] e M K := by
  have hl := h.len
  have hO := h.ow (by omega) (by omega)
  have ht := h.top0 (by omega) (by omega) M R (dg + M 23 5) lw (fun _ _ _ => rfl)
  obtain ⟨hI, hw, h29, h98, h13, h10, hdg, hrm, h4, hty, hnm, hv⟩ := id h
  have hst : stp lo ty nm v (x :: r, R, m, lw) = (if ty = 39 then .inr (r, R, m, lw) else .inl 4) := by
    rw [stp_cons, if_neg (by omega), if_neg (by omega), if_neg (by omega), if_neg (by omega), if_neg (by omega), if_neg (by omega), if_neg (by omega), if_neg (by omega), if_pos hx]
  obtain ⟨p1, p2, p3, p4, p5, p6, p7⟩ := id hI
  have h23 : M 23 4 = ((cmp (x :: r)).length : Int) := p4.1
  refine k_Parser_meetLeft_0 ?_
  rw [h4]
  refine ⟨fun z => ⟨by constructor <;> omega, hKs (r, R, m, lw) (by rw [hst, if_pos z]) _ ?_ (fun k => im_rdn _ _ _ _ (by decide)) ?_⟩, fun z => hKf 4 (by rw [hst, if_neg z]) M p1 rfl⟩
  · rw [cmp_ne (by omega)] at p4
    have e5 : im_u M 23 4 (M 23 4 - 1) 23 5 = M 23 5 := im_rdk _ _ _ (by decide)
    refine ⟨p1.p (Or.inl rfl) _, (im_rdk _ _ _ (by decide)).trans p2, by rw [e5]; exact p3, stC_pop p4, fun i i0 i1 => ?_, cn_congr p6 (im_u_ne _ _ _ (by decide)) (im_u_ne _ _ _ (by decide)), ?_⟩
    · rw [e5]
      exact rowC_congr (p5 i i0 i1) (fun y _ _ => im_rdn _ _ _ _ (by omega)) (fun _ _ => im_rdn _ _ _ _ (by decide)) (fun _ _ => rfl) (Int.le_refl _) (fun z => (h29 i i0 i1 z).2)
    · exact h.top0 (by omega) (by omega) _ _ _ _ (fun _ _ _ => rfl)
  · rw [im_rdk _ _ _ (by decide)]; split <;> omega
theorem c_meetShut {c : Int} (h : MH M0 M lo dg ty nm v x r R m lw L) (hx : x.1 = 41) (hKf : KF e K M0 M lo dg ty nm v (x :: r, R, m, lw)) (hKs : KS e K M0 M lo dg ty nm v (x :: r, R, m, lw) L) : im_T g d 70 0 [some (.ref 23)] [] e M K := by
  have hl := h.len
  obtain ⟨hI, hw, h29, h98, h13, h10, hdg, hrm, h4, hty, hnm, hv⟩ := id h
  have hst : stp lo ty nm v (x :: r, R, m, lw) = (if ty = 38 then .inr (r, R, m, lw) else .inl 4) := by
    rw [stp_cons, if_neg (by omega), if_neg (by omega), if_neg (by omega), if_neg (by omega), if_neg (by omega), if_neg (by omega), if_pos hx]
  obtain ⟨p1, p2, p3, p4, p5, p6, p7⟩ := id hI
  have hcm : cmp (x :: r) = (match cmp r with
      | [] => [(41, 1)]
      | y :: r' => if y.1 = 41 then (41, y.2 + 1) :: r' else (41, 1) :: y :: r') := by
    exact if_pos hx
  have h23 : M 23 4 = ((cmp (x :: r)).length : Int) := p4.1
  -- what the stack is in both cases
  have key : (∃ c r', cmp (x :: r) = (41, c) :: r' ∧ ((c = 1 ∧ r' = cmp r) ∨ (2 ≤ c ∧ cmp r = (41, c - 1) :: r'))) := by
    rw [hcm]
    cases hc : cmp r with
    | nil => exact ⟨1, [], rfl, Or.inl ⟨rfl, rfl⟩⟩
    | cons y r' =>
      dsimp only
      by_cases hy : y.1 = 41
      · rw [if_pos hy]
        have h1 := cmp_cnt r y (by rw [hc]; exact List.mem_cons_self) hy
        refine ⟨y.2 + 1, r', rfl, Or.inr ⟨by omega, ?_⟩⟩
        rw [show y.2 + 1 - 1 = y.2 from by omega, ← hy]
      · rw [if_neg hy]; exact ⟨1, y :: r', rfl, Or.inl ⟨rfl, rfl⟩⟩
  obtain ⟨c, r', k1, k2⟩ := key
  rw [k1] at p4 hl h23
  obtain ⟨q1, q2, q3, q4⟩ := id p4
  have hlen : (((41, c) :: r').length : Int) - 1 = (r'.length : Int) := by show ((r'.length + 1 : Nat) : Int) - 1 = _; omega
  have hi23 : M 23 4 - 1 = (r'.length : Int) := by rw [q1]; exact hlen
  have hl' : r'.length < 821 := by have : ((41, c) :: r').length = r'.length + 1 := rfl; omega
  refine im_rng (j := (r'.length : Int)) sf_25 (by omega) (by show (r'.length : Int) < 1024; omega) (fun hrg => ?_)
  have hrg : im_i32 (M 25 r'.length) := hrg
  rw [q3] at hrg
  refine k_Parser_meetShut_0 ?_
  rw [h4, hi23, q3]
  have hr1 := hrg.1
  have hr2 := hrg.2
  have hrest : ∀ M' : im_M, (∀ y, y ≠ 23 → y ≠ 25 → M' y = M y) → (∀ k, k ≠ 4 → M' 23 k = M 23 k) → FR lo dg M0 M' → stC M' (cmp r) → PI M0 M' lo dg (r, R, m, lw) := by
    intro M' g1 g2 g3 g4
    have e5 : M' 23 5 = M 23 5 := g2 5 (by decide)
    refine ⟨g3, (g2 7 (by decide)).trans p2, by rw [e5]; exact p3, g4, fun i i0 i1 => ?_, cn_congr p6 (g1 26 (by decide) (by decide)) (g1 27 (by decide) (by decide)), h.top0 (by omega) (by omega) _ _ _ _ (fun _ _ _ => rfl)⟩
    rw [e5]
    exact rowC_congr (p5 i i0 i1) (fun y _ _ => by rw [g1 y (by omega) (by omega)]) (fun _ _ => by rw [g1 22 (by decide) (by decide)]) (fun _ _ => rfl) (Int.le_refl _) (fun z => (h29 i i0 i1 z).2)
  have hfr25 : ∀ (M1 : im_M) (i w : Int), FR lo dg M0 M1 → FR lo dg M0 (im_u M1 25 i w) := fun M1 i w hh => ⟨fun y a b c d => (im_u_ne _ _ _ (by omega)).trans (hh.1 y a b c d), fun k a => (im_rdn _ _ _ _ (by decide)).trans (hh.2.1 k a), fun y j a b c => (im_rdn _ _ _ _ (by omega)).trans (hh.2.2.1 y j a b c), fun j a => (im_rdn _ _ _ _ (by decide)).trans (hh.2.2.2.1 j a), fun j a b c => (im_rdn _ _ _ _ (by decide)).trans (hh.2.2.2.2.1 j a b c), hh.2.2.2.2.2.e (im_u_ne _ _ _ (by decide)) (im_u_ne _ _ _ (by decide))⟩
  have hgo : ∀ (z : ty = 38) (M' : im_M), (∀ y, y ≠ 23 → y ≠ 25 → M' y = M y) → (∀ k, k ≠ 4 → M' 23 k = M 23 k) → FR lo dg M0 M' → stC M' (cmp r) → K (.inl (some (vI 0))) e M' := fun z M' g1 g2 g3 g4 =>
    hKs (r, R, m, lw) (by rw [hst, if_pos z]) M' (hrest M' g1 g2 g3 g4) (fun k => by rw [g1 2 (by decide) (by decide)]) (by rw [g2 5 (by decide)]; split <;> omega)
  refine ⟨fun z => ⟨by constructor <;> omega, by constructor <;> omega, fun hne => ?_, fun heq => ⟨by constructor <;> omega, ?_⟩⟩, fun z => hKf 4 (by rw [hst, if_neg z]) M p1 rfl⟩
  · obtain ⟨hc2, hcr⟩ : 2 ≤ c ∧ cmp r = (41, c - 1) :: r' := by
      rcases k2 with ⟨w, _⟩ | w
      · omega
      · exact w
    refine hgo z _ (fun y a b => im_u_ne _ _ _ b) (fun k a => im_rdn _ _ _ _ (by decide)) (hfr25 M _ _ p1) ?_
    rw [hcr]
    refine ⟨by rw [im_rdn _ _ _ _ (by decide)]; exact q1, ?_, ?_, stk_congr r' q4 (fun i i0 i1 => ⟨im_rdn _ _ _ _ (by decide), im_rdk _ _ _ (by omega)⟩)⟩
    · rw [im_rdn _ _ _ _ (by decide)]; exact q2
    · rw [im_rds]
  · obtain ⟨hc1, hcr⟩ : c = 1 ∧ r' = cmp r := by
      rcases k2 with w | ⟨w, _⟩
      · exact w
      · omega
    refine hgo z _ (fun y a b => by rw [im_u_ne _ _ _ a, im_u_ne _ _ _ b]) (fun k a => by rw [im_rdk _ _ _ a, im_rdn _ _ _ _ (by decide)]) ((hfr25 M _ _ p1).p (Or.inl rfl) _) ?_
    rw [← hcr]
    exact ⟨im_rds _ _ _ _, stk_congr r' q4 (fun i i0 i1 => ⟨by rw [im_rdn _ _ _ _ (by decide), im_rdn _ _ _ _ (by decide)], by rw [im_rdn _ _ _ _ (by decide), im_rdk _ _ _ (by omega)]⟩)⟩
/-- a name, a way, a time: the top goes and one row changes -/
theorem rowC_set {E i w : Int} {c f : Nat} {R' : Rw} (h : rowC M R E i) (hc : (c = 19 ∧ f = 4) ∨ (c = 20 ∧ f = 5) ∨ (c = 21 ∧ f = 6) ∨ (c = 18 ∧ f = 3)) (hk : R 0 i ≠ 34) (hk2 : R 0 i ≠ 29) (hR : R' = im_u R f i w) : rowC (im_u M c i w) R' E i := by
  obtain ⟨a1, a2, a3, a4, a5, a6, a7, a8, a9⟩ := h
  subst hR
  clear a8 a9
  rcases hc with ⟨rfl, rfl⟩ | ⟨rfl, rfl⟩ | ⟨rfl, rfl⟩ | ⟨rfl, rfl⟩
  · refine ⟨?_, ?_, ?_, ?_, ?_, ?_, fun z => ?_, fun z => absurd (by rw [im_rdn _ _ _ _ (by decide)] at z; exact z) hk, fun z => absurd (by rw [im_rdn _ _ _ _ (by decide)] at z; exact z) hk2⟩
    · rw [im_rdn _ _ _ _ (by decide), im_rdn _ _ _ _ (by decide)]; exact a1
    · rw [im_rdn _ _ _ _ (by decide), im_rdn _ _ _ _ (by decide)]; exact a2
    · rw [im_rdn _ _ _ _ (by decide), im_rdn _ _ _ _ (by decide)]; exact a3
    · rw [im_rds, im_rds]
    · rw [im_rdn _ _ _ _ (by decide), im_rdn _ _ _ _ (by decide)]; exact a5
    · rw [im_rdn _ _ _ _ (by decide), im_rdn _ _ _ _ (by decide)]; exact a6
    · rw [im_rdn _ _ _ _ (by decide)] at z; rw [im_rdn _ _ _ _ (by decide), im_rdn _ _ _ _ (by decide)]; exact a7 z
  · refine ⟨?_, ?_, ?_, ?_, ?_, ?_, fun z => ?_, fun z => absurd (by rw [im_rdn _ _ _ _ (by decide)] at z; exact z) hk, fun z => absurd (by rw [im_rdn _ _ _ _ (by decide)] at z; exact z) hk2⟩
    · rw [im_rdn _ _ _ _ (by decide), im_rdn _ _ _ _ (by decide)]; exact a1
    · rw [im_rdn _ _ _ _ (by decide), im_rdn _ _ _ _ (by decide)]; exact a2
    · rw [im_rdn _ _ _ _ (by decide), im_rdn _ _ _ _ (by decide)]; exact a3
    · rw [im_rdn _ _ _ _ (by decide), im_rdn _ _ _ _ (by decide)]; exact a4
    · rw [im_rds, im_rds]
    · rw [im_rdn _ _ _ _ (by decide), im_rdn _ _ _ _ (by decide)]; exact a6
    · rw [im_rdn _ _ _ _ (by decide)] at z; rw [im_rdn _ _ _ _ (by decide), im_rdn _ _ _ _ (by decide)]; exact a7 z
  · refine ⟨?_, ?_, ?_, ?_, ?_, ?_, fun z => ?_, fun z => absurd (by rw [im_rdn _ _ _ _ (by decide)] at z; exact z) hk, fun z => absurd (by rw [im_rdn _ _ _ _ (by decide)] at z; exact z) hk2⟩
    · rw [im_rdn _ _ _ _ (by decide), im_rdn _ _ _ _ (by decide)]; exact a1
    · rw [im_rdn _ _ _ _ (by decide), im_rdn _ _ _ _ (by decide)]; exact a2
    · rw [im_rdn _ _ _ _ (by decide), im_rdn _ _ _ _ (by decide)]; exact a3
    · rw [im_rdn _ _ _ _ (by decide), im_rdn _ _ _ _ (by decide)]; exact a4
    · rw [im_rdn _ _ _ _ (by decide), im_rdn _ _ _ _ (by decide)]; exact a5
    · rw [im_rds, im_rds]
    · rw [im_rdn _ _ _ _ (by decide)] at z; rw [im_rdn _ _ _ _ (by decide), im_rdn _ _ _ _ (by decide)]; exact a7 z
  · refine ⟨?_, ?_, ?_, ?_, ?_, ?_, fun z => ?_, fun z => absurd (by rw [im_rdn _ _ _ _ (by decide)] at z; exact z) hk, fun z => absurd (by rw [im_rdn _ _ _ _ (by decide)] at z; exact z) hk2⟩
    · rw [im_rdn _ _ _ _ (by decide), im_rdn _ _ _ _ (by decide)]; exact a1
    · rw [im_rdn _ _ _ _ (by decide), im_rdn _ _ _ _ (by decide)]; exact a2
    · rw [im_rdn _ _ _ _ (by decide), im_rdn _ _ _ _ (by decide)]; exact a3
    · rw [im_rdn _ _ _ _ (by decide), im_rdn _ _ _ _ (by decide)]; exact a4
    · rw [im_rdn _ _ _ _ (by decide), im_rdn _ _ _ _ (by decide)]; exact a5
    · rw [im_rdn _ _ _ _ (by decide), im_rdn _ _ _ _ (by decide)]; exact a6
    · rw [im_rds, im_rds]
end CPAR3
