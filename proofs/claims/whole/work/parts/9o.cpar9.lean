section CPAR9
variable {g : im_g} {d : Nat} {e : im_E} {M M0 : im_M} {K : im_K} {lo dg ty nm v : Int} {x : en} {r : List en} {R : Rw} {m lw : Int} {L : Nat}
theorem c_meetCase (h : MH M0 M lo dg ty nm v x r R m lw L) (hw2 : w2 R lo m) (hx : x.1 = 107) (hd : 7 ≤ d) (hKf : KF e K M0 M lo dg ty nm v (x :: r, R, m, lw)) (hKs : KS e K M0 M lo dg ty nm v (x :: r, R, m, lw) L) : im_T g d 61 0 [some (.ref 23), some (vI x.2.1)] [] e M K := by
  have hl := h.len
  obtain ⟨o1, o2, o3, o4, o5⟩ := h.ow (by omega) (by omega)
  obtain ⟨hI, hw, h29, h98, h13, h10, hdg, hrm, h4, hty, hnm, hv⟩ := id h
  obtain ⟨p1, p2, p3, p4, p5, p6, p7⟩ := id hI
  dsimp only at p2
  obtain ⟨w1, w2', w3, w4, _, w7, w8, w9⟩ := id hw
  dsimp only at w2' w3 w4 w7 w8
  have h23 : M 23 4 = ((cmp (x :: r)).length : Int) := p4.1
  have hst : stp lo ty nm v (x :: r, R, m, lw) = stpK lo ty x r R m lw := by rw [stp_cons, if_neg (by omega), if_pos hx]
  have hrow : rowC M R (dg + M 23 5) x.2.1 := p5 x.2.1 o1 o2
  have hk := o3.1 hx
  have hr18 : M 18 x.2.1 = R 3 x.2.1 := hrow.2.2.2.2.2.2.1 (Or.inr hk)
  have hd1 := w8 x.2.1 o1 o2
  have hd2 := hw2 x.2.1 o1 o2
  refine im_rng (j := x.2.1) sf_18 (by omega) (by show x.2.1 < 5000; omega) (fun hrg => ?_)
  have hrg : im_i32 (M 18 x.2.1) := hrg
  have hrg1 := hrg.1
  refine k_Parser_meetCase_0 (by omega) ?_
  rw [h4]
  refine ⟨fun n40 => ⟨fun e31 => ?_, fun n31 => hKf 4 (by rw [hst]; unfold stpK; rw [if_neg n40, if_pos n31]) M p1 rfl⟩, fun e40 => ⟨by constructor <;> omega, ?_⟩⟩
  · refine c_tooMuch (R := R) (lo := lo) (m := m) (Or.inr ⟨by omega, by omega, hrow.2.1, hd1.1, hd1.2⟩) h13 p2 w1 w2' w4 (by omega) (fun hm => ⟨_, rfl, rfl, by decide, fun z => absurd z (by decide), fun _ => hKf 7 (by rw [hst]; unfold stpK; rw [if_neg n40, if_neg (fun z => z e31), if_pos hm]) M p1 rfl⟩) (fun hm => ⟨_, rfl, rfl, by decide, fun _ => ⟨by constructor <;> omega, ?_⟩, fun z => absurd rfl z⟩)
    rw [hr18]
    refine ⟨fun h8 => ⟨by constructor <;> omega, ?_⟩, fun h8 => hKf 8 (by rw [hst]; unfold stpK; rw [if_neg n40, if_neg (fun z => z e31), if_neg hm, if_pos h8]) M p1 rfl⟩
    have hm5 : m < 5000 := by
      apply Decidable.byContradiction
      intro z
      exact hm (Or.inr (Or.inr (by omega)))
    have hstK : stp lo ty nm v (x :: r, R, m, lw) = .inr ((97, m, 0, 1) :: x :: r, caseR R m x.2.1, m + 1, lw) := by
      rw [hst]; unfold stpK; rw [if_neg n40, if_neg (fun z => z e31), if_neg hm, if_neg (by omega)]
    have hu : ∀ y, y ≠ 18 → im_u M 18 x.2.1 (R 3 x.2.1 + 1) y = M y := fun y hy => im_u_ne _ _ _ hy
    have hwo : whenOf R x.2.1 = R 2 x.2.1 := by unfold whenOf; rw [if_neg (by omega)]
    have hdo : deepOf R x.2.1 = R 1 x.2.1 + 1 := by unfold deepOf; rw [if_neg (by omega)]
    refine c_addNode (lo := lo) (R := R) (m := m) (Or.inr ⟨o1, o2, by rw [hu 16 (by decide)]; exact hrow.2.1, by rw [hu 17 (by decide)]; exact hrow.2.2.1, hd1.1, hd1.2⟩) (by rw [hu 13 (by decide)]; exact h13) (by rw [hu 23 (by decide)]; exact p2) w1 w2' hm5 (by decide) (by omega) (by omega) (fun M2 ha => ⟨_, rfl, rfl, ?_⟩)
    have hF2 : FR lo dg M0 M2 := (p1.r (by decide) (by decide) o1 _).an ha w2'
    obtain ⟨a1, a2, a3, a7, a14, a16, a17, a18, a19, a20, a21⟩ := ha
    have hM25 : M2 23 5 = M 23 5 := (a3 5 (by decide)).trans (by rw [hu 23 (by decide)])
    have hs2 : stC M2 (cmp (x :: r)) := ⟨(a3 4 (by decide)).trans (by rw [hu 23 (by decide)]; exact p4.1), stk_congr _ p4.2 (fun i _ _ => ⟨by rw [a1 24 (by decide) (by decide) (by decide), hu 24 (by decide)], by rw [a1 25 (by decide) (by decide) (by decide), hu 25 (by decide)]⟩)⟩
    have hold : ∀ (y : Nat) (i : Int), 14 ≤ y → y ≤ 21 → i < m → (y ≠ 18 ∨ i ≠ x.2.1) → M2 y i = M y i := fun y i y1 y2 i1 hh => by
      rw [a2 y i y1 y2 (by omega)]
      by_cases hy : y = 18
      · subst hy; rw [im_rdk _ _ _ (by omega)]
      · rw [hu y hy]
    have h18o : M2 18 x.2.1 = R 3 x.2.1 + 1 := by rw [a2 18 _ (by decide) (by decide) (by omega), im_rds]
    refine c_pushShape (k := 31) hs2 (by omega) (by omega) hm5 a14 (by decide) (by decide) (by omega) (fun M3 hF3 hs3 => ⟨rfl, rfl, hKs _ hstK M3 ?_ (fun k => ?_) ?_⟩)
    · have e5 : M3 23 5 = M 23 5 := (hF3.2 5 (by decide)).trans hM25
      have hsame : ∀ y, y ≠ 23 → y ≠ 24 → y ≠ 25 → M3 y = M2 y := hF3.1
      refine PI_mk (hF2.trans (FR.sf hF3)) ?_ (by rw [e5]; exact p3) ?_ (fun i i0 i1 => ?_) ?_ ⟨fun z => absurd (show (97 : Int) = 98 from z) (by decide), fun z => absurd (show (97 : Int) = 104 from z) (by decide)⟩
      · rw [hF3.2 7 (by decide), a7, hu 23 (by decide), p2]; omega
      · have := cmp_shE 31 m (x :: r)
        have h31 : shE 31 m = [(97, m, 0, 1)] := rfl
        rw [h31] at this
        rw [show ((97, m, 0, 1) : en) :: x :: r = [((97, m, 0, 1) : en)] ++ x :: r from rfl, this]
        exact hs3
      · rw [e5]
        by_cases hi : i = m
        · subst hi
          have hcm : ∀ f : Nat, f < 16 → caseR R i x.2.1 f i = newN (im_u R 3 x.2.1 (R 3 x.2.1 + 1)) i 31 x.2.1 f i := fun f hf => caseR_m f (by omega) (Or.inl hf)
          have e0 : caseR R i x.2.1 0 i = 31 := by rw [hcm 0 (by decide), newN_0]
          unfold rowC
          rw [e0, hsame 14 (by decide) (by decide) (by decide), hsame 16 (by decide) (by decide) (by decide), hsame 17 (by decide) (by decide) (by decide), hsame 18 (by decide) (by decide) (by decide), hsame 19 (by decide) (by decide) (by decide), hsame 20 (by decide) (by decide) (by decide), hsame 21 (by decide) (by decide) (by decide), a14, a16, a17, a19, a20, a21]
          refine ⟨rfl, ?_, ?_, ?_, ?_, ?_, fun z => by omega, fun z => by omega, fun z => by omega⟩
          · rw [hcm 1 (by decide), newN_1]; unfold deepOf; rw [if_neg (by omega), if_neg (by omega), im_rdn _ _ _ _ (by decide)]
          · have hw9 : whenOf (im_u R 3 x.2.1 (R 3 x.2.1 + 1)) x.2.1 = R 2 x.2.1 := by unfold whenOf; rw [if_neg (by omega), im_rdn _ _ _ _ (by decide)]
            rw [hcm 2 (by decide), newN_2, hw9, hwo]
          · rw [hcm 4 (by decide), newN_4]
          · rw [hcm 5 (by decide), newN_5]
          · rw [hcm 6 (by decide), newN_6]
        · by_cases hio : i = x.2.1
          · subst hio
            have hc0 : ∀ f : Nat, f < 16 → f ≠ 3 → caseR R m x.2.1 f x.2.1 = R f x.2.1 := fun f hf hf3 => caseR_ne f _ hi (by omega)
            have hc3 : caseR R m x.2.1 3 x.2.1 = R 3 x.2.1 + 1 := by
              unfold caseR
              rw [im_rdn _ _ _ _ (by decide)]
              split
              · rw [im_rdn _ _ _ _ (by decide), newN_ne 3 hi, im_rds]
              · rw [im_rdn _ _ _ _ (by decide), newN_ne 3 hi, im_rds]
            obtain ⟨b1, b2, b3, b4, b5, b6, b7, b8, b9⟩ := hrow
            have hm2 : ∀ (y : Nat), 14 ≤ y → y ≤ 21 → y ≠ 18 → M3 y x.2.1 = M y x.2.1 := fun y y1 y2 y3 => by rw [hsame y (by omega) (by omega) (by omega)]; exact hold y _ y1 y2 o2 (Or.inl y3)
            unfold rowC
            rw [hc0 0 (by decide) (by decide), hc0 1 (by decide) (by decide), hc0 2 (by decide) (by decide), hc3, hc0 4 (by decide) (by decide), hc0 5 (by decide) (by decide), hc0 6 (by decide) (by decide), hm2 14 (by decide) (by decide) (by decide), hm2 16 (by decide) (by decide) (by decide), hm2 17 (by decide) (by decide) (by decide), hm2 19 (by decide) (by decide) (by decide), hm2 20 (by decide) (by decide) (by decide), hm2 21 (by decide) (by decide) (by decide), hsame 18 (by decide) (by decide) (by decide), h18o]
            refine ⟨b1, b2, b3, b4, b5, b6, fun _ => rfl, fun z => ?_, fun z => ?_⟩
            · rw [hk] at z; exact absurd z (by decide)
            · rw [hk] at z; exact absurd z (by decide)
          · refine rowC_congr (p5 i i0 (by show i < m; omega)) (fun y y1 y2 => ?_) (fun j hj => ?_) (fun f hf => ?_) (Int.le_refl _) (fun z => (h29 i i0 (by omega) z).2)
            · rw [hsame y (by omega) (by omega) (by omega)]; exact hold y i y1 y2 (by omega) (Or.inr hio)
            · rw [hsame 22 (by decide) (by decide) (by decide), a1 22 (by decide) (by decide) (by decide), hu 22 (by decide)]
            · show caseR R m x.2.1 f i = R f i
              by_cases hf3 : f = 3
              · subst hf3
                unfold caseR
                rw [im_rdn _ _ _ _ (by decide)]
                split
                · rw [im_rdn _ _ _ _ (by decide), newN_ne 3 hi, im_rdk _ _ _ hio]
                · rw [im_rdn _ _ _ _ (by decide), newN_ne 3 hi, im_rdk _ _ _ hio]
              · exact caseR_ne f i hi (by omega)
      · exact cn_congr p6 (by rw [hsame 26 (by decide) (by decide) (by decide), a1 26 (by decide) (by decide) (by decide), hu 26 (by decide)]) (by rw [hsame 27 (by decide) (by decide) (by decide), a1 27 (by decide) (by decide) (by decide), hu 27 (by decide)])
    · rw [hF3.1 2 (by decide) (by decide) (by decide), a1 2 (by decide) (by decide) (by decide), hu 2 (by decide)]
    · rw [hF3.2 5 (by decide), hM25]; split <;> omega
  · have p4' : stC M (cmp (x :: r)) := p4
    rw [cmp_ne (by omega)] at p4'
    have e5 : im_u M 23 4 (M 23 4 - 1) 23 5 = M 23 5 := im_rdk _ _ _ (by decide)
    refine hKs _ (by rw [hst]; unfold stpK; rw [if_pos e40]) _ (PI_mk (p1.p (Or.inl rfl) _) ((im_rdk _ _ _ (by decide)).trans p2) (by rw [e5]; exact p3) (stC_pop p4') (fun i i0 i1 => ?_) (cn_congr p6 (im_u_ne _ _ _ (by decide)) (im_u_ne _ _ _ (by decide))) (h.top0 (by omega) (by omega) _ _ _ _ (fun _ _ _ => rfl))) (fun k => im_rdn _ _ _ _ (by decide)) (by rw [e5]; split <;> omega)
    rw [e5]
    exact rowC_congr (p5 i i0 i1) (fun y _ _ => im_rdn _ _ _ _ (by omega)) (fun _ _ => im_rdn _ _ _ _ (by decide)) (fun _ _ => rfl) (Int.le_refl _) (fun z => (h29 i i0 i1 z).2)
end CPAR9
