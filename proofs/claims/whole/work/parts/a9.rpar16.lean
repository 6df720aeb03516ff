/-! the reference reads a text, whole -/
section RPAR16
variable {g : im_g} {d : Nat} {e : im_E} {M : im_M} {K : im_K} {lo kp pk nt w0 : Int} {t : Int → Int}
theorem RQ_bg (h0 : 0 ≤ lo) (h1 : lo ≤ 5000) : RQ lo (bgS lo w0) := by
  have hm : ∀ x ∈ (bgS lo w0).1, x.1 = 99 := fun x hx => by
    rcases List.mem_singleton.mp hx with rfl; rfl
  refine ⟨QS_bg h0 h1, ⟨u98_no _ (fun y hy => by have := hm y hy; omega), Or.inl ⟨[], rfl, fun y hy => (by cases hy), rfl⟩⟩, fun x hx h => ?_, fun x hx h => ?_, fun x hx h => ?_⟩
  · have := hm x hx; omega
  · have := hm x hx; omega
  · have := hm x hx; omega
/-- what a good text leaves -/
def RD (M M' : im_M) (lo kp pk nt : Int) (S : pS) : Prop := RQ lo S ∧ S.1 = [] ∧ lo < S.2.2.1 ∧ M' 6952 39 = S.2.2.1 ∧ (kp ≤ M' 6952 7 ∧ M' 6952 7 ≤ kp + 3 * nt) ∧ (pk ≤ M' 6952 37 ∧ 2 * (M' 6952 37 - pk) ≤ nt) ∧ M' 6952 40 = lo ∧ ∀ i, lo ≤ i → i < S.2.2.1 → rowR M' S.2.1 kp (M' 6952 7) pk (M' 6952 37) [] i
theorem c_readText (hrt : rtx M t nt) (h8 : M 6952 8 = 0 ∨ M 6952 8 = 1) (h38 : M 6952 38 = lo) (h6 : M 6952 6 = kp) (h36 : M 6952 36 = pk) (hlo0 : 0 ≤ lo) (hlo4 : lo ≤ 4000) (hkp : 0 ≤ kp) (hkp2 : kp + 3 * nt + 302 ≤ 1100000) (hpk : 0 ≤ pk) (hpk2 : 2 * pk + nt < 40800) (hd : 8 ≤ d)
    (hKf : ∀ c p, prsT t nt lo w0 = .inl (c, p) → c ≠ 0 → ∀ M', XR lo kp pk M M' → M' 6952 19 = c → M' 6952 20 = p → K (.inl none) e M')
    (hKs : ∀ S, prsT t nt lo w0 = .inr S → ∀ M', XR lo kp pk M M' → M' 6952 19 = 0 → M' 6952 20 = -1 → RD M M' lo kp pk nt S → K (.inl none) e M') :
    im_T g d 273 0 [some (.ref 6952)] [] e M K := by
  have hnt0 : 0 ≤ nt := hrt.2.1
  have hnt : nt ≤ 16384 := hrt.2.2.1
  refine b_readText_0 (by omega) (b_beginText_0 ⟨rfl, rfl, ?_⟩)
  generalize hM0 : im_u (im_u (im_u (im_u (im_u (im_u (im_u M 6952 14 0) 6952 19 0) 6952 20 (-1)) 6952 7 (M 6952 6)) 6952 39 (im_u (im_u (im_u (im_u M 6952 14 0) 6952 19 0) 6952 20 (-1)) 6952 7 (M 6952 6) 6952 38)) 6952 37 (im_u (im_u (im_u (im_u M 6952 14 0) 6952 19 0) 6952 20 (-1)) 6952 7 (M 6952 6) 6952 36)) 6952 45 0 = M0
  have m1 : ∀ x, x ≠ 6952 → M0 x = M x := fun x hx => by
    rw [← hM0, im_u_ne _ _ _ hx, im_u_ne _ _ _ hx, im_u_ne _ _ _ hx, im_u_ne _ _ _ hx, im_u_ne _ _ _ hx, im_u_ne _ _ _ hx, im_u_ne _ _ _ hx]
  have m2 : ∀ k, k ≠ 7 → (k < 14 ∨ 20 < k) → k ≠ 37 → k ≠ 39 → k ≠ 40 → k ≠ 45 → M0 6952 k = M 6952 k := fun k k1 k2 k3 k4 _ k6 => by
    rw [← hM0, im_rdk _ _ _ k6, im_rdk _ _ _ k3, im_rdk _ _ _ k4, im_rdk _ _ _ k1, im_rdk _ _ _ (by omega), im_rdk _ _ _ (by omega), im_rdk _ _ _ (by omega)]
  have v45 : M0 6952 45 = 0 := by rw [← hM0, im_rds]
  have v37 : M0 6952 37 = pk := by rw [← hM0, im_rdk _ _ _ (by decide), im_rds, im_rdk _ _ _ (by decide), im_rdk _ _ _ (by decide), im_rdk _ _ _ (by decide), im_rdk _ _ _ (by decide)]; exact h36
  have v39 : M0 6952 39 = lo := by rw [← hM0, im_rdk _ _ _ (by decide), im_rdk _ _ _ (by decide), im_rds, im_rdk _ _ _ (by decide), im_rdk _ _ _ (by decide), im_rdk _ _ _ (by decide), im_rdk _ _ _ (by decide)]; exact h38
  have v7 : M0 6952 7 = kp := by rw [← hM0, im_rdk _ _ _ (by decide), im_rdk _ _ _ (by decide), im_rdk _ _ _ (by decide), im_rds]; exact h6
  have v20 : M0 6952 20 = -1 := by rw [← hM0, im_rdk _ _ _ (by decide), im_rdk _ _ _ (by decide), im_rdk _ _ _ (by decide), im_rdk _ _ _ (by decide), im_rds]
  have v19 : M0 6952 19 = 0 := by rw [← hM0, im_rdk _ _ _ (by decide), im_rdk _ _ _ (by decide), im_rdk _ _ _ (by decide), im_rdk _ _ _ (by decide), im_rdk _ _ _ (by decide), im_rds]
  have v14 : M0 6952 14 = 0 := by rw [← hM0, im_rdk _ _ _ (by decide), im_rdk _ _ _ (by decide), im_rdk _ _ _ (by decide), im_rdk _ _ _ (by decide), im_rdk _ _ _ (by decide), im_rdk _ _ _ (by decide), im_rds]
  clear hM0
  have hX0 : XR lo kp pk M M0 := XR.fl m1 m2
  refine c_pushR (L := []) (1, -1, 0, 0) ⟨v45, trivial⟩ (by decide) (Or.inl rfl) rfl rfl (fun _ => rfl) (by decide) (by decide) (by decide) (by decide) (fun M1 hS hst => ⟨rfl, rfl, ?_⟩)
  have hrt0 : rtx M0 t nt := by
    obtain ⟨c1, c2, c3, c4⟩ := hrt
    exact ⟨(m2 13 (by decide) (by decide) (by decide) (by decide) (by decide) (by decide)).trans c1, c2, c3, fun i i0 i1 => by rw [m1 6959 (by decide)]; exact c4 i i0 i1⟩
  have hI : RI M0 M1 lo kp pk 0 (bgS lo w0) := by
    refine ⟨⟨XR.sr hS, hS.2 20 (by decide)⟩, (hS.2 39 (by decide)).trans v39, ?_, ?_, hst, Int.le_refl _, fun z => absurd z (Int.lt_irrefl _), fun i i0 i1 => ?_, fun x hx h => ?_, fun x r hx h => ?_⟩
    · rw [hS.2 7 (by decide), v7]; constructor <;> omega
    · rw [hS.2 37 (by decide), v37]
      refine ⟨Int.le_refl _, ?_⟩
      show 2 * (pk - pk) + (if (99 : Int) = 104 then 1 else 0) ≤ 0
      rw [if_neg (by decide)]; omega
    · have i1 : i < lo := i1
      omega
    · rcases List.mem_singleton.mp hx with rfl
      exact absurd (show (99 : Int) = 98 from h) (by decide)
    · cases hx
      exact absurd (show (99 : Int) = 104 from h) (by decide)
  refine l_readText (M0 := M0) (t := t) hrt0 (by rw [m2 8 (by decide) (by decide) (by decide) (by decide) (by decide) (by decide)]; exact h8) ((m2 38 (by decide) (by decide) (by decide) (by decide) (by decide) (by decide)).trans h38) hlo4 hkp hkp2 hpk hpk2 (by omega) (nt.toNat + 2) 0 (bgS lo w0) M1 (by omega) (by omega) hnt0 (RQ_bg hlo0 (by omega)) hI ((hS.2 14 (by decide)).trans v14) ((hS.2 19 (by decide)).trans v19) (fun c p hp hc M' x1 x2 x3 => ?_) (fun S a hp M' hS1 hQ hI' h14 h19 ha0 han => ?_)
  · exact hKf c p (by unfold prsT; rw [hp]) hc M' (hX0.trans x1) x2 x3
  · have hk := tk_ok (t := t) han
    have hpr : prsT t nt lo w0 = (if (tk t nt a).2.2.1 < 0 then .inl (-(tk t nt a).2.2.1, (tk t nt a).1) else if (tk t nt a).2.2.1 = 41 then .inr S else .inl (9, (tk t nt a).1)) := by unfold prsT; rw [hp]
    generalize hpp : (tk t nt a).1 = p at hk hpr
    generalize hqq : (tk t nt a).2.1 = q at hk hpr
    generalize hty : (tk t nt a).2.2.1 = ty at hk hpr
    generalize hnm : (tk t nt a).2.2.2.1 = nm at hk hpr
    generalize hvv : (tk t nt a).2.2.2.2 = v at hk hpr
    have hty2 : -2 ≤ ty ∧ ty ≤ 41 := by
      by_cases h41 : ty = 41
      · omega
      · obtain ⟨_, _, _, z4, z5, _⟩ := tkn_q hk h41
        omega
    obtain ⟨a1, a2, a3, a4, a5, a6, a7, a8, _⟩ := hI'
    have hX1 : XR lo kp pk M M' := hX0.trans a1.1
    have hrtM : rtx M' t nt := by
      obtain ⟨c1, c2, c3, c4⟩ := hrt
      exact ⟨(hX1.2.1 13 (by decide) (by decide) (by decide) (by decide) (by decide) (by decide)).trans c1, c2, c3, fun i i0 i1 => by rw [hX1.1 6959 (by decide) (by decide) (by decide)]; exact c4 i i0 i1⟩
    have hlm : lo < S.2.2.1 := by
      rcases hQ.2.1.2 with ⟨r, hr, _⟩ | hr
      · rw [hS1] at hr; cases hr
      · exact hr.1
    refine b_endText_0 (by omega) (c_look hrtM h14 ha0 hk (by omega) (fun M2 hl => ⟨rfl, rfl, ?_⟩))
    obtain ⟨l1, l2, l3, l4, l5, l6, l7⟩ := hl
    have hX2 : XR lo kp pk M M2 := hX1.trans (XR.fl l1 (fun k _ k2 _ _ _ _ => l2 k (by omega)))
    have w19 : M2 6952 19 = 0 := (l2 19 (by decide)).trans h19
    obtain ⟨r1, r2, r3, _⟩ := rk_vals ty
    rw [w19, l4]
    refine ⟨fun x hx => ?_, fun hx => ?_⟩
    · have hx2 : ty ≠ 41 ∧ ((ty = -1 ∧ x = 1) ∨ (ty = -2 ∧ x = 2) ∨ (0 ≤ ty ∧ x = 9)) := by omega
      have hpx : prsT t nt lo w0 = .inl (x, p) := by
        rw [hpr]
        rcases hx2.2 with ⟨z1, z2⟩ | ⟨z1, z2⟩ | ⟨z1, z2⟩
        · rw [z1, z2]; rfl
        · rw [z1, z2]; rfl
        · rw [if_neg (by omega), if_neg hx2.1, z2]
      refine c_failR w19 l5 (by constructor <;> omega) (fun M3 b1 b2 b3 b4 => ⟨rfl, rfl, rfl, rfl, ?_⟩)
      exact hKf x p hpx (by omega) M3 (hX2.trans (XR.fl b1 (fun k _ k2 _ _ _ _ => b2 k (by omega) (by omega)))) b3 b4
    · have h41 : ty = 41 := by omega
      rw [if_neg (by omega), if_pos h41] at hpr
      have f7 := l2 7 (by decide)
      have f37 := l2 37 (by decide)
      refine ⟨rfl, rfl, hKs S hpr M2 hX2 w19 ((l2 20 (by decide)).trans (a1.2.trans v20)) ⟨hQ, hS1, hlm, (l2 39 (by decide)).trans a2, by rw [f7]; omega, ?_, (l2 40 (by decide)).trans (a7 hlm), fun i i0 i1 => ?_⟩⟩
      · rw [f37]
        have := a4.2
        rw [hS1] at this
        have e0 : h104 [] = 0 := rfl
        rw [e0] at this
        omega
      · have hr := a8 i i0 i1
        rw [hS1] at hr
        rw [f7, f37]
        exact rowR_congr hr (fun y b c => by rw [l1 y (by omega)]) (fun j _ => by rw [l1 6955 (by decide)]) (fun y j b _ => by rw [l1 y (by omega)]) (fun _ => rfl) (Int.le_refl _) (Int.le_refl _) (fun _ _ z => z)
end RPAR16
