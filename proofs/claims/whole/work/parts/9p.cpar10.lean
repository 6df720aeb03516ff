theorem im_rdk_any {R : Rw} {f a : Nat} {i j w : Int} (h : i ≠ j) : im_u R a j w f i = R f i := by
  by_cases ha : f = a
  · subst ha; exact im_rdk _ _ _ h
  · exact im_rdn _ _ _ _ ha
section CPAR10
variable {g : im_g} {d : Nat} {e : im_E} {M M0 : im_M} {K : im_K} {lo dg ty nm v : Int} {x : en} {r : List en} {R : Rw} {m lw : Int} {L : Nat}
theorem sf_27 {e : im_E} : (im_sh0 ++ e)[27]? = some (1, 34, []) := im_sh_of (pu_L (pu_L (pu_Rr (n := 0) (i := 27) rfl rfl rfl))) rfl
theorem im_num26 {e : im_E} : im_num e 26 := ⟨sf_26, sf_27⟩
theorem c_meetBound (h : MH M0 M lo dg ty nm v x r R m lw L) (hx : x.1 = 98) (hd : 3 ≤ d) (hKf : KF e K M0 M lo dg ty nm v (x :: r, R, m, lw)) (hKs : KS e K M0 M lo dg ty nm v (x :: r, R, m, lw) L) : im_T g d 65 0 [some (.ref 23), some (vI x.2.1)] [] e M K := by
  have hl := h.len
  obtain ⟨o1, o2, o3, o4, o5⟩ := h.ow (by omega) (by omega)
  obtain ⟨hI, hw, h29, h98, h13, h10, hdg, hrm, h4, hty, hnm, hv⟩ := id h
  obtain ⟨p1, p2, p3, p4, p5, p6, p7⟩ := id hI
  dsimp only at p2
  have h23 : M 23 4 = ((cmp (x :: r)).length : Int) := p4.1
  have hst : stp lo ty nm v (x :: r, R, m, lw) = (if ty = 40 ∧ 0 < R 6 x.2.1 then .inr (r, R, m, lw) else if ty ≠ 34 then .inl 4 else if 4 ≤ R 6 x.2.1 then .inl 8 else .inr ((104, x.2.1, 0, 3) :: x :: r, im_u R (8 + (R 6 x.2.1).toNat) x.2.1 v, m, v)) := by
    rw [stp_cons, if_neg (by omega), if_neg (by omega), if_neg (by omega), if_neg (by omega), if_pos hx]
  have hrow : rowC M R (dg + M 23 5) x.2.1 := p5 x.2.1 o1 o2
  have hk := o3.2.2.1 (Or.inl hx)
  have h21 : M 21 x.2.1 = R 6 x.2.1 := hrow.2.2.2.2.2.1
  have htop : 0 < R 6 x.2.1 → dsq M (M 18 x.2.1) (bl R x.2.1 (R 6 x.2.1).toNat) (dg + M 23 5) := p7.1 hx
  -- what stands behind the number's being stored and copied
  have hgo : ∀ (Ms : im_M), ty = 34 → R 6 x.2.1 < 4 → (∀ y, y ≠ 18 → Ms y = M y) → (∀ i, i ≠ x.2.1 → Ms 18 i = M 18 i) → FR lo dg M0 Ms → dsq Ms (Ms 18 x.2.1) (bl R x.2.1 (R 6 x.2.1).toNat) (dg + M 23 5) → im_T g (d - 1) 57 0 [some (.ref 23)] [] e Ms (im_r0 (fun e_ M19 => e = e_ ∧ im_T g (d - 1) 66 0 [some (.ref 26), some (.ref 5), none] [] e M19 (im_r0 (fun e_ M20 => e = e_ ∧ im_T g (d - 1) 39 0 [some (.ref 23), some (vI 104), some (vI x.2.1)] [] e M20 (im_r0 (fun e_ M21 => e = e_ ∧ K (.inl (some (vI 0))) e M21)))))) := by
    intro Ms e34 h4' g1 g2 g3 g4
    have hv34 := hv e34
    refine c_storeNumber (E := dg + M 23 5) (v := v) (by rw [g1 13 (by decide), g1 23 (by decide), h10]) (by rw [g1 13 (by decide), h10]; exact hdg) (by rw [g1 23 (by decide)]; exact p3) hrm (cn_congr hv34.1 (g1 5 (by decide)) (g1 6 (by decide))) (by omega) (fun M3 p' b1 b2 b3 b4 b5 => ⟨rfl, rfl, ?_⟩)
    have hpl := dgs_len b5 hv34.2
    have hpg : dg + M 23 5 < p' := by obtain ⟨k, _, _, q, _⟩ := b5; omega
    refine c_copy im_num26 im_num5 (by decide) (cn_congr hv34.1 (by rw [b1 5 (by decide) (by decide), g1 5 (by decide)]) (by rw [b1 6 (by decide) (by decide), g1 6 (by decide)])) (fun M4 hF4 hcn => ⟨rfl, rfl, ?_⟩)
    have hM4 : ∀ y, y ≠ 18 → y ≠ 22 → y ≠ 23 → y ≠ 26 → y ≠ 27 → M4 y = M y := fun y y1 y2 y3 y4 y5 => by rw [hF4 y y4 y5, b1 y y2 y3, g1 y y1]
    have h23k : ∀ k, k ≠ 5 → M4 23 k = M 23 k := fun k hk => by rw [hF4 23 (by decide) (by decide), b2 k hk, g1 23 (by decide)]
    have h418 : M4 18 = Ms 18 := by rw [hF4 18 (by decide) (by decide), b1 18 (by decide) (by decide)]
    have h422 : M4 22 = M3 22 := hF4 22 (by decide) (by decide)
    have hM45 : dg + M4 23 5 = p' := by rw [hF4 23 (by decide) (by decide), b3, g1 23 (by decide)]; omega
    have s4 : stC M4 (cmp (x :: r)) := ⟨(h23k 4 (by decide)).trans p4.1, stk_congr _ p4.2 (fun i _ _ => ⟨by rw [hM4 24 (by decide) (by decide) (by decide) (by decide) (by decide)], by rw [hM4 25 (by decide) (by decide) (by decide) (by decide) (by decide)]⟩)⟩
    have hF4' : FR lo dg M0 M4 := by
      refine ⟨fun y c1 c2 c3 c4 => ?_, fun k c1 => ?_, fun y i c1 c2 c3 => ?_, fun i c1 => ?_, fun k c1 c2 c3 => ?_, fun _ => ⟨_, hcn⟩⟩
      · rw [hF4 y (by omega) (by omega), b1 y (by omega) (by omega)]; exact g3.1 y c1 c2 c3 c4
      · rw [hF4 2 (by decide) (by decide), b1 2 (by decide) (by decide)]; exact g3.2.1 k c1
      · rw [hF4 y (by omega) (by omega), b1 y (by omega) (by omega)]; exact g3.2.2.1 y i c1 c2 c3
      · rw [h422, b4 i (by omega)]; exact g3.2.2.2.1 i c1
      · rw [hF4 23 (by decide) (by decide), b2 k c2]; exact g3.2.2.2.2.1 k c1 c2 c3
    refine c_push s4 (by omega) (by decide) (by constructor <;> omega) (fun M5 hF5 hs5 => ⟨rfl, rfl, ?_⟩)
    have hM5 : ∀ y, y ≠ 23 → y ≠ 24 → y ≠ 25 → M5 y = M4 y := hF5.1
    have hM55 : dg + M5 23 5 = p' := by rw [hF5.2 5 (by decide)]; exact hM45
    have h522 : ∀ i, i < dg + M 23 5 → M5 22 i = Ms 22 i := fun i hi => by rw [hM5 22 (by decide) (by decide) (by decide), h422, b4 i hi]
    have hbl : bl (im_u R (8 + (R 6 x.2.1).toNat) x.2.1 v) x.2.1 (R 6 x.2.1).toNat = bl R x.2.1 (R 6 x.2.1).toNat := bl_congr _ (by omega) (fun f f0 f1 => im_rdn _ _ _ _ (by omega)) (fun f f0 f1 => im_rdn _ _ _ _ (by omega))
    have hR6 : ∀ i, im_u R (8 + (R 6 x.2.1).toNat) x.2.1 v 6 i = R 6 i := fun i => im_rdn _ _ _ _ (by omega)
    have hdq : dsq M5 (M5 18 x.2.1) (bl R x.2.1 (R 6 x.2.1).toNat) (dg + M 23 5) := by
      rw [hM5 18 (by decide) (by decide) (by decide), h418]
      exact (dsq_congr _ g4 (fun i _ i1 => h522 i i1)).1
    have hdv : dgs M5 (dg + M 23 5) v p' := dgs_congr b5 (fun i _ _ => by rw [hM5 22 (by decide) (by decide) (by decide), h422])
    refine hKs _ (by rw [hst, if_neg (by omega), if_neg (by omega), if_neg (by omega)]) M5 (PI_mk (hF4'.trans (FR.sf hF5)) ?_ (by omega) ?_ (fun i i0 i1 => ?_) ?_ ?_) (fun k => ?_) ?_
    · rw [hF5.2 7 (by decide), h23k 7 (by decide)]; exact p2
    · rw [cmp_ne (x := ((104, x.2.1, 0, 3) : en)) (show (104 : Int) ≠ 41 by decide)]; exact hs5
    · rw [hM55]
      have hc : ∀ y : Nat, 14 ≤ y → y ≤ 21 → y ≠ 18 → M5 y i = M y i := fun y y1 y2 y3 => by rw [hM5 y (by omega) (by omega) (by omega), hM4 y y3 (by omega) (by omega) (by omega) (by omega)]
      by_cases hi : i = x.2.1
      · subst hi
        obtain ⟨a1, a2, a3, a4, a5, a6, a7, a8, a9⟩ := hrow
        have hR0 : ∀ f : Nat, f < 8 → im_u R (8 + (R 6 x.2.1).toNat) x.2.1 v f x.2.1 = R f x.2.1 := fun f hf => im_rdn _ _ _ _ (by omega)
        unfold rowC
        rw [hR0 0 (by decide), hR0 1 (by decide), hR0 2 (by decide), hR0 3 (by decide), hR0 4 (by decide), hR0 5 (by decide), hR0 6 (by decide), hR0 7 (by decide), hbl, hc 14 (by decide) (by decide) (by decide), hc 16 (by decide) (by decide) (by decide), hc 17 (by decide) (by decide) (by decide), hc 19 (by decide) (by decide) (by decide), hc 20 (by decide) (by decide) (by decide), hc 21 (by decide) (by decide) (by decide)]
        have hk0 := hk.1
        exact ⟨a1, a2, a3, a4, a5, a6, fun z => by rw [hk0] at z; exact absurd z (by decide), fun z => by rw [hk0] at z; exact absurd z (by decide), fun _ _ => ⟨_, hdq, by omega⟩⟩
      · refine rowC_congr (p5 i i0 i1) (fun y y1 y2 => ?_) (fun j hj => ?_) (fun f hf => im_rdk_any hi) (by omega) (fun z => (h29 i i0 i1 z).2)
        · by_cases hy : y = 18
          · subst hy; rw [hM5 18 (by decide) (by decide) (by decide), h418]; exact g2 i hi
          · exact hc y y1 y2 hy
        · rw [h522 j hj, g1 22 (by decide)]
    · exact cn_congr hcn (hM5 26 (by decide) (by decide) (by decide)) (hM5 27 (by decide) (by decide) (by decide))
    · refine ⟨fun z => absurd (show (104 : Int) = 98 from z) (by decide), fun _ => ?_⟩
      show im_u R (8 + (R 6 x.2.1).toNat) x.2.1 v (8 + (im_u R (8 + (R 6 x.2.1).toNat) x.2.1 v 6 x.2.1).toNat) x.2.1 = v ∧ dsq M5 (M5 18 x.2.1) (bl (im_u R (8 + (R 6 x.2.1).toNat) x.2.1 v) x.2.1 (im_u R (8 + (R 6 x.2.1).toNat) x.2.1 v 6 x.2.1).toNat ++ [v]) (dg + M5 23 5)
      rw [hR6, hbl, hM55]
      exact ⟨im_rds _ _ _ _, dsq_snoc _ hdq hdv⟩
    · rw [hM5 2 (by decide) (by decide) (by decide), hM4 2 (by decide) (by decide) (by decide) (by decide) (by decide)]
    · rw [if_pos e34]; omega
  refine k_Parser_meetBound_0 (by omega) ?_
  rw [h4, h21]
  refine ⟨fun e40 => ⟨by constructor <;> omega, fun h6 => ⟨by constructor <;> omega, ?_⟩⟩, fun hor => ⟨fun e34 => ⟨by constructor <;> omega, fun h6 => ⟨fun n0 => ?_, fun e0 => ?_⟩, fun h6 => hKf 8 (by rw [hst, if_neg (by omega), if_neg (by omega), if_pos h6]) M p1 rfl⟩, fun n34 => hKf 4 (by rw [hst, if_neg (by omega), if_pos n34]) M p1 rfl⟩⟩
  · have p4' : stC M (cmp (x :: r)) := p4
    rw [cmp_ne (by omega)] at p4'
    have e5 : im_u M 23 4 (M 23 4 - 1) 23 5 = M 23 5 := im_rdk _ _ _ (by decide)
    refine hKs _ (by rw [hst, if_pos ⟨e40, h6⟩]) _ (PI_mk (p1.p (Or.inl rfl) _) ((im_rdk _ _ _ (by decide)).trans p2) (by rw [e5]; exact p3) (stC_pop p4') (fun i i0 i1 => ?_) (cn_congr p6 (im_u_ne _ _ _ (by decide)) (im_u_ne _ _ _ (by decide))) ?_) (fun k => im_rdn _ _ _ _ (by decide)) (by rw [e5]; split <;> omega)
    · rw [e5]
      exact rowC_congr (p5 i i0 i1) (fun y _ _ => im_rdn _ _ _ _ (by omega)) (fun _ _ => im_rdn _ _ _ _ (by decide)) (fun _ _ => rfl) (Int.le_refl _) (fun z => (h29 i i0 i1 z).2)
    · have ht9 := t98_stp (lo := lo) (ty := ty) (nm := nm) (v := v) (by rw [hst, if_pos ⟨e40, h6⟩]) hw h98
      cases hr : r with
      | nil => trivial
      | cons y r' =>
        rw [hr] at ht9
        refine ⟨fun z z2 => ?_, fun z => ?_⟩
        · exfalso
          have h2 := hw.2.2.2.2.1
          obtain ⟨c, _, h2⟩ := h2
          dsimp only at h2
          rw [hr] at h2
          rcases h98 y (by rw [hr]; exact List.mem_cons_of_mem _ List.mem_cons_self) z with q | ⟨x', r'', q, _, q3⟩
          · dsimp only at q; omega
          · cases q
            rcases h2 with ⟨u, _⟩ | ⟨_, u1, u2, u3, u4⟩
            · omega
            · have h5 := chn_lt _ u4 y List.mem_cons_self (by omega)
              obtain ⟨_, _, z3⟩ := hw.2.2.2.2.2.1 y (by rw [hr]; exact List.mem_cons_of_mem _ List.mem_cons_self) (by omega)
              rcases z3 with ⟨z3, _⟩ | ⟨_, _, z3⟩
              · omega
              · have h6 := z3.2.2.2.2.2.2.2.2.2.2.2.1 z
                have h7 := o3.2.2.2.2.2.2.2.2.2.2.2.1 hx
                unfold phi dpt at h5
                rw [← q3, if_neg (by omega)] at h5
                omega
        · exact absurd z (hw.2.2.2.2.2.2.2.2 y (by rw [hr]; exact List.mem_cons_self))
  · exact hgo M e34 (by omega) (fun _ _ => rfl) (fun _ _ => rfl) p1 (htop (by omega))
  · rw [h10]
    refine ⟨by constructor <;> omega, hgo _ e34 (by omega) (fun y hy => im_u_ne _ _ _ hy) (fun i hi => im_rdk _ _ _ hi) (p1.r (by decide) (by decide) o1 _) ?_⟩
    rw [im_rds, e0]
    exact rfl
end CPAR10
