section CPAR11
variable {g : im_g} {d : Nat} {e : im_E} {M M0 : im_M} {K : im_K} {lo dg ty nm v : Int} {x : en} {r : List en} {R : Rw} {m lw : Int} {L : Nat}
theorem c_meetSecond (h : MH M0 M lo dg ty nm v x r R m lw L) (hx : x.1 = 104) (hd : 3 ≤ d) (hKf : KF e K M0 M lo dg ty nm v (x :: r, R, m, lw)) (hKs : KS e K M0 M lo dg ty nm v (x :: r, R, m, lw) L) : im_T g d 67 0 [some (.ref 23), some (vI x.2.1)] [] e M K := by
  have hl := h.len
  obtain ⟨o1, o2, o3, o4, o5⟩ := h.ow (by omega) (by omega)
  obtain ⟨hI, hw, h29, h98, h13, h10, hdg, hrm, h4, hty, hnm, hv⟩ := id h
  obtain ⟨p1, p2, p3, p4, p5, p6, p7⟩ := id hI
  dsimp only at p2 p6
  have h23 : M 23 4 = ((cmp (x :: r)).length : Int) := p4.1
  have hst : stp lo ty nm v (x :: r, R, m, lw) = (if ty ≠ 34 then .inl 4 else if v < lw then .inl 6 else .inr (r, im_u (im_u R (12 + (R 6 x.2.1).toNat) x.2.1 v) 6 x.2.1 (R 6 x.2.1 + 1), m, lw)) := by
    rw [stp_cons, if_neg (by omega), if_neg (by omega), if_neg (by omega), if_neg (by omega), if_neg (by omega), if_pos hx]
  have hrow : rowC M R (dg + M 23 5) x.2.1 := p5 x.2.1 o1 o2
  have hk := o3.2.2.1 (Or.inr hx)
  have hk3 := o3.2.2.2.1 hx
  obtain ⟨ht1, ht2⟩ : R (8 + (R 6 x.2.1).toNat) x.2.1 = lw ∧ dsq M (M 18 x.2.1) (bl R x.2.1 (R 6 x.2.1).toNat ++ [lw]) (dg + M 23 5) := p7.2 hx
  obtain ⟨y0, r0, hr0, hy0, hyo⟩ := hw.2.2.2.2.2.2.2.1 hx
  have p4' : stC M (cmp (x :: r)) := p4
  rw [cmp_ne (by omega)] at p4'
  have hpop := stC_pop p4'
  refine k_Parser_meetSecondBound_0 (by omega) ?_
  rw [h4]
  refine ⟨fun e34 => ?_, fun n34 => hKf 4 (by rw [hst, if_pos n34]) M p1 rfl⟩
  have hv34 := hv e34
  refine c_compare im_num5 im_num26 hv34.1 p6 (by omega) ⟨_, rfl, rfl, ?_⟩
  unfold cmpI
  refine ⟨by (repeat' split) <;> decide, fun hge => ?_, fun hlt => ?_⟩
  · have hvl : ¬ v < lw := fun z => by rw [if_pos z] at hge; omega
    refine ⟨by constructor <;> omega, ?_⟩
    generalize hMp : im_u M 23 4 (M 23 4 - 1) = Mp at hpop
    have hpne : ∀ y, y ≠ 23 → Mp y = M y := fun y hy => by rw [← hMp, im_u_ne _ _ _ hy]
    have hp23 : ∀ k, k ≠ 4 → Mp 23 k = M 23 k := fun k hk => by rw [← hMp, im_rdk _ _ _ hk]
    have hFp : FR lo dg M0 Mp := by rw [← hMp]; exact p1.p (Or.inl rfl) _
    refine c_storeNumber (E := dg + M 23 5) (v := v) (by rw [hpne 13 (by decide), hp23 5 (by decide), h10]) (by rw [hpne 13 (by decide), h10]; exact hdg) (by rw [hp23 5 (by decide)]; exact p3) hrm (cn_congr hv34.1 (hpne 5 (by decide)) (hpne 6 (by decide))) (by omega) (fun M3 p' b1 b2 b3 b4 b5 => ⟨rfl, rfl, by constructor <;> omega, ?_⟩)
    have hpl := dgs_len b5 hv34.2
    have hpg : dg + M 23 5 < p' := by obtain ⟨k, _, _, q, _⟩ := b5; omega
    have hM3 : ∀ y, y ≠ 22 → y ≠ 23 → M3 y = M y := fun y y1 y2 => by rw [b1 y y1 y2, hpne y y2]
    have h21 : M3 21 x.2.1 = R 6 x.2.1 := by rw [hM3 21 (by decide) (by decide)]; exact hrow.2.2.2.2.2.1
    rw [h21]
    refine ⟨by constructor <;> omega, ?_⟩
    have hM35 : dg + M3 23 5 = p' := by rw [b3, hp23 5 (by decide)]; omega
    have hF3 : FR lo dg M0 M3 := by
      refine ⟨fun y c1 c2 c3 c4 => ?_, fun k c1 => ?_, fun y i c1 c2 c3 => ?_, fun i c1 => ?_, fun k c1 c2 c3 => ?_, hFp.2.2.2.2.2.e (b1 26 (by decide) (by decide)) (b1 27 (by decide) (by decide))⟩
      · rw [b1 y (by omega) (by omega)]; exact hFp.1 y c1 c2 c3 c4
      · rw [b1 2 (by decide) (by decide)]; exact hFp.2.1 k c1
      · rw [b1 y (by omega) (by omega)]; exact hFp.2.2.1 y i c1 c2 c3
      · rw [b4 i (by omega)]; exact hFp.2.2.2.1 i c1
      · rw [b2 k c2]; exact hFp.2.2.2.2.1 k c1 c2 c3
    generalize hMf : im_u M3 21 x.2.1 (R 6 x.2.1 + 1) = Mf
    have hMfn : ∀ y, y ≠ 21 → Mf y = M3 y := fun y hy => by rw [← hMf, im_u_ne _ _ _ hy]
    have hMf21 : Mf 21 x.2.1 = R 6 x.2.1 + 1 := by rw [← hMf, im_rds]
    have hMf21' : ∀ i, i ≠ x.2.1 → Mf 21 i = M3 21 i := fun i hi => by rw [← hMf, im_rdk _ _ _ hi]
    have hFf : FR lo dg M0 Mf := by rw [← hMf]; exact hF3.r (by decide) (by decide) o1 _
    have hMf5 : dg + Mf 23 5 = p' := by rw [hMfn 23 (by decide)]; exact hM35
    have hR6 : im_u (im_u R (12 + (R 6 x.2.1).toNat) x.2.1 v) 6 x.2.1 (R 6 x.2.1 + 1) 6 x.2.1 = R 6 x.2.1 + 1 := im_rds _ _ _ _
    have htn : (R 6 x.2.1 + 1).toNat = (R 6 x.2.1).toNat + 1 := by omega
    have hRf : ∀ f : Nat, f ≠ 6 → f ≠ 12 + (R 6 x.2.1).toNat → ∀ i, im_u (im_u R (12 + (R 6 x.2.1).toNat) x.2.1 v) 6 x.2.1 (R 6 x.2.1 + 1) f i = R f i := fun f f1 f2 i => by rw [im_rdn _ _ _ _ f1, im_rdn _ _ _ _ f2]
    have hR12 : im_u (im_u R (12 + (R 6 x.2.1).toNat) x.2.1 v) 6 x.2.1 (R 6 x.2.1 + 1) (12 + (R 6 x.2.1).toNat) x.2.1 = v := by rw [im_rdn _ _ _ _ (by omega), im_rds]
    have hbl : bl (im_u (im_u R (12 + (R 6 x.2.1).toNat) x.2.1 v) 6 x.2.1 (R 6 x.2.1 + 1)) x.2.1 (R 6 x.2.1 + 1).toNat = bl R x.2.1 (R 6 x.2.1).toNat ++ [lw] ++ [v] := by
      rw [htn]
      show bl _ _ (R 6 x.2.1).toNat ++ [_, _] = _
      rw [hR12, hRf (8 + (R 6 x.2.1).toNat) (by omega) (by omega), ht1, bl_congr (R := R) _ (by omega) (fun f f0 f1 => hRf f (by omega) (by omega) _) (fun f f0 f1 => hRf f (by omega) (by omega) _), List.append_assoc]
      rfl
    have hdq : dsq Mf (Mf 18 x.2.1) (bl R x.2.1 (R 6 x.2.1).toNat ++ [lw] ++ [v]) p' := by
      refine dsq_snoc _ (q := dg + M 23 5) ?_ (dgs_congr b5 (fun i _ _ => by rw [hMfn 22 (by decide)]))
      rw [hMfn 18 (by decide), hM3 18 (by decide) (by decide)]
      exact (dsq_congr _ ht2 (fun i _ i1 => by rw [hMfn 22 (by decide), b4 i i1, hpne 22 (by decide)])).1
    refine hKs _ (by rw [hst, if_neg (by omega), if_neg hvl]) Mf (PI_mk hFf ?_ (by omega) ?_ (fun i i0 i1 => ?_) ?_ ?_) (fun k => ?_) ?_
    · rw [hMfn 23 (by decide), b2 7 (by decide), hp23 7 (by decide)]; exact p2
    · exact ⟨by rw [hMfn 23 (by decide), b2 4 (by decide)]; exact hpop.1, stk_congr _ hpop.2 (fun i _ _ => ⟨by rw [hMfn 24 (by decide), b1 24 (by decide) (by decide)], by rw [hMfn 25 (by decide), b1 25 (by decide) (by decide)]⟩)⟩
    · rw [hMf5]
      have hc : ∀ y : Nat, 14 ≤ y → y ≤ 20 → Mf y i = M y i := fun y y1 y2 => by rw [hMfn y (by omega), hM3 y (by omega) (by omega)]
      by_cases hi : i = x.2.1
      · subst hi
        obtain ⟨a1, a2, a3, a4, a5, a6, a7, a8, a9⟩ := hrow
        clear a8 a9
        have hk0 := hk.1
        unfold rowC
        rw [hR6, hbl, hMf21, hRf 0 (by decide) (by omega), hRf 1 (by decide) (by omega), hRf 2 (by decide) (by omega), hRf 3 (by decide) (by omega), hRf 4 (by decide) (by omega), hRf 5 (by decide) (by omega), hRf 7 (by decide) (by omega), hc 14 (by decide) (by decide), hc 16 (by decide) (by decide), hc 17 (by decide) (by decide), hc 19 (by decide) (by decide), hc 20 (by decide) (by decide)]
        exact ⟨a1, a2, a3, a4, a5, rfl, fun z => by rw [hk0] at z; exact absurd z (by decide), fun z => by rw [hk0] at z; exact absurd z (by decide), fun _ _ => ⟨p', hdq, Int.le_refl _⟩⟩
      · refine rowC_congr (p5 i i0 i1) (fun y y1 y2 => ?_) (fun j hj => ?_) (fun f hf => ?_) (by omega) (fun z => (h29 i i0 i1 z).2)
        · by_cases hy : y = 21
          · subst hy; rw [hMf21' i hi, hM3 21 (by decide) (by decide)]
          · exact hc y y1 (by omega)
        · rw [hMfn 22 (by decide), b4 j hj, hpne 22 (by decide)]
        · show im_u (im_u R _ _ _) 6 _ _ f i = R f i
          rw [im_rdk_any hi, im_rdk_any hi]
    · exact cn_congr p6 (by rw [hMfn 26 (by decide), hM3 26 (by decide) (by decide)]) (by rw [hMfn 27 (by decide), hM3 27 (by decide) (by decide)])
    · rw [hr0]
      refine ⟨fun _ _ => ?_, fun z => by omega⟩
      rw [hyo, hR6, hbl, hMf5]
      exact hdq
    · rw [hMfn 2 (by decide), hM3 2 (by decide) (by decide)]
    · rw [if_pos e34]; omega
  · have hvl : v < lw := by
      apply Decidable.byContradiction
      intro z
      rw [if_neg z] at hlt
      split at hlt <;> omega
    exact hKf 6 (by rw [hst, if_neg (by omega), if_pos hvl]) M p1 rfl
/-- a token is met -/
theorem c_meet (h : MH M0 M lo dg ty nm v x r R m lw L) (hw2 : w2 R lo m) (hlen : (r.length : Int) < 1000000) (hd : 8 ≤ d) (hKf : KF e K M0 M lo dg ty nm v (x :: r, R, m, lw)) (hKs : KS e K M0 M lo dg ty nm v (x :: r, R, m, lw) L) {s o : Int} {l : List (Int × Int)} (hc : cmp (x :: r) = (s, o) :: l) : im_T g d 50 0 [some (.ref 23), some (vI s), some (vI o)] [] e M K := by
  have hcx : x.1 ≠ 41 → s = x.1 ∧ o = x.2.1 := fun z => by
    rw [cmp_ne z] at hc
    cases hc
    exact ⟨rfl, rfl⟩
  have hc41 : x.1 = 41 → s = 41 := fun z => by
    have : cmp (x :: r) = (match cmp r with
      | [] => [(41, 1)]
      | y :: r' => if y.1 = 41 then (41, y.2 + 1) :: r' else (41, 1) :: y :: r') := if_pos z
    rw [this] at hc
    split at hc
    · cases hc; rfl
    · split at hc
      · cases hc; rfl
      · cases hc; rfl
  have hsig : x.1 = 41 ∨ x.1 = 99 ∨ x.1 = 118 ∨ x.1 = 111 ∨ x.1 = 107 ∨ x.1 = 97 ∨ x.1 = 116 ∨ x.1 = 98 ∨ x.1 = 104 ∨ x.1 = 100 ∨ x.1 = 91 ∨ x.1 = 49 ∨ x.1 = 50 ∨ x.1 = 51 := by
    by_cases z : x.1 = 41
    · exact Or.inl z
    · obtain ⟨_, hw, _⟩ := id h
      obtain ⟨_, _, q⟩ := hw.2.2.2.2.2.1 x List.mem_cons_self z
      rcases q with ⟨q, _⟩ | ⟨_, _, q⟩
      · omega
      · have := q.2.2.2.2.2.2.2.1; omega
  have h14 : s = x.1 := by
    by_cases z : x.1 = 41
    · rw [hc41 z, z]
    · exact (hcx z).1
  have hi32 : im_i32 s := by constructor <;> omega
  have mm : ∀ (x3 : Int) (M2 : im_M), K (.inl (some (vI x3))) e M2 → ∃ x, (Sum.inl (some (vI x3)) : am_Out) = .inl (some (vI x)) ∧ e = e ∧ K (.inl (some (vI x))) e M2 := fun x3 M2 hk => ⟨x3, rfl, rfl, hk⟩
  have kf : KF e (im_ri (fun x3 e_ M2 => e = e_ ∧ K (.inl (some (vI x3))) e M2)) M0 M lo dg ty nm v (x :: r, R, m, lw) := fun c hh M' a b => mm _ _ (hKf c hh M' a b)
  have ks : KS e (im_ri (fun x3 e_ M2 => e = e_ ∧ K (.inl (some (vI x3))) e M2)) M0 M lo dg ty nm v (x :: r, R, m, lw) L := fun S' hh M' a b c => mm _ _ (hKs S' hh M' a b c)
  refine k_Parser_meet_0 (by omega) ⟨hi32, fun z => ?_, fun z => ?_, fun z => ?_, fun z => ?_, fun z => ?_, fun z => ?_, fun z => ?_, fun z => ?_, fun z => ?_, fun z => ?_⟩
  · obtain ⟨q1, q2⟩ := hcx (by omega)
    rw [q1, q2]
    exact c_meetNode h hw2 (by omega) hlen (by omega) kf ks
  · obtain ⟨q1, q2⟩ := hcx (by omega)
    rw [q2]
    exact c_meetCase h hw2 (by omega) (by omega) kf ks
  · obtain ⟨q1, q2⟩ := hcx (by omega)
    rw [q2]
    exact c_meetAction h (by omega) (by omega) kf ks
  · obtain ⟨q1, q2⟩ := hcx (by omega)
    rw [q2]
    exact c_meetTime h (by omega) (by omega) kf ks
  · obtain ⟨q1, q2⟩ := hcx (by omega)
    rw [q2]
    exact c_meetBound h (by omega) (by omega) kf ks
  · obtain ⟨q1, q2⟩ := hcx (by omega)
    rw [q2]
    exact c_meetSecond h (by omega) (by omega) kf ks
  · exact c_meetShut (c := 0) h (by omega) kf ks
  · obtain ⟨q1, q2⟩ := hcx (by omega)
    rw [q2]
    exact c_meetWay h (by omega) kf ks
  · exact c_meetLeft h (by omega) kf ks
  · obtain ⟨q1, q2⟩ := hcx (by omega)
    rw [q1, q2]
    exact c_meetName h (by omega) kf ks
end CPAR11
