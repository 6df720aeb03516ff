theorem top_shE {M : im_M} {R : Rw} {E lw k n : Int} {r : List en} (h : topC M R E lw r) : topC M R E lw (shE k n ++ r) := by
  have key : topC M R E lw ((shp k).map (fun x => ((x.1, n, x.2.1, x.2.2) : en)) ++ r) := by
    refine shp_ind (P := fun _ l => topC M R E lw (l.map (fun x => ((x.1, n, x.2.1, x.2.2) : en)) ++ r)) k (fun _ => ?_) (fun _ => ?_) (fun _ => ?_) (fun _ => ?_) (fun _ => ?_) (fun _ => ?_) (fun _ => ?_) (fun _ => ?_) (fun _ => ?_) (fun _ => ?_) (fun _ => ?_) (fun _ => ?_) (fun _ => ?_) (fun _ => ?_) (fun _ => ?_) (fun _ => h)
    · exact ⟨fun z => absurd (show (49 : Int) = 98 from z) (by decide), fun z => absurd (show (49 : Int) = 104 from z) (by decide)⟩
    · exact ⟨fun z => absurd (show (111 : Int) = 98 from z) (by decide), fun z => absurd (show (111 : Int) = 104 from z) (by decide)⟩
    · exact ⟨fun z => absurd (show (91 : Int) = 98 from z) (by decide), fun z => absurd (show (91 : Int) = 104 from z) (by decide)⟩
    · exact ⟨fun z => absurd (show (49 : Int) = 98 from z) (by decide), fun z => absurd (show (49 : Int) = 104 from z) (by decide)⟩
    · exact ⟨fun z => absurd (show (111 : Int) = 98 from z) (by decide), fun z => absurd (show (111 : Int) = 104 from z) (by decide)⟩
    · exact ⟨fun z => absurd (show (49 : Int) = 98 from z) (by decide), fun z => absurd (show (49 : Int) = 104 from z) (by decide)⟩
    · exact ⟨fun z => absurd (show (118 : Int) = 98 from z) (by decide), fun z => absurd (show (118 : Int) = 104 from z) (by decide)⟩
    · exact ⟨fun z => absurd (show (49 : Int) = 98 from z) (by decide), fun z => absurd (show (49 : Int) = 104 from z) (by decide)⟩
    · exact ⟨fun z => absurd (show (111 : Int) = 98 from z) (by decide), fun z => absurd (show (111 : Int) = 104 from z) (by decide)⟩
    · exact ⟨fun z => absurd (show (111 : Int) = 98 from z) (by decide), fun z => absurd (show (111 : Int) = 104 from z) (by decide)⟩
    · exact ⟨fun z => absurd (show (111 : Int) = 98 from z) (by decide), fun z => absurd (show (111 : Int) = 104 from z) (by decide)⟩
    · exact ⟨fun z => absurd (show (118 : Int) = 98 from z) (by decide), fun z => absurd (show (118 : Int) = 104 from z) (by decide)⟩
    · exact ⟨fun z => absurd (show (97 : Int) = 98 from z) (by decide), fun z => absurd (show (97 : Int) = 104 from z) (by decide)⟩
    · exact ⟨fun z => absurd (show (49 : Int) = 98 from z) (by decide), fun z => absurd (show (49 : Int) = 104 from z) (by decide)⟩
    · exact ⟨fun z => absurd (show (49 : Int) = 98 from z) (by decide), fun z => absurd (show (49 : Int) = 104 from z) (by decide)⟩
  exact key
section CPAR4
variable {g : im_g} {d : Nat} {e : im_E} {M M0 : im_M} {K : im_K} {lo dg ty nm v : Int} {x : en} {r : List en} {R : Rw} {m lw : Int} {L : Nat}
theorem rowC_nm {E i w : Int} {c f : Nat} (h : rowC M R E i) (hc : (c = 19 ∧ f = 4) ∨ (c = 20 ∧ f = 5)) (h6 : R 0 i = 29 → R 6 i ≤ 4) : rowC (im_u M c i w) (im_u R f i w) E i := by
  by_cases hk : R 0 i = 34 ∨ R 0 i = 29
  · obtain ⟨a1, a2, a3, a4, a5, a6, a7, a8, a9⟩ := h
    have hbl : bl (im_u R f i w) i (R 6 i).toNat = bl R i (R 6 i).toNat ∨ R 0 i ≠ 29 := by
      by_cases h29 : R 0 i = 29
      · have := h6 h29
        refine Or.inl (bl_congr _ (by omega) (fun q q0 q1 => ?_) (fun q q0 q1 => ?_))
        · exact im_rdn _ _ _ _ (by rcases hc with ⟨_, z⟩ | ⟨_, z⟩ <;> omega)
        · exact im_rdn _ _ _ _ (by rcases hc with ⟨_, z⟩ | ⟨_, z⟩ <;> omega)
      · exact Or.inr h29
    rcases hc with ⟨rfl, rfl⟩ | ⟨rfl, rfl⟩
    · refine ⟨?_, ?_, ?_, ?_, ?_, ?_, fun z => ?_, fun z => ?_, fun z z2 => ?_⟩
      · rw [im_rdn _ _ _ _ (by decide), im_rdn _ _ _ _ (by decide)]; exact a1
      · rw [im_rdn _ _ _ _ (by decide), im_rdn _ _ _ _ (by decide)]; exact a2
      · rw [im_rdn _ _ _ _ (by decide), im_rdn _ _ _ _ (by decide)]; exact a3
      · rw [im_rds, im_rds]
      · rw [im_rdn _ _ _ _ (by decide), im_rdn _ _ _ _ (by decide)]; exact a5
      · rw [im_rdn _ _ _ _ (by decide), im_rdn _ _ _ _ (by decide)]; exact a6
      · rw [im_rdn _ _ _ _ (by decide)] at z; rw [im_rdn _ _ _ _ (by decide), im_rdn _ _ _ _ (by decide)]; exact a7 z
      · rw [im_rdn _ _ _ _ (by decide)] at z
        obtain ⟨p', h1, h2⟩ := a8 z
        refine ⟨p', ?_, h2⟩
        rw [im_rdn _ _ _ _ (by decide), im_rdn _ _ _ _ (by decide)]
        exact dgs_congr h1 (fun j _ _ => im_rdn _ _ _ _ (by decide))
      · rw [im_rdn _ _ _ _ (by decide)] at z z2
        obtain ⟨p', h1, h2⟩ := a9 z z2
        refine ⟨p', ?_, h2⟩
        rcases hbl with hbl | hbl
        · rw [im_rdn _ _ _ _ (by decide), im_rdn _ _ _ _ (by decide), hbl]
          exact (dsq_congr _ h1 (fun j _ _ => im_rdn _ _ _ _ (by decide))).1
        · exact absurd z hbl
    · refine ⟨?_, ?_, ?_, ?_, ?_, ?_, fun z => ?_, fun z => ?_, fun z z2 => ?_⟩
      · rw [im_rdn _ _ _ _ (by decide), im_rdn _ _ _ _ (by decide)]; exact a1
      · rw [im_rdn _ _ _ _ (by decide), im_rdn _ _ _ _ (by decide)]; exact a2
      · rw [im_rdn _ _ _ _ (by decide), im_rdn _ _ _ _ (by decide)]; exact a3
      · rw [im_rdn _ _ _ _ (by decide), im_rdn _ _ _ _ (by decide)]; exact a4
      · rw [im_rds, im_rds]
      · rw [im_rdn _ _ _ _ (by decide), im_rdn _ _ _ _ (by decide)]; exact a6
      · rw [im_rdn _ _ _ _ (by decide)] at z; rw [im_rdn _ _ _ _ (by decide), im_rdn _ _ _ _ (by decide)]; exact a7 z
      · rw [im_rdn _ _ _ _ (by decide)] at z
        obtain ⟨p', h1, h2⟩ := a8 z
        refine ⟨p', ?_, h2⟩
        rw [im_rdn _ _ _ _ (by decide), im_rdn _ _ _ _ (by decide)]
        exact dgs_congr h1 (fun j _ _ => im_rdn _ _ _ _ (by decide))
      · rw [im_rdn _ _ _ _ (by decide)] at z z2
        obtain ⟨p', h1, h2⟩ := a9 z z2
        refine ⟨p', ?_, h2⟩
        rcases hbl with hbl | hbl
        · rw [im_rdn _ _ _ _ (by decide), im_rdn _ _ _ _ (by decide), hbl]
          exact (dsq_congr _ h1 (fun j _ _ => im_rdn _ _ _ _ (by decide))).1
        · exact absurd z hbl
  · refine rowC_set (f := f) h ?_ (fun z => hk (Or.inl z)) (fun z => hk (Or.inr z)) rfl
    rcases hc with z | z
    · exact Or.inl z
    · exact Or.inr (Or.inl z)
theorem c_meetName (h : MH M0 M lo dg ty nm v x r R m lw L) (hx : x.1 = 49 ∨ x.1 = 50 ∨ x.1 = 51) (hKf : KF e K M0 M lo dg ty nm v (x :: r, R, m, lw)) (hKs : KS e K M0 M lo dg ty nm v (x :: r, R, m, lw) L) : im_T g d 73 0 [some (.ref 23), some (vI x.1), some (vI x.2.1)] [] e M K := by
  have hl := h.len
  obtain ⟨o1, o2, o3, o4, o5⟩ := h.ow (by omega) (by omega)
  obtain ⟨hI, hw, h29, h98, h13, h10, hdg, hrm, h4, hty, hnm, hv⟩ := id h
  obtain ⟨p1, p2, p3, p4, p5, p6, p7⟩ := id hI
  have h23 : M 23 4 = ((cmp (x :: r)).length : Int) := p4.1
  have hst : stp lo ty nm v (x :: r, R, m, lw) = (if ty = 36 then .inr (r, im_u R (if x.1 = 49 then 4 else if x.1 = 50 then 5 else 6) x.2.1 nm, m, lw) else .inl 4) := by
    rw [stp_cons, if_neg (by omega), if_neg (by omega), if_neg (by omega), if_neg (by omega), if_neg (by omega), if_neg (by omega), if_neg (by omega), if_neg (by omega), if_neg (by omega)]
  have hrow : rowC M R (dg + M 23 5) x.2.1 := p5 x.2.1 o1 o2
  have h2k : ∀ c w k, im_u (im_u M 23 4 (M 23 4 - 1)) c x.2.1 w 2 k = M 2 k ∨ c = 2 := fun c w k => by
    by_cases hc : c = 2
    · exact Or.inr hc
    · exact Or.inl (by rw [im_rdn _ _ _ _ (Ne.symm hc), im_rdn _ _ _ _ (by decide)])
  have h25 : ∀ c w, c ≠ 23 → im_u (im_u M 23 4 (M 23 4 - 1)) c x.2.1 w 23 5 = M 23 5 := fun c w hc => by rw [im_rdn _ _ _ _ (Ne.symm hc), im_rdk _ _ _ (by decide)]
  refine k_Parser_meetName_0 ?_
  rw [h4]
  refine ⟨fun z => ?_, fun z => hKf 4 (by rw [hst, if_neg z]) M p1 rfl⟩
  rw [hnm (Or.inr z)]
  refine ⟨by constructor <;> omega, by constructor <;> omega, fun z1 => ⟨by constructor <;> omega, ?_⟩, fun z1 => ⟨by constructor <;> omega, ?_⟩, fun z1 => ⟨by constructor <;> omega, ?_⟩⟩
  · refine hKs _ (by rw [hst, if_pos z, if_pos z1]) _ (PI_pop hI (by omega) o1 o2 h29 (by decide) (by decide) (fun i hi f => ?_) (rowC_nm hrow (Or.inl ⟨rfl, rfl⟩) (fun q => (h29 _ o1 o2 q).2)) (fun q => ?_) p6 (h.top0 (by omega) (by omega) _ _ _ _ (fun _ _ _ => im_rdn _ _ _ _ (by decide)))) (fun k => (h2k 19 nm k).resolve_right (by decide)) (by rw [h25 19 nm (by decide)]; split <;> omega)
    · by_cases hf : f = 4
      · subst hf; exact im_rdk _ _ _ hi
      · exact im_rdn _ _ _ _ hf
    · rw [im_rdn _ _ _ _ (by decide)] at q ⊢; exact (h29 _ o1 o2 q).2
  · refine hKs _ (by rw [hst, if_pos z, if_neg (by omega), if_pos z1]) _ (PI_pop hI (by omega) o1 o2 h29 (by decide) (by decide) (fun i hi f => ?_) (rowC_nm hrow (Or.inr ⟨rfl, rfl⟩) (fun q => (h29 _ o1 o2 q).2)) (fun q => ?_) p6 (h.top0 (by omega) (by omega) _ _ _ _ (fun _ _ _ => im_rdn _ _ _ _ (by decide)))) (fun k => (h2k 20 nm k).resolve_right (by decide)) (by rw [h25 20 nm (by decide)]; split <;> omega)
    · by_cases hf : f = 5
      · subst hf; exact im_rdk _ _ _ hi
      · exact im_rdn _ _ _ _ hf
    · rw [im_rdn _ _ _ _ (by decide)] at q ⊢; exact (h29 _ o1 o2 q).2
  · have h51 : x.1 = 51 := by omega
    have hk := o3.2.2.2.2.2.2.1 h51
    refine hKs _ (by rw [hst, if_pos z, if_neg (by omega), if_neg (by omega)]) _ (PI_pop hI (by omega) o1 o2 h29 (by decide) (by decide) (fun i hi f => ?_) (rowC_set hrow (Or.inr (Or.inr (Or.inl ⟨rfl, rfl⟩))) (by omega) (by omega) rfl) (fun q => ?_) p6 (h.top0 (by omega) (by omega) _ _ _ _ (fun y hy hy98 => ?_))) (fun k => (h2k 21 nm k).resolve_right (by decide)) (by rw [h25 21 nm (by decide)]; split <;> omega)
    · by_cases hf : f = 6
      · subst hf; exact im_rdk _ _ _ hi
      · exact im_rdn _ _ _ _ hf
    · rw [im_rdn _ _ _ _ (by decide)] at q; omega
    · obtain ⟨_, _, w⟩ := hw.2.2.2.2.2.1 y (List.mem_cons_of_mem _ hy) (by omega)
      rcases w with ⟨w, _⟩ | ⟨_, _, w⟩
      · omega
      · have := (w.2.2.1 (Or.inl hy98)).1
        dsimp only at this
        exact im_rdk _ _ _ (fun q => by rw [q] at this; omega)
theorem c_meetWay (h : MH M0 M lo dg ty nm v x r R m lw L) (hx : x.1 = 100) (hKf : KF e K M0 M lo dg ty nm v (x :: r, R, m, lw)) (hKs : KS e K M0 M lo dg ty nm v (x :: r, R, m, lw) L) : im_T g d 71 0 [some (.ref 23), some (vI x.2.1)] [] e M K := by
  have hl := h.len
  obtain ⟨o1, o2, o3, o4, o5⟩ := h.ow (by omega) (by omega)
  obtain ⟨hI, hw, h29, h98, h13, h10, hdg, hrm, h4, hty, hnm, hv⟩ := id h
  obtain ⟨p1, p2, p3, p4, p5, p6, p7⟩ := id hI
  have h23 : M 23 4 = ((cmp (x :: r)).length : Int) := p4.1
  have hst : stp lo ty nm v (x :: r, R, m, lw) = (if ty = 32 ∨ ty = 33 then .inr (r, im_u R 3 x.2.1 (if ty = 33 then 1 else 0), m, lw) else .inl 4) := by
    rw [stp_cons, if_neg (by omega), if_neg (by omega), if_neg (by omega), if_neg (by omega), if_neg (by omega), if_neg (by omega), if_neg (by omega), if_pos hx]
  have hrow : rowC M R (dg + M 23 5) x.2.1 := p5 x.2.1 o1 o2
  have hk := o3.2.2.2.2.2.1 hx
  refine k_Parser_meetWay_0 ?_
  rw [h4]
  refine ⟨fun z1 z2 => hKf 4 (by rw [hst, if_neg (by omega)]) M p1 rfl, fun z => ⟨by constructor <;> omega, fun w hwv => ⟨by constructor <;> omega, ?_⟩⟩⟩
  have hwe : w = if ty = 33 then 1 else 0 := by split <;> omega
  subst hwe
  refine hKs _ (by rw [hst, if_pos (by omega)]) _ (PI_pop hI (by omega) o1 o2 h29 (by decide) (by decide) (fun i hi f => ?_) (rowC_set hrow (Or.inr (Or.inr (Or.inr ⟨rfl, rfl⟩))) (by omega) (by omega) rfl) (fun q => ?_) p6 (h.top0 (by omega) (by omega) _ _ _ _ (fun _ _ _ => im_rdn _ _ _ _ (by decide)))) (fun k => by rw [im_rdn _ _ _ _ (by decide), im_rdn _ _ _ _ (by decide)]) (by rw [im_rdn _ _ _ _ (by decide), im_rdk _ _ _ (by decide)]; split <;> omega)
  · by_cases hf : f = 3
    · subst hf; exact im_rdk _ _ _ hi
    · exact im_rdn _ _ _ _ hf
  · rw [im_rdn _ _ _ _ (by decide)] at q; omega
theorem c_meetTime (h : MH M0 M lo dg ty nm v x r R m lw L) (hx : x.1 = 116) (hd : 1 ≤ d) (hKf : KF e K M0 M lo dg ty nm v (x :: r, R, m, lw)) (hKs : KS e K M0 M lo dg ty nm v (x :: r, R, m, lw) L) : im_T g d 63 0 [some (.ref 23), some (vI x.2.1)] [] e M K := by
  have hl := h.len
  obtain ⟨o1, o2, o3, o4, o5⟩ := h.ow (by omega) (by omega)
  obtain ⟨hI, hw, h29, h98, h13, h10, hdg, hrm, h4, hty, hnm, hv⟩ := id h
  obtain ⟨p1, p2, p3, p4, p5, p6, p7⟩ := id hI
  have h23 : M 23 4 = ((cmp (x :: r)).length : Int) := p4.1
  have hst : stp lo ty nm v (x :: r, R, m, lw) = (if ty = 35 then .inr (r, im_u R 5 x.2.1 nm, m, lw) else if ty ≠ 34 then .inl 4 else if asT v = -1 then .inl 5 else .inr (r, im_u R 4 x.2.1 (asT v), m, lw)) := by
    rw [stp_cons, if_neg (by omega), if_neg (by omega), if_neg (by omega), if_pos hx]
  have hrow : rowC M R (dg + M 23 5) x.2.1 := p5 x.2.1 o1 o2
  have hk := o3.2.2.2.2.1 hx
  refine k_Parser_meetTime_0 hd ?_
  rw [h4]
  refine ⟨fun z1 z2 => hKf 4 (by rw [hst, if_neg (by omega), if_pos (by omega)]) M p1 rfl, fun z => ⟨by constructor <;> omega, fun z1 => ?_, fun z1 => ⟨by constructor <;> omega, ?_⟩⟩⟩
  · have h34 : ty = 34 := by omega
    have hcn : cn (im_u M 23 4 (M 23 4 - 1)) 5 v := cn_congr (hv h34).1 (im_u_ne _ _ _ (by decide)) (im_u_ne _ _ _ (by decide))
    have hat : -1 ≤ asT v ∧ asT v ≤ 1000000000000000 := by unfold asT; split <;> omega
    refine c_asTime im_num5 hcn ⟨_, rfl, rfl, by constructor <;> omega, by constructor <;> omega, fun w hwv => ?_⟩
    by_cases hat1 : asT v = -1
    · have : w = 5 := by omega
      rw [this]
      refine hKf 5 (by rw [hst, if_neg z1, if_neg (by omega), if_pos hat1]) _ ((p1.p (Or.inl rfl) _).r (by decide) (by decide) o1 _) ?_
      rw [im_rdn _ _ _ _ (by decide), im_rdn _ _ _ _ (by decide)]
    · have : w = 0 := by omega
      rw [this]
      refine hKs _ (by rw [hst, if_neg z1, if_neg (by omega), if_neg hat1]) _ (PI_pop hI (by omega) o1 o2 h29 (by decide) (by decide) (fun i hi f => ?_) (rowC_nm hrow (Or.inl ⟨rfl, rfl⟩) (fun q => (h29 _ o1 o2 q).2)) (fun q => ?_) p6 (h.top0 (by omega) (by omega) _ _ _ _ (fun _ _ _ => im_rdn _ _ _ _ (by decide)))) (fun k => by rw [im_rdn _ _ _ _ (by decide), im_rdn _ _ _ _ (by decide)]) (by rw [im_rdn _ _ _ _ (by decide), im_rdk _ _ _ (by decide)]; split <;> omega)
      · by_cases hf : f = 4
        · subst hf; exact im_rdk _ _ _ hi
        · exact im_rdn _ _ _ _ hf
      · rw [im_rdn _ _ _ _ (by decide)] at q; omega
  · rw [hnm (Or.inl z1)]
    refine hKs _ (by rw [hst, if_pos z1]) _ (PI_pop hI (by omega) o1 o2 h29 (by decide) (by decide) (fun i hi f => ?_) (rowC_nm hrow (Or.inr ⟨rfl, rfl⟩) (fun q => (h29 _ o1 o2 q).2)) (fun q => ?_) p6 (h.top0 (by omega) (by omega) _ _ _ _ (fun _ _ _ => im_rdn _ _ _ _ (by decide)))) (fun k => by rw [im_rdn _ _ _ _ (by decide), im_rdn _ _ _ _ (by decide)]) (by rw [im_rdn _ _ _ _ (by decide), im_rdk _ _ _ (by decide)]; split <;> omega)
    · by_cases hf : f = 5
      · subst hf; exact im_rdk _ _ _ hi
      · exact im_rdn _ _ _ _ hf
    · rw [im_rdn _ _ _ _ (by decide)] at q; omega
end CPAR4
