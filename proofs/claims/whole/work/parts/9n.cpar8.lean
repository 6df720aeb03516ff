section CPAR8
variable {g : im_g} {d : Nat} {e : im_E} {M M0 : im_M} {K : im_K} {lo dg ty nm v : Int} {x : en} {r : List en} {R : Rw} {m lw : Int} {L : Nat}
/-- a node's own signs come -/
theorem c_nodeEnd {E' : Int} {M2 : im_M} (h : MH M0 M lo dg ty nm v x r R m lw L) (hx : x.1 = 99 ∨ x.1 = 118 ∨ x.1 = 111) (hd : 6 ≤ d) (hKs : KS e K M0 M lo dg ty nm v (x :: r, R, m, lw) L) (hb : bgn x.1 ty) (hm : ¬ much R lo m x.2.1) (h37 : ty ≠ 37)
    (hF : FR lo dg M0 M2) (h7 : M2 23 7 = m + 1 - lo) (hE : dg + M2 23 5 = E') (hEE : dg + M 23 5 ≤ E') (h5L : M2 23 5 ≤ M 23 5 + (if ty = 34 then 1 + (L : Int) else 0)) (hs : stC M2 (cmp r)) (h14 : M2 14 m = ty) (hrow : rowC M2 (nodR R m ty nm v x.2.1 x.2.2.1) E' m) (hold : ∀ (y : Nat) (i : Int), 14 ≤ y → y ≤ 21 → lo ≤ i → i < m → M2 y i = M y i) (h22 : ∀ i, i < dg + M 23 5 → M2 22 i = M 22 i) (h2 : ∀ k, M2 2 k = M 2 k) (h26 : cn M2 26 lw) : im_T g (d - 1) 59 0 [some (.ref 23), some (vI m), none, none] [] e M2 (im_r0 (fun e_ M23 => e = e_ ∧ K (.inl (some (vI 0))) e M23)) := by
  have hl := h.len
  obtain ⟨hI, hw, h29, h98, h13, h10, hdg, hrm, h4, hty, hnm, hv⟩ := id h
  obtain ⟨p1, p2, p3, p4, p5, p6, p7⟩ := id hI
  obtain ⟨w1, w2, w3, w4, _, w7, w8, w9⟩ := id hw
  dsimp only at w2 w3 w4 w7 w8
  obtain ⟨e1, e2, e3⟩ := w7 x List.mem_cons_self (by omega)
  have hsl : x.2.1 = -1 ∨ (1 ≤ x.2.2.1 ∧ x.2.2.1 ≤ 3) := by
    rcases e3 with ⟨_, z⟩ | ⟨_, _, z⟩
    · exact Or.inl z
    · exact Or.inr (z.2.2.2.2.2.2.2.2.1 hx)
  have hcl : (cmp (x :: r)).length = (cmp r).length + 1 := by rw [cmp_ne (by omega)]; rfl
  have hst : stp lo ty nm v (x :: r, R, m, lw) = .inr (shE ty m ++ r, nodR R m ty nm v x.2.1 x.2.2.1, m + 1, lw) := by
    rw [stp_cons, if_pos hx]
    unfold stpN
    rw [if_neg h37, if_neg (fun z => z hb), if_neg hm]
    rfl
  refine c_pushShape hs (by omega) (by omega) (by omega) h14 (by omega) (by omega) (by omega) (fun M3 hF3 hs3 => ⟨rfl, rfl, hKs _ hst M3 ?_ (fun k => ?_) ?_⟩)
  · have e5 : M3 23 5 = M2 23 5 := hF3.2 5 (by decide)
    have hsame : ∀ y, y ≠ 23 → y ≠ 24 → y ≠ 25 → M3 y = M2 y := hF3.1
    refine PI_mk (hF.trans (FR.sf hF3)) ?_ (by omega) ?_ (fun i i0 i1 => ?_) ?_ ?_
    · rw [hF3.2 7 (by decide)]; omega
    · rw [cmp_shE]; exact hs3
    · rw [e5, hE]
      by_cases hi : i = m
      · subst hi
        refine rowC_congr hrow (fun y y1 y2 => by rw [hsame y (by omega) (by omega) (by omega)]) (fun j _ => by rw [hsame 22 (by decide) (by decide) (by decide)]) (fun _ _ => rfl) (Int.le_refl _) (fun z => ?_)
        rw [nodR_m 0 (by rcases e3 with ⟨_, z⟩ | ⟨_, z, _⟩ <;> omega) (by decide) hsl, newN_0] at z
        omega
      · refine rowC_congr (p5 i i0 (by show i < m; omega)) (fun y y1 y2 => ?_) (fun j hj => ?_) (fun f hf => nodR_ne f i hi (by omega) hsl) hEE (fun z => (h29 i i0 (by omega) z).2)
        · rw [hsame y (by omega) (by omega) (by omega)]; exact hold y i y1 y2 i0 (by omega)
        · rw [hsame 22 (by decide) (by decide) (by decide)]; exact h22 j hj
    · exact cn_congr h26 (hsame 26 (by decide) (by decide) (by decide)) (hsame 27 (by decide) (by decide) (by decide))
    · refine top_shE (h.top0 (by omega) (by omega) _ _ _ _ (fun y hy hy98 => ?_))
      obtain ⟨_, _, z⟩ := w7 y (List.mem_cons_of_mem _ hy) (by omega)
      rcases z with ⟨z, _⟩ | ⟨z1, z2, _⟩
      · omega
      · exact nodR_ne 6 _ (by omega) (by omega) hsl
  · rw [hF3.1 2 (by decide) (by decide) (by decide)]; exact h2 k
  · rw [hF3.2 5 (by decide)]; exact h5L
theorem c_meetNode (h : MH M0 M lo dg ty nm v x r R m lw L) (hw2 : w2 R lo m) (hx : x.1 = 99 ∨ x.1 = 118 ∨ x.1 = 111) (hlen : (r.length : Int) < 1000000) (hd : 7 ≤ d) (hKf : KF e K M0 M lo dg ty nm v (x :: r, R, m, lw)) (hKs : KS e K M0 M lo dg ty nm v (x :: r, R, m, lw) L) : im_T g d 51 0 [some (.ref 23), some (vI x.1), some (vI x.2.1), none] [] e M K := by
  have hl := h.len
  obtain ⟨hI, hw, h29, h98, h13, h10, hdg, hrm, h4, hty, hnm, hv⟩ := id h
  obtain ⟨p1, p2, p3, p4, p5, p6, p7⟩ := id hI
  dsimp only at p2
  obtain ⟨w1, w2, w3, w4, _, w7, w8, w9⟩ := id hw
  dsimp only at w2 w3 w4 w7 w8
  have h23 : M 23 4 = ((cmp (x :: r)).length : Int) := p4.1
  have p4' : stC M (cmp (x :: r)) := p4
  rw [cmp_ne (by omega)] at p4'
  have hpop := stC_pop p4'
  obtain ⟨e1, e2, e3⟩ := w7 x List.mem_cons_self (by omega)
  have hst : stp lo ty nm v (x :: r, R, m, lw) = stpN lo ty nm v x r R m lw := by rw [stp_cons, if_pos hx]
  have hso : x.2.1 = -1 ∨ (lo ≤ x.2.1 ∧ x.2.1 < m) := by
    rcases e3 with ⟨_, z⟩ | ⟨z1, z2, _⟩
    · exact Or.inl z
    · exact Or.inr ⟨z1, z2⟩
  have hsl : x.2.1 = -1 ∨ (1 ≤ x.2.2.1 ∧ x.2.2.1 ≤ 3) := by
    rcases e3 with ⟨_, z⟩ | ⟨_, _, z⟩
    · exact Or.inl z
    · exact Or.inr (z.2.2.2.2.2.2.2.2.1 hx)
  have hom : m ≠ x.2.1 := by omega
  have hrow : x.2.1 ≠ -1 → M 16 x.2.1 = R 1 x.2.1 ∧ M 17 x.2.1 = R 2 x.2.1 ∧ 0 ≤ R 1 x.2.1 ∧ R 1 x.2.1 ≤ 100 ∧ 0 ≤ R 2 x.2.1 ∧ R 2 x.2.1 ≤ 101 := fun z => by
    rcases hso with q | ⟨q1, q2⟩
    · exact absurd q z
    · have a : rowC M R (dg + M 23 5) x.2.1 := p5 x.2.1 q1 q2
      have b := w8 x.2.1 q1 q2
      have c := hw2 x.2.1 q1 q2
      exact ⟨a.2.1, a.2.2.1, b.1, b.2, by omega, by omega⟩
  have hwh : 0 ≤ whenOf R x.2.1 ∧ whenOf R x.2.1 ≤ 1000 := by
    unfold whenOf
    split
    · decide
    · rename_i z; have := hrow z; omega
  refine k_Parser_meetNode_0 (by omega) ?_
  rw [h4]
  refine ⟨fun h37 => ?_, fun h37 => ?_⟩
  · refine c_begins hx h4 (fun hb => ⟨_, rfl, rfl, by decide, fun _ => ?_, fun z => absurd z (by decide)⟩) (fun hb => ⟨_, rfl, rfl, by decide, fun z => absurd rfl z, fun _ => hKf 4 (by rw [hst]; unfold stpN; rw [if_neg h37, if_pos hb]) M p1 rfl⟩)
    refine c_tooMuch (R := R) (lo := lo) (m := m) ?_ h13 p2 w1 w2 w4 (by omega) (fun hm => ⟨_, rfl, rfl, by decide, fun z => absurd z (by decide), fun _ => hKf 7 (by rw [hst]; unfold stpN; rw [if_neg h37, if_neg (fun z => z hb), if_pos hm]) M p1 rfl⟩) (fun hm => ⟨_, rfl, rfl, by decide, fun _ => ⟨by constructor <;> omega, ?_⟩, fun z => absurd rfl z⟩)
    · by_cases z : x.2.1 = -1
      · exact Or.inl z
      · have := hrow z
        exact Or.inr ⟨by omega, by omega, this.1, this.2.2.1, this.2.2.2.1⟩
    have hm5 : m < 5000 := by
      apply Decidable.byContradiction
      intro z
      exact hm (Or.inr (Or.inr (by omega)))
    generalize hMp : im_u M 23 4 (M 23 4 - 1) = Mp at hpop
    have hpne : ∀ y, y ≠ 23 → Mp y = M y := fun y hy => by rw [← hMp, im_u_ne _ _ _ hy]
    have hp23 : ∀ k, k ≠ 4 → Mp 23 k = M 23 k := fun k hk => by rw [← hMp, im_rdk _ _ _ hk]
    have hFp : FR lo dg M0 Mp := by rw [← hMp]; exact p1.p (Or.inl rfl) _
    rw [h4]
    refine c_addNode (lo := lo) (R := R) (m := m) ?_ (by rw [hpne 13 (by decide)]; exact h13) (by rw [hp23 7 (by decide)]; exact p2) w1 w2 hm5 (by constructor <;> omega) hwh (by omega) (fun M2 ha => ⟨_, rfl, rfl, ?_⟩)
    · by_cases z : x.2.1 = -1
      · exact Or.inl z
      · have := hrow z
        exact Or.inr ⟨by omega, by omega, by rw [hpne 16 (by decide)]; exact this.1, by rw [hpne 17 (by decide)]; exact this.2.1, this.2.2.1, this.2.2.2.1⟩
    have hF2 : FR lo dg M0 M2 := hFp.an ha w2
    obtain ⟨a1, a2, a3, a7, a14, a16, a17, a18, a19, a20, a21⟩ := ha
    have h2k : ∀ k, M2 2 k = M 2 k := fun k => by rw [a1 2 (by decide) (by decide) (by decide), hpne 2 (by decide)]
    have hM25 : M2 23 5 = M 23 5 := (a3 5 (by decide)).trans (hp23 5 (by decide))
    have hM27 : M2 23 7 = m + 1 - lo := by rw [a7, hp23 7 (by decide), p2]; omega
    have hM222 : ∀ i, M2 22 i = M 22 i := fun i => by rw [a1 22 (by decide) (by decide) (by decide), hpne 22 (by decide)]
    have hs2 : stC M2 (cmp r) := ⟨(a3 4 (by decide)).trans hpop.1, stk_congr _ hpop.2 (fun i _ _ => ⟨by rw [a1 24 (by decide) (by decide) (by decide)], by rw [a1 25 (by decide) (by decide) (by decide)]⟩)⟩
    have hold : ∀ (y : Nat) (i : Int), 14 ≤ y → y ≤ 21 → lo ≤ i → i < m → M2 y i = M y i := fun y i y1 y2 i0 i1 => by rw [a2 y i y1 y2 (by omega), hpne y (by omega)]
    have h26 : cn M2 26 lw := cn_congr p6 (by rw [a1 26 (by decide) (by decide) (by decide), hpne 26 (by decide)]) (by rw [a1 27 (by decide) (by decide) (by decide), hpne 27 (by decide)])
    have hM13 : M2 13 10 = dg := by rw [a1 13 (by decide) (by decide) (by decide), hpne 13 (by decide)]; exact h10
    rw [h2k 4, h4, h2k 6]
    refine ⟨fun n34 => ⟨fun n35 => ?_, fun n35 => ⟨by constructor <;> omega, ?_⟩⟩, fun e34 => ⟨by constructor <;> omega, by constructor <;> omega, ?_⟩⟩
    · refine c_nodeEnd (E' := dg + M 23 5) h hx (by omega) hKs hb hm h37 hF2 hM27 (by rw [hM25]) (Int.le_refl _) (by rw [hM25]; split <;> omega) hs2 a14 ?_ hold (fun i _ => hM222 i) h2k h26
      exact rowC_new (E := 0) hom hsl a14 a16 a17 (fun _ => a18) (by rw [a19, if_neg n35]) a20 a21 (fun z => absurd z n34) (by omega)
    · rw [hnm (Or.inl n35)]
      have hu : ∀ y, y ≠ 19 → im_u M2 19 m nm y = M2 y := fun y hy => im_u_ne _ _ _ hy
      refine c_nodeEnd (E' := dg + M 23 5) h hx (by omega) hKs hb hm h37 (hF2.r (by decide) (by decide) w2 _) (by rw [hu 23 (by decide)]; exact hM27) (by rw [hu 23 (by decide), hM25]) (Int.le_refl _) (by rw [hu 23 (by decide), hM25]; split <;> omega) ⟨by rw [hu 23 (by decide)]; exact hs2.1, stk_congr _ hs2.2 (fun i _ _ => ⟨by rw [hu 24 (by decide)], by rw [hu 25 (by decide)]⟩)⟩ (by rw [hu 14 (by decide)]; exact a14) ?_ (fun y i y1 y2 i0 i1 => ?_) (fun i _ => by rw [hu 22 (by decide)]; exact hM222 i) (fun k => by rw [hu 2 (by decide)]; exact h2k k) (cn_congr h26 (hu 26 (by decide)) (hu 27 (by decide)))
      · exact rowC_new (E := 0) hom hsl (by rw [hu 14 (by decide)]; exact a14) (by rw [hu 16 (by decide)]; exact a16) (by rw [hu 17 (by decide)]; exact a17) (fun _ => by rw [hu 18 (by decide)]; exact a18) (by rw [im_rds, if_pos n35]) (by rw [hu 20 (by decide)]; exact a20) (by rw [hu 21 (by decide)]; exact a21) (fun z => absurd z n34) (by omega)
      · by_cases hy : y = 19
        · subst hy; rw [im_rdk _ _ _ (by omega)]; exact hold 19 i (by decide) (by decide) i0 i1
        · rw [hu y hy]; exact hold y i y1 y2 i0 i1
    · rw [hM13, hM25]
      have hv34 := hv e34
      have hu : ∀ y, y ≠ 18 → im_u M2 18 m (dg + M 23 5) y = M2 y := fun y hy => im_u_ne _ _ _ hy
      refine c_storeNumber (E := dg + M 23 5) (v := v) (by rw [hu 13 (by decide), hu 23 (by decide), hM13, hM25]) (by rw [hu 13 (by decide), hM13]; exact hdg) (by rw [hu 23 (by decide), hM25]; exact p3) hrm (cn_congr hv34.1 (by rw [hu 5 (by decide), a1 5 (by decide) (by decide) (by decide), hpne 5 (by decide)]) (by rw [hu 6 (by decide), a1 6 (by decide) (by decide) (by decide), hpne 6 (by decide)])) (by omega) (fun M3 p' b1 b2 b3 b4 b5 => ⟨rfl, rfl, ?_⟩)
      have hpl := dgs_len b5 hv34.2
      have hpg : dg + M 23 5 < p' := by obtain ⟨k, _, _, q, _⟩ := b5; omega
      have b2k : ∀ k, M3 2 k = M 2 k := fun k => by rw [b1 2 (by decide) (by decide), hu 2 (by decide)]; exact h2k k
      have hM35 : dg + M3 23 5 = p' := by rw [b3, hu 23 (by decide), hM25]; omega
      have h18m : M3 18 m = dg + M 23 5 := by rw [b1 18 (by decide) (by decide), im_rds]
      have hM3s : ∀ y, y ≠ 18 → y ≠ 22 → y ≠ 23 → M3 y = M2 y := fun y y1 y2 y3 => by rw [b1 y y2 y3, hu y y1]
      rw [b2k 4, h4]
      refine ⟨fun n35 => ?_, fun n35 => by omega⟩
      refine c_nodeEnd (E' := p') h hx (by omega) hKs hb hm h37 ?_ (by rw [b2 7 (by decide), hu 23 (by decide)]; exact hM27) hM35 (by omega) (by rw [if_pos e34]; omega) ⟨by rw [b2 4 (by decide), hu 23 (by decide)]; exact hs2.1, stk_congr _ hs2.2 (fun i _ _ => ⟨by rw [hM3s 24 (by decide) (by decide) (by decide)], by rw [hM3s 25 (by decide) (by decide) (by decide)]⟩)⟩ (by rw [hM3s 14 (by decide) (by decide) (by decide)]; exact a14) ?_ (fun y i y1 y2 i0 i1 => ?_) (fun i hi => by rw [b4 i hi, hu 22 (by decide)]; exact hM222 i) b2k (cn_congr h26 (hM3s 26 (by decide) (by decide) (by decide)) (hM3s 27 (by decide) (by decide) (by decide)))
      · have hF3 : FR lo dg M0 (im_u M2 18 m (dg + M 23 5)) := hF2.r (by decide) (by decide) w2 _
        refine ⟨fun y c1 c2 c3 c4 => (b1 y (by omega) (by omega)).trans (hF3.1 y c1 c2 c3 c4), fun k c1 => by rw [b1 2 (by decide) (by decide)]; exact hF3.2.1 k c1, fun y i c1 c2 c3 => by rw [b1 y (by omega) (by omega)]; exact hF3.2.2.1 y i c1 c2 c3, fun i c1 => by rw [b4 i (by omega)]; exact hF3.2.2.2.1 i c1, fun k c1 c2 c3 => by rw [b2 k c2]; exact hF3.2.2.2.2.1 k c1 c2 c3, hF3.2.2.2.2.2.e (b1 26 (by decide) (by decide)) (b1 27 (by decide) (by decide))⟩
      · refine rowC_new (E := 0) hom hsl (by rw [hM3s 14 (by decide) (by decide) (by decide)]; exact a14) (by rw [hM3s 16 (by decide) (by decide) (by decide)]; exact a16) (by rw [hM3s 17 (by decide) (by decide) (by decide)]; exact a17) (fun z => by omega) (by rw [hM3s 19 (by decide) (by decide) (by decide), a19, if_neg n35]) (by rw [hM3s 20 (by decide) (by decide) (by decide)]; exact a20) (by rw [hM3s 21 (by decide) (by decide) (by decide)]; exact a21) (fun _ => ⟨p', by rw [h18m]; exact b5, Int.le_refl _⟩) (by omega)
      · by_cases hy : y = 18
        · subst hy; rw [b1 18 (by decide) (by decide), im_rdk _ _ _ (by omega)]; exact hold 18 i (by decide) (by decide) i0 i1
        · rw [hM3s y hy (by omega) (by omega)]; exact hold y i y1 y2 i0 i1
  · refine c_meetOpen h hx hlen (by omega) (fun M' hF' hs' => ⟨rfl, rfl, ?_⟩)
    have hstO : stp lo ty nm v (x :: r, R, m, lw) = .inr (x :: (41, 0, 0, 0) :: r, R, m, lw) := by rw [hst]; unfold stpN; rw [if_pos h37]
    have e5 : M' 23 5 = M 23 5 := hF'.2 5 (by decide)
    refine hKs _ hstO M' (PI_mk (p1.trans (FR.sf hF')) ((hF'.2 7 (by decide)).trans p2) (by rw [e5]; exact p3) hs' (fun i i0 i1 => ?_) (cn_congr p6 (hF'.1 26 (by decide) (by decide) (by decide)) (hF'.1 27 (by decide) (by decide) (by decide))) ⟨fun z => by omega, fun z => by omega⟩) (fun k => by rw [hF'.1 2 (by decide) (by decide) (by decide)]) (by rw [e5]; split <;> omega)
    rw [e5]
    exact rowC_congr (p5 i i0 i1) (fun y y1 y2 => by rw [hF'.1 y (by omega) (by omega) (by omega)]) (fun j _ => by rw [hF'.1 22 (by decide) (by decide) (by decide)]) (fun _ _ => rfl) (Int.le_refl _) (fun z => (h29 i i0 i1 z).2)
end CPAR8
