/-! THE CLASS proposes: a case that is worked out; all cases; a level -/
section CPROP2
variable {g : im_g} {d : Nat} {e : im_E} {M : im_M} {K : im_K} {R : Rw} {m E : Int} {giv : Bk} {l : Lv} {j b bp : Nat}
theorem c_pOne {c : Int} {cs : List Int} {p : Nat} (hp0 : p = 0) (hW : WFP R m) (hj : j < 128) (h : aimd M e R m E giv l b bp) (hb : 7082 ≤ b) (hbp : bpO bp) (hp : pN M) (hls : 0 ≤ l.ls ∧ l.ls ≤ 1000000000000000) (c0 : 0 ≤ c) (c1 : c < m) (hk : R 0 c = 28 ∨ R 0 c = 30) (h59 : M 2059 j = p) (h57 : M 2057 j = l.ls) (h15 : M 15 c = hdc cs (R 17 l.nd)) (hd : 107 ≤ d) (hK : pKt K e M R m E giv l b bp j c cs p) : im_T g d 244 0 [some (.ref 1793), some (vI j), some (vI c), none] [] e M K := by
  have hm := hW.2.1
  obtain ⟨h4, st, en, fl, ρ, ρ', cp, hC⟩ := id h
  have hn29 : R 0 c ≠ 29 := by omega
  have hr0 := (hC.2.1.2 c c0 c1).1
  refine im_rng (j := c) sf_19 c0 (by show c < 5000; omega) (fun ra => im_rng (j := c) sf_20 c0 (by show c < 5000; omega) (fun rb => im_rng (j := c) sf_21 c0 (by show c < 5000; omega) (fun rc => ?_)))
  have ra : im_i64 (R 4 c) := by rw [← hr0.2.2.2.1]; exact ra
  have rb : im_i64 (R 5 c) := by rw [← hr0.2.2.2.2.1]; exact rb
  have rc : im_i64 (R 6 c) := by rw [← hr0.2.2.2.2.2.1]; exact rc
  clear hr0
  obtain ⟨⟨g1, _⟩, _⟩ := kids_k (hW.2.2 c c0 c1).1 (by omega)
  obtain ⟨k1, k2, k3, _, k5, k6⟩ := g1 hn29
  clear g1
  have hdp := (hW.2.2 (c + 1) (by omega) k2).2.2.1
  refine k_Search_proposeWorked_0 (by omega) ⟨⟨c0, by omega⟩, ⟨by omega, by omega⟩, ?_⟩
  rw [h57, h15]
  have ux : ∀ x, x ≠ 2058 → im_u M 2058 j (hdc cs (R 17 l.nd)) x = M x := fun x a => im_u_ne _ _ _ a
  have F0 : PFr j M (im_u M 2058 j (hdc cs (R 17 l.nd))) := PFr.u _ (by omega)
  have u58 : im_u M 2058 j (hdc cs (R 17 l.nd)) 2058 j = hdc cs (R 17 l.nd) := im_rds _ _ _ _
  generalize im_u M 2058 j (hdc cs (R 17 l.nd)) = N at ux F0 u58
  have CN := hC.cg hb hbp (M' := N) (fun x hx => ux x (by omega))
  have PN := hp.cg (M' := N) (fun x hx => ux x (by omega))
  have u59 : N 2059 j = p := by rw [ux 2059 (by decide)]; exact h59
  have u57 : N 2057 j = l.ls := by rw [ux 2057 (by decide)]; exact h57
  refine k_Machine_stand_0 ⟨by constructor <;> omega, by constructor <;> omega, rfl, rfl, ?_⟩
  obtain ⟨C1, _⟩ := CN.std hls hls
  have F1 : PFr j N (im_u (im_u (im_u N 931 10 l.ls) 931 11 l.ls) 931 12 0) := PFr.xu
  have x1 : ∀ x, x ≠ 931 → im_u (im_u (im_u N 931 10 l.ls) 931 11 l.ls) 931 12 0 x = N x := fun x a => by rw [im_u_ne _ _ _ a, im_u_ne _ _ _ a, im_u_ne _ _ _ a]
  generalize im_u (im_u (im_u N 931 10 l.ls) 931 11 l.ls) 931 12 0 = M6 at C1 F1 x1
  have P6 : pN M6 := PN.cg (fun x hx => x1 x (by omega))
  have h12 : M6 931 12 = 0 := C1.2.2.2.1.1
  have hof := ofP_no (R := R) (Γ := l.env giv) (ls := l.ls) (tm := tmo R giv l.nd) (p := p) (cs := cs) hn29
  have hwv : vkd (R 0 (c + 1)) ∨ okd (R 0 (c + 1)) := by
    rcases hk with z | z
    · exact Or.inl (k5 z)
    · exact Or.inr (k6 z)
  replace k5 : Wr (R 0 c = 28 → vkd (R 0 (c + 1))) := k5
  replace k6 : Wr (R 0 c = 30 → okd (R 0 (c + 1))) := k6
  refine c_work hW 101 (c + 1) 0 0 (d - 1) M6 rfl (by omega) k2 hwv C1.2.1 C1.1 C1.2.2.1 (Or.inl h12) (by omega) (by show ((0 : Nat) : Int) ≤ _; omega) (by omega) (fun M9 τ W9 hfl9 hrs => ⟨_, rfl, rfl, ?_⟩)
  obtain ⟨hτ, hv, ho, hs, hno⟩ := hrs
  have C9 : CT M9 e R m E giv l.ls l.ls 1 (M9 931 12) (l.ts ρ ρ' cp) b bp 20 := C1.wd W9 rfl
  have x9 : ∀ x, (x < 931 ∨ 935 < x) → (x < 1207 ∨ 1793 ≤ x) → M9 x = M6 x := fun x a b => W9.1 x (by omega) (by omega) (by omega) (by omega)
  have A9 : aimd M9 e R m E giv l b bp := ⟨by rw [x9 b (by omega) (by omega), x1 b (by omega), ux b (by omega)]; exact h4, _, _, _, _, _, _, C9⟩
  have P9 : pN M9 := P6.cg (fun x hx => x9 x (by omega) (by omega))
  have F9 : PFr j M M9 := (F0.trans F1).trans (PFr.wd W9)
  have hr := (C9.2.1.2 c c0 c1).1
  have e14 : M9 14 c = R 0 c := hr.1
  have e19 : M9 19 c = R 4 c := hr.2.2.2.1
  have e20 : M9 20 c = R 5 c := hr.2.2.2.2.1
  have e21 : M9 21 c = R 6 c := hr.2.2.2.2.2.1
  have v58 : M9 2058 j = hdc cs (R 17 l.nd) := by rw [x9 2058 (by decide) (by decide), x1 2058 (by decide)]; exact u58
  have v59 : M9 2059 j = p := by rw [x9 2059 (by decide) (by decide), x1 2059 (by decide)]; exact u59
  have v57 : M9 2057 j = l.ls := by rw [x9 2057 (by decide) (by decide), x1 2057 (by decide)]; exact u57
  have hΓ : (l.ts ρ ρ' cp).env giv l.ls l.ls = l.env giv := rfl
  rw [hΓ] at hv ho hs hno
  replace hv : Wr _ := hv
  replace ho : Wr _ := ho
  rw [e14, e19, e20, e21]
  cases hev : ev R (l.env giv) 101 (c + 1) with
  | none =>
    have h1 := hno hev
    have hone : oneB R (l.env giv) l.ls c = [] := by
      unfold oneB
      rw [k1, hev]
    rw [hone] at hof
    refine ⟨fun z => by omega, fun _ => ?_⟩
    exact hK M9 false (hdc cs (R 17 l.nd)) p [] F9 A9 P9 v58 v59 (Or.inr ⟨rfl, hp0, hof⟩) (fun z => by cases z) (fun _ => rfl)
  | some x =>
    have h1 : M9 931 12 = 0 := (hs x hev).trans h12
    have hone : oneB R (l.env giv) l.ls c = if R 0 c = 28 then [(28, R 4 c, R 5 c, R 6 c, x, l.ls)] else if x = 1 then [(30, 0, 0, 0, 0, l.ls)] else [] := by
      unfold oneB
      rw [k1, hev]
    have hnj : im_num e (1801 + 2 * j) := rw_1795.2 j hj
    refine ⟨fun _ => ⟨fun hn30 => ?_, fun h30 => ?_⟩, fun z => absurd h1 z⟩
    · have h28 : R 0 c = 28 := by omega
      obtain ⟨q, w, hq1, hq2, hq3⟩ := hv (k5 h28)
      have hwx := hq3 x hev
      subst hwx
      obtain ⟨hn0, hc0, hc1⟩ := C9.n0 hq1
      refine c_pset hj (by decide) ra rb rc (fun M1 x1' F1' ⟨r1, r2, r3, r4⟩ => ⟨rfl, rfl, 1801 + 2 * j, by rw [x1' 1800 (by decide)]; exact (P9.1 j hj).1, hnj, q, by rw [x1' 932 (by decide)]; exact hq1, hn0, ?_⟩)
      refine c_copy hnj hn0 (by omega) (cn_congr hq2 (x1' _ (by omega)) (x1' _ (by omega))) (fun M2 f2 c2 => ⟨rfl, rfl, ?_⟩)
      have f2' : ∀ y, y ≠ 1801 + 2 * j → y ≠ 1801 + 2 * j + 1 → M2 y = M1 y := f2
      have P1 : pN M1 := P9.cg (fun x hx => x1' x (by omega))
      rw [hone, if_pos h28] at hof
      refine hK M2 true (hdc cs (R 17 l.nd)) p _ ((F9.trans F1').trans (PFr.nf f2 (Or.inl rfl) hj)) ((A9.cg hb hbp (M' := M1) (fun x hx => x1' x (by omega))).cg hb hbp (fun x hx => f2' x (by omega) (by omega))) (P1.nf (j := j) f2 (Or.inl rfl) hj c2) (by rw [f2' 2058 (by omega) (by omega), x1' 2058 (by decide)]; exact v58) (by rw [f2' 2059 (by omega) (by omega), x1' 2059 (by decide)]; exact v59) (Or.inr ⟨rfl, hp0, hof⟩) (fun _ => ⟨_, rfl, ?_⟩) (fun z => by cases z)
      refine ⟨⟨?_, fun _ => ⟨?_, ?_, ?_, c2⟩, fun _ => ?_, ?_⟩, ?_, ?_, ?_⟩
      · rw [f2' _ (by omega) (by omega)]; exact r1
      · rw [f2' _ (by omega) (by omega)]; exact r2
      · rw [f2' _ (by omega) (by omega)]; exact r3
      · rw [f2' _ (by omega) (by omega)]; exact (P1.1 j hj).1
      · rw [f2' _ (by omega) (by omega)]; exact r4
      · rw [f2' _ (by omega) (by omega), x1' 2057 (by decide)]; exact v57
      · rw [f2' _ (by omega) (by omega)]; exact r2
      · rw [f2' _ (by omega) (by omega)]; exact r3
      · rw [f2' _ (by omega) (by omega)]; exact r4
    · have hτx := ho (k6 h30) x hev
      rw [hone, if_neg (by omega)] at hof
      refine c_pset hj (by decide) (by decide) (by decide) (by decide) (fun M1 x1' F1' ⟨r1, r2, r3, r4⟩ => ⟨rfl, rfl, hτ, ?_⟩)
      have A1 : aimd M1 e R m E giv l b bp := A9.cg hb hbp (fun x hx => x1' x (by omega))
      have P1 : pN M1 := P9.cg (fun x hx => x1' x (by omega))
      have w58 : M1 2058 j = hdc cs (R 17 l.nd) := by rw [x1' 2058 (by decide)]; exact v58
      have w59 : M1 2059 j = p := by rw [x1' 2059 (by decide)]; exact v59
      by_cases hx1 : x = 1
      · rw [if_pos hx1] at hof
        have hτ1 : τ = 1 := by omega
        rw [hτ1]
        exact hK M1 true (hdc cs (R 17 l.nd)) p _ (F9.trans F1') A1 P1 w58 w59 (Or.inr ⟨rfl, hp0, hof⟩) (fun _ => ⟨_, rfl, ⟨r1, fun z => absurd z (by show ¬ ((30 : Int) = 28 ∨ (30 : Int) = 29); decide), fun z => absurd z (by show ¬ ((30 : Int) = 28); decide), by rw [x1' 2057 (by decide)]; exact v57⟩, r2, r3, r4⟩) (fun z => by cases z)
      · rw [if_neg hx1] at hof
        have hτ0 : τ = 0 := by
          rcases ev_01 hW 101 (c + 1) x (by omega) k2 (k6 h30) hev with z | z <;> omega
        rw [hτ0]
        exact hK M1 false (hdc cs (R 17 l.nd)) p [] (F9.trans F1') A1 P1 w58 w59 (Or.inr ⟨rfl, hp0, hof⟩) (fun z => by cases z) (fun _ => rfl)
theorem l_prop (hW : WFP R m) (hj : j < 128) (hb : 7082 ≤ b) (hbp : bpO bp) (hls : 0 ≤ l.ls ∧ l.ls ≤ 1000000000000000) (n0 : 0 ≤ l.nd) (n1 : l.nd < m) (hk3 : R 0 l.nd = 3) (hd : 108 ≤ d) {M0 : im_M} : ∀ (n : Nat) (cs : List Int) (pp w : Int) (p : Nat) (i : Int) (M : im_M), cz R p cs ≤ n → 0 ≤ i → i + n ≤ 99 → cuC R m l cs pp w p → M 2058 j = hdc cs (R 17 l.nd) → M 2059 j = p → aimd M e R m E giv l b bp → pN M → PFr j M0 M → (∀ M' q L, PFr j M0 M' → aimd M' e R m E giv l b bp → pN M' → cRy M' j q → cCu M' R m giv j l L → ofP R (l.env giv) l.ls (tmo R giv l.nd) p cs = q :: L → K (.inl (some (vI 1))) e M') → im_T g d 240 98 [some (.ref 1793), some (vI j), some (.ref b), some (vI i), none, none] [] e M K := by
  have hm := hW.2.1
  obtain ⟨_, _, _, _, _, k17a, k17, _, k17b⟩ := kids_w (hW.2.2 _ n0 n1).1 hk3
  intro n
  induction n with
  | zero =>
    intro cs pp w p i M hn i0 hi hcu h58 h59 hA hP hF hK
    cases cs with
    | cons c cs =>
      exfalso
      unfold cz at hn
      split at hn <;> omega
    | nil =>
      obtain ⟨h4, st, en, fl, ρ, ρ', cp, hC⟩ := id hA
      have h58 : M 2058 j = R 17 l.nd := h58
      refine k_Search_propose_98 hC.1.2.1.1 (by omega) ?_
      rw [h58]
      refine ⟨by constructor <;> omega, fun _ => ⟨⟨by omega, by omega⟩, fun _ => ?_⟩, fun z => by omega⟩
      refine c_isCase hC.2.1 hm (by omega) k17 (fun z => absurd z (by unfold bgn at k17b; omega)) (fun _ => ⟨_, rfl, rfl, by decide, fun z => absurd rfl z, fun _ => ?_⟩)
      have ux : ∀ x, x ≠ 2058 → im_u M 2058 j (-2) x = M x := fun x a => im_u_ne _ _ _ a
      have u58 : im_u M 2058 j (-2) 2058 j = -2 := im_rds _ _ _ _
      have F0 : PFr j M (im_u M 2058 j (-2)) := PFr.u _ (by omega)
      generalize im_u M 2058 j (-2) = N at ux u58 F0
      have CN := hC.cg hb hbp (M' := N) (fun x hx => ux x (by omega))
      have e5 : N b 5 = l.nd := CN.2.2.2.1.2.2.2
      rw [e5]
      refine c_timeOf (s := l.ts ρ ρ' cp) CN.2.1 CN.1 hm n0 n1 (by omega) (fun hti => ⟨_, rfl, rfl, ?_⟩)
      refine c_pWait hj hti ⟨by rw [ux b (by omega)]; exact h4, _, _, _, _, _, _, CN⟩ hb hbp (hP.cg (fun x hx => ux x (by omega))) (by omega) (fun M' F' q' A' P' rd' => ⟨_, rfl, rfl, by decide, ?_⟩)
      exact hK M' _ [] ((hF.trans F0).trans F') A' P' rd' (Or.inr (Or.inl ⟨q'.1.trans u58, rfl⟩)) rfl
  | succ n ih =>
    intro cs pp w p i M hn i0 hi hcu h58 h59 hA hP hF hK
    cases cs with
    | nil => exact ih [] pp w p i M (Nat.zero_le _) i0 (by omega) hcu h58 h59 hA hP hF hK
    | cons c cs =>
      have hnx := hcu.nx hW n0
      obtain ⟨⟨q0, ⟨a1, a2, a3, a4, a5, a6⟩, hx⟩, h2, h4', h5⟩ := id hcu
      obtain ⟨h5, h5'⟩ := h5 c cs rfl
      have hlt := nxt_lt a2
      have c0 : 0 ≤ c := by omega
      have h31 := (hW.2.2 c c0 a5).1.1.2
      have hkk : R 0 c = 28 ∨ R 0 c = 29 ∨ R 0 c = 30 := by omega
      have h58 : M 2058 j = c := h58
      obtain ⟨h4, st, en, fl, ρ, ρ', cp, hC⟩ := id hA
      have e15 : ∀ {N : im_M}, CP N R m E → N 15 c = hdc cs (R 17 l.nd) := fun {N} hN => by
        have hn := nxt_1 (hdc_nx a6 hx) (by omega)
        have hlt2 : hdc cs (R 17 l.nd) < m := by
          cases cs with
          | nil => exact k17
          | cons a cs => exact a6.2.2.2.2.1
        exact ends_nx hn hlt2 (hN.2 c c0 a5).2
      have e14 : M 14 c = R 0 c := (hC.2.1.2 c c0 a5).1.1
      refine k_Search_propose_98 hC.1.2.1.1 (by omega) ?_
      rw [h58]
      refine ⟨by constructor <;> omega, fun _ => ⟨⟨by omega, by omega⟩, fun _ => ?_⟩, fun z => by omega⟩
      refine c_isCase hC.2.1 hm c0 a5 (fun _ => ⟨_, rfl, rfl, by decide, fun _ => ⟨⟨c0, by omega⟩, ?_⟩, fun z => absurd z (by decide)⟩) (fun z => absurd (by omega) z)
      rw [e14, h4]
      have ux : ∀ x, x ≠ 2057 → im_u M 2057 j l.ls x = M x := fun x a => im_u_ne _ _ _ a
      have u57 : im_u M 2057 j l.ls 2057 j = l.ls := im_rds _ _ _ _
      have F0 : PFr j M (im_u M 2057 j l.ls) := PFr.u _ (by omega)
      generalize im_u M 2057 j l.ls = N at ux u57 F0
      have AN : aimd N e R m E giv l b bp := hA.cg hb hbp (fun x hx => ux x (by omega))
      have PN : pN N := hP.cg (fun x hx => ux x (by omega))
      have CN : CP N R m E := by obtain ⟨_, _, _, _, _, _, _, q⟩ := AN; exact q.2.1
      have cont : pKt (im_ri fun x23 e_ M20 => e = e_ ∧ (im_i32 x23) ∧ ((x23 = 0 → im_T g d 240 98 [some (.ref 1793), some (vI j), some (.ref b), some (vI (i + 1)), none, none] [] e M20 K) ∧ (¬ x23 = 0 → K (.inl (some (vI 1))) e M20))) e N R m E giv l b bp j c cs p := by
        intro M' f c' p' o F' A' P' e58 e59 hor hf1 hf0
        obtain ⟨cs2, pp2, w2, hcu2, hz2, hh2, hof2⟩ : ∃ (cs2 : List Int) (pp2 w2 : Int), cuC R m l cs2 pp2 w2 p' ∧ cz R p' cs2 ≤ n ∧ c' = hdc cs2 (R 17 l.nd) ∧ ofP R (l.env giv) l.ls (tmo R giv l.nd) p (c :: cs) = o ++ ofP R (l.env giv) l.ls (tmo R giv l.nd) p' cs2 := by
          rcases hor with ⟨y1, y2, y3, y4, y5⟩ | ⟨y1, y2, y3⟩
          · refine ⟨c :: cs, pp, w, ⟨⟨q0, ⟨a1, a2, a3, a4, a5, a6⟩, hx⟩, h2, h4', fun c2 cs2 hc => ?_⟩, ?_, y1, y5⟩
            · cases hc; exact ⟨fun _ => by omega, fun z => absurd y2 z⟩
            · unfold cz at hn ⊢
              rw [if_pos y2] at hn ⊢
              omega
          · subst y2
            refine ⟨cs, c, R 19 c, hnx, ?_, y1, y3⟩
            unfold cz at hn
            split at hn <;> omega
        cases f with
        | true =>
          obtain ⟨q, hq, hrd⟩ := hf1 rfl
          refine ⟨_, rfl, rfl, by decide, fun z => absurd z (by decide), fun _ => ?_⟩
          refine hK M' q _ ((hF.trans F0).trans F') A' P' hrd (Or.inr (Or.inr ⟨hk3, cs2, pp2, w2, p', hcu2, by rw [e58]; exact hh2, e59, rfl⟩)) ?_
          rw [hof2, hq]
          rfl
        | false =>
          have ho := hf0 rfl
          refine ⟨_, rfl, rfl, by decide, fun _ => ?_, fun z => absurd rfl z⟩
          refine ih cs2 pp2 w2 p' (i + 1) M' hz2 (by omega) (by omega) hcu2 (by rw [e58]; exact hh2) e59 A' P' ((hF.trans F0).trans F') (fun M2 q L F2 A2 P2 rd2 cu2 hl => hK M2 q L F2 A2 P2 rd2 cu2 ?_)
          rw [hof2, ho]
          exact hl
      refine ⟨fun hn29 => ?_, fun h29 => ?_⟩
      · exact c_pOne (h5' hn29) hW hj AN hb hbp PN hls c0 a5 (by omega) (by rw [ux 2059 (by decide)]; exact h59) u57 (e15 CN) (by omega) cont
      · exact c_pCh hW hj AN hb hbp PN c0 a5 h29 (by rw [ux 2058 (by decide)]; exact h58) (by rw [ux 2059 (by decide)]; exact h59) u57 (h5 h29) (e15 CN) (by omega) cont
theorem cz_le {R : Rw} {m : Int} (hW : WFP R m) : ∀ (cs : List Int) (p : Nat), (∀ c ∈ cs, 0 ≤ c ∧ c < m) → cz R p cs ≤ 9 * cs.length := by
  intro cs
  induction cs with
  | nil => intro p _; exact Nat.zero_le _
  | cons c cs ih =>
    intro p hc
    have h1 := ih 0 (fun x hx => hc x (List.mem_cons_of_mem _ hx))
    obtain ⟨c0, c1⟩ := hc c List.mem_cons_self
    have hlen : (c :: cs).length = cs.length + 1 := rfl
    unfold cz
    rw [hlen]
    split
    · rename_i h29
      have := (hW.2.2 c c0 c1).2.2.2 h29
      omega
    · omega
theorem chc_m2 {R : Rw} {m i q : Int} (hi : 0 ≤ i) : ∀ (cs : List Int) (p l : Int), i ≤ p → chc R m i p l cs q → ∀ c ∈ cs, 0 ≤ c ∧ c < m := by
  intro cs
  induction cs with
  | nil => intro p l _ _ c hc; cases hc
  | cons a cs ih =>
    intro p l hp h c hc
    obtain ⟨a1, a2, a3, a4, a5, a6⟩ := h
    have hlt := nxt_lt a2
    rcases List.mem_cons.mp hc with z | z
    · rw [z]; exact ⟨by omega, a5⟩
    · exact ih a _ (by omega) a6 c z
/-- a level proposes its next try, or none -/
theorem c_prop98 {L : List Pe} (hW : WFP R m) (hj : j < 128) (hb : 7082 ≤ b) (hbp : bpO bp) (hls : 0 ≤ l.ls ∧ l.ls ≤ 1000000000000000) (n0 : 0 ≤ l.nd) (n1 : l.nd < m) (hd : 108 ≤ d) {M0 : im_M} (hA : aimd M e R m E giv l b bp) (hP : pN M) (hF : PFr j M0 M) (hc : cCu M R m giv j l L) (hne : M 2058 j ≠ -1)
    (hK1 : ∀ M' q L', L = q :: L' → PFr j M0 M' → aimd M' e R m E giv l b bp → pN M' → cRy M' j q → cCu M' R m giv j l L' → K (.inl (some (vI 1))) e M') (hK0 : L = [] → ∀ M', PFr j M0 M' → aimd M' e R m E giv l b bp → pN M' → K (.inl (some (vI 0))) e M') : im_T g d 240 98 [some (.ref 1793), some (vI j), some (.ref b), some (vI 0), none, none] [] e M K := by
  obtain ⟨h4, st, en, fl, ρ, ρ', cp, hC⟩ := id hA
  rcases hc with ⟨z1, z2⟩ | ⟨z1, z2⟩ | ⟨z1, cs, pp, w, p, z2, z3, z4, z5⟩
  · exact absurd z1 hne
  · exact k_Search_propose_98 hC.1.2.1.1 (by omega) ⟨by decide, fun _ => ⟨⟨by omega, by omega⟩, fun z => absurd z1 z⟩, fun _ => hK0 z2 M hF hA hP⟩
  · obtain ⟨⟨q0, hch, _⟩, hpp, h8, _⟩ := id z2
    have hz := cz_le hW cs p (chc_m2 n0 cs pp w hpp hch)
    exact l_prop (M0 := M0) hW hj hb hbp hls n0 n1 z1 hd (cz R p cs) cs pp w p 0 M (Nat.le_refl _) (Int.le_refl _) (by omega) z2 z3 z4 hA hP hF (fun M' q L' F' A' P' rd' cu' hl => hK1 M' q L' (by rw [z5]; exact hl) F' A' P' rd' cu')
/-- the level is told what it has yet to try -/
theorem c_propAt {L : List Pe} (hW : WFP R m) (hj : j < 128) (hb : 7082 ≤ b) (hbp : bpO bp) (hls : 0 ≤ l.ls ∧ l.ls ≤ 1000000000000000) (n0 : 0 ≤ l.nd) (n1 : l.nd < m) (hd : 108 ≤ d) {M0 : im_M} (hA : aimd M e R m E giv l b bp) (hP : pN M) (hF : PFr j M0 M) (hc : cCu M R m giv j l L)
    (hK1 : ∀ M' q L', L = q :: L' → PFr j M0 M' → aimd M' e R m E giv l b bp → pN M' → cRy M' j q → cCu M' R m giv j l L' → K (.inl (some (vI 1))) e M') (hK0 : L = [] → ∀ M', PFr j M0 M' → aimd M' e R m E giv l b bp → pN M' → K (.inl (some (vI 0))) e M') :
    ((¬ (M 2058 j) = (-1) → im_T g d 240 98 [some (.ref 1793), some (vI j), some (.ref b), some (vI 0), none, none] [] e M K) ∧ ((M 2058 j) = (-1) → im_T g (d - 1) 112 0 [some (.ref 931), some (vL ((im_u M 2058 j (-2)) b 4)), none, none] [] e (im_u M 2058 j (-2)) (im_ri (fun x20 e_ M17 => e = e_ ∧ (im_i32 x20) ∧ ((¬ x20 = 0 → (0 ≤ (M17 b 5) ∧ (M17 b 5) < 5000) ∧ ((¬ (M17 14 (M17 b 5)) = 3 → im_T g d 240 98 [some (.ref 1793), some (vI j), some (.ref b), some (vI 0), none, none] [] e M17 K) ∧ ((M17 14 (M17 b 5)) = 3 → (im_i32 ((M17 b 5) + 1)) ∧ im_T g d 240 98 [some (.ref 1793), some (vI j), some (.ref b), some (vI 0), none, none] [] e (im_u (im_u M17 2058 j ((M17 b 5) + 1)) 2059 j 0) K))) ∧ (x20 = 0 → im_T g (d - 1) 241 0 [some (.ref 1793), some (vI j), some (vL (M17 b 4)), none] [] e M17 (im_ri (fun x33 e_ M30 => e = e_ ∧ (0 ≤ x33 ∧ x33 ≤ 1) ∧ K (.inl (some (vI x33))) e M30)))))))) := by
  have hm := hW.2.1
  refine ⟨fun hne => c_prop98 hW hj hb hbp hls n0 n1 hd hA hP hF hc hne hK1 hK0, fun he => ?_⟩
  have hL : L = ofs R giv l := by
    rcases hc with ⟨z1, z2⟩ | ⟨z1, z2⟩ | ⟨z1, cs, pp, w, p, z2, z3, z4, z5⟩
    · exact z2
    · omega
    · exfalso
      obtain ⟨⟨q0, hch, _⟩, hpp, h8, _⟩ := id z2
      obtain ⟨_, _, _, _, _, k17a, k17, _, k17b⟩ := kids_w (hW.2.2 _ n0 n1).1 z1
      have : 0 ≤ hdc cs (R 17 l.nd) := by
        cases cs with
        | nil => show 0 ≤ R 17 l.nd; omega
        | cons c cs => exact (chc_m2 n0 (c :: cs) pp w hpp hch c List.mem_cons_self).1
      omega
  have ux : ∀ x, x ≠ 2058 → im_u M 2058 j (-2) x = M x := fun x a => im_u_ne _ _ _ a
  have u58 : im_u M 2058 j (-2) 2058 j = -2 := im_rds _ _ _ _
  have F0 : PFr j M (im_u M 2058 j (-2)) := PFr.u _ (by omega)
  generalize im_u M 2058 j (-2) = N at ux u58 F0
  have AN : aimd N e R m E giv l b bp := hA.cg hb hbp (fun x hx => ux x (by omega))
  have PN : pN N := hP.cg (fun x hx => ux x (by omega))
  obtain ⟨h4, st, en, fl, ρ, ρ', cp, CN⟩ := id AN
  have e5 : N b 5 = l.nd := CN.2.2.2.1.2.2.2
  have e14 : N 14 l.nd = R 0 l.nd := (CN.2.1.2 l.nd n0 n1).1.1
  rw [h4]
  refine c_isQuiet (s := l.ts ρ ρ' cp) CN hm n0 n1 (by constructor <;> omega) (by omega) (fun hq => ⟨_, rfl, rfl, by decide, fun _ => ?_, fun z => absurd z (by decide)⟩) (fun hq => ⟨_, rfl, rfl, by decide, fun z => absurd rfl z, fun _ => ?_⟩)
  · have hq : (R 0 l.nd = 0 ∧ l.ac.1 = 0) ∨ (R 0 l.nd = 3 ∧ l.ls < tmo R giv l.nd) := hq
    rw [e5, e14]
    refine ⟨⟨n0, by omega⟩, fun hn3 => ?_, fun h3 => ⟨by constructor <;> omega, ?_⟩⟩
    · have hL0 : L = [] := by
        rw [hL]
        unfold ofs
        rw [if_pos (by omega)]
      refine c_prop98 (L := L) hW hj hb hbp hls n0 n1 hd AN PN (hF.trans F0) (Or.inr (Or.inl ⟨u58, hL0⟩)) (by omega) hK1 hK0
    · obtain ⟨cs, q0, d1, d2, d3, _⟩ := kids_w (hW.2.2 _ n0 n1).1 h3
      have hh := nxt_0 (hdc_nx d1 d3)
      have hlt : l.ls < tmo R giv l.nd := by omega
      have hofs : L = ofP R (l.env giv) l.ls (tmo R giv l.nd) 0 cs := by
        rw [hL]
        unfold ofs
        rw [if_neg (fun w => by omega), if_pos ⟨h3, hlt⟩, csO_chc cs l.nd (R 16 l.nd) 9 n0 (Int.le_refl _) d1 (by omega), ofP_0]
      have vx : ∀ x, x ≠ 2058 → x ≠ 2059 → im_u (im_u N 2058 j (l.nd + 1)) 2059 j 0 x = N x := fun x a b => by rw [im_u_ne _ _ _ b, im_u_ne _ _ _ a]
      have v58 : im_u (im_u N 2058 j (l.nd + 1)) 2059 j 0 2058 j = l.nd + 1 := by rw [im_rdn _ _ _ _ (by decide), im_rds]
      have v59 : im_u (im_u N 2058 j (l.nd + 1)) 2059 j 0 2059 j = (0 : Nat) := by rw [im_rds]; rfl
      have F1 : PFr j N (im_u (im_u N 2058 j (l.nd + 1)) 2059 j 0) := (PFr.u _ (by omega)).trans (PFr.u _ (by omega))
      generalize im_u (im_u N 2058 j (l.nd + 1)) 2059 j 0 = N2 at vx v58 v59 F1
      refine c_prop98 (L := L) hW hj hb hbp hls n0 n1 hd (AN.cg hb hbp (fun x hx => vx x (by omega) (by omega))) (PN.cg (fun x hx => vx x (by omega) (by omega))) ((hF.trans F0).trans F1) (Or.inr (Or.inr ⟨h3, cs, l.nd, R 16 l.nd, 0, ⟨⟨q0, d1, d3⟩, Int.le_refl _, d2, fun c cs' hc => ⟨fun h29 => ?_, fun _ => rfl⟩⟩, by rw [v58, hh], v59, hofs⟩)) (by omega) hK1 hK0
      rw [hc] at d1
      obtain ⟨b1, b2, b3, b4, b5, b6⟩ := d1
      have hlt2 := nxt_lt b2
      have := (hW.2.2 c (by omega) b5).2.2.2 h29
      omega
  · have hq : ¬ ((R 0 l.nd = 0 ∧ l.ac.1 = 0) ∨ (R 0 l.nd = 3 ∧ l.ls < tmo R giv l.nd)) := hq
    rw [h4]
    have hL1 : L = [(-1, 0, 0, 0, 0, l.ls)] := by
      rw [hL]
      unfold ofs
      rw [if_neg (fun w => hq (Or.inl w)), if_neg (fun w => hq (Or.inr w))]
    refine c_pWait hj (by constructor <;> omega) AN hb hbp PN (by omega) (fun M' F' q' A' P' rd' => ⟨_, rfl, rfl, by decide, ?_⟩)
    exact hK1 M' _ [] hL1 ((hF.trans F0).trans F') A' P' rd' (Or.inr (Or.inl ⟨q'.1.trans u58, rfl⟩))
end CPROP2
