/-! THE REFERENCE offers its next try -/
def mz (R : Rw) : Nat → List Int → Nat
  | _, [] => 0
  | p, c :: cs => (if R 0 c = 29 then 2 * (R 6 c).toNat - p else 1) + mz R 0 cs
section OFFERL
variable {g : im_g} {d : Nat} {e : im_E} {M : im_M} {K : im_K} {R : Rw} {m : Int} {giv : Bk} {l : Lv} {T e0 : Int} {j : Nat}
/-- the wait until a when's time -/
theorem c_offerW {N : im_M} (hW : WFP R m) (hd : 5 ≤ d) (h : TKL N R m giv l T) (n0 : 0 ≤ l.nd) (n1 : l.nd < m) (hk : R 0 l.nd = 3) (hT : R 5 l.nd ≠ 0 → 0 ≤ hld giv (R 5 l.nd) 0 ∧ hld giv (R 5 l.nd) 0 ≤ 1000000000000000) (h7 : N 6952 7 + 22 ≤ 1100000) (h46 : N 6952 46 = 0)
    (hK : ∀ M', OF j N M' → M' 6952 7 = N 6952 7 → TKL M' R m giv l T → (∀ x, 7042 ≤ x → M' x = N x) → rRd M' (-1, 0, 0, 0, 0, tmo R giv l.nd) → K (.inl (some (vI 1))) e M') : im_T g d 406 0 [some (.ref 6952), some (vI (N 6952 83)), none, none, none] [] e N (im_rl (fun x9 e_ M8 => e = e_ ∧ (im_i64 x9) ∧ K (.inl (some (vI 1))) e (im_u M8 6952 174 x9))) := by
  have h70 := h.2.2.1
  rw [h.2.2.2.2.2.2.1]
  have h4 := (hW.2.2 l.nd n0 n1).2.1.2.2.1 hk
  have h0 := (hW.2.2 l.nd n0 n1).2.1.1
  refine c_timeE h.1 h.2.1 rfl h70.2.2 (by omega) hW.2.1 n0 n1 hk hT h7 (by omega) (fun M1 X1 t1 h8 hx => ⟨_, rfl, rfl, ?_, ?_⟩)
  · unfold tmo
    split
    · constructor <;> omega
    · exact asT_i64 _
  · have F1 : OF j M1 (im_u M1 6952 174 (tmo R giv l.nd)) := ⟨fun x a b c d f => im_u_ne _ _ _ a, fun x a b q c => by rw [im_u_ne _ _ _ (by omega)], fun k a b c d f i => im_rdk _ _ _ i, fun i _ => by rw [im_u_ne _ _ _ (by decide)], by rw [im_rdk _ _ _ (by decide)]; exact Int.le_refl _⟩
    have T1 : TKL M1 R m giv l T := h.of (j := j) X1.of (KN_congr h.2.2.2.1.2.1 (fun x a b => hx x (by omega))) (by rw [h8]; exact h.2.2.2.1.2.2)
    refine hK _ ((WX.of X1).trans F1) (by rw [im_rdk _ _ _ (by decide)]; exact t1) (T1.of F1 (KN_congr T1.2.2.2.1.2.1 (fun x a b => im_u_ne _ _ _ (by omega))) (by rw [im_rdk _ _ _ (by decide)]; exact T1.2.2.2.1.2.2)) (fun x hxx => by rw [im_u_ne _ _ _ (by omega)]; exact hx x (by omega)) ⟨?_, im_rds _ _ _ _, fun z => absurd rfl z⟩
    rw [im_rdk _ _ _ (by decide), X1.2.1 46 (by decide) (by decide) (by decide) (by decide), h46]
    rfl
/-- a cursor on cases -/
def cuO (R : Rw) (m : Int) (l : Lv) (cs : List Int) (pp w : Int) (p : Nat) : Prop := (∃ q0, chc R m l.nd pp w cs q0) ∧ l.nd ≤ pp ∧ (∀ q, l.nd < q → q ≤ pp → R 1 l.nd < R 1 q) ∧ cs.length ≤ 8 ∧ ∀ c cs', cs = c :: cs' → (R 0 c = 29 → (p : Int) < 2 * R 6 c) ∧ (R 0 c ≠ 29 → p = 0)
theorem cuO.cu {M : im_M} {cs : List Int} {pp : Int} {p : Nat} (h : cuO R m l cs pp (M 7072 j) p) (hk : R 0 l.nd = 3) (h71 : M 7071 j = 1) (h73 : M 7073 j = p) : rCu M R m giv j l (ofP R (l.env giv) l.ls (tmo R giv l.nd) p cs) := by
  obtain ⟨⟨q0, h1⟩, h2, h3, h4, h5⟩ := h
  exact Or.inr (Or.inr ⟨h71, hk, cs, q0, pp, p, h1, h2, h3, h4, h73, h5, rfl⟩)
theorem cuO.nx {cs : List Int} {c pp w : Int} {p : Nat} (hW : WFP R m) (h : cuO R m l (c :: cs) pp w p) (n0 : 0 ≤ l.nd) : cuO R m l cs c (R 19 c) 0 := by
  obtain ⟨⟨q0, a1, a2, a3, a4, a5, a6⟩, h2, h3, h4, h5⟩ := h
  have hlt := nxt_lt a2
  refine ⟨⟨q0, a6⟩, by omega, nxt_deep a2 a4 h3, by simp only [List.length_cons] at h4; omega, fun c' cs' hc => ⟨fun h29 => ?_, fun _ => rfl⟩⟩
  rw [hc] at a6
  obtain ⟨b1, b2, b3, b4, b5, b6⟩ := a6
  have hlt2 := nxt_lt b2
  have := (hW.2.2 c' (by omega) b5).2.2.2 h29
  omega
theorem l_offer (hW : WFP R m) (hd : 12 ≤ d) (hj : j < 402) (n0 : 0 ≤ l.nd) (n1 : l.nd < m) (hk : R 0 l.nd = 3) (hT : R 5 l.nd ≠ 0 → 0 ≤ hld giv (R 5 l.nd) 0 ∧ hld giv (R 5 l.nd) 0 ≤ 1000000000000000) (hE : EB R m e0 l.nd) {M0 : im_M} (h7 : T + 2416 + 700 * (e0 - l.nd) ≤ 1100000) : ∀ (n : Nat) (cs : List Int) (pp : Int) (p : Nat) (M : im_M), mz R p cs ≤ n → cuO R m l cs pp (M 7072 j) p → M 7071 j = 1 → M 7073 j = p → TKL M R m giv l T → M 6952 7 + 302 * cs.length ≤ T + 2416 → M 6952 46 = 0 → M 6952 174 = l.ls → OF j M0 M → (∀ M' q L, OF j M0 M' → M' 6952 7 ≤ T + 2416 → TKL M' R m giv l T → rRd M' q → rCu M' R m giv j l L → ofP R (l.env giv) l.ls (tmo R giv l.nd) p cs = q :: L → K (.inl (some (vI 1))) e M') → im_T g d 433 28 [some (.ref 6952), some (vI j)] [] e M K := by
  have hlt0 := hE.lt
  have h7c : ∀ c, l.nd ≤ c → T + 2416 + 660 * (e0 - c) ≤ 1100000 ∨ e0 < c := fun c hc => by omega
  have hT6 : T ≤ 1100000 := by omega
  have h722 : T + 2416 + 22 ≤ 1100000 := by omega
  clear h7
  intro n
  induction n with
  | zero =>
    intro cs pp p M hn hcu h71 h73 hTk h7 h46 h174 hF hK
    cases cs with
    | nil =>
      have hw : M 7072 j = -1 := by obtain ⟨⟨q0, h1⟩, _⟩ := hcu; exact h1.2
      refine b_offer_28 (by omega) ⟨⟨by omega, by omega⟩, fun _ => ?_, fun z => absurd hw z⟩
      have F1 : OF j M (im_u (im_u M 7071 j 2) 7071 j 3) := (OF.cur M _ (by decide)).trans (OF.cur _ _ (by decide))
      have u71 : im_u (im_u M 7071 j 2) 7071 j 3 7071 j = 3 := im_rds _ _ _ _
      have ux : ∀ x, x ≠ 7071 → im_u (im_u M 7071 j 2) 7071 j 3 x = M x := fun x a => by rw [im_u_ne _ _ _ a, im_u_ne _ _ _ a]
      generalize im_u (im_u M 7071 j 2) 7071 j 3 = N at F1 u71 ux
      have uk : ∀ k, N 6952 k = M 6952 k := fun k => by rw [ux 6952 (by decide)]
      have TN : TKL N R m giv l T := hTk.of F1 (KN_congr hTk.2.2.2.1.2.1 (fun x a b => ux x (by omega))) (by rw [uk 8]; exact hTk.2.2.2.1.2.2)
      rw [← uk 83]
      have h7' : N 6952 7 ≤ T + 2416 := by rw [uk 7]; simp only [List.length_nil] at h7; omega
      refine c_offerW (j := j) hW (by omega) TN n0 n1 hk hT (by omega) (by rw [uk 46]; exact h46) (fun M' F' t' T' x' rd => hK M' _ [] ((hF.trans F1).trans F') (by rw [t']; exact h7') T' rd (Or.inr (Or.inl ⟨by rw [x' 7071 (by decide)]; exact u71, rfl⟩)) rfl)
    | cons c cs =>
      exfalso
      obtain ⟨⟨q0, a1, a2, a3, a4, a5, a6⟩, h2, h3, h4, h5⟩ := hcu
      have h5 := (h5 c cs rfl).1
      unfold mz at hn
      split at hn
      · rename_i h29
        have := h5 h29
        omega
      · omega
  | succ n ih =>
    intro cs pp p M hn hcu h71 h73 hTk h7 h46 h174 hF hK
    cases cs with
    | nil => exact ih [] pp p M (Nat.zero_le _) hcu h71 h73 hTk h7 h46 h174 hF hK
    | cons c cs =>
      have hnx := hcu.nx hW n0
      obtain ⟨⟨q0, a1, a2, a3, a4, a5, a6⟩, h2, h3, h4, h5⟩ := id hcu
      obtain ⟨h5, h5'⟩ := h5 c cs rfl
      have hlt := nxt_lt a2
      have c0 : 0 ≤ c := by omega
      have h31 := (hW.2.2 c c0 a5).1.1.2
      have hkk : R 0 c = 28 ∨ R 0 c = 29 ∨ R 0 c = 30 := by omega
      have hdl := nxt_deep a2 a4 h3
      have El : EB R m e0 c := hE.kid hlt.1 a5 hdl
      have hcl := El.lt
      have h7c := h7c c (by omega)
      have hlen : (c :: cs).length = cs.length + 1 := rfl
      rw [hlen] at h7 h4
      refine b_offer_28 (by omega) ⟨⟨by omega, by omega⟩, fun z => by omega, fun _ => ?_⟩
      rw [a1]
      have cont : oKt (im_ri fun x13 e_ M12 => e = e_ ∧ (im_i32 x13) ∧ ((x13 = 0 → im_T g d 433 28 [some (.ref 6952), some (vI j)] [] e M12 K) ∧ (¬ x13 = 0 → K (.inl (some (vI 1))) e M12))) e M R m giv l T j c cs p := by
        intro M' b c' p' o F' t' T' e71 e72 e73 hor hsame hnext hb1 hb0
        have h7' : M' 6952 7 + 302 * cs.length ≤ T + 2416 ∧ (R 0 c = 29 → M' 6952 7 = M 6952 7) := by
          have := F'.2.2.2.2
          split at t' <;> constructor <;> omega
        -- the new cursor
        obtain ⟨cs2, pp2, hcu2, hz2, hl2, hof2⟩ : ∃ (cs2 : List Int) (pp2 : Int), cuO R m l cs2 pp2 (M' 7072 j) p' ∧ mz R p' cs2 ≤ n ∧ M' 6952 7 + 302 * cs2.length ≤ T + 2416 ∧ ofP R (l.env giv) l.ls (tmo R giv l.nd) p (c :: cs) = o ++ ofP R (l.env giv) l.ls (tmo R giv l.nd) p' cs2 := by
          by_cases hsm : c' = c ∧ p' = p + 1
          · obtain ⟨y1, y2⟩ := hsm
            have h29 : R 0 c = 29 ∧ (p' : Int) < 2 * R 6 c := by
              rcases hor with w | w
              · exact ⟨w.2.2.1, w.2.2.2⟩
              · omega
            refine ⟨c :: cs, pp, ⟨⟨q0, by rw [e72, y1]; exact ⟨rfl, a2, a3, a4, a5, a6⟩⟩, h2, h3, h4, fun c2 cs2 hc => ?_⟩, ?_, ?_, hsame ⟨y1, y2⟩⟩
            · cases hc
              exact ⟨fun _ => h29.2, fun w => absurd h29.1 w⟩
            · unfold mz at hn ⊢
              rw [if_pos h29.1] at hn ⊢
              omega
            · rw [hlen]
              have := h7'.2 h29.1
              omega
          · have hc' : c' = R 19 c ∧ p' = 0 := by
              rcases hor with w | w
              · exact absurd ⟨w.1, w.2.1⟩ hsm
              · exact w
            refine ⟨cs, c, by rw [e72, hc'.1, hc'.2]; exact hnx, ?_, h7'.1, by rw [hc'.2]; exact hnext hsm⟩
            rw [hc'.2]
            unfold mz at hn
            split at hn
            · rename_i h29
              have := h5 h29
              omega
            · omega
        have e71' : M' 7071 j = 1 := e71.trans h71
        cases b with
        | true =>
          obtain ⟨q, hq, hrd⟩ := hb1 rfl
          refine ⟨_, rfl, rfl, by decide, fun z => absurd z (by decide), fun _ => ?_⟩
          refine hK M' q _ (hF.trans F') (by omega) T' hrd (hcu2.cu hk e71' e73) ?_
          rw [hof2, hq]
          rfl
        | false =>
          obtain ⟨ho, g46, g174⟩ := hb0 rfl
          refine ⟨_, rfl, rfl, by decide, fun _ => ?_, fun z => absurd rfl z⟩
          refine ih cs2 pp2 p' M' hz2 hcu2 e71' e73 T' hl2 (by rw [g46]; exact h46) (by rw [g174]; exact h174) (hF.trans F') (fun M2 q L F2 t2 T2 rd2 cu2 hl => hK M2 q L F2 t2 T2 rd2 cu2 ?_)
          rw [hof2, ho]
          exact hl
      by_cases h29 : R 0 c = 29
      · exact c_offerCh hW (by omega) hj hTk c0 a5 h29 hT6 h174 a1 h73 (h5 h29) cont
      · have hp0 := h5' h29
        subst hp0
        exact c_offerOne hW (by omega) hj hTk c0 a5 (by omega) El (by omega) h174 h73 cont
/-- a level offers its next try, or none -/
theorem c_offer {L : List Pe} (hW : WFP R m) (hd : 12 ≤ d) (hj : j < 402) (n0 : 0 ≤ l.nd) (n1 : l.nd < m) (hT : R 0 l.nd = 3 → R 5 l.nd ≠ 0 → 0 ≤ hld giv (R 5 l.nd) 0 ∧ hld giv (R 5 l.nd) 0 ≤ 1000000000000000) (hE : EB R m e0 l.nd) (h7 : T + 2416 + 700 * (e0 - l.nd) ≤ 1100000) (h : TKL M R m giv l T) (hc : rCu M R m giv j l L) (h7T : M 6952 7 = T) (h46 : M 6952 46 = 0) (h174 : M 6952 174 = l.ls)
    (hK1 : ∀ M' q L', L = q :: L' → OF j M M' → M' 6952 7 ≤ T + 2416 → TKL M' R m giv l T → rRd M' q → rCu M' R m giv j l L' → K (.inl (some (vI 1))) e M') (hK0 : L = [] → K (.inl (some (vI 0))) e M) : im_T g d 433 0 [some (.ref 6952), some (vI j)] [] e M K := by
  have hlt := hE.lt
  rcases hc with ⟨c1, c2⟩ | ⟨c1, c2⟩ | ⟨c1, c2, cs, q0, pp, p, c3, c4, c5, c6, c7, c8, c9⟩
  · refine b_offer_0 (by omega) ⟨⟨by omega, by omega⟩, fun z => absurd c1 z, fun _ => ?_⟩
    have F1 := OF.cur (j := j) M 3 (x := 7071) (by decide)
    have ux : ∀ x, x ≠ 7071 → im_u M 7071 j 3 x = M x := fun x a => im_u_ne _ _ _ a
    refine hK1 _ _ _ c2 F1 (by rw [ux 6952 (by decide)]; omega) (h.of F1 (KN_congr h.2.2.2.1.2.1 (fun x a b => ux x (by omega))) (by rw [ux 6952 (by decide)]; exact h.2.2.2.1.2.2)) ⟨?_, ?_, fun z => absurd rfl z⟩ (Or.inr (Or.inl ⟨im_rds _ _ _ _, rfl⟩))
    · rw [ux 6952 (by decide), h46]; rfl
    · rw [ux 6952 (by decide)]; exact h174
  · exact b_offer_0 (by omega) ⟨⟨by omega, by omega⟩, fun _ => ⟨fun _ => ⟨fun _ => hK0 c2, fun z => by omega⟩, fun z => by omega⟩, fun z => by omega⟩
  · refine b_offer_0 (by omega) ⟨⟨by omega, by omega⟩, fun _ => ⟨fun z => absurd c1 z, fun _ => ?_⟩, fun z => by omega⟩
    refine l_offer (M0 := M) hW hd hj n0 n1 c2 (hT c2) hE h7 _ cs pp p M (Nat.le_refl _) ⟨⟨q0, c3⟩, c4, c5, c6, c8⟩ c1 c7 h (by omega) h46 h174 (OF.rf j M) (fun M' q L' F' t' T' rd cu hl => hK1 M' q L' (by rw [c9]; exact hl) F' t' T' rd cu)
end OFFERL
