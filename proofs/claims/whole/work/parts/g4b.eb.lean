/-! A RUN stays within its contract -/
theorem stepO_eb {R : Rw} {m e0 : Int} {giv : Bk} {st en lk : Int} {s s' : TS} (hW : WFP R m) (h : SI R m s) (hE : EB R m e0 s.nd) (hs : stepO R giv st en lk s = some (.inr s')) : EB R m e0 s'.nd := by
  obtain ⟨hO, hV, hp⟩ := h
  obtain ⟨n0, n1, k0, k5⟩ := id hV
  by_cases hk0 : R 0 s.nd = 0
  · rw [stepO_0 hk0] at hs
    by_cases hz : s.acc.1 = 0
    · rw [if_pos hz] at hs; cases hs
    · rw [if_neg hz] at hs
      have hs : payO lk (s.sCp 1) 0 (s.acc.2.1 0) (s.acc.2.1 0) (s.acc.2.2.1 0) (s.acc.2.2.2 0) = .inr s' := Option.some.inj hs
      have hpos := hO.1.2 0 (Int.le_refl _) (by omega)
      obtain ⟨e1, _⟩ := hs2_eq hO.1.1 (i := 0) (Int.le_refl _) (by omega) rfl rfl
      have nd' := (payO_ok (s := s.sCp 1) hO hpos (fun _ => by
        show s.acc.2.2.2 0 ≤ s.acc.2.2.2 (ps s.acc (s.acc.2.1 0) (s.acc.2.2.1 0))
        rw [e1]; exact Int.le_refl _) hs).2
      have nd' : s'.nd = s.nd := nd'
      rw [nd']; exact hE
  · by_cases hk3 : R 0 s.nd = 3
    · rw [stepO_3 hk3] at hs
      by_cases d1 : en < tmo R giv s.nd
      · rw [if_pos d1] at hs; cases hs
      · rw [if_neg d1] at hs
        by_cases d2 : st < tmo R giv s.nd
        · rw [if_pos d2] at hs; cases hs
        · rw [if_neg d2] at hs; cases hs
          exact hE.w17 hW n0 n1 hk3
    · have hkk : R 0 s.nd = 1 ∨ R 0 s.nd = 2 ∨ R 0 s.nd = 4 ∨ R 0 s.nd = 5 := by omega
      obtain ⟨E1, E2, E3⟩ := hE.c17 hW n0 n1 hkk
      have fin : s'.nd = R 17 s.nd → EB R m e0 s'.nd := fun z => by rw [z]; exact E1
      cases hev : ev R (s.env giv st en) 101 (s.nd + 1) with
      | none => rw [stepO_n hk0 hk3 hev] at hs; cases hs
      | some x =>
        rw [stepO_s hk0 hk3 hev] at hs
        have hs := Option.some.inj hs
        by_cases d1 : R 0 s.nd = 1
        · rw [if_pos d1] at hs
          exact fin (payN_ok hO hs).2.1
        · rw [if_neg d1] at hs
          by_cases d2 : R 0 s.nd = 2
          · rw [if_pos d2] at hs
            cases hs
            by_cases hx : x = 1
            · rw [if_pos hx]; exact E1
            · rw [if_neg hx]; exact E3 d2
          · rw [if_neg d2] at hs
            by_cases d4 : R 0 s.nd = 4
            · rw [if_pos d4] at hs
              exact fin (letN_ok hO hs).2.1
            · rw [if_neg d4] at hs
              by_cases hx : x = 1
              · rw [if_pos hx] at hs; cases hs; exact E1
              · rw [if_neg hx] at hs
                exact fin (warnO_ok (s := s.sNd (R 17 s.nd)) hO hs).2.1
theorem redO_eb {R : Rw} {m e0 : Int} {giv : Bk} {st en lk : Int} (hW : WFP R m) : ∀ (f : Nat) {s s' : TS}, SI R m s → EB R m e0 s.nd → redO R giv st en lk f s = .inr s' → EB R m e0 s'.nd := by
  intro f
  induction f with
  | zero => intro s s' h hE hr; rw [redO] at hr; cases hr; exact hE
  | succ f ih =>
    intro s s' h hE hr
    cases hs : stepO R giv st en lk s with
    | none => rw [redO_n hs] at hr; cases hr; exact hE
    | some r =>
      cases r with
      | inl c => rw [redO_e hs] at hr; cases hr
      | inr s1 => rw [redO_s hs] at hr; exact ih (stepO_inv hW h hs) (stepO_eb hW h hE hs) hr
theorem appC_eb {R : Rw} {m e0 : Int} {giv : Bk} {st en lk t a b c v q0 : Int} {s s' : TS} (hW : WFP R m) (hO : OT s) (n0 : 0 ≤ s.nd) (hE : EB R m e0 s.nd) : ∀ (cs : List Int) (p l : Int) (f : Nat), s.nd ≤ p → (∀ j, s.nd < j → j ≤ p → R 1 s.nd < R 1 j) → chc R m s.nd p l cs q0 → appC R giv st en lk s t a b c v f l = .inr s' → EB R m e0 s'.nd := by
  intro cs
  induction cs with
  | nil =>
    intro p l f _ _ hch hr
    have hl : l = -1 := hch.2
    cases f with
    | zero => rw [appC] at hr; cases hr
    | succ f => rw [appC, if_pos hl] at hr; cases hr
  | cons cc cs ih =>
    intro p l f hp hdp hch hr
    obtain ⟨a1, a2, a3, a4, a5, a6⟩ := hch
    have hlt := nxt_lt a2
    subst a1
    have cn0 : 0 ≤ l := by omega
    have h31 := (hW.2.2 l cn0 a5).1.1.2
    have hkk : R 0 l = 28 ∨ R 0 l = 29 ∨ R 0 l = 30 := by omega
    have hdl := nxt_deep a2 a4 hdp
    have El : EB R m e0 l := hE.kid hlt.1 a5 hdl
    have E17 := El.k17 hW cn0 a5 hkk
    cases f with
    | zero => rw [appC] at hr; cases hr
    | succ f =>
      rw [appC, if_neg (by omega)] at hr
      by_cases hn : nmd R l t a b c
      · rw [if_pos hn] at hr
        cases hk : tkn' R (s.env giv st en) l t v with
        | none => rw [hk] at hr; cases hr
        | some y =>
          rw [hk] at hr
          cases y with
          | true =>
            have hr : takeO lk (s.sNd (R 17 l)) t a b c v = .inr s' := hr
            have nd' : s'.nd = R 17 l := (takeO_ok (s := s.sNd (R 17 l)) hO hr).2
            rw [nd']; exact E17
          | false => exact ih l _ f (by omega) hdl a6 hr
      · rw [if_neg hn] at hr
        exact ih l _ f (by omega) hdl a6 hr
theorem appO_eb {R : Rw} {m e0 : Int} {giv : Bk} {st en lk t a b c v : Int} {s s' : TS} (hW : WFP R m) (h : SI R m s) (hE : EB R m e0 s.nd) (hr : appO R giv st en lk s t a b c v = .inr s') : EB R m e0 s'.nd := by
  unfold appO at hr
  by_cases h3 : R 0 s.nd = 3
  · rw [if_pos h3] at hr
    obtain ⟨cs, q0, c1, _⟩ := kids_w (hW.2.2 _ h.2.1.1 h.2.1.2.1).1 h3
    exact appC_eb hW h.1 h.2.1.1 hE cs _ _ 9 (Int.le_refl _) (fun j a b => by omega) c1 hr
  · rw [if_neg h3] at hr; cases hr
theorem insO_eb {R : Rw} {m e0 : Int} {giv : Bk} {st en lk : Int} {t a b c v : Int → Int} (hW : WFP R m) : ∀ (n : Nat) (i : Int) {s s' : TS}, SI R m s → EB R m e0 s.nd → insO R giv st en lk t a b c v n i s = .inr s' → EB R m e0 s'.nd := by
  intro n
  induction n with
  | zero => intro i s s' h hE hr; rw [insO] at hr; cases hr; exact hE
  | succ n ih =>
    intro i s s' h hE hr
    rw [insO] at hr
    cases ha : appO R giv st en lk s (t i) (a i) (b i) (c i) (v i) with
    | inl z => rw [ha] at hr; cases hr
    | inr s1 =>
      rw [ha] at hr
      dsimp only at hr
      cases hb : redO R giv st en lk 142 s1 with
      | inl z => rw [hb] at hr; cases hr
      | inr s2 =>
        rw [hb] at hr
        dsimp only at hr
        exact ih (i + 1) (redO_inv hW 142 (appO_inv hW h ha) hb) (redO_eb hW 142 (appO_inv hW h ha) (appO_eb hW h hE ha) hb) hr
theorem runO_eb {R : Rw} {m e0 : Int} {giv : Bk} {lk fr to least : Int} {t a b c v : Int → Int} {n : Nat} {i : Int} {s s' : TS} (hW : WFP R m) (hO : OT s) (hV : VN R m s) (hE : EB R m e0 s.nd) (hr : runO R giv lk fr to least t a b c v n i s = .inr s') : EB R m e0 s'.nd := by
  have h0 : SI R m s.fresh := ⟨hO, hV, fun i hi => absurd hi (Nat.not_lt_zero i)⟩
  unfold runO at hr
  by_cases c1 : to < fr ∨ fr < 0 ∨ 1000000000000000 < to
  · rw [if_pos c1] at hr; cases hr
  · rw [if_neg c1] at hr
    by_cases c2 : to < least
    · rw [if_pos c2] at hr; cases hr
    · rw [if_neg c2] at hr
      cases ha : redO R giv (max fr least) to lk 142 s.fresh with
      | inl z => rw [ha] at hr; cases hr
      | inr s1 =>
        rw [ha] at hr
        dsimp only at hr
        cases hb : insO R giv (max fr least) to lk t a b c v n i s1 with
        | inl z => rw [hb] at hr; cases hr
        | inr s2 =>
          rw [hb] at hr
          dsimp only at hr
          by_cases c3 : n = 0 ∧ s2.nd = s.nd ∧ s2.cp = 0
          · rw [if_pos c3] at hr; cases hr
          · rw [if_neg c3] at hr; cases hr
            exact insO_eb hW n i (redO_inv hW 142 h0 ha) (redO_eb hW 142 h0 hE ha) hb
