/-! payments are of two sorts: pure -/
theorem warnO_pay {s s' : TS} {t a b c v : Int} (hw : warnO s t a b c v = .inr s') : s'.pay = s.pay := by
  unfold warnO at hw
  by_cases c1 : s.wrn.1 < 60
  · rw [if_pos c1] at hw; cases hw; rfl
  · rw [if_neg c1] at hw; cases hw
theorem PSo_add {ρ : Rl} {t a b c v : Int} (h : PSo ρ) (ht : t ≠ 5) : PSo (radd ρ t a b c v) := fun i hi => by
  have hi : i < ρ.1 + 1 := hi
  show im_up ρ.2.1 ρ.1 t i ≠ 5
  unfold im_up
  by_cases c : (i : Int) = ρ.1
  · rw [if_pos c]; exact ht
  · rw [if_neg c]; exact h i (by omega)
theorem payO_ps {lk : Int} {s s' : TS} {sort a b c v : Int} (h : PSo s.pay) (h5 : sort ≠ 5) (hp : payO lk s sort a b c v = .inr s') : PSo s'.pay := by
  have hA := PSo_add (a := a) (b := b) (c := c) (v := v) h h5
  unfold payO at hp
  by_cases c1 : s.pay.1 < 60
  · rw [if_pos c1] at hp
    by_cases c2 : sort = 1
    · rw [if_pos c2] at hp
      cases hb : bcre (bdeb s.acc a c v) 40 b c v with
      | inl k => rw [hb] at hp; cases hp
      | inr β => rw [hb] at hp; cases hp; exact hA
    · rw [if_neg c2] at hp
      by_cases c3 : lk = 0
      · rw [if_pos c3] at hp
        cases hb : bcre s.wal 60 b c v with
        | inl k => rw [hb] at hp; cases hp
        | inr β => rw [hb] at hp; cases hp; exact hA
      · rw [if_neg c3] at hp; cases hp; exact hA
  · rw [if_neg c1] at hp; cases hp
theorem payN_ps {R : Rw} {lk : Int} {s s' : TS} {n x : Int} (h : PSo s.pay) (h5 : R 3 n ≠ 5) (hp : payN R lk s n x = .inr s') : PSo s'.pay := by
  unfold payN at hp
  by_cases c1 : x ≤ 0
  · rw [if_pos c1] at hp; rw [warnO_pay hp]; exact h
  · rw [if_neg c1] at hp
    by_cases c2 : x ≤ hld s.acc (R 4 n) (R 6 n)
    · rw [if_pos c2] at hp; exact payO_ps (s := s.sNd (R 17 n)) h h5 hp
    · rw [if_neg c2] at hp
      cases hw : warnO (s.sNd (R 17 n)) 3 (R 4 n) (R 5 n) (R 6 n) x with
      | inl c => rw [hw] at hp; cases hp
      | inr s2 =>
        rw [hw] at hp
        dsimp only at hp
        have h2 : PSo s2.pay := by rw [warnO_pay hw]; exact h
        by_cases c3 : 0 < hld s.acc (R 4 n) (R 6 n)
        · rw [if_pos c3] at hp; exact payO_ps h2 h5 hp
        · rw [if_neg c3] at hp; cases hp; exact h2
theorem letN_pay {R : Rw} {s s' : TS} {n x : Int} (hw : letN R s n x = .inr s') : s'.pay = s.pay := by
  unfold letN at hw
  by_cases c : hs2 s.lts (R 4 n) 0
  · rw [if_pos c] at hw
    cases hb : warnO (s.sNd (R 17 n)) 4 (R 4 n) 0 0 (s.lts.2.2.2 (ps s.lts (R 4 n) 0)) with
    | inl k => rw [hb] at hw; cases hw
    | inr s2 => rw [hb] at hw; cases hw; exact (warnO_pay (s := s.sNd (R 17 n)) (s' := s2) hb)
  · rw [if_neg c] at hw
    by_cases c2 : s.lts.1 < 40
    · rw [if_pos c2] at hw; cases hw; rfl
    · rw [if_neg c2] at hw; cases hw
/-- what each step keeps -/
def SI (R : Rw) (m : Int) (s : TS) : Prop := OT s ∧ VN R m s ∧ PSo s.pay
theorem VN_of {R : Rw} {m y : Int} {s' : TS} (hn : s'.nd = y) (y0 : 0 ≤ y) (y1 : y < m) (hb : bgn 99 (R 0 y)) : VN R m s' := by
  unfold VN
  rw [hn]
  exact ⟨y0, y1, by unfold bgn at hb; omega⟩
theorem stepO_inv {R : Rw} {m : Int} {giv : Bk} {st en lk : Int} {s s' : TS} (hW : WFP R m) (h : SI R m s) (hs : stepO R giv st en lk s = some (.inr s')) : SI R m s' := by
  obtain ⟨hO, hV, hp⟩ := h
  obtain ⟨n0, n1, k0, k5⟩ := id hV
  by_cases hk0 : R 0 s.nd = 0
  · rw [stepO_0 hk0] at hs
    by_cases hz : s.acc.1 = 0
    · rw [if_pos hz] at hs; cases hs
    · rw [if_neg hz] at hs
      have hs : payO lk (s.sCp 1) 0 (s.acc.2.1 0) (s.acc.2.1 0) (s.acc.2.2.1 0) (s.acc.2.2.2 0) = .inr s' := Option.some.inj hs
      have hpos := hO.1.2 0 (Int.le_refl _) (by omega)
      obtain ⟨e1, _⟩ := hs2_eq hO.1.1 (i := 0) (Int.le_refl _) (by omega) rfl rfl
      obtain ⟨O', nd'⟩ := payO_ok (s := s.sCp 1) hO hpos (fun _ => by
        show s.acc.2.2.2 0 ≤ s.acc.2.2.2 (ps s.acc (s.acc.2.1 0) (s.acc.2.2.1 0))
        rw [e1]; exact Int.le_refl _) hs
      have nd' : s'.nd = s.nd := nd'
      exact ⟨O', by unfold VN; rw [nd']; exact hV, payO_ps (s := s.sCp 1) hp (by decide) hs⟩
  · by_cases hk3 : R 0 s.nd = 3
    · rw [stepO_3 hk3] at hs
      obtain ⟨cs, q0, c1, c2, c3, c4, c5, c6, c7⟩ := kids_w (hW.2.2 _ n0 n1).1 hk3
      by_cases d1 : en < tmo R giv s.nd
      · rw [if_pos d1] at hs; cases hs
      · rw [if_neg d1] at hs
        by_cases d2 : st < tmo R giv s.nd
        · rw [if_pos d2] at hs; cases hs
        · rw [if_neg d2] at hs; cases hs
          exact ⟨hO, VN_of (y := R 17 s.nd) rfl (by omega) c5 c7, hp⟩
    · have hkk : R 0 s.nd = 1 ∨ R 0 s.nd = 2 ∨ R 0 s.nd = 4 ∨ R 0 s.nd = 5 := by omega
      obtain ⟨_, ⟨i1, i2, i3, i4, i5⟩, h18⟩ := kids_c (hW.2.2 _ n0 n1).1 hkk
      have h17 : 0 ≤ R 17 s.nd := by omega
      cases hev : ev R (s.env giv st en) 101 (s.nd + 1) with
      | none => rw [stepO_n hk0 hk3 hev] at hs; cases hs
      | some x =>
        rw [stepO_s hk0 hk3 hev] at hs
        have hs := Option.some.inj hs
        by_cases d1 : R 0 s.nd = 1
        · rw [if_pos d1] at hs
          have hR3 : R 3 s.nd = 0 ∨ R 3 s.nd = 1 := (hW.2.2 s.nd n0 n1).2.1.2.2.2 d1
          obtain ⟨O', nd', _⟩ := payN_ok hO hs
          exact ⟨O', VN_of nd' h17 i3 i5, payN_ps hp (by omega) hs⟩
        · rw [if_neg d1] at hs
          by_cases d2 : R 0 s.nd = 2
          · rw [if_pos d2] at hs
            obtain ⟨l1, l2, l3, l4, l5⟩ := h18 d2
            cases hs
            refine ⟨hO, ?_, hp⟩
            by_cases hx : x = 1
            · rw [if_pos hx]; exact VN_of rfl h17 i3 i5
            · rw [if_neg hx]; exact VN_of (y := R 18 s.nd) rfl (by omega) l3 l5
          · rw [if_neg d2] at hs
            by_cases d4 : R 0 s.nd = 4
            · rw [if_pos d4] at hs
              obtain ⟨O', nd', _⟩ := letN_ok hO hs
              exact ⟨O', VN_of nd' h17 i3 i5, by rw [letN_pay hs]; exact hp⟩
            · rw [if_neg d4] at hs
              by_cases hx : x = 1
              · rw [if_pos hx] at hs; cases hs; exact ⟨hO, VN_of rfl h17 i3 i5, hp⟩
              · rw [if_neg hx] at hs
                obtain ⟨O', nd', _⟩ := warnO_ok (s := s.sNd (R 17 s.nd)) hO hs
                exact ⟨O', VN_of nd' h17 i3 i5, by rw [warnO_pay hs]; exact hp⟩
theorem redO_inv {R : Rw} {m : Int} {giv : Bk} {st en lk : Int} (hW : WFP R m) : ∀ (f : Nat) {s s' : TS}, SI R m s → redO R giv st en lk f s = .inr s' → SI R m s' := by
  intro f
  induction f with
  | zero => intro s s' h hr; rw [redO] at hr; cases hr; exact h
  | succ f ih =>
    intro s s' h hr
    cases hs : stepO R giv st en lk s with
    | none => rw [redO_n hs] at hr; cases hr; exact h
    | some r =>
      cases r with
      | inl c => rw [redO_e hs] at hr; cases hr
      | inr s1 => rw [redO_s hs] at hr; exact ih (stepO_inv hW h hs) hr
theorem takeO_pay {lk : Int} {s s' : TS} {t a b c v : Int} (ht : takeO lk s t a b c v = .inr s') : s'.pay = s.pay := by
  unfold takeO at ht
  by_cases c1 : t = 29
  · rw [if_pos c1] at ht
    cases hb : bput s.cho 40 a b v with
    | none => rw [hb] at ht; cases ht
    | some β => rw [hb] at ht; cases ht; rfl
  · rw [if_neg c1] at ht
    by_cases c2 : t = 30
    · rw [if_pos c2] at ht; cases ht; rfl
    · rw [if_neg c2] at ht
      by_cases c3 : v ≤ 0
      · rw [if_pos c3] at ht; exact warnO_pay ht
      · rw [if_neg c3] at ht
        by_cases c4 : lk = 0
        · rw [if_pos c4] at ht
          by_cases c5 : hld s.wal b c < v
          · rw [if_pos c5] at ht; cases ht
          · rw [if_neg c5] at ht
            cases hb : bcre s.acc 40 a c v with
            | inl k => rw [hb] at ht; cases ht
            | inr β => rw [hb] at ht; cases ht; rfl
        · rw [if_neg c4] at ht
          cases hb : bcre s.acc 40 a c v with
          | inl k => rw [hb] at ht; cases ht
          | inr β => rw [hb] at ht; cases ht; rfl
theorem appC_inv {R : Rw} {m : Int} {giv : Bk} {st en lk t a b c v q0 : Int} {s s' : TS} (hW : WFP R m) (h : SI R m s) : ∀ (cs : List Int) (p l : Int) (f : Nat), chc R m s.nd p l cs q0 → appC R giv st en lk s t a b c v f l = .inr s' → SI R m s' := by
  obtain ⟨hO, hV, hp⟩ := h
  have n0 := hV.1
  intro cs
  induction cs with
  | nil =>
    intro p l f hch hr
    have hl : l = -1 := hch.2
    cases f with
    | zero => rw [appC] at hr; cases hr
    | succ f => rw [appC, if_pos hl] at hr; cases hr
  | cons cc cs ih =>
    intro p l f hch hr
    obtain ⟨a1, a2, a3, a4, a5, a6⟩ := hch
    have hlt := nxt_lt a2
    subst a1
    have cn0 : 0 ≤ l := by omega
    have h31 := (hW.2.2 l cn0 a5).1.1.2
    have hkk : R 0 l = 28 ∨ R 0 l = 29 ∨ R 0 l = 30 := by omega
    obtain ⟨_, g3, g4, g5, g6⟩ := kids_k (hW.2.2 l cn0 a5).1 hkk
    cases f with
    | zero => rw [appC] at hr; cases hr
    | succ f =>
      rw [appC, if_neg (by omega)] at hr
      by_cases hn : nmd R l t a b c
      · rw [if_pos hn] at hr
        cases hk : tkn' R (s.env giv st en) l t v with
        | none => rw [hk] at hr; cases hr
        | some y =>
          rw [hk] at hr
          cases y with
          | true =>
            have hr : takeO lk (s.sNd (R 17 l)) t a b c v = .inr s' := hr
            obtain ⟨O', nd'⟩ := takeO_ok (s := s.sNd (R 17 l)) hO hr
            exact ⟨O', VN_of (y := R 17 l) nd' (by omega) g4 g6, by rw [takeO_pay hr]; exact hp⟩
          | false => exact ih l _ f a6 hr
      · rw [if_neg hn] at hr
        exact ih l _ f a6 hr
theorem appO_inv {R : Rw} {m : Int} {giv : Bk} {st en lk t a b c v : Int} {s s' : TS} (hW : WFP R m) (h : SI R m s) (hr : appO R giv st en lk s t a b c v = .inr s') : SI R m s' := by
  unfold appO at hr
  by_cases h3 : R 0 s.nd = 3
  · rw [if_pos h3] at hr
    obtain ⟨cs, q0, c1, _⟩ := kids_w (hW.2.2 _ h.2.1.1 h.2.1.2.1).1 h3
    exact appC_inv hW h cs _ _ 9 c1 hr
  · rw [if_neg h3] at hr; cases hr
theorem insO_inv {R : Rw} {m : Int} {giv : Bk} {st en lk : Int} {t a b c v : Int → Int} (hW : WFP R m) : ∀ (n : Nat) (i : Int) {s s' : TS}, SI R m s → insO R giv st en lk t a b c v n i s = .inr s' → SI R m s' := by
  intro n
  induction n with
  | zero => intro i s s' h hr; rw [insO] at hr; cases hr; exact h
  | succ n ih =>
    intro i s s' h hr
    rw [insO] at hr
    cases ha : appO R giv st en lk s (t i) (a i) (b i) (c i) (v i) with
    | inl z => rw [ha] at hr; cases hr
    | inr s1 =>
      rw [ha] at hr
      dsimp only at hr
      cases hb : redO R giv st en lk 142 s1 with
      | inl z => rw [hb] at hr; cases hr
      | inr s2 =>
        rw [hb] at hr
        dsimp only at hr
        exact ih (i + 1) (redO_inv hW 142 (appO_inv hW h ha) hb) hr
/-- a run keeps it all, and its payments are of two sorts -/
theorem runO_inv {R : Rw} {m : Int} {giv : Bk} {lk fr to least : Int} {t a b c v : Int → Int} {n : Nat} {i : Int} {s s' : TS} (hW : WFP R m) (hO : OT s) (hV : VN R m s) (hr : runO R giv lk fr to least t a b c v n i s = .inr s') : SI R m s' := by
  have h0 : SI R m s.fresh := ⟨hO, hV, fun i hi => absurd hi (Nat.not_lt_zero i)⟩
  unfold runO at hr
  by_cases c1 : to < fr ∨ fr < 0 ∨ 1000000000000000 < to
  · rw [if_pos c1] at hr; cases hr
  · rw [if_neg c1] at hr
    by_cases c2 : to < least
    · rw [if_pos c2] at hr; cases hr
    · rw [if_neg c2] at hr
      cases ha : redO R giv (max fr least) to lk 142 s.fresh with
      | inl z => rw [ha] at hr; cases hr
      | inr s1 =>
        rw [ha] at hr
        dsimp only at hr
        cases hb : insO R giv (max fr least) to lk t a b c v n i s1 with
        | inl z => rw [hb] at hr; cases hr
        | inr s2 =>
          rw [hb] at hr
          dsimp only at hr
          by_cases c3 : n = 0 ∧ s2.nd = s.nd ∧ s2.cp = 0
          · rw [if_pos c3] at hr; cases hr
          · rw [if_neg c3] at hr; cases hr
            exact insO_inv hW n i (redO_inv hW 142 h0 ha) hb
