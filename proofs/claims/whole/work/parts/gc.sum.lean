/-! WHAT IS THERE IN ALL of a token: a run moves it, and that is all -/
theorem suN_ins {F G : Nat → Int} {p : Nat} {v : Int} (h1 : ∀ i, i < p → G i = F i) (h2 : G p = v) (h3 : ∀ i, p < i → G i = F (i - 1)) : ∀ n : Nat, p ≤ n → suN G (n + 1) = suN F n + v := by
  intro n
  induction n with
  | zero =>
    intro hp
    have : p = 0 := by omega
    subst this
    show suN G 0 + G 0 = suN F 0 + v
    rw [h2]; rfl
  | succ n ih =>
    intro hp
    show suN G (n + 1) + G (n + 1) = suN F n + F n + v
    by_cases c : p ≤ n
    · rw [ih c, h3 (n + 1) (by omega), Nat.add_sub_cancel]; omega
    · have : p = n + 1 := by omega
      subst this
      rw [h2, suN_congr (f := G) (f' := F) (fun i hi => h1 i hi)]
      rfl
theorem suN_rem {F G : Nat → Int} {p : Nat} (h1 : ∀ i, i < p → G i = F i) (h3 : ∀ i, p ≤ i → G i = F (i + 1)) : ∀ n : Nat, p ≤ n → suN G n + F p = suN F (n + 1) := by
  intro n
  induction n with
  | zero =>
    intro hp
    have : p = 0 := by omega
    subst this
    rfl
  | succ n ih =>
    intro hp
    show suN G n + G n + F p = suN F (n + 1) + F (n + 1)
    by_cases c : p ≤ n
    · rw [← ih c, h3 n c]; omega
    · have : p = n + 1 := by omega
      subst this
      rw [h1 n (by omega), suN_congr (f := G) (f' := F) (n := n) (fun i hi => h1 i (by omega))]
      rfl
theorem suN_set {F G : Nat → Int} {p : Nat} (h1 : ∀ i, i ≠ p → G i = F i) : ∀ n : Nat, p < n → suN G n = suN F n + (G p - F p) := by
  intro n
  induction n with
  | zero => intro hp; omega
  | succ n ih =>
    intro hp
    show suN G n + G n = suN F n + F n + (G p - F p)
    by_cases c : p < n
    · rw [ih c, h1 n (by omega)]; omega
    · have : p = n := by omega
      subst this
      rw [suN_congr (f := G) (f' := F) (n := p) (fun i hi => h1 i (by omega))]
      omega
theorem xf_lt {f : Int → Int} {p x i : Int} (h : i < p) : insF f p x i = f i := if_pos h
theorem xf_eq {f : Int → Int} {p x : Int} {i : Int} (h : i = p) : insF f p x i = x := by
  unfold insF; rw [if_neg (by omega), if_pos h]
theorem xf_gt {f : Int → Int} {p x i : Int} (h : p < i) : insF f p x i = f (i - 1) := by
  unfold insF; rw [if_neg (by omega), if_neg (by omega)]
theorem xr_lt {f : Int → Int} {p i : Int} (h : i < p) : remF f p i = f i := if_pos h
theorem xr_ge {f : Int → Int} {p i : Int} (h : p ≤ i) : remF f p i = f (i + 1) := if_neg (by omega)
theorem xu_ne {f : Int → Int} {p x i : Int} (h : i ≠ p) : im_up f p x i = f i := if_neg h
theorem tkS_bins {β : Bk} {a b v t : Int} : tkS (bins β a b v) t = tkS β t + if b = t then v else 0 := by
  obtain ⟨p0, p1, _⟩ := ps_ok β a b
  obtain ⟨p, hp⟩ : ∃ p : Nat, (p : Int) = ps β a b := ⟨(ps β a b).toNat, by omega⟩
  have e : ∀ i : Nat, tkF (bins β a b v) t i = if insF β.2.2.1 (ps β a b) b i = t then insF β.2.2.2 (ps β a b) v i else 0 := fun i => rfl
  refine suN_ins (F := tkF β t) (G := tkF (bins β a b v) t) (p := p) (fun i hi => ?_) ?_ (fun i hi => ?_) β.1 (by omega)
  · rw [e, xf_lt (by omega), xf_lt (by omega)]; rfl
  · rw [e, xf_eq hp, xf_eq hp]
  · rw [e, xf_gt (by omega), xf_gt (by omega)]
    have : ((i : Int) - 1) = ((i - 1 : Nat) : Int) := by omega
    rw [this]; rfl
theorem tkS_bset {β : Bk} {a b v t : Int} (h : hs2 β a b) : tkS (bset β a b v) t = tkS β t + if b = t then v - β.2.2.2 (ps β a b) else 0 := by
  obtain ⟨p0, p1, _⟩ := ps_ok β a b
  obtain ⟨p, hp⟩ : ∃ p : Nat, (p : Int) = ps β a b := ⟨(ps β a b).toNat, by omega⟩
  obtain ⟨h1, _, h3⟩ := h
  have e : ∀ i : Nat, tkF (bset β a b v) t i = if β.2.2.1 i = t then im_up β.2.2.2 (ps β a b) v i else 0 := fun i => rfl
  have hs := suN_set (F := tkF β t) (G := tkF (bset β a b v) t) (p := p) (fun i hi => by
    rw [e, xu_ne (by omega)]; rfl) β.1 (by omega)
  have e1 : tkF (bset β a b v) t p = if b = t then v else 0 := by
    rw [e]; unfold im_up; rw [if_pos hp, hp, h3]
  have e2 : tkF β t p = if b = t then β.2.2.2 (ps β a b) else 0 := by
    unfold tkF; rw [hp, h3]
  rw [e1, e2] at hs
  show suN (tkF (bset β a b v) t) β.1 = _
  rw [hs]
  show suN (tkF β t) β.1 + _ = suN (tkF β t) β.1 + _
  by_cases c : b = t
  · rw [if_pos c, if_pos c, if_pos c]
  · rw [if_neg c, if_neg c, if_neg c]; rfl
theorem tkS_brem {β : Bk} {a b t : Int} (h : hs2 β a b) : tkS (brem β a b) t = tkS β t - if b = t then β.2.2.2 (ps β a b) else 0 := by
  obtain ⟨p0, p1, _⟩ := ps_ok β a b
  obtain ⟨p, hp⟩ : ∃ p : Nat, (p : Int) = ps β a b := ⟨(ps β a b).toNat, by omega⟩
  obtain ⟨h1, _, h3⟩ := h
  have e : ∀ i : Nat, tkF (brem β a b) t i = if remF β.2.2.1 (ps β a b) i = t then remF β.2.2.2 (ps β a b) i else 0 := fun i => rfl
  obtain ⟨n, hn⟩ : ∃ n, β.1 = n + 1 := ⟨β.1 - 1, by omega⟩
  have hs := suN_rem (F := tkF β t) (G := tkF (brem β a b) t) (p := p) (fun i hi => by
    rw [e, xr_lt (by omega), xr_lt (by omega)]; rfl) (fun i hi => by
    rw [e, xr_ge (by omega), xr_ge (by omega)]
    have : ((i : Int) + 1) = ((i + 1 : Nat) : Int) := by omega
    rw [this]; rfl) n (by omega)
  have e2 : tkF β t p = if b = t then β.2.2.2 (ps β a b) else 0 := by
    unfold tkF; rw [hp, h3]
  rw [e2] at hs
  show suN (tkF (brem β a b) t) (β.1 - 1) = suN (tkF β t) β.1 - _
  rw [hn, Nat.add_sub_cancel, ← hs]
  omega
theorem tkS_bcre {β β' : Bk} {n : Nat} {a b v t : Int} (h : bcre β n a b v = .inr β') : tkS β' t = tkS β t + if b = t then v else 0 := by
  unfold bcre at h
  by_cases c : hs2 β a b
  · rw [if_pos c] at h
    by_cases c2 : -LIM < β.2.2.2 (ps β a b) + v ∧ β.2.2.2 (ps β a b) + v < LIM
    · rw [if_pos c2] at h; cases h
      rw [tkS_bset c]
      by_cases c3 : b = t
      · rw [if_pos c3, if_pos c3]; omega
      · rw [if_neg c3, if_neg c3]
    · rw [if_neg c2] at h; cases h
  · rw [if_neg c] at h
    by_cases c2 : β.1 < n
    · rw [if_pos c2] at h; cases h; exact tkS_bins
    · rw [if_neg c2] at h; cases h
theorem tkS_bdeb {β : Bk} {a b v t : Int} (h : hs2 β a b) : tkS (bdeb β a b v) t = tkS β t - if b = t then v else 0 := by
  unfold bdeb
  rw [if_pos h]
  by_cases c : β.2.2.2 (ps β a b) - v = 0
  · rw [if_pos c, tkS_brem h]
    by_cases c3 : b = t
    · rw [if_pos c3, if_pos c3]; omega
    · rw [if_neg c3, if_neg c3]
  · rw [if_neg c, tkS_bset h]
    by_cases c3 : b = t
    · rw [if_pos c3, if_pos c3]; omega
    · rw [if_neg c3, if_neg c3]; omega
theorem hs2_of {β : Bk} {a b : Int} (h : 0 < hld β a b) : hs2 β a b := Classical.byContradiction (fun c => by
  unfold hld at h; rw [if_neg c] at h; omega)
/-- the sums, and the sorts of warnings -/
def CI (T : Int → Int) (s : TS) : Prop := (∀ t, tkS s.acc t + tkS s.wal t = T t) ∧ ∀ i : Nat, i < s.wrn.1 → s.wrn.2.1 i ≤ 5
theorem warnO_ci {T : Int → Int} {s s' : TS} {t a b c v : Int} (h : CI T s) (ht : t ≤ 5) (hw : warnO s t a b c v = .inr s') : CI T s' := by
  unfold warnO at hw
  by_cases c1 : s.wrn.1 < 60
  · rw [if_pos c1] at hw; cases hw
    refine ⟨h.1, fun i hi => ?_⟩
    have hi : i < s.wrn.1 + 1 := hi
    show im_up s.wrn.2.1 s.wrn.1 t i ≤ 5
    unfold im_up
    by_cases c : (i : Int) = s.wrn.1
    · rw [if_pos c]; exact ht
    · rw [if_neg c]; exact h.2 i (by omega)
  · rw [if_neg c1] at hw; cases hw
theorem payO_ci {T : Int → Int} {s s' : TS} {sort a b c v : Int} (h : CI T s) (hs : hs2 s.acc a c) (hp : payO 0 s sort a b c v = .inr s') : CI T s' := by
  unfold payO at hp
  by_cases c1 : s.pay.1 < 60
  · rw [if_pos c1] at hp
    by_cases c2 : sort = 1
    · rw [if_pos c2] at hp
      cases hb : bcre (bdeb s.acc a c v) 40 b c v with
      | inl k => rw [hb] at hp; cases hp
      | inr β =>
        rw [hb] at hp; cases hp
        refine ⟨fun t => ?_, h.2⟩
        show tkS β t + tkS s.wal t = T t
        rw [tkS_bcre hb, tkS_bdeb hs, ← h.1 t]; omega
    · rw [if_neg c2, if_pos rfl] at hp
      cases hb : bcre s.wal 60 b c v with
      | inl k => rw [hb] at hp; cases hp
      | inr β =>
        rw [hb] at hp; cases hp
        refine ⟨fun t => ?_, h.2⟩
        show tkS (bdeb s.acc a c v) t + tkS β t = T t
        rw [tkS_bcre hb, tkS_bdeb hs, ← h.1 t]; omega
  · rw [if_neg c1] at hp; cases hp
theorem warnO_sm {s s' : TS} {t a b c v : Int} (hw : warnO s t a b c v = .inr s') : s'.acc = s.acc := by
  unfold warnO at hw
  by_cases c1 : s.wrn.1 < 60
  · rw [if_pos c1] at hw; cases hw; rfl
  · rw [if_neg c1] at hw; cases hw
theorem payN_ci {T : Int → Int} {R : Rw} {s s' : TS} {n x : Int} (h : CI T s) (hp : payN R 0 s n x = .inr s') : CI T s' := by
  unfold payN at hp
  by_cases c1 : x ≤ 0
  · rw [if_pos c1] at hp; exact warnO_ci (s := s.sNd (R 17 n)) h (by decide) hp
  · rw [if_neg c1] at hp
    by_cases c2 : x ≤ hld s.acc (R 4 n) (R 6 n)
    · rw [if_pos c2] at hp; exact payO_ci (s := s.sNd (R 17 n)) h (hs2_of (show 0 < hld s.acc (R 4 n) (R 6 n) by omega)) hp
    · rw [if_neg c2] at hp
      cases hw : warnO (s.sNd (R 17 n)) 3 (R 4 n) (R 5 n) (R 6 n) x with
      | inl c => rw [hw] at hp; cases hp
      | inr s2 =>
        rw [hw] at hp
        dsimp only at hp
        have h2 : CI T s2 := warnO_ci (s := s.sNd (R 17 n)) h (by decide) hw
        have e2 : s2.acc = s.acc := warnO_sm (s := s.sNd (R 17 n)) hw
        by_cases c3 : 0 < hld s.acc (R 4 n) (R 6 n)
        · rw [if_pos c3] at hp; exact payO_ci h2 (by rw [e2]; exact hs2_of c3) hp
        · rw [if_neg c3] at hp; cases hp; exact h2
theorem letN_ci {T : Int → Int} {R : Rw} {s s' : TS} {n x : Int} (h : CI T s) (hw : letN R s n x = .inr s') : CI T s' := by
  unfold letN at hw
  by_cases c : hs2 s.lts (R 4 n) 0
  · rw [if_pos c] at hw
    cases hb : warnO (s.sNd (R 17 n)) 4 (R 4 n) 0 0 (s.lts.2.2.2 (ps s.lts (R 4 n) 0)) with
    | inl k => rw [hb] at hw; cases hw
    | inr s2 => rw [hb] at hw; cases hw; exact warnO_ci (s := s.sNd (R 17 n)) (s' := s2) h (by decide) hb
  · rw [if_neg c] at hw
    by_cases c2 : s.lts.1 < 40
    · rw [if_pos c2] at hw; cases hw; exact h
    · rw [if_neg c2] at hw; cases hw
theorem stepO_ci {T : Int → Int} {R : Rw} {giv : Bk} {st en : Int} {s s' : TS} (hO : OT s) (h : CI T s) (hs : stepO R giv st en 0 s = some (.inr s')) : CI T s' := by
  by_cases hk0 : R 0 s.nd = 0
  · rw [stepO_0 hk0] at hs
    by_cases hz : s.acc.1 = 0
    · rw [if_pos hz] at hs; cases hs
    · rw [if_neg hz] at hs
      have hs : payO 0 (s.sCp 1) 0 (s.acc.2.1 0) (s.acc.2.1 0) (s.acc.2.2.1 0) (s.acc.2.2.2 0) = .inr s' := Option.some.inj hs
      obtain ⟨e1, _⟩ := hs2_eq hO.1.1 (i := 0) (Int.le_refl _) (by omega) rfl rfl
      refine payO_ci (s := s.sCp 1) h ?_ hs
      show ps s.acc (s.acc.2.1 0) (s.acc.2.2.1 0) < (s.acc.1 : Int) ∧ s.acc.2.1 (ps s.acc (s.acc.2.1 0) (s.acc.2.2.1 0)) = s.acc.2.1 0 ∧ s.acc.2.2.1 (ps s.acc (s.acc.2.1 0) (s.acc.2.2.1 0)) = s.acc.2.2.1 0
      rw [e1]
      exact ⟨by omega, rfl, rfl⟩
  · by_cases hk3 : R 0 s.nd = 3
    · rw [stepO_3 hk3] at hs
      by_cases d1 : en < tmo R giv s.nd
      · rw [if_pos d1] at hs; cases hs
      · rw [if_neg d1] at hs
        by_cases d2 : st < tmo R giv s.nd
        · rw [if_pos d2] at hs; cases hs
        · rw [if_neg d2] at hs; cases hs; exact h
    · cases hev : ev R (s.env giv st en) 101 (s.nd + 1) with
      | none => rw [stepO_n hk0 hk3 hev] at hs; cases hs
      | some x =>
        rw [stepO_s hk0 hk3 hev] at hs
        have hs := Option.some.inj hs
        by_cases d1 : R 0 s.nd = 1
        · rw [if_pos d1] at hs; exact payN_ci h hs
        · rw [if_neg d1] at hs
          by_cases d2 : R 0 s.nd = 2
          · rw [if_pos d2] at hs; cases hs; exact h
          · rw [if_neg d2] at hs
            by_cases d4 : R 0 s.nd = 4
            · rw [if_pos d4] at hs; exact letN_ci h hs
            · rw [if_neg d4] at hs
              by_cases hx : x = 1
              · rw [if_pos hx] at hs; cases hs; exact h
              · rw [if_neg hx] at hs; exact warnO_ci (s := s.sNd (R 17 s.nd)) h (by decide) hs
theorem redO_ci {T : Int → Int} {R : Rw} {m : Int} {giv : Bk} {st en : Int} (hW : WFP R m) : ∀ (f : Nat) {s s' : TS}, SI R m s → CI T s → redO R giv st en 0 f s = .inr s' → CI T s' := by
  intro f
  induction f with
  | zero => intro s s' _ h hr; rw [redO] at hr; cases hr; exact h
  | succ f ih =>
    intro s s' hS h hr
    cases hs : stepO R giv st en 0 s with
    | none => rw [redO_n hs] at hr; cases hr; exact h
    | some r =>
      cases r with
      | inl c => rw [redO_e hs] at hr; cases hr
      | inr s1 => rw [redO_s hs] at hr; exact ih (stepO_inv hW hS hs) (stepO_ci hS.1 h hs) hr
theorem takeO_ci {T : Int → Int} {s s' : TS} {t a b c v : Int} (h : CI T s) (ht : takeO 0 s t a b c v = .inr s') : CI T s' := by
  unfold takeO at ht
  by_cases c1 : t = 29
  · rw [if_pos c1] at ht
    cases hb : bput s.cho 40 a b v with
    | none => rw [hb] at ht; cases ht
    | some β => rw [hb] at ht; cases ht; exact h
  · rw [if_neg c1] at ht
    by_cases c2 : t = 30
    · rw [if_pos c2] at ht; cases ht; exact h
    · rw [if_neg c2] at ht
      by_cases c3 : v ≤ 0
      · rw [if_pos c3] at ht; exact warnO_ci h (by decide) ht
      · rw [if_neg c3, if_pos rfl] at ht
        by_cases c5 : hld s.wal b c < v
        · rw [if_pos c5] at ht; cases ht
        · rw [if_neg c5] at ht
          cases hb : bcre s.acc 40 a c v with
          | inl k => rw [hb] at ht; cases ht
          | inr β =>
            rw [hb] at ht; cases ht
            refine ⟨fun u => ?_, h.2⟩
            show tkS β u + tkS (bdeb s.wal b c v) u = T u
            rw [tkS_bcre hb, tkS_bdeb (hs2_of (by omega)), ← h.1 u]; omega
theorem appC_ci {T : Int → Int} {R : Rw} {giv : Bk} {st en t a b c v : Int} {s s' : TS} (h : CI T s) : ∀ (f : Nat) (l : Int), appC R giv st en 0 s t a b c v f l = .inr s' → CI T s' := by
  intro f
  induction f with
  | zero => intro l hr; rw [appC] at hr; cases hr
  | succ f ih =>
    intro l hr
    rw [appC] at hr
    by_cases c1 : l = -1
    · rw [if_pos c1] at hr; cases hr
    · rw [if_neg c1] at hr
      by_cases hn : nmd R l t a b c
      · rw [if_pos hn] at hr
        cases hk : tkn' R (s.env giv st en) l t v with
        | none => rw [hk] at hr; cases hr
        | some y =>
          rw [hk] at hr
          cases y with
          | true => exact takeO_ci (s := s.sNd (R 17 l)) h hr
          | false => exact ih _ hr
      · rw [if_neg hn] at hr; exact ih _ hr
theorem appO_ci {T : Int → Int} {R : Rw} {giv : Bk} {st en t a b c v : Int} {s s' : TS} (h : CI T s) (hr : appO R giv st en 0 s t a b c v = .inr s') : CI T s' := by
  unfold appO at hr
  by_cases h3 : R 0 s.nd = 3
  · rw [if_pos h3] at hr; exact appC_ci h 9 _ hr
  · rw [if_neg h3] at hr; cases hr
theorem insO_ci {T : Int → Int} {R : Rw} {m : Int} {giv : Bk} {st en : Int} {t a b c v : Int → Int} (hW : WFP R m) : ∀ (n : Nat) (i : Int) {s s' : TS}, SI R m s → CI T s → insO R giv st en 0 t a b c v n i s = .inr s' → CI T s' := by
  intro n
  induction n with
  | zero => intro i s s' _ h hr; rw [insO] at hr; cases hr; exact h
  | succ n ih =>
    intro i s s' hS h hr
    rw [insO] at hr
    cases ha : appO R giv st en 0 s (t i) (a i) (b i) (c i) (v i) with
    | inl z => rw [ha] at hr; cases hr
    | inr s1 =>
      rw [ha] at hr
      dsimp only at hr
      cases hb : redO R giv st en 0 142 s1 with
      | inl z => rw [hb] at hr; cases hr
      | inr s2 =>
        rw [hb] at hr
        dsimp only at hr
        have S1 := appO_inv hW hS ha
        exact ih (i + 1) (redO_inv hW 142 S1 hb) (redO_ci hW 142 S1 (appO_ci h ha) hb) hr
theorem runO_ci {R : Rw} {m : Int} {giv : Bk} {fr to least : Int} {t a b c v : Int → Int} {n : Nat} {i : Int} {s s' : TS} (hW : WFP R m) (hO : OT s) (hV : VN R m s) (hr : runO R giv 0 fr to least t a b c v n i s = .inr s') : CI (fun t => tkS s.acc t + tkS s.wal t) s' ∧ (0 ≤ fr ∧ to ≤ 1000000000000000 ∧ fr ≤ to ∧ least ≤ to) := by
  have h0 : SI R m s.fresh := ⟨hO, hV, fun i hi => absurd hi (Nat.not_lt_zero i)⟩
  have c0 : CI (fun t => tkS s.acc t + tkS s.wal t) s.fresh := ⟨fun t => rfl, fun i hi => absurd hi (Nat.not_lt_zero i)⟩
  unfold runO at hr
  by_cases c1 : to < fr ∨ fr < 0 ∨ 1000000000000000 < to
  · rw [if_pos c1] at hr; cases hr
  · rw [if_neg c1] at hr
    by_cases c2 : to < least
    · rw [if_pos c2] at hr; cases hr
    · rw [if_neg c2] at hr
      cases ha : redO R giv (max fr least) to 0 142 s.fresh with
      | inl z => rw [ha] at hr; cases hr
      | inr s1 =>
        rw [ha] at hr
        dsimp only at hr
        cases hb : insO R giv (max fr least) to 0 t a b c v n i s1 with
        | inl z => rw [hb] at hr; cases hr
        | inr s2 =>
          rw [hb] at hr
          dsimp only at hr
          by_cases c3 : n = 0 ∧ s2.nd = s.nd ∧ s2.cp = 0
          · rw [if_pos c3] at hr; cases hr
          · rw [if_neg c3] at hr; cases hr
            exact ⟨insO_ci hW n i (redO_inv hW 142 h0 ha) (redO_ci hW 142 h0 c0 ha) hb, by omega⟩
