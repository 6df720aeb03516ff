/-! THE SEARCH: what both sides do -/
/-- a level: node, least time, accounts, choices, lets -/
def Lv : Type := Int × Int × Bk × Bk × Bk
def Lv.nd (l : Lv) : Int := l.1
def Lv.ls (l : Lv) : Int := l.2.1
def Lv.ac (l : Lv) : Bk := l.2.2.1
def Lv.ch (l : Lv) : Bk := l.2.2.2.1
def Lv.lt (l : Lv) : Bk := l.2.2.2.2
def Lv.env (l : Lv) (giv : Bk) : Env := (l.ac, l.ch, l.lt, giv, l.ls, l.ls)
def Lv.ts (l : Lv) (ρ ρ' : Rl) (cp : Int) : TS := (l.ac, l.ch, l.lt, l.nd, (0, z0, z0, z0), ρ, ρ', cp)
def TS.lv (s : TS) (ls : Int) : Lv := (s.nd, ls, s.acc, s.cho, s.lts)
/-- the q-th bound of a choice is offered -/
def chE (R : Rw) (ls c : Int) (q : Nat) : List Pe := if q % 2 = 1 ∧ R (8 + q / 2) c = R (12 + q / 2) c then [] else [(29, R 4 c, R 5 c, 0, (if q % 2 = 0 then R (8 + q / 2) c else R (12 + q / 2) c), ls)]
def chB (R : Rw) (ls c : Int) : Nat → Nat → List Pe
  | 0, _ => []
  | k + 1, q => chE R ls c q ++ chB R ls c k (q + 1)
noncomputable def oneB (R : Rw) (Γ : Env) (ls c : Int) : List Pe := match ev R Γ 101 (R 16 c) with
  | none => []
  | some x => if R 0 c = 28 then [(28, R 4 c, R 5 c, R 6 c, x, ls)] else if x = 1 then [(30, 0, 0, 0, 0, ls)] else []
/-- what a case offers from its p-th bound on -/
noncomputable def caB (R : Rw) (Γ : Env) (ls c : Int) (p : Nat) : List Pe := if R 0 c = 29 then chB R ls c (2 * (R 6 c).toNat - p) p else oneB R Γ ls c
noncomputable def ofK (R : Rw) (Γ : Env) (ls tm : Int) : List Int → List Pe
  | [] => [(-1, 0, 0, 0, 0, tm)]
  | c :: cs => caB R Γ ls c 0 ++ ofK R Γ ls tm cs
/-- from the p-th bound of the first case on -/
noncomputable def ofP (R : Rw) (Γ : Env) (ls tm : Int) (p : Nat) : List Int → List Pe
  | [] => [(-1, 0, 0, 0, 0, tm)]
  | c :: cs => caB R Γ ls c p ++ ofK R Γ ls tm cs
theorem ofP_0 (R : Rw) (Γ : Env) (ls tm : Int) (cs : List Int) : ofP R Γ ls tm 0 cs = ofK R Γ ls tm cs := by cases cs <;> rfl
def csO (R : Rw) : Nat → Int → List Int
  | 0, _ => []
  | f + 1, c => if c = -1 then [] else c :: csO R f (R 19 c)
theorem csO_chc {R : Rw} {m i q : Int} : ∀ (cs : List Int) (p l : Int) (f : Nat), 0 ≤ i → i ≤ p → chc R m i p l cs q → cs.length < f → csO R f l = cs := by
  intro cs
  induction cs with
  | nil =>
    intro p l f _ _ h hf
    cases f with
    | zero => exact absurd hf (Nat.not_lt_zero _)
    | succ f => rw [csO, if_pos h.2]
  | cons c cs ih =>
    intro p l f hi hp h hf
    obtain ⟨a1, a2, a3, a4, a5, a6⟩ := h
    have hlt := nxt_lt a2
    cases f with
    | zero => exact absurd hf (Nat.not_lt_zero _)
    | succ f =>
      rw [csO, if_neg (by omega), a1, ih c (R 19 c) f hi (by omega) a6 (by simp only [List.length_cons] at hf; omega)]
noncomputable def ofs (R : Rw) (giv : Bk) (l : Lv) : List Pe := if R 0 l.nd = 0 ∧ l.ac.1 = 0 then [] else if R 0 l.nd = 3 ∧ l.ls < tmo R giv l.nd then ofK R (l.env giv) l.ls (tmo R giv l.nd) (csO R 9 (R 16 l.nd)) else [(-1, 0, 0, 0, 0, l.ls)]
noncomputable def trP (R : Rw) (giv : Bk) (l : Lv) (p : Pe) (ρ ρ' : Rl) (cp : Int) : Sum Int TS := runO R giv 1 p.2.2.2.2.2 p.2.2.2.2.2 l.ls (fun _ => p.1) (fun _ => p.2.1) (fun _ => p.2.2.1) (fun _ => p.2.2.2.1) (fun _ => p.2.2.2.2.1) (if p.1 = -1 then 0 else 1) 0 (l.ts ρ ρ' cp)
def upP (P : Nat → Pe) (j : Nat) (p : Pe) : Nat → Pe := fun i => if i = j then p else P i
/-- the search: its answer, the tries made, the path and its length -/
def srS (R : Rw) (giv : Bk) (mask fuel : Int) : Nat → Int → List (Lv × List Pe) → (Nat → Pe) → Int × Int × (Nat → Pe) × Nat → Prop
  | 0, _, _, _, _ => False
  | _ + 1, mq, [], P, o => o = (0, mq, P, 0)
  | N + 1, mq, (_, []) :: S, P, o => srS R giv mask fuel N mq S P o
  | N + 1, mq, (l, p :: ps) :: S, P, o => (mq = fuel ∧ o = (2, mq, P, 0)) ∨ (mq ≠ fuel ∧ ∃ ρ ρ' cp, (∃ z, trP R giv l p ρ ρ' cp = .inl z ∧ srS R giv mask fuel N (mq + 1) ((l, ps) :: S) (upP P S.length p) o) ∨ ∃ s, trP R giv l p ρ ρ' cp = .inr s ∧ ((fnd mask s.wrn ∧ o = (1, mq + 1, upP P S.length p, S.length + 1)) ∨ (¬ fnd mask s.wrn ∧ srS R giv mask fuel N (mq + 1) ((s.lv (max p.2.2.2.2.2 l.ls), ofs R giv (s.lv (max p.2.2.2.2.2 l.ls))) :: (l, ps) :: S) (upP P S.length p) o)))
/-- how deep a search may still go -/
def mu (R : Rw) (l : Lv) : Int := if R 0 l.nd = 0 then (if l.ac.1 = 0 then 0 else 1) else 103 - R 1 l.nd
theorem stepO_dp {R : Rw} {m : Int} {giv : Bk} {st en lk : Int} {s s' : TS} (hW : WFP R m) (hO : OT s) (hV : VN R m s) (hk0 : R 0 s.nd ≠ 0) (hs : stepO R giv st en lk s = some (.inr s')) : R 1 s.nd < R 1 s'.nd := by
  obtain ⟨n0, n1, k0, k5⟩ := id hV
  have fin : ∀ y, s'.nd = y → R 1 y = R 1 s.nd + 1 → R 1 s.nd < R 1 s'.nd := fun y a b => by rw [a]; omega
  by_cases hk3 : R 0 s.nd = 3
  · rw [stepO_3 hk3] at hs
    obtain ⟨cs, q0, c1, c2, c3, c4, c5, c6, c7⟩ := kids_w (hW.2.2 _ n0 n1).1 hk3
    by_cases d1 : en < tmo R giv s.nd
    · rw [if_pos d1] at hs; cases hs
    · rw [if_neg d1] at hs
      by_cases d2 : st < tmo R giv s.nd
      · rw [if_pos d2] at hs; cases hs
      · rw [if_neg d2] at hs; cases hs
        exact fin _ rfl c6
  · have hkk : R 0 s.nd = 1 ∨ R 0 s.nd = 2 ∨ R 0 s.nd = 4 ∨ R 0 s.nd = 5 := by omega
    obtain ⟨_, ⟨i1, i2, i3, i4, i5⟩, h18⟩ := kids_c (hW.2.2 _ n0 n1).1 hkk
    cases hev : ev R (s.env giv st en) 101 (s.nd + 1) with
    | none => rw [stepO_n hk0 hk3 hev] at hs; cases hs
    | some x =>
      rw [stepO_s hk0 hk3 hev] at hs
      have hs := Option.some.inj hs
      by_cases d1 : R 0 s.nd = 1
      · rw [if_pos d1] at hs
        exact fin _ (payN_ok hO hs).2.1 i4
      · rw [if_neg d1] at hs
        by_cases d2 : R 0 s.nd = 2
        · rw [if_pos d2] at hs
          obtain ⟨l1, l2, l3, l4, l5⟩ := h18 d2
          cases hs
          by_cases hx : x = 1
          · exact fin (R 17 s.nd) (by rw [if_pos hx]; rfl) i4
          · exact fin (R 18 s.nd) (by rw [if_neg hx]; rfl) l4
        · rw [if_neg d2] at hs
          by_cases d4 : R 0 s.nd = 4
          · rw [if_pos d4] at hs
            exact fin _ (letN_ok hO hs).2.1 i4
          · rw [if_neg d4] at hs
            by_cases hx : x = 1
            · rw [if_pos hx] at hs; cases hs; exact fin _ rfl i4
            · rw [if_neg hx] at hs
              exact fin (R 17 s.nd) (warnO_ok (s := s.sNd (R 17 s.nd)) hO hs).2.1 i4
theorem stepO_c {R : Rw} {giv : Bk} {st en : Int} {s s' : TS} (hO : sbk s.acc) (hk0 : R 0 s.nd = 0) (hs : stepO R giv st en 1 s = some (.inr s')) : s'.nd = s.nd ∧ sbk s'.acc ∧ s'.acc.1 + 1 = s.acc.1 := by
  rw [stepO_0 hk0] at hs
  by_cases hz : s.acc.1 = 0
  · rw [if_pos hz] at hs; cases hs
  · rw [if_neg hz] at hs
    have hs : payO 1 (s.sCp 1) 0 (s.acc.2.1 0) (s.acc.2.1 0) (s.acc.2.2.1 0) (s.acc.2.2.2 0) = .inr s' := Option.some.inj hs
    obtain ⟨e1, e2⟩ := hs2_eq hO (i := 0) (Int.le_refl _) (by omega) rfl rfl
    unfold payO at hs
    by_cases c1 : (s.sCp 1).pay.1 < 60
    · rw [if_pos c1, if_neg (by decide), if_neg (by decide)] at hs
      cases hs
      have hb : bdeb s.acc (s.acc.2.1 0) (s.acc.2.2.1 0) (s.acc.2.2.2 0) = brem s.acc (s.acc.2.1 0) (s.acc.2.2.1 0) := by
        unfold bdeb
        rw [if_pos e2, if_pos (by rw [e1]; omega)]
      refine ⟨rfl, ?_, ?_⟩
      · show sbk (bdeb s.acc (s.acc.2.1 0) (s.acc.2.2.1 0) (s.acc.2.2.2 0))
        rw [hb]
        exact sbk_brem hO
      · show (bdeb s.acc (s.acc.2.1 0) (s.acc.2.2.1 0) (s.acc.2.2.2 0)).1 + 1 = s.acc.1
        rw [hb]
        show s.acc.1 - 1 + 1 = s.acc.1
        omega
    · rw [if_neg c1] at hs; cases hs
theorem redO_c {R : Rw} {giv : Bk} {st en : Int} : ∀ (f : Nat) {s s' : TS}, sbk s.acc → R 0 s.nd = 0 → s.acc.1 < f → redO R giv st en 1 f s = .inr s' → s'.nd = s.nd ∧ s'.acc.1 = 0 := by
  intro f
  induction f with
  | zero => intro s s' _ _ h; exact absurd h (Nat.not_lt_zero _)
  | succ f ih =>
    intro s s' hO hk hf hr
    cases hs : stepO R giv st en 1 s with
    | none =>
      rw [redO_n hs] at hr; cases hr
      rw [stepO_0 hk] at hs
      by_cases hz : s.acc.1 = 0
      · exact ⟨rfl, hz⟩
      · rw [if_neg hz] at hs; cases hs
    | some r =>
      cases r with
      | inl c => rw [redO_e hs] at hr; cases hr
      | inr s1 =>
        rw [redO_s hs] at hr
        obtain ⟨a1, a2, a3⟩ := stepO_c hO hk hs
        obtain ⟨b1, b2⟩ := ih a2 (by rw [a1]; exact hk) (by omega) hr
        exact ⟨b1.trans a1, b2⟩
theorem redO_dp {R : Rw} {m : Int} {giv : Bk} {st en lk : Int} (hW : WFP R m) : ∀ (f : Nat) {s s' : TS}, SI R m s → redO R giv st en lk f s = .inr s' → s' = s ∨ (R 0 s.nd = 0 ∧ s'.nd = s.nd) ∨ R 1 s.nd < R 1 s'.nd := by
  intro f
  induction f with
  | zero => intro s s' h hr; rw [redO] at hr; cases hr; exact Or.inl rfl
  | succ f ih =>
    intro s s' h hr
    cases hs : stepO R giv st en lk s with
    | none => rw [redO_n hs] at hr; cases hr; exact Or.inl rfl
    | some r =>
      cases r with
      | inl c => rw [redO_e hs] at hr; cases hr
      | inr s1 =>
        rw [redO_s hs] at hr
        have h1 := stepO_inv hW h hs
        have h2 := ih h1 hr
        by_cases hk : R 0 s.nd = 0
        · have hn : s1.nd = s.nd := by
            rw [stepO_0 hk] at hs
            by_cases hz : s.acc.1 = 0
            · rw [if_pos hz] at hs; cases hs
            · rw [if_neg hz] at hs
              have hs : payO lk (s.sCp 1) 0 (s.acc.2.1 0) (s.acc.2.1 0) (s.acc.2.2.1 0) (s.acc.2.2.2 0) = .inr s1 := Option.some.inj hs
              have hpos := h.1.1.2 0 (Int.le_refl _) (by omega)
              obtain ⟨e1, _⟩ := hs2_eq h.1.1.1 (i := 0) (Int.le_refl _) (by omega) rfl rfl
              exact (payO_ok (s := s.sCp 1) h.1 hpos (fun _ => by
                show s.acc.2.2.2 0 ≤ s.acc.2.2.2 (ps s.acc (s.acc.2.1 0) (s.acc.2.2.1 0))
                rw [e1]; exact Int.le_refl _) hs).2
          rw [hn] at h2
          rcases h2 with z | z | z
          · exact Or.inr (Or.inl ⟨hk, by rw [z]; exact hn⟩)
          · exact Or.inr (Or.inl z)
          · exact Or.inr (Or.inr z)
        · have h3 := stepO_dp hW h.1 h.2.1 hk hs
          refine Or.inr (Or.inr ?_)
          rcases h2 with z | z | z
          · rw [z]; exact h3
          · rw [z.2]; exact h3
          · omega
theorem appC_dp {R : Rw} {m : Int} {giv : Bk} {st en lk t a b c v q0 : Int} {s s' : TS} (hW : WFP R m) (hO : OT s) (n0 : 0 ≤ s.nd) : ∀ (cs : List Int) (p l : Int) (f : Nat), chc R m s.nd p l cs q0 → appC R giv st en lk s t a b c v f l = .inr s' → R 1 s.nd < R 1 s'.nd := by
  intro cs
  induction cs with
  | nil =>
    intro p l f hch hr
    have hl : l = -1 := hch.2
    cases f with
    | zero => rw [appC] at hr; cases hr
    | succ f => rw [appC, if_pos hl] at hr; cases hr
  | cons cc cs ih =>
    intro p l f hch hr
    obtain ⟨a1, a2, a3, a4, a5, a6⟩ := hch
    have hlt := nxt_lt a2
    subst a1
    have cn0 : 0 ≤ l := by omega
    have h31 := (hW.2.2 l cn0 a5).1.1.2
    have hkk : R 0 l = 28 ∨ R 0 l = 29 ∨ R 0 l = 30 := by omega
    obtain ⟨_, g3, g4, g5, g6⟩ := kids_k (hW.2.2 l cn0 a5).1 hkk
    cases f with
    | zero => rw [appC] at hr; cases hr
    | succ f =>
      rw [appC, if_neg (by omega)] at hr
      by_cases hn : nmd R l t a b c
      · rw [if_pos hn] at hr
        cases hk : tkn' R (s.env giv st en) l t v with
        | none => rw [hk] at hr; cases hr
        | some y =>
          rw [hk] at hr
          cases y with
          | true =>
            have hr : takeO lk (s.sNd (R 17 l)) t a b c v = .inr s' := hr
            have nd' : s'.nd = R 17 l := (takeO_ok (s := s.sNd (R 17 l)) hO hr).2
            rw [nd']; omega
          | false => exact ih l _ f a6 hr
      · rw [if_neg hn] at hr
        exact ih l _ f a6 hr
theorem appO_dp {R : Rw} {m : Int} {giv : Bk} {st en lk t a b c v : Int} {s s' : TS} (hW : WFP R m) (h : SI R m s) (hr : appO R giv st en lk s t a b c v = .inr s') : R 1 s.nd < R 1 s'.nd := by
  unfold appO at hr
  by_cases h3 : R 0 s.nd = 3
  · rw [if_pos h3] at hr
    obtain ⟨cs, q0, c1, _⟩ := kids_w (hW.2.2 _ h.2.1.1 h.2.1.2.1).1 h3
    exact appC_dp hW h.1 h.2.1.1 cs _ _ 9 c1 hr
  · rw [if_neg h3] at hr; cases hr
