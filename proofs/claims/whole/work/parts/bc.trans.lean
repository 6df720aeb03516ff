/-! A TRANSACTION: what both sides do -/
abbrev Rl : Type := Nat × (Int → Int) × (Int → Int) × (Int → Int) × (Int → Int) × (Int → Int)
/-- accounts, choices, lets, node, wallets, payments, warnings, whether a close has paid -/
def TS : Type := Bk × Bk × Bk × Int × Bk × Rl × Rl × Int
def TS.acc (s : TS) : Bk := s.1
def TS.cho (s : TS) : Bk := s.2.1
def TS.lts (s : TS) : Bk := s.2.2.1
def TS.nd (s : TS) : Int := s.2.2.2.1
def TS.wal (s : TS) : Bk := s.2.2.2.2.1
def TS.pay (s : TS) : Rl := s.2.2.2.2.2.1
def TS.wrn (s : TS) : Rl := s.2.2.2.2.2.2.1
def TS.cp (s : TS) : Int := s.2.2.2.2.2.2.2
def TS.sAcc (s : TS) (x : Bk) : TS := (x, s.cho, s.lts, s.nd, s.wal, s.pay, s.wrn, s.cp)
def TS.sCho (s : TS) (x : Bk) : TS := (s.acc, x, s.lts, s.nd, s.wal, s.pay, s.wrn, s.cp)
def TS.sLts (s : TS) (x : Bk) : TS := (s.acc, s.cho, x, s.nd, s.wal, s.pay, s.wrn, s.cp)
def TS.sNd (s : TS) (x : Int) : TS := (s.acc, s.cho, s.lts, x, s.wal, s.pay, s.wrn, s.cp)
def TS.sWal (s : TS) (x : Bk) : TS := (s.acc, s.cho, s.lts, s.nd, x, s.pay, s.wrn, s.cp)
def TS.sPay (s : TS) (x : Rl) : TS := (s.acc, s.cho, s.lts, s.nd, s.wal, x, s.wrn, s.cp)
def TS.sWrn (s : TS) (x : Rl) : TS := (s.acc, s.cho, s.lts, s.nd, s.wal, s.pay, x, s.cp)
def TS.sCp (s : TS) (x : Int) : TS := (s.acc, s.cho, s.lts, s.nd, s.wal, s.pay, s.wrn, x)
def radd (ρ : Rl) (t a b c v : Int) : Rl := (ρ.1 + 1, im_up ρ.2.1 ρ.1 t, im_up ρ.2.2.1 ρ.1 a, im_up ρ.2.2.2.1 ρ.1 b, im_up ρ.2.2.2.2.1 ρ.1 c, im_up ρ.2.2.2.2.2 ρ.1 v)
noncomputable def bins (β : Bk) (a b v : Int) : Bk := (β.1 + 1, insF β.2.1 (ps β a b) a, insF β.2.2.1 (ps β a b) b, insF β.2.2.2 (ps β a b) v)
noncomputable def bset (β : Bk) (a b v : Int) : Bk := (β.1, β.2.1, β.2.2.1, im_up β.2.2.2 (ps β a b) v)
noncomputable def brem (β : Bk) (a b : Int) : Bk := (β.1 - 1, remF β.2.1 (ps β a b), remF β.2.2.1 (ps β a b), remF β.2.2.2 (ps β a b))
noncomputable def bput (β : Bk) (n : Nat) (a b v : Int) : Option Bk := if hs2 β a b then some (bset β a b v) else if β.1 < n then some (bins β a b v) else none
noncomputable def bcre (β : Bk) (n : Nat) (a b v : Int) : Sum Int Bk := if hs2 β a b then (if -LIM < β.2.2.2 (ps β a b) + v ∧ β.2.2.2 (ps β a b) + v < LIM then .inr (bset β a b (β.2.2.2 (ps β a b) + v)) else .inl (-8)) else if β.1 < n then .inr (bins β a b v) else .inl (-9)
noncomputable def bdeb (β : Bk) (a b v : Int) : Bk := if hs2 β a b then (if β.2.2.2 (ps β a b) - v = 0 then brem β a b else bset β a b (β.2.2.2 (ps β a b) - v)) else β
def TS.env (s : TS) (giv : Bk) (st en : Int) : Env := (s.acc, s.cho, s.lts, giv, st, en)
noncomputable def tmo (R : Rw) (giv : Bk) (n : Int) : Int := if R 5 n = 0 then R 4 n else asT (hld giv (R 5 n) 0)
def warnO (s : TS) (t a b c v : Int) : Sum Int TS := if s.wrn.1 < 60 then .inr (s.sWrn (radd s.wrn t a b c v)) else .inl (-9)
noncomputable def payO (lk : Int) (s : TS) (sort a b c v : Int) : Sum Int TS :=
  if s.pay.1 < 60 then
    (if sort = 1 then (match bcre (bdeb s.acc a c v) 40 b c v with
        | .inl k => .inl k
        | .inr β => .inr ((s.sPay (radd s.pay sort a b c v)).sAcc β))
     else if lk = 0 then (match bcre s.wal 60 b c v with
        | .inl k => .inl k
        | .inr β => .inr (((s.sPay (radd s.pay sort a b c v)).sAcc (bdeb s.acc a c v)).sWal β))
     else .inr ((s.sPay (radd s.pay sort a b c v)).sAcc (bdeb s.acc a c v)))
  else .inl (-9)
/-- a pay's value is x -/
noncomputable def payN (R : Rw) (lk : Int) (s : TS) (n x : Int) : Sum Int TS :=
  if x ≤ 0 then warnO (s.sNd (R 17 n)) 2 (R 4 n) (R 5 n) (R 6 n) x
  else if x ≤ hld s.acc (R 4 n) (R 6 n) then payO lk (s.sNd (R 17 n)) (R 3 n) (R 4 n) (R 5 n) (R 6 n) x
  else match warnO (s.sNd (R 17 n)) 3 (R 4 n) (R 5 n) (R 6 n) x with
    | .inl c => .inl c
    | .inr s2 => if 0 < hld s.acc (R 4 n) (R 6 n) then payO lk s2 (R 3 n) (R 4 n) (R 5 n) (R 6 n) (hld s.acc (R 4 n) (R 6 n)) else .inr s2
noncomputable def letN (R : Rw) (s : TS) (n x : Int) : Sum Int TS :=
  if hs2 s.lts (R 4 n) 0 then (match warnO (s.sNd (R 17 n)) 4 (R 4 n) 0 0 (s.lts.2.2.2 (ps s.lts (R 4 n) 0)) with
    | .inl c => .inl c
    | .inr s2 => .inr (s2.sLts (bset s.lts (R 4 n) 0 x)))
  else if s.lts.1 < 40 then .inr ((s.sNd (R 17 n)).sLts (bins s.lts (R 4 n) 0 x)) else .inl (-9)
/-- one step; none: nothing more to do -/
noncomputable def stepO (R : Rw) (giv : Bk) (st en lk : Int) (s : TS) : Option (Sum Int TS) :=
  if R 0 s.nd = 0 then (if s.acc.1 = 0 then none else some (payO lk (s.sCp 1) 0 (s.acc.2.1 0) (s.acc.2.1 0) (s.acc.2.2.1 0) (s.acc.2.2.2 0)))
  else if R 0 s.nd = 3 then (if en < tmo R giv s.nd then none else if st < tmo R giv s.nd then some (.inl (-4)) else some (.inr (s.sNd (R 17 s.nd))))
  else match ev R (s.env giv st en) 101 (s.nd + 1) with
    | none => some (.inl (-8))
    | some x => some (if R 0 s.nd = 1 then payN R lk s s.nd x else if R 0 s.nd = 2 then .inr (s.sNd (if x = 1 then R 17 s.nd else R 18 s.nd))
        else if R 0 s.nd = 4 then letN R s s.nd x else if x = 1 then .inr (s.sNd (R 17 s.nd)) else warnO (s.sNd (R 17 s.nd)) 5 0 0 0 0)
/-- steps as long as there are any -/
noncomputable def redO (R : Rw) (giv : Bk) (st en lk : Int) : Nat → TS → Sum Int TS
  | 0, s => .inr s
  | f + 1, s => match stepO R giv st en lk s with
    | none => .inr s
    | some (.inl c) => .inl c
    | some (.inr s') => redO R giv st en lk f s'
def posb (β : Bk) : Prop := ∀ i : Int, 0 ≤ i → i < β.1 → 0 < β.2.2.2 i
/-- what always holds -/
def OT (s : TS) : Prop := (sbk s.acc ∧ posb s.acc) ∧ sbk s.cho ∧ (sbk s.lts ∧ s.lts.2.2.1 = z0) ∧ (sbk s.wal ∧ posb s.wal)
theorem lt2_tr {a b c d e f : Int} (h : lt2 a b c d) (h' : lt2 c d e f) : lt2 a b e f := by unfold lt2 at *; omega
theorem lt2_or {a b c d : Int} (h : ¬ lt2 a b c d) (h' : ¬ (a = c ∧ b = d)) : lt2 c d a b := by unfold lt2 at *; omega
theorem sbk_bins {β : Bk} {a b v : Int} (h : sbk β) (hn : ¬ hs2 β a b) : sbk (bins β a b v) := by
  obtain ⟨p1, p2, p3, p4⟩ := ps_ok β a b
  have hlt : ps β a b < β.1 → lt2 a b (β.2.1 (ps β a b)) (β.2.2.1 (ps β a b)) := fun z => lt2_or (p4 z) (fun w => hn ⟨z, w⟩)
  unfold hs2 at hn
  intro i j i0 ij j1
  have j1 : j < ((β.1 + 1 : Nat) : Int) := j1
  show lt2 (insF β.2.1 (ps β a b) a i) (insF β.2.2.1 (ps β a b) b i) (insF β.2.1 (ps β a b) a j) (insF β.2.2.1 (ps β a b) b j)
  generalize ps β a b = p at *
  unfold insF
  by_cases c1 : i < p
  · rw [if_pos c1, if_pos c1]
    by_cases c2 : j < p
    · rw [if_pos c2, if_pos c2]; exact h i j i0 ij (by omega)
    · rw [if_neg c2, if_neg c2]
      by_cases c3 : j = p
      · rw [if_pos c3, if_pos c3]; exact p3 i i0 c1
      · rw [if_neg c3, if_neg c3]
        exact lt2_tr (p3 i i0 c1) (by
          by_cases c4 : p = j - 1
          · rw [← c4]; exact hlt (by omega)
          · exact lt2_tr (hlt (by omega)) (h p (j - 1) p1 (by omega) (by omega)))
  · rw [if_neg c1, if_neg c1]
    by_cases c2 : i = p
    · rw [if_pos c2, if_pos c2, if_neg (by omega), if_neg (by omega), if_neg (by omega), if_neg (by omega)]
      by_cases c4 : p = j - 1
      · rw [← c4]; exact hlt (by omega)
      · exact lt2_tr (hlt (by omega)) (h p (j - 1) p1 (by omega) (by omega))
    · rw [if_neg c2, if_neg c2, if_neg (by omega), if_neg (by omega), if_neg (by omega), if_neg (by omega)]
      exact h (i - 1) (j - 1) (by omega) (by omega) (by omega)
theorem sbk_bset {β : Bk} {a b v : Int} (h : sbk β) : sbk (bset β a b v) := h
theorem sbk_brem {β : Bk} {a b : Int} (h : sbk β) : sbk (brem β a b) := by
  obtain ⟨p1, p2, _⟩ := ps_ok β a b
  intro i j i0 ij j1
  have j1 : j < ((β.1 - 1 : Nat) : Int) := j1
  show lt2 (remF β.2.1 (ps β a b) i) (remF β.2.2.1 (ps β a b) i) (remF β.2.1 (ps β a b) j) (remF β.2.2.1 (ps β a b) j)
  generalize ps β a b = p at *
  unfold remF
  by_cases c1 : i < p
  · rw [if_pos c1, if_pos c1]
    by_cases c2 : j < p
    · rw [if_pos c2, if_pos c2]; exact h i j i0 ij (by omega)
    · rw [if_neg c2, if_neg c2]; exact h i (j + 1) i0 (by omega) (by omega)
  · rw [if_neg c1, if_neg c1, if_neg (by omega), if_neg (by omega)]; exact h (i + 1) (j + 1) (by omega) (by omega) (by omega)
theorem posb_bins {β : Bk} {a b v : Int} (h : posb β) (hv : 0 < v) : posb (bins β a b v) := by
  obtain ⟨p1, p2, _⟩ := ps_ok β a b
  intro i i0 i1
  have i1 : i < ((β.1 + 1 : Nat) : Int) := i1
  show 0 < insF β.2.2.2 (ps β a b) v i
  generalize ps β a b = p at *
  unfold insF
  by_cases c1 : i < p
  · rw [if_pos c1]; exact h i i0 (by omega)
  · rw [if_neg c1]
    by_cases c2 : i = p
    · rw [if_pos c2]; exact hv
    · rw [if_neg c2]; exact h (i - 1) (by omega) (by omega)
theorem posb_bset {β : Bk} {a b v : Int} (h : posb β) (hv : 0 < v) : posb (bset β a b v) := by
  intro i i0 i1
  show 0 < im_up β.2.2.2 (ps β a b) v i
  unfold im_up
  by_cases c : i = ps β a b
  · rw [if_pos c]; exact hv
  · rw [if_neg c]; exact h i i0 i1
theorem posb_brem {β : Bk} {a b : Int} (h : posb β) : posb (brem β a b) := by
  obtain ⟨p1, p2, _⟩ := ps_ok β a b
  intro i i0 i1
  have i1 : i < ((β.1 - 1 : Nat) : Int) := i1
  show 0 < remF β.2.2.2 (ps β a b) i
  unfold remF
  by_cases c1 : i < ps β a b
  · rw [if_pos c1]; exact h i i0 (by omega)
  · rw [if_neg c1]; exact h (i + 1) (by omega) (by omega)
theorem hld_pos {β : Bk} (h : posb β) {a b : Int} : (hs2 β a b → 0 < hld β a b ∧ hld β a b = β.2.2.2 (ps β a b)) ∧ (¬ hs2 β a b → hld β a b = 0) := by
  unfold hld
  refine ⟨fun z => ?_, fun z => by rw [if_neg z]⟩
  rw [if_pos z]
  exact ⟨h _ (ps_ok β a b).1 z.1, rfl⟩
theorem bdeb_ok {β : Bk} {a b v : Int} (h : sbk β) (hp : posb β) (hle : hs2 β a b → v ≤ β.2.2.2 (ps β a b)) : sbk (bdeb β a b v) ∧ posb (bdeb β a b v) := by
  unfold bdeb
  by_cases c : hs2 β a b
  · rw [if_pos c]
    have := hle c
    by_cases c2 : β.2.2.2 (ps β a b) - v = 0
    · rw [if_pos c2]; exact ⟨sbk_brem h, posb_brem hp⟩
    · rw [if_neg c2]; exact ⟨sbk_bset h, posb_bset hp (by omega)⟩
  · rw [if_neg c]; exact ⟨h, hp⟩
theorem bcre_ok {β β' : Bk} {n : Nat} {a b v : Int} (h : sbk β) (hp : posb β) (hv : 0 < v) (hc : bcre β n a b v = .inr β') : sbk β' ∧ posb β' := by
  unfold bcre at hc
  by_cases c : hs2 β a b
  · rw [if_pos c] at hc
    have h0 := hp _ (ps_ok β a b).1 c.1
    by_cases c2 : -LIM < β.2.2.2 (ps β a b) + v ∧ β.2.2.2 (ps β a b) + v < LIM
    · rw [if_pos c2] at hc; cases hc; exact ⟨sbk_bset h, posb_bset hp (by omega)⟩
    · rw [if_neg c2] at hc; cases hc
  · rw [if_neg c] at hc
    by_cases c2 : β.1 < n
    · rw [if_pos c2] at hc; cases hc; exact ⟨sbk_bins h c, posb_bins hp hv⟩
    · rw [if_neg c2] at hc; cases hc
theorem payO_ok {lk : Int} {s s' : TS} {sort a b c v : Int} (h : OT s) (hv : 0 < v) (hle : hs2 s.acc a c → v ≤ s.acc.2.2.2 (ps s.acc a c)) (hp : payO lk s sort a b c v = .inr s') : OT s' ∧ s'.nd = s.nd := by
  obtain ⟨⟨a1, a2⟩, a3, a4, ⟨a5, a6⟩⟩ := h
  obtain ⟨d1, d2⟩ := bdeb_ok a1 a2 hle
  unfold payO at hp
  by_cases c1 : s.pay.1 < 60
  · rw [if_pos c1] at hp
    by_cases c2 : sort = 1
    · rw [if_pos c2] at hp
      cases hb : bcre (bdeb s.acc a c v) 40 b c v with
      | inl k => rw [hb] at hp; cases hp
      | inr β => rw [hb] at hp; cases hp; exact ⟨⟨bcre_ok d1 d2 hv hb, a3, a4, a5, a6⟩, rfl⟩
    · rw [if_neg c2] at hp
      by_cases c3 : lk = 0
      · rw [if_pos c3] at hp
        cases hb : bcre s.wal 60 b c v with
        | inl k => rw [hb] at hp; cases hp
        | inr β => rw [hb] at hp; cases hp; exact ⟨⟨⟨d1, d2⟩, a3, a4, bcre_ok a5 a6 hv hb⟩, rfl⟩
      · rw [if_neg c3] at hp; cases hp; exact ⟨⟨⟨d1, d2⟩, a3, a4, a5, a6⟩, rfl⟩
  · rw [if_neg c1] at hp; cases hp
theorem warnO_ok {s s' : TS} {t a b c v : Int} (h : OT s) (hw : warnO s t a b c v = .inr s') : OT s' ∧ s'.nd = s.nd ∧ s'.acc = s.acc ∧ s'.lts = s.lts := by
  unfold warnO at hw
  by_cases c1 : s.wrn.1 < 60
  · rw [if_pos c1] at hw; cases hw; exact ⟨h, rfl, rfl, rfl⟩
  · rw [if_neg c1] at hw; cases hw
theorem insF_z0 (p : Int) : insF z0 p 0 = z0 := by
  funext i
  unfold insF z0
  split
  · rfl
  · split <;> rfl
