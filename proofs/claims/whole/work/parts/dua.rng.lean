/-! why a transaction is refused: one of eight reasons -/
def RZn {α : Type} (x : Sum Int α) : Prop := ∀ z, x = .inl z → -9 ≤ z ∧ z ≤ -2
theorem RZn.r {α : Type} {a : α} : RZn (.inr a : Sum Int α) := fun z h => by cases h
theorem RZn.l {α : Type} {c : Int} (h : -9 ≤ c ∧ c ≤ -2) : RZn (.inl c : Sum Int α) := fun z hz => by cases hz; exact h
theorem RZn.ite {α : Type} {p : Prop} [Decidable p] {x y : Sum Int α} (h1 : p → RZn x) (h2 : ¬ p → RZn y) : RZn (if p then x else y) := by
  by_cases c : p
  · rw [if_pos c]; exact h1 c
  · rw [if_neg c]; exact h2 c
theorem rz_bcre {β : Bk} {n : Nat} {a b v : Int} : RZn (bcre β n a b v) := RZn.ite (fun _ => RZn.ite (fun _ => RZn.r) (fun _ => RZn.l (by decide))) (fun _ => RZn.ite (fun _ => RZn.r) (fun _ => RZn.l (by decide)))
theorem rz_warnO {s : TS} {t a b c v : Int} : RZn (warnO s t a b c v) := RZn.ite (fun _ => RZn.r) (fun _ => RZn.l (by decide))
theorem rz_payO {lk : Int} {s : TS} {sort a b c v : Int} : RZn (payO lk s sort a b c v) := by
  unfold payO
  refine RZn.ite (fun _ => RZn.ite (fun _ => ?_) (fun _ => RZn.ite (fun _ => ?_) (fun _ => RZn.r))) (fun _ => RZn.l (by decide))
  · have hq := rz_bcre (β := bdeb s.acc a c v) (n := 40) (a := b) (b := c) (v := v)
    cases h : bcre (bdeb s.acc a c v) 40 b c v with
    | inl z => rw [h] at hq; exact RZn.l (hq z rfl)
    | inr q => exact RZn.r
  · have hq := rz_bcre (β := s.wal) (n := 60) (a := b) (b := c) (v := v)
    cases h : bcre s.wal 60 b c v with
    | inl z => rw [h] at hq; exact RZn.l (hq z rfl)
    | inr q => exact RZn.r
theorem rz_payN {R : Rw} {lk : Int} {s : TS} {n x : Int} : RZn (payN R lk s n x) := by
  unfold payN
  refine RZn.ite (fun _ => rz_warnO) (fun _ => RZn.ite (fun _ => rz_payO) (fun _ => ?_))
  have hq := rz_warnO (s := s.sNd (R 17 n)) (t := 3) (a := R 4 n) (b := R 5 n) (c := R 6 n) (v := x)
  cases h : warnO (s.sNd (R 17 n)) 3 (R 4 n) (R 5 n) (R 6 n) x with
  | inl z => rw [h] at hq; exact RZn.l (hq z rfl)
  | inr q => exact RZn.ite (fun _ => rz_payO) (fun _ => RZn.r)
theorem rz_letN {R : Rw} {s : TS} {n x : Int} : RZn (letN R s n x) := by
  unfold letN
  refine RZn.ite (fun _ => ?_) (fun _ => RZn.ite (fun _ => RZn.r) (fun _ => RZn.l (by decide)))
  have hq := rz_warnO (s := s.sNd (R 17 n)) (t := 4) (a := R 4 n) (b := 0) (c := 0) (v := s.lts.2.2.2 (ps s.lts (R 4 n) 0))
  cases h : warnO (s.sNd (R 17 n)) 4 (R 4 n) 0 0 (s.lts.2.2.2 (ps s.lts (R 4 n) 0)) with
  | inl z => rw [h] at hq; exact RZn.l (hq z rfl)
  | inr q => exact RZn.r
theorem rz_stepO {R : Rw} {giv : Bk} {st en lk : Int} {s : TS} {x : Sum Int TS} (h : stepO R giv st en lk s = some x) : RZn x := by
  unfold stepO at h
  by_cases c1 : R 0 s.nd = 0
  · rw [if_pos c1] at h
    by_cases c2 : s.acc.1 = 0
    · rw [if_pos c2] at h; cases h
    · rw [if_neg c2] at h; cases h; exact rz_payO
  · rw [if_neg c1] at h
    by_cases c2 : R 0 s.nd = 3
    · rw [if_pos c2] at h
      by_cases c3 : en < tmo R giv s.nd
      · rw [if_pos c3] at h; cases h
      · rw [if_neg c3] at h
        by_cases c4 : st < tmo R giv s.nd
        · rw [if_pos c4] at h; cases h; exact RZn.l (by decide)
        · rw [if_neg c4] at h; cases h; exact RZn.r
    · rw [if_neg c2] at h
      cases he : ev R (s.env giv st en) 101 (s.nd + 1) with
      | none => rw [he] at h; cases h; exact RZn.l (by decide)
      | some y =>
        rw [he] at h
        cases h
        exact RZn.ite (fun _ => rz_payN) (fun _ => RZn.ite (fun _ => RZn.r) (fun _ => RZn.ite (fun _ => rz_letN) (fun _ => RZn.ite (fun _ => RZn.r) (fun _ => rz_warnO))))
theorem rz_redO {R : Rw} {giv : Bk} {st en lk : Int} : ∀ (f : Nat) (s : TS), RZn (redO R giv st en lk f s) := by
  intro f
  induction f with
  | zero => intro s; exact RZn.r
  | succ f ih =>
    intro s
    rw [redO]
    cases h : stepO R giv st en lk s with
    | none => exact RZn.r
    | some x =>
      have hx := rz_stepO h
      cases x with
      | inl c => exact hx
      | inr s' => exact ih s'
theorem rz_takeO {lk : Int} {s : TS} {t a b c v : Int} : RZn (takeO lk s t a b c v) := by
  unfold takeO
  refine RZn.ite (fun _ => ?_) (fun _ => RZn.ite (fun _ => RZn.r) (fun _ => RZn.ite (fun _ => rz_warnO) (fun _ => RZn.ite (fun _ => RZn.ite (fun _ => RZn.l (by decide)) (fun _ => ?_)) (fun _ => ?_))))
  · cases bput s.cho 40 a b v with
    | none => exact RZn.l (by decide)
    | some β => exact RZn.r
  · have hq := rz_bcre (β := s.acc) (n := 40) (a := a) (b := c) (v := v)
    cases h : bcre s.acc 40 a c v with
    | inl z => rw [h] at hq; exact RZn.l (hq z rfl)
    | inr q => exact RZn.r
  · have hq := rz_bcre (β := s.acc) (n := 40) (a := a) (b := c) (v := v)
    cases h : bcre s.acc 40 a c v with
    | inl z => rw [h] at hq; exact RZn.l (hq z rfl)
    | inr q => exact RZn.r
theorem rz_appC {R : Rw} {giv : Bk} {st en lk : Int} {s : TS} {t a b c v : Int} : ∀ (f : Nat) (n : Int), RZn (appC R giv st en lk s t a b c v f n) := by
  intro f
  induction f with
  | zero => intro n; exact RZn.l (by decide)
  | succ f ih =>
    intro n
    rw [appC]
    refine RZn.ite (fun _ => RZn.l (by decide)) (fun _ => RZn.ite (fun _ => ?_) (fun _ => ih _))
    cases tkn' R (s.env giv st en) n t v with
    | none => exact RZn.l (by decide)
    | some q =>
      cases q with
      | true => exact rz_takeO
      | false => exact ih _
theorem rz_insO {R : Rw} {giv : Bk} {st en lk : Int} {t a b c v : Int → Int} : ∀ (n : Nat) (i : Int) (s : TS), RZn (insO R giv st en lk t a b c v n i s) := by
  intro n
  induction n with
  | zero => intro i s; exact RZn.r
  | succ n ih =>
    intro i s
    rw [insO]
    have ha : RZn (appO R giv st en lk s (t i) (a i) (b i) (c i) (v i)) := RZn.ite (fun _ => rz_appC _ _) (fun _ => RZn.l (by decide))
    cases h : appO R giv st en lk s (t i) (a i) (b i) (c i) (v i) with
    | inl z => rw [h] at ha; exact ha
    | inr s1 =>
      have hr := rz_redO (R := R) (giv := giv) (st := st) (en := en) (lk := lk) 142 s1
      dsimp only
      cases h2 : redO R giv st en lk 142 s1 with
      | inl z => rw [h2] at hr; exact hr
      | inr s2 => exact ih _ _
theorem runO_rng {R : Rw} {giv : Bk} {lk fr to least : Int} {t a b c v : Int → Int} {n : Nat} {i z : Int} {s : TS} (hr : runO R giv lk fr to least t a b c v n i s = .inl z) : -9 ≤ z ∧ z ≤ -2 := by
  have key : RZn (runO R giv lk fr to least t a b c v n i s) := by
    unfold runO
    refine RZn.ite (fun _ => RZn.l (by decide)) (fun _ => RZn.ite (fun _ => RZn.l (by decide)) (fun _ => ?_))
    have h1 := rz_redO (R := R) (giv := giv) (st := max fr least) (en := to) (lk := lk) 142 s.fresh
    cases h : redO R giv (max fr least) to lk 142 s.fresh with
    | inl z => rw [h] at h1; exact h1
    | inr s1 =>
      dsimp only
      have h2 := rz_insO (R := R) (giv := giv) (st := max fr least) (en := to) (lk := lk) (t := t) (a := a) (b := b) (c := c) (v := v) n i s1
      cases h' : insO R giv (max fr least) to lk t a b c v n i s1 with
      | inl z => rw [h'] at h2; exact h2
      | inr s2 => exact RZn.ite (fun _ => RZn.l (by decide)) (fun _ => RZn.r)
  exact key z hr
