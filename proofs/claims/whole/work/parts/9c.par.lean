/-! THE PARSER: an abstract machine that both sides keep step with.
An entry of its stack: sign, owner, slot, what remains. Rows R: 0 kind, 1 deep, 2 whens, 3 into / cases, 4 5 6 names (4 a time, 6 pairs), 7 a number, 8.. lower, 12.. upper bounds, 16 one, 17 two, 18 three, 19 next. -/
abbrev en : Type := Int × Int × Int × Int
abbrev Rw : Type := Nat → Int → Int
abbrev pS : Type := List en × Rw × Int × Int
def shp (k : Int) : List (Int × Int × Int) :=
  if k = 1 then [(49, 1, 6), (100, 0, 5), (50, 2, 4), (51, 3, 3), (118, 1, 2), (99, 2, 1)]
  else if k = 2 then [(111, 1, 3), (99, 2, 2), (99, 3, 1)]
  else if k = 3 then [(91, 0, 4), (107, 0, 3), (116, 0, 2), (99, 2, 1)]
  else if k = 4 then [(49, 1, 3), (118, 1, 2), (99, 2, 1)]
  else if k = 5 ∨ k = 30 then [(111, 1, 2), (99, 2, 1)]
  else if k = 6 ∨ k = 12 ∨ k = 20 then [(49, 1, 2), (50, 2, 1)]
  else if k = 7 then [(118, 1, 1)]
  else if k = 15 then [(49, 1, 1)]
  else if k = 16 then [(111, 1, 3), (118, 2, 2), (118, 3, 1)]
  else if k = 17 ∨ k = 18 then [(111, 1, 2), (111, 2, 1)]
  else if k = 19 then [(111, 1, 1)]
  else if (8 ≤ k ∧ k ≤ 11) ∨ (21 ≤ k ∧ k ≤ 25) then [(118, 1, 2), (118, 2, 1)]
  else if k = 31 then [(97, 0, 1)]
  else if k = 28 then [(49, 1, 5), (50, 2, 4), (51, 3, 3), (118, 1, 2), (99, 2, 1)]
  else if k = 29 then [(49, 1, 5), (50, 2, 4), (91, 0, 3), (98, 0, 2), (99, 2, 1)]
  else []
def shE (k n : Int) : List en := (shp k).map (fun x => (x.1, n, x.2.1, x.2.2))
def deepOf (R : Rw) (ow : Int) : Int := if ow = -1 then 0 else R 1 ow + 1
def whenOf (R : Rw) (ow : Int) : Int := if ow = -1 then 0 else R 2 ow
abbrev bgn (sg ty : Int) : Prop := (sg = 99 ∧ 0 ≤ ty ∧ ty ≤ 5) ∨ (sg = 118 ∧ ((6 ≤ ty ∧ ty ≤ 16) ∨ ty = 34 ∨ ty = 35)) ∨ (sg = 111 ∧ 17 ≤ ty ∧ ty ≤ 27)
abbrev much (R : Rw) (lo m ow : Int) : Prop := 100 < deepOf R ow ∨ 1000 ≤ m - lo ∨ 5000 ≤ m
def newN (R : Rw) (m ty ow : Int) : Rw := im_u (im_u (im_u (im_u (im_u (im_u (im_u (im_u (im_u (im_u (im_u R 0 m ty) 1 m (deepOf R ow)) 2 m (whenOf R ow + if ty = 3 then 1 else 0)) 3 m 0) 4 m 0) 5 m 0) 6 m 0) 16 m (-1)) 17 m (-1)) 18 m (-1)) 19 m (-1)
def lnk (R : Rw) (ow sl m : Int) : Rw := if ow = -1 then R else im_u R (15 + sl.toNat) ow m
def stpN (lo ty nm v : Int) (x : en) (r : List en) (R : Rw) (m lw : Int) : Sum Int pS :=
  if ty = 37 then .inr (x :: (41, 0, 0, 0) :: r, R, m, lw)
  else if ¬ bgn x.1 ty then .inl 4
  else if much R lo m x.2.1 then .inl 7
  else .inr (shE ty m ++ r, (let R1 := lnk (newN R m ty x.2.1) x.2.1 x.2.2.1 m; if ty = 34 then im_u R1 7 m v else if ty = 35 then im_u R1 4 m nm else R1), m + 1, lw)
def caseR (R : Rw) (m ow : Int) : Rw :=
  let R2 := newN (im_u R 3 ow (R 3 ow + 1)) m 31 ow
  im_u (if R 3 ow = 0 then im_u R2 16 ow m else im_u R2 19 (R 18 ow) m) 18 ow m
def stpK (lo ty : Int) (x : en) (r : List en) (R : Rw) (m lw : Int) : Sum Int pS :=
  if ty = 40 then .inr (r, R, m, lw)
  else if ty ≠ 31 then .inl 4
  else if much R lo m x.2.1 then .inl 7
  else if 8 ≤ R 3 x.2.1 then .inl 8
  else .inr ((97, m, 0, 1) :: x :: r, caseR R m x.2.1, m + 1, lw)
def stp (lo ty nm v : Int) (S : pS) : Sum Int pS := match S with
  | ([], R, m, lw) => .inr ([], R, m, lw)
  | (x :: r, R, m, lw) =>
    if x.1 = 99 ∨ x.1 = 118 ∨ x.1 = 111 then stpN lo ty nm v x r R m lw
    else if x.1 = 107 then stpK lo ty x r R m lw
    else if x.1 = 97 then (if 28 ≤ ty ∧ ty ≤ 30 then .inr (shE ty x.2.1 ++ r, im_u R 0 x.2.1 ty, m, lw) else .inl 4)
    else if x.1 = 116 then (if ty = 35 then .inr (r, im_u R 5 x.2.1 nm, m, lw) else if ty ≠ 34 then .inl 4 else if asT v = -1 then .inl 5 else .inr (r, im_u R 4 x.2.1 (asT v), m, lw))
    else if x.1 = 98 then (if ty = 40 ∧ 0 < R 6 x.2.1 then .inr (r, R, m, lw) else if ty ≠ 34 then .inl 4 else if 4 ≤ R 6 x.2.1 then .inl 8 else .inr ((104, x.2.1, 0, 3) :: x :: r, im_u R (8 + (R 6 x.2.1).toNat) x.2.1 v, m, v))
    else if x.1 = 104 then (if ty ≠ 34 then .inl 4 else if v < lw then .inl 6 else .inr (r, im_u (im_u R (12 + (R 6 x.2.1).toNat) x.2.1 v) 6 x.2.1 (R 6 x.2.1 + 1), m, lw))
    else if x.1 = 41 then (if ty = 38 then .inr (r, R, m, lw) else .inl 4)
    else if x.1 = 100 then (if ty = 32 ∨ ty = 33 then .inr (r, im_u R 3 x.2.1 (if ty = 33 then 1 else 0), m, lw) else .inl 4)
    else if x.1 = 91 then (if ty = 39 then .inr (r, R, m, lw) else .inl 4)
    else (if ty = 36 then .inr (r, im_u R (if x.1 = 49 then 4 else if x.1 = 50 then 5 else 6) x.2.1 nm, m, lw) else .inl 4)
/-- all ) that end at one place are one -/
def cmp : List en → List (Int × Int)
  | [] => []
  | x :: r => if x.1 = 41 then (match cmp r with
      | [] => [(41, 1)]
      | y :: r' => if y.1 = 41 then (41, y.2 + 1) :: r' else (41, 1) :: y :: r') else (x.1, x.2.1) :: cmp r
def stk (M : im_M) : List (Int × Int) → Prop
  | [] => True
  | x :: r => M 24 r.length = x.1 ∧ M 25 r.length = x.2 ∧ stk M r
theorem stk_congr {M M' : im_M} : ∀ (L : List (Int × Int)), stk M L → (∀ i : Int, 0 ≤ i → i < L.length → M' 24 i = M 24 i ∧ M' 25 i = M 25 i) → stk M' L := by
  intro L
  induction L with
  | nil => intro _ _; trivial
  | cons x r ih =>
    intro h hs
    obtain ⟨h1, h2, h3⟩ := h
    have hl : (x :: r).length = r.length + 1 := rfl
    have h4 := hs r.length (by omega) (by omega)
    exact ⟨h4.1.trans h1, h4.2.trans h2, ih h3 (fun i i0 i1 => hs i i0 (by omega))⟩
theorem cmp_cnt : ∀ (L : List en), ∀ y ∈ cmp L, y.1 = 41 → 1 ≤ y.2 := by
  intro L
  induction L with
  | nil => intro y hy; cases hy
  | cons x r ih =>
    intro y hy h41
    unfold cmp at hy
    split at hy
    · split at hy
      · rcases List.mem_singleton.mp hy with rfl; decide
      · rename_i z r' heq
        split at hy
        · rename_i hz
          rcases List.mem_cons.mp hy with h | h
          · have := ih z (by rw [heq]; exact List.mem_cons_self) hz
            rw [h]; show 1 ≤ z.2 + 1; omega
          · exact ih y (by rw [heq]; exact List.mem_cons_of_mem _ h) h41
        · rcases List.mem_cons.mp hy with h | h
          · rw [h]; decide
          · exact ih y (by rw [heq]; exact h) h41
    · rename_i hx
      rcases List.mem_cons.mp hy with h | h
      · rw [h] at h41; exact absurd h41 hx
      · exact ih y h h41
/-- how far a stack may go: potentials fall -/
def dpt (R : Rw) (ow : Int) : Int := if ow = -1 then -1 else R 1 ow
def phi (R : Rw) (x : en) : Int := 4 * dpt R x.2.1 + x.2.2.2
def chn (R : Rw) : Int → List en → Prop
  | _, [] => True
  | b, x :: r => (x.1 = 41 ∧ chn R b r) ∨ (x.1 ≠ 41 ∧ phi R x < b ∧ -3 ≤ phi R x ∧ ((x.1 = 99 ∨ x.1 = 118 ∨ x.1 = 111 ∨ x.1 = 107) → x.2.2.2 ≤ 3) ∧ chn R (phi R x) r)
theorem chn_mono {R : Rw} : ∀ (L : List en) {b b' : Int}, chn R b L → b ≤ b' → chn R b' L := by
  intro L
  induction L with
  | nil => intro b b' _ _; trivial
  | cons x r ih =>
    intro b b' h hb
    rcases h with ⟨h1, h2⟩ | ⟨h1, h2, h3⟩
    · exact Or.inl ⟨h1, ih h2 hb⟩
    · exact Or.inr ⟨h1, by omega, h3⟩
theorem chn_congr {R R' : Rw} {m : Int} : ∀ (L : List en) {b : Int}, chn R b L → (∀ x ∈ L, x.1 ≠ 41 → x.2.1 < m) → (∀ i, i < m → R' 1 i = R 1 i) → chn R' b L := by
  intro L
  induction L with
  | nil => intro b _ _ _; trivial
  | cons x r ih =>
    intro b h hm hR
    rcases h with ⟨h1, h2⟩ | ⟨h1, h2, h3, h4, h5⟩
    · exact Or.inl ⟨h1, ih h2 (fun y hy => hm y (List.mem_cons_of_mem _ hy)) hR⟩
    · have e1 : phi R' x = phi R x := by
        unfold phi dpt
        have := hm x List.mem_cons_self h1
        split
        · rfl
        · rw [hR _ this]
      exact Or.inr ⟨h1, by rw [e1]; exact h2, by rw [e1]; exact h3, h4, by rw [e1]; exact ih h5 (fun y hy => hm y (List.mem_cons_of_mem _ hy)) hR⟩
theorem chn_len {R : Rw} : ∀ (L : List en) {b : Int}, chn R b L → -3 ≤ b → ((cmp L).length : Int) ≤ 2 * (b + 3) + 1 ∧ (∀ y r, cmp L = y :: r → y.1 ≠ 41 → ((cmp L).length : Int) ≤ 2 * (b + 3)) := by
  intro L
  induction L with
  | nil =>
    intro b _ hb
    refine ⟨?_, fun y r h => by cases h⟩
    show ((0 : Nat) : Int) ≤ _
    omega
  | cons x r ih =>
    intro b h hb
    rcases h with ⟨h1, h2⟩ | ⟨h1, h2, h3, h4, h5⟩
    · obtain ⟨i1, i2⟩ := ih h2 hb
      have e1 : cmp (x :: r) = (match cmp r with
        | [] => [(41, 1)]
        | y :: r' => if y.1 = 41 then (41, y.2 + 1) :: r' else (41, 1) :: y :: r') := by
        show (if x.1 = 41 then _ else _) = _
        rw [if_pos h1]
      rw [e1]
      split
      · refine ⟨?_, fun y r h => ?_⟩
        · show ((1 : Nat) : Int) ≤ _; omega
        · intro hy; cases h; exact absurd rfl hy
      · rename_i z r' heq
        split
        · rename_i hz
          rw [heq] at i1
          refine ⟨i1, fun y r h hy => ?_⟩
          cases h; exact absurd rfl hy
        · rename_i hz
          have := i2 z r' heq hz
          rw [heq] at this
          refine ⟨?_, fun y r h hy => ?_⟩
          · show ((((z :: r').length + 1 : Nat)) : Int) ≤ _; omega
          · cases h; exact absurd rfl hy
    · obtain ⟨i1, i2⟩ := ih h5 h3
      have e1 : cmp (x :: r) = (x.1, x.2.1) :: cmp r := by
        show (if x.1 = 41 then _ else _) = _
        rw [if_neg h1]
      rw [e1]
      have : (((x.1, x.2.1) :: cmp r).length : Int) ≤ 2 * (b + 3) := by
        show (((cmp r).length + 1 : Nat) : Int) ≤ _
        omega
      exact ⟨by omega, fun _ _ _ _ => this⟩
