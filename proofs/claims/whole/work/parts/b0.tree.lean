/-! THE TREE: where the parts of a node stand -/
abbrev ckd (s : Int) : Prop := s = 99 ∨ s = 118 ∨ s = 111
def kds : List (Int × Int × Int) → List (Int × Int)
  | [] => []
  | y :: r => if ckd y.1 then (y.1, y.2.1) :: kds r else kds r
def kids (k : Int) : List (Int × Int) := kds (shp k)
def pnd (i : Int) : List en → List (Int × Int)
  | [] => []
  | x :: r => if ckd x.1 ∧ x.2.1 = i then (x.1, x.2.2.1) :: pnd i r else pnd i r
theorem pnd_cons (i : Int) (x : en) (r : List en) : pnd i (x :: r) = if ckd x.1 ∧ x.2.1 = i then (x.1, x.2.2.1) :: pnd i r else pnd i r := rfl
theorem pnd_app (i n : Int) (r : List en) : ∀ l : List (Int × Int × Int), pnd i (l.map (fun x => (x.1, n, x.2.1, x.2.2)) ++ r) = if i = n then kds l ++ pnd i r else pnd i r := by
  intro l
  induction l with
  | nil => by_cases h : i = n
           · rw [if_pos h]; rfl
           · rw [if_neg h]; rfl
  | cons y l ih =>
    show pnd i ((y.1, n, y.2.1, y.2.2) :: (l.map (fun x => (x.1, n, x.2.1, x.2.2)) ++ r)) = _
    rw [pnd_cons, ih]
    by_cases h : i = n
    · rw [if_pos h, if_pos h]
      have e1 : kds (y :: l) = if ckd y.1 then (y.1, y.2.1) :: kds l else kds l := rfl
      rw [e1]
      by_cases hc : ckd y.1
      · rw [if_pos ⟨hc, h.symm⟩, if_pos hc]; rfl
      · rw [if_neg (fun z => hc z.1), if_neg hc]
    · rw [if_neg h, if_neg h, if_neg (fun z => h z.2.symm)]
theorem pnd_shE (i k n : Int) (r : List en) : pnd i (shE k n ++ r) = if i = n then kids k ++ pnd i r else pnd i r := pnd_app i n r (shp k)
theorem pnd_nil {i : Int} : ∀ {r : List en}, (∀ y ∈ r, ckd y.1 → y.2.1 ≠ i) → pnd i r = [] := by
  intro r
  induction r with
  | nil => intro _; rfl
  | cons x r ih =>
    intro h
    rw [pnd_cons, if_neg (fun z => h x List.mem_cons_self z.1 z.2)]
    exact ih (fun y hy => h y (List.mem_cons_of_mem _ hy))
theorem pnd_mem {i : Int} : ∀ {r : List en}, pnd i r ≠ [] ↔ ∃ y ∈ r, ckd y.1 ∧ y.2.1 = i := by
  intro r
  induction r with
  | nil => exact ⟨fun h => absurd rfl h, fun ⟨y, hy, _⟩ => by cases hy⟩
  | cons x r ih =>
    rw [pnd_cons]
    by_cases h : ckd x.1 ∧ x.2.1 = i
    · rw [if_pos h]
      exact ⟨fun _ => ⟨x, List.mem_cons_self, h⟩, fun _ => List.cons_ne_nil _ _⟩
    · rw [if_neg h, ih]
      refine ⟨fun ⟨y, hy, h'⟩ => ⟨y, List.mem_cons_of_mem _ hy, h'⟩, fun ⟨y, hy, h'⟩ => ?_⟩
      rcases List.mem_cons.mp hy with z | z
      · rw [z] at h'; exact absurd h' h
      · exact ⟨y, z, h'⟩
/-- the slots of the parts grow -/
def slo : Int → List (Int × Int) → Prop
  | _, [] => True
  | b, y :: r => b < y.2 ∧ y.2 ≤ 3 ∧ slo y.2 r
theorem slo_kids (k : Int) : slo 0 (kids k) := by
  refine shp_ind (P := fun _ l => slo 0 (kds l)) k (fun _ => ?_) (fun _ => ?_) (fun _ => ?_) (fun _ => ?_) (fun _ => ?_) (fun _ => ?_) (fun _ => ?_) (fun _ => ?_) (fun _ => ?_) (fun _ => ?_) (fun _ => ?_) (fun _ => ?_) (fun _ => ?_) (fun _ => ?_) (fun _ => ?_) (fun _ => trivial) <;> simp [kds, slo, ckd]
theorem slo_app : ∀ (l : List (Int × Int)) {b : Int} {y : Int × Int} {r : List (Int × Int)}, slo b (l ++ y :: r) → ∀ z ∈ l, z.2 < y.2 ∧ b < z.2 := by
  intro l
  induction l with
  | nil => intro b y r _ z hz; cases hz
  | cons a l ih =>
    intro b y r h z hz
    have hlt : ∀ (l : List (Int × Int)) {b : Int}, slo b (l ++ y :: r) → b < y.2 := by
      intro l
      induction l with
      | nil => intro b h; exact h.1
      | cons a l ih => intro b h; have := ih h.2.2; have := h.1; omega
    have hay := hlt l h.2.2
    rcases List.mem_cons.mp hz with e | hz
    · rw [e]; exact ⟨hay, h.1⟩
    · have := ih h.2.2 z hz
      have := h.1
      exact ⟨by omega, by omega⟩
def nx (R : Rw) (p c : Int) : Prop := p < c ∧ (∀ j, p < j → j < c → R 1 p < R 1 j) ∧ R 1 c ≤ R 1 p
def nxt (R : Rw) (i p c : Int) : Prop := (p = i ∧ c = i + 1) ∨ (i < p ∧ R 1 p = R 1 i + 1 ∧ nx R p c)
def lks (R : Rw) (m i : Int) : Int → List (Int × Int) → Int → Prop
  | p, [], q => p = q
  | p, y :: L, q => nxt R i p (R (15 + y.2.toNat) i) ∧ bgn y.1 (R 0 (R (15 + y.2.toNat) i)) ∧ R 1 (R (15 + y.2.toNat) i) = R 1 i + 1 ∧ R (15 + y.2.toNat) i < m ∧ lks R m i (R (15 + y.2.toNat) i) L q
def chc (R : Rw) (m i : Int) : Int → Int → List Int → Int → Prop
  | p, l, [], q => p = q ∧ l = -1
  | p, l, c :: cs, q => l = c ∧ nxt R i p c ∧ (28 ≤ R 0 c ∧ R 0 c ≤ 31) ∧ R 1 c = R 1 i + 1 ∧ c < m ∧ chc R m i c (R 19 c) cs q
def opn (R : Rw) (m i q : Int) : Prop := (q = i ∧ m = i + 1) ∨ (i < q ∧ q < m ∧ R 1 q = R 1 i + 1 ∧ ∀ j, q < j → j < m → R 1 q < R 1 j)
def nodeI (R : Rw) (m : Int) (st : List en) (i : Int) : Prop := ∃ (cs : List Int) (q0 : Int) (dn : List (Int × Int)) (q : Int), (R 0 i = 3 → chc R m i i (R 16 i) cs q0 ∧ R 3 i = cs.length ∧ cs.length ≤ 8 ∧ (cs ≠ [] → R 18 i = q0)) ∧ (R 0 i ≠ 3 → q0 = i) ∧ kids (R 0 i) = dn ++ pnd i st ∧ lks R m i q0 dn q ∧ (pnd i st ≠ [] → opn R m i q)
theorem nxt_lt {R : Rw} {i p c : Int} (h : nxt R i p c) : i < c ∧ p < c := by
  rcases h with ⟨h1, h2⟩ | ⟨h1, h2, h3, _⟩ <;> omega
theorem nxt_deep {R : Rw} {i p c : Int} (h : nxt R i p c) (hc : R 1 c = R 1 i + 1) (hp : ∀ j, i < j → j ≤ p → R 1 i < R 1 j) : ∀ j, i < j → j ≤ c → R 1 i < R 1 j := by
  intro j j1 j2
  rcases h with ⟨h1, h2⟩ | ⟨h1, h2, h3, h4, h5⟩
  · have : j = c := by omega
    rw [this]; omega
  · by_cases hj : j ≤ p
    · exact hp j j1 hj
    · by_cases hj2 : j = c
      · rw [hj2]; omega
      · have := h4 j (by omega) (by omega); omega
theorem chc_mem {R : Rw} {m i : Int} : ∀ (cs : List Int) {p l q : Int}, chc R m i p l cs q → (∀ j, i < j → j ≤ p → R 1 i < R 1 j) → ∀ c ∈ cs, i < c ∧ c < m ∧ R 1 c = R 1 i + 1 ∧ (28 ≤ R 0 c ∧ R 0 c ≤ 31) ∧ ∀ j, i < j → j ≤ c → R 1 i < R 1 j := by
  intro cs
  induction cs with
  | nil => intro p l q _ _ c hc; cases hc
  | cons a cs ih =>
    intro p l q h hp c hc
    obtain ⟨h1, h2, h3, h4, h5, h6⟩ := h
    have ha := nxt_deep h2 h4 hp
    rcases List.mem_cons.mp hc with z | z
    · rw [z]; exact ⟨(nxt_lt h2).1, h5, h4, h3, ha⟩
    · exact ih h6 ha c z
theorem chc_last {R : Rw} {m i : Int} : ∀ (cs : List Int) {p l q : Int}, chc R m i p l cs q → (cs = [] ∧ q = p) ∨ q ∈ cs := by
  intro cs
  induction cs with
  | nil => intro p l q h; exact Or.inl ⟨rfl, h.1.symm⟩
  | cons a cs ih =>
    intro p l q h
    rcases ih h.2.2.2.2.2 with ⟨_, z⟩ | z
    · rw [z]; exact Or.inr List.mem_cons_self
    · exact Or.inr (List.mem_cons_of_mem _ z)
theorem nxt_congr {R R' : Rw} {i p c m : Int} (h : nxt R i p c) (hc : c < m) (hi : i < m) (h1 : ∀ j, j < m → R' 1 j = R 1 j) : nxt R' i p c := by
  rcases h with h | ⟨a, b, c1, c2, c3⟩
  · exact Or.inl h
  · refine Or.inr ⟨a, by rw [h1 p (by omega), h1 i hi]; exact b, c1, fun j j1 j2 => ?_, by rw [h1 c hc, h1 p (by omega)]; exact c3⟩
    rw [h1 p (by omega), h1 j (by omega)]; exact c2 j j1 j2
theorem lks_congr {R R' : Rw} {m m' i : Int} (hi : i < m) (h1 : ∀ j, j < m → R' 1 j = R 1 j) (h0 : ∀ j, j < m → R 0 j ≠ 31 → R' 0 j = R 0 j) (hm : m ≤ m') : ∀ (L : List (Int × Int)) {p q : Int}, (∀ y ∈ L, R' (15 + y.2.toNat) i = R (15 + y.2.toNat) i) → lks R m i p L q → lks R' m' i p L q := by
  intro L
  induction L with
  | nil => intro p q _ h; exact h
  | cons y L ih =>
    intro p q hl h
    obtain ⟨a1, a2, a3, a4, a5⟩ := h
    have e1 := hl y List.mem_cons_self
    have := a2
    show nxt R' i p (R' (15 + y.2.toNat) i) ∧ bgn y.1 (R' 0 (R' (15 + y.2.toNat) i)) ∧ R' 1 (R' (15 + y.2.toNat) i) = R' 1 i + 1 ∧ R' (15 + y.2.toNat) i < m' ∧ lks R' m' i (R' (15 + y.2.toNat) i) L q
    rw [e1]
    refine ⟨nxt_congr a1 a4 hi h1, ?_, by rw [h1 _ a4, h1 i hi]; exact a3, by omega, ih (fun z hz => hl z (List.mem_cons_of_mem _ hz)) a5⟩
    rw [h0 _ a4 (fun z => by rw [z] at this; unfold bgn at this; omega)]; exact a2
theorem lks_app {R : Rw} {m i : Int} : ∀ (L : List (Int × Int)) {p q q' : Int} {y : Int × Int}, lks R m i p L q → lks R m i q [y] q' → lks R m i p (L ++ [y]) q' := by
  intro L
  induction L with
  | nil => intro p q q' y h h'; cases h; exact h'
  | cons a L ih => intro p q q' y h h'; exact ⟨h.1, h.2.1, h.2.2.1, h.2.2.2.1, ih h.2.2.2.2 h'⟩
theorem chc_congr {R R' : Rw} {m m' i : Int} (hi : i < m) (h1 : ∀ j, j < m → R' 1 j = R 1 j) (h0 : ∀ j, j < m → 28 ≤ R 0 j ∧ R 0 j ≤ 31 → 28 ≤ R' 0 j ∧ R' 0 j ≤ 31) (hm : m ≤ m') : ∀ (cs : List Int) {p l q : Int}, (∀ c ∈ cs, R' 19 c = R 19 c) → chc R m i p l cs q → chc R' m' i p l cs q := by
  intro cs
  induction cs with
  | nil => intro p l q _ h; exact h
  | cons c cs ih =>
    intro p l q hl h
    obtain ⟨a1, a2, a3, a4, a5, a6⟩ := h
    refine ⟨a1, nxt_congr a2 a5 hi h1, h0 c a5 a3, by rw [h1 _ a5, h1 i hi]; exact a4, by omega, ?_⟩
    rw [hl c List.mem_cons_self]
    exact ih (fun z hz => hl z (List.mem_cons_of_mem _ hz)) a6
def dch (R : Rw) : List en → Prop
  | [] => True
  | x :: r => (x.1 ≠ 41 → ∀ y ∈ r, y.1 ≠ 41 → y.2.1 = x.2.1 ∨ (dpt R y.2.1 < dpt R x.2.1 ∧ y.2.1 < x.2.1)) ∧ dch R r
def e107 : List en → Prop
  | [] => True
  | x :: r => (x.1 = 107 → ∃ y ∈ r, ckd y.1 ∧ y.2.1 = x.2.1) ∧ e107 r
abbrev knd (k : Int) : Prop := (0 ≤ k ∧ k ≤ 31) ∨ k = 34 ∨ k = 35
def TI (lo : Int) (S : pS) : Prop := dch S.2.1 S.1 ∧ e107 S.1 ∧ (∀ x r, S.1 = x :: r → (x.1 = 97 → x.2.1 + 1 = S.2.2.1) ∧ ∀ y ∈ r, y.1 ≠ 97) ∧ (∀ i, lo ≤ i → i < S.2.2.1 → knd (S.2.1 0 i) ∧ (S.2.1 0 i = 31 → ∃ x r, S.1 = x :: r ∧ x.1 = 97 ∧ x.2.1 = i)) ∧ (∀ i, lo ≤ i → i < S.2.2.1 → nodeI S.2.1 S.2.2.1 S.1 i)
theorem dch_congr {R R' : Rw} {m : Int} (h1 : ∀ j, j < m → R' 1 j = R 1 j) : ∀ (L : List en), (∀ y ∈ L, y.1 ≠ 41 → y.2.1 < m) → dch R L → dch R' L := by
  intro L
  induction L with
  | nil => intro _ _; trivial
  | cons x r ih =>
    intro hm h
    have hd : ∀ y ∈ x :: r, y.1 ≠ 41 → dpt R' y.2.1 = dpt R y.2.1 := fun y hy h41 => by
      unfold dpt; rw [h1 _ (hm y hy h41)]
    refine ⟨fun hx y hy h41 => ?_, ih (fun y hy => hm y (List.mem_cons_of_mem _ hy)) h.2⟩
    rw [hd x List.mem_cons_self hx, hd y (List.mem_cons_of_mem _ hy) h41]
    exact h.1 hx y hy h41
theorem dch_sh {R : Rw} {n : Int} {r : List en} (h : dch R r) : ∀ l : List (Int × Int × Int), (∀ y ∈ r, y.1 ≠ 41 → y.2.1 = n ∨ (dpt R y.2.1 < dpt R n ∧ y.2.1 < n)) → dch R (l.map (fun x => (x.1, n, x.2.1, x.2.2)) ++ r) := by
  intro l
  induction l with
  | nil => intro _; exact h
  | cons a l ih =>
    intro hy
    refine ⟨fun _ y hyy h41 => ?_, ih hy⟩
    rcases List.mem_append.mp hyy with z | z
    · obtain ⟨b, _, rfl⟩ := List.mem_map.mp z
      exact Or.inl rfl
    · exact hy y z h41
theorem e107_shE {r : List en} (h : e107 r) (k n : Int) : e107 (shE k n ++ r) := by
  unfold shE
  refine shp_ind (P := fun _ l => e107 (l.map (fun x => (x.1, n, x.2.1, x.2.2)) ++ r)) k (fun _ => ?_) (fun _ => ?_) (fun _ => ?_) (fun _ => ?_) (fun _ => ?_) (fun _ => ?_) (fun _ => ?_) (fun _ => ?_) (fun _ => ?_) (fun _ => ?_) (fun _ => ?_) (fun _ => ?_) (fun _ => ?_) (fun _ => ?_) (fun _ => ?_) (fun _ => h) <;> simp [e107, h, ckd]
theorem shE_97 {k n : Int} (hk : k ≠ 31) : ∀ y ∈ shE k n, y.1 ≠ 97 := by
  intro y hy
  obtain ⟨_, z, hz, hyz⟩ := shE_mem hy
  rw [hyz]
  revert z
  refine shp_ind (P := fun k l => k ≠ 31 → ∀ z ∈ l, y.1 = z.1 → z.1 ≠ 97) k (fun _ => ?_) (fun _ => ?_) (fun _ => ?_) (fun _ => ?_) (fun _ => ?_) (fun _ => ?_) (fun _ => ?_) (fun _ => ?_) (fun _ => ?_) (fun _ => ?_) (fun _ => ?_) (fun _ => ?_) (fun h1 h2 => absurd h1 h2) (fun _ => ?_) (fun _ => ?_) (fun _ _ z hz => by cases hz) hk <;> (intro _ z hz _; simp only [List.mem_cons, List.not_mem_nil, or_false] at hz; (repeat' (rcases hz with rfl | hz)) <;> first | (subst hz; decide) | decide)
theorem nodeI_same {R R' : Rw} {m i : Int} {st st' : List en} (h : nodeI R m st i) (hi : i < m) (h0 : ∀ j, R' 0 j = R 0 j) (h1 : ∀ j, R' 1 j = R 1 j) (hl : ∀ (f : Nat) (j : Int), 16 ≤ f → f ≤ 19 → R' f j = R f j) (h3 : R 0 i = 3 → R' 3 i = R 3 i) (hp : pnd i st' = pnd i st) : nodeI R' m st' i := by
  obtain ⟨cs, q0, dn, q, a1, a2, a3, a4, a5⟩ := h
  have hs := slo_kids (R 0 i)
  have hdn : ∀ y ∈ dn, 1 ≤ y.2 ∧ y.2 ≤ 3 := by
    rw [a3] at hs
    clear a3 a4
    have : ∀ (l : List (Int × Int)) {b : Int} {r : List (Int × Int)}, 0 ≤ b → slo b (l ++ r) → ∀ y ∈ l, 1 ≤ y.2 ∧ y.2 ≤ 3 := by
      intro l
      induction l with
      | nil => intro b r _ _ y hy; cases hy
      | cons a l ih =>
        intro b r hb h y hy
        obtain ⟨z1, z2, z3⟩ := h
        rcases List.mem_cons.mp hy with e | e
        · rw [e]; omega
        · exact ih (by omega) z3 y e
    exact this dn (Int.le_refl _) hs
  refine ⟨cs, q0, dn, q, fun hk => ?_, fun hk => a2 (by rw [← h0]; exact hk), by rw [h0, hp]; exact a3, ?_, fun hne => ?_⟩
  · rw [h0] at hk
    obtain ⟨b1, b2, b3, b4⟩ := a1 hk
    rw [hl 16 i (by decide) (by decide), hl 18 i (by decide) (by decide), h3 hk]
    exact ⟨chc_congr hi (fun j _ => h1 j) (fun j _ z => by rw [h0]; exact z) (Int.le_refl _) cs (fun c _ => hl 19 c (by decide) (by decide)) b1, b2, b3, b4⟩
  · exact lks_congr hi (fun j _ => h1 j) (fun j _ _ => h0 j) (Int.le_refl _) dn (fun y hy => hl _ _ (by have := hdn y hy; omega) (by have := hdn y hy; omega)) a4
  · rw [hp] at hne
    rcases a5 hne with z | ⟨z1, z2, z3, z4⟩
    · exact Or.inl z
    · exact Or.inr ⟨z1, z2, by rw [h1, h1]; exact z3, fun j j1 j2 => by rw [h1, h1]; exact z4 j j1 j2⟩
/-- a part of no node goes -/
theorem TI_pop {lo m lw lw' : Int} {x : en} {r : List en} {R R' : Rw} (h : TI lo (x :: r, R, m, lw)) (hx : ¬ ckd x.1) (hx2 : x.1 ≠ 97) (h0 : ∀ j, R' 0 j = R 0 j) (h1 : ∀ j, R' 1 j = R 1 j) (hl : ∀ (f : Nat) (j : Int), 16 ≤ f → f ≤ 19 → R' f j = R f j) (h3 : ∀ j, R 0 j = 3 → R' 3 j = R 3 j) (hw : ∀ y ∈ r, y.1 ≠ 41 → y.2.1 < m) : TI lo (r, R', m, lw') := by
  obtain ⟨a1, a2, a3, a4, a5⟩ := h
  dsimp only at a1 a2 a3 a4 a5
  have h97 := (a3 x r rfl).2
  refine ⟨dch_congr (m := m) (fun j _ => h1 j) r hw a1.2, a2.2, fun y r' e => ?_, fun i i0 i1 => ⟨by show knd (R' 0 i); rw [h0]; exact (a4 i i0 i1).1, fun z => ?_⟩, fun i i0 i1 => ?_⟩
  · have e : r = y :: r' := e
    subst e
    exact ⟨fun z => absurd z (h97 y List.mem_cons_self), fun z hz => h97 z (List.mem_cons_of_mem _ hz)⟩
  · have z : R' 0 i = 31 := z
    rw [h0] at z
    obtain ⟨y, r', e, e1, _⟩ := (a4 i i0 i1).2 z
    cases e; exact absurd e1 hx2
  · exact nodeI_same (a5 i i0 i1) i1 h0 h1 hl (h3 i) (by rw [pnd_cons, if_neg (fun z => hx z.1)])
theorem opn_new {R R' : Rw} {m i o q : Int} (h : opn R m i q) (hi : i < m) (ho : i < o ∧ o < m) (hd : R 1 i < R 1 o) (h1 : ∀ j, j < m → R' 1 j = R 1 j) (hm : R' 1 m = R 1 o + 1) : opn R' (m + 1) i q := by
  rcases h with z | ⟨z1, z2, z3, z4⟩
  · omega
  · refine Or.inr ⟨z1, by omega, by rw [h1 q z2, h1 i hi]; exact z3, fun j j1 j2 => ?_⟩
    rw [h1 q z2]
    by_cases hj : j = m
    · rw [hj, hm]; omega
    · rw [h1 j (by omega)]; exact z4 j j1 (by omega)
theorem opn_nxt {R R' : Rw} {m i q : Int} (h : opn R m i q) (hi : i < m) (h1 : ∀ j, j < m → R' 1 j = R 1 j) (hm : R' 1 m = R 1 i + 1) : nxt R' i q m := by
  rcases h with z | ⟨z1, z2, z3, z4⟩
  · exact Or.inl z
  · refine Or.inr ⟨z1, by rw [h1 q z2, h1 i hi]; exact z3, z2, fun j j1 j2 => by rw [h1 q z2, h1 j j2]; exact z4 j j1 j2, by rw [hm, h1 q z2]; omega⟩
theorem nodR_ln {R : Rw} {m ty nm v ow sl : Int} (f : Nat) (ho : ow ≠ -1) (hm : ow ≠ m) (hf : 16 ≤ f) : nodR R m ty nm v ow sl f ow = if f = 15 + sl.toNat then m else R f ow := by
  unfold nodR
  rw [setv_ne f ow (Or.inr hm)]
  unfold lnk
  rw [if_neg ho]
  by_cases h : f = 15 + sl.toNat
  · rw [if_pos h, h, im_rds]
  · rw [if_neg h, im_rdn _ _ _ _ h, newN_ne f hm]
theorem newN_l (R : Rw) (m ty ow : Int) (f : Nat) (hf : f = 16 ∨ f = 17 ∨ f = 18 ∨ f = 19) : newN R m ty ow f m = -1 := by
  unfold newN
  rcases hf with rfl | rfl | rfl | rfl
  · rw [im_rdn _ _ _ _ (by decide), im_rdn _ _ _ _ (by decide), im_rdn _ _ _ _ (by decide), im_rds]
  · rw [im_rdn _ _ _ _ (by decide), im_rdn _ _ _ _ (by decide), im_rds]
  · rw [im_rdn _ _ _ _ (by decide), im_rds]
  · rw [im_rds]
theorem caseR_19m {R : Rw} {m ow : Int} (h : R 3 ow ≠ 0 → R 18 ow ≠ m) : caseR R m ow 19 m = -1 := by
  show im_u (if R 3 ow = 0 then im_u (newN (im_u R 3 ow (R 3 ow + 1)) m 31 ow) 16 ow m else im_u (newN (im_u R 3 ow (R 3 ow + 1)) m 31 ow) 19 (R 18 ow) m) 18 ow m 19 m = _
  rw [im_rdn _ _ _ _ (by decide)]
  by_cases h0 : R 3 ow = 0
  · rw [if_pos h0, im_rdn _ _ _ _ (by decide)]; exact newN_l _ _ _ _ 19 (by decide)
  · rw [if_neg h0, im_rdk _ _ _ (fun z => h h0 z.symm)]; exact newN_l _ _ _ _ 19 (by decide)
theorem caseR_3o {R : Rw} {m ow : Int} (ho : ow ≠ m) : caseR R m ow 3 ow = R 3 ow + 1 := by
  show im_u (if R 3 ow = 0 then im_u (newN (im_u R 3 ow (R 3 ow + 1)) m 31 ow) 16 ow m else im_u (newN (im_u R 3 ow (R 3 ow + 1)) m 31 ow) 19 (R 18 ow) m) 18 ow m 3 ow = _
  rw [im_rdn _ _ _ _ (by decide)]
  split
  · rw [im_rdn _ _ _ _ (by decide), newN_ne 3 ho, im_rds]
  · rw [im_rdn _ _ _ _ (by decide), newN_ne 3 ho, im_rds]
theorem chc_snoc {R R' : Rw} {m i : Int} (hi : i < m) (h1 : ∀ j, j < m → R' 1 j = R 1 j) (h0 : ∀ j, j < m → R' 0 j = R 0 j) (hm1 : R' 1 m = R 1 i + 1) (hm0 : R' 0 m = 31) (hm19 : R' 19 m = -1) : ∀ (cs : List Int) {p l q : Int}, chc R m i p l cs q → (∀ c ∈ cs, R' 19 c = if c = q then m else R 19 c) → nxt R' i q m → chc R' (m + 1) i p (if cs = [] then m else l) (cs ++ [m]) m := by
  intro cs
  induction cs with
  | nil =>
    intro p l q h _ hn
    obtain ⟨rfl, _⟩ := h
    rw [if_pos rfl]
    exact ⟨rfl, hn, by rw [hm0]; decide, by rw [hm1, h1 i hi], by omega, rfl, hm19⟩
  | cons c cs ih =>
    intro p l q h hl hn
    obtain ⟨a1, a2, a3, a4, a5, a6⟩ := h
    rw [if_neg (List.cons_ne_nil _ _)]
    refine ⟨a1, nxt_congr a2 a5 hi h1, by rw [h0 c a5]; exact a3, by rw [h1 c a5, h1 i hi]; exact a4, by omega, ?_⟩
    have := ih a6 (fun z hz => hl z (List.mem_cons_of_mem _ hz)) hn
    have hc : R' 19 c = if cs = [] then m else R 19 c := by
      rw [hl c List.mem_cons_self]
      rcases chc_last cs a6 with ⟨e, z⟩ | z
      · rw [if_pos z.symm, if_pos e]
      · have hne : cs ≠ [] := fun e => by rw [e] at z; cases z
        have hlt : c < q := by
          clear this ih hl hn hne
          have gen : ∀ (cs : List Int) {p l q' : Int}, chc R m i p l cs q' → ∀ z ∈ cs, p < z := by
            intro cs
            induction cs with
            | nil => intro p l q' _ z hz; cases hz
            | cons b cs ih =>
              intro p l q' h z hz
              have hb := (nxt_lt h.2.1).2
              rcases List.mem_cons.mp hz with e | e
              · rw [e]; exact hb
              · have := ih h.2.2.2.2.2 z e; omega
          exact gen cs a6 q z
        rw [if_neg (by omega), if_neg hne]
    rw [hc]; exact this
theorem TI_stp {lo ty nm v : Int} {x : en} {r : List en} {R : Rw} {m lw : Int} {S' : pS} (h : stp lo ty nm v (x :: r, R, m, lw) = .inr S') (hw : wfS lo (x :: r, R, m, lw)) (hq : Q2 lo (x :: r, R, m, lw)) (hT : TI lo (x :: r, R, m, lw)) : TI lo S' := by
  have hent : ∀ y ∈ x :: r, y.1 ≠ 41 → ent R lo m y := hw.2.2.2.2.2.1
  have hlo : 0 ≤ lo := hw.1
  have hlm : lo ≤ m := hw.2.1
  have how : ∀ y ∈ r, y.1 ≠ 41 → y.2.1 < m := fun y hy h41 => by
    rcases (hent y (List.mem_cons_of_mem _ hy) h41).2.2 with z | z
    · rw [z.2]; omega
    · exact z.2.1
  have hownd : ∀ y ∈ r, y.1 ≠ 41 → y.2.1 ≠ m := fun y hy h41 => by have := how y hy h41; omega
  obtain ⟨t1, t2, t3, t4, t5⟩ := id hT
  dsimp only at t1 t2 t3 t4 t5
  have h97 := (t3 x r rfl).2
  have hno31 : x.1 ≠ 97 → ∀ i, lo ≤ i → i < m → R 0 i ≠ 31 := fun hx i i0 i1 z => by
    obtain ⟨y, r', e, e1, _⟩ := (t4 i i0 i1).2 z
    cases e; exact hx e1
  have hpr : ∀ i, ¬ (ckd x.1 ∧ x.2.1 = i) → pnd i (x :: r) = pnd i r := fun i z => by rw [pnd_cons, if_neg z]
  have hsame : ∀ {f : Nat} {j w : Int}, f ≠ 0 → f ≠ 1 → f < 16 → (f = 3 → R 0 j ≠ 3) → ¬ ckd x.1 → x.1 ≠ 97 → ∀ {lw' : Int}, TI lo (r, im_u R f j w, m, lw') := fun {f j w} f0 f1 f2 f3 hx hx2 {lw'} =>
    TI_pop hT hx hx2 (fun j => im_rdn _ _ _ _ (fun z => f0 z.symm)) (fun j => im_rdn _ _ _ _ (fun z => f1 z.symm)) (fun f' j a b => im_rdn _ _ _ _ (by omega)) (fun j' hk => by
      by_cases e : 3 = f
      · have : j' ≠ j := fun z => f3 e.symm (by rw [← z]; exact hk)
        subst e; exact im_rdk _ _ _ this
      · exact im_rdn _ _ _ _ e) how
  have hsgk : x.1 ≠ 99 → x.1 ≠ 41 → lo ≤ x.2.1 ∧ x.2.1 < m ∧ sgk R x := fun h99 h41 => by
    rcases (hent x List.mem_cons_self h41).2.2 with z | z
    · exact absurd z.1 h99
    · exact z
  refine stp_ind h (fun hx hty e => ?_) (fun hx hty hb hmu e => ?_) (fun hx _ e => ?_) (fun hx hty hmu h8 e => ?_) (fun hx hty e => ?_) (fun hx _ e => ?_) (fun hx _ _ e => ?_) (fun hx _ _ e => ?_) (fun hx _ h4 e => ?_) (fun hx _ _ e => ?_) (fun hx _ e => ?_) (fun hx _ e => ?_) (fun hx _ e => ?_) (fun c1 c2 c3 c4 c5 c6 c7 c8 c9 c10 c11 _ e => ?_)
  · -- a bracket
    subst e
    refine ⟨⟨fun h41 y hy hy41 => ?_, fun z => absurd rfl z, t1.2⟩, ⟨fun z => by omega, fun z => absurd (show (41 : Int) = 107 from z) (by decide), t2.2⟩, fun y r' e => ?_, fun i i0 i1 => ⟨(t4 i i0 i1).1, fun z => absurd z (hno31 (by omega) i i0 i1)⟩, fun i i0 i1 => nodeI_same (t5 i i0 i1) i1 (fun _ => rfl) (fun _ => rfl) (fun _ _ _ _ => rfl) (fun _ => rfl) ?_⟩
    · rcases List.mem_cons.mp hy with z | z
      · rw [z] at hy41; exact absurd rfl hy41
      · exact t1.1 h41 y z hy41
    · cases e
      refine ⟨fun z => by omega, fun z hz => ?_⟩
      rcases List.mem_cons.mp hz with e | e
      · rw [e]; show (41 : Int) ≠ 97; decide
      · exact h97 z e
    · rw [pnd_cons, pnd_cons, pnd_cons i x r]
      rw [if_neg (fun z : ckd 41 ∧ _ => by rcases z.1 with z | z | z <;> exact absurd z (by decide))]
  · -- a node
    subst e
    have hx41 : x.1 ≠ 41 := by omega
    have hek := hent x List.mem_cons_self hx41
    have hos : x.2.1 = -1 ∨ (1 ≤ x.2.2.1 ∧ x.2.2.1 ≤ 3) := by
      rcases hek.2.2 with z | z
      · exact Or.inl z.2
      · exact Or.inr (z.2.2.2.2.2.2.2.2.2.2.1 hx)
    have hom : m ≠ x.2.1 := by
      rcases hek.2.2 with z | z
      · omega
      · omega
    have hod : x.2.1 = -1 ∨ (lo ≤ x.2.1 ∧ x.2.1 < m) := by
      rcases hek.2.2 with z | z
      · exact Or.inl z.2
      · exact Or.inr ⟨z.1, z.2.1⟩
    have g0 : ∀ j, j < m → nodR R m ty nm v x.2.1 x.2.2.1 0 j = R 0 j := fun j hj => nodR_ne 0 j (by omega) (Or.inl (by decide)) hos
    have g1 : ∀ j, j < m → nodR R m ty nm v x.2.1 x.2.2.1 1 j = R 1 j := fun j hj => nodR_ne 1 j (by omega) (Or.inl (by decide)) hos
    have g3 : ∀ j, j < m → nodR R m ty nm v x.2.1 x.2.2.1 3 j = R 3 j := fun j hj => nodR_ne 3 j (by omega) (Or.inl (by decide)) hos
    have gl : ∀ (f : Nat) (j : Int), j < m → j ≠ x.2.1 → nodR R m ty nm v x.2.1 x.2.2.1 f j = R f j := fun f j hj ho => nodR_ne f j (by omega) (Or.inr (Or.inr ho)) hos
    have g19 : ∀ j, j < m → nodR R m ty nm v x.2.1 x.2.2.1 19 j = R 19 j := fun j hj => nodR_ne 19 j (by omega) (Or.inr (Or.inl (by decide))) hos
    have gm0 : nodR R m ty nm v x.2.1 x.2.2.1 0 m = ty := (nodR_m 0 hom (by decide) hos).trans (newN_0 _ _ _ _)
    have gm1 : nodR R m ty nm v x.2.1 x.2.2.1 1 m = deepOf R x.2.1 := (nodR_m 1 hom (by decide) hos).trans (newN_1 _ _ _ _)
    have gm3 : nodR R m ty nm v x.2.1 x.2.2.1 3 m = 0 := (nodR_m 3 hom (by decide) hos).trans (newN_3 _ _ _ _)
    have gm16 : nodR R m ty nm v x.2.1 x.2.2.1 16 m = -1 := (nodR_m 16 hom (by decide) hos).trans (newN_l _ _ _ _ 16 (by decide))
    have go : x.2.1 ≠ -1 → ∀ f, 16 ≤ f → nodR R m ty nm v x.2.1 x.2.2.1 f x.2.1 = if f = 15 + x.2.2.1.toNat then m else R f x.2.1 := fun ho f hf => nodR_ln f ho (fun z => hom z.symm) hf
    generalize nodR R m ty nm v x.2.1 x.2.2.1 = R' at g0 g1 g3 gl g19 gm0 gm1 gm3 gm16 go ⊢
    have hdd : dpt R' m = deepOf R x.2.1 := by unfold dpt; rw [if_neg (by omega)]; exact gm1
    have hdo : deepOf R x.2.1 = dpt R x.2.1 + 1 := by unfold deepOf dpt; split <;> omega
    have hdp : ∀ y ∈ r, y.1 ≠ 41 → dpt R' y.2.1 = dpt R y.2.1 := fun y hy h41 => by unfold dpt; rw [g1 _ (how y hy h41)]
    have hty31 : ty ≠ 31 := fun z => by rw [z] at hb; unfold bgn at hb; omega
    refine ⟨dch_sh (dch_congr (m := m) g1 r how t1.2) (shp ty) (fun y hy h41 => Or.inr ?_), e107_shE t2.2 ty m, fun y r' e => ?_, fun i i0 i1 => ⟨?_, fun z => ?_⟩, fun i i0 i1 => ?_⟩
    · rw [hdp y hy h41, hdd, hdo]
      have := how y hy h41
      rcases t1.1 hx41 y hy h41 with z | z
      · rw [z] at this ⊢; omega
      · omega
    · have hall : ∀ z ∈ shE ty m ++ r, z.1 ≠ 97 := fun z hz => by
        rcases List.mem_append.mp hz with hz | hz
        · exact shE_97 hty31 z hz
        · exact h97 z hz
      have e : shE ty m ++ r = y :: r' := e
      rw [e] at hall
      exact ⟨fun z => absurd z (hall y List.mem_cons_self), fun z hz => hall z (List.mem_cons_of_mem _ hz)⟩
    · show knd (R' 0 i)
      have i1 : i < m + 1 := i1
      by_cases him : i = m
      · rw [him, gm0]; unfold bgn at hb; omega
      · rw [g0 i (by omega)]; exact (t4 i i0 (by omega)).1
    · have z : R' 0 i = 31 := z
      have i1 : i < m + 1 := i1
      by_cases him : i = m
      · rw [him, gm0] at z; exact absurd z hty31
      · rw [g0 i (by omega)] at z
        exact absurd z (hno31 (by omega) i i0 (by omega))
    · have i1 : i < m + 1 := i1
      show nodeI R' (m + 1) (shE ty m ++ r) i
      by_cases him : i = m
      · subst him
        refine ⟨[], i, [], i, fun _ => ⟨⟨rfl, gm16⟩, gm3, by decide, fun z => absurd rfl z⟩, fun _ => rfl, ?_, rfl, fun _ => Or.inl ⟨rfl, rfl⟩⟩
        rw [gm0, pnd_shE, if_pos rfl, pnd_nil (fun y hy hc => hownd y hy (by omega)), List.append_nil]; rfl
      have him' : i < m := by omega
      obtain ⟨cs, q0, dn, q, a1, a2, a3, a4, a5⟩ := t5 i i0 him'
      have hpe : pnd i (shE ty m ++ r) = pnd i r := by rw [pnd_shE, if_neg him]
      by_cases hio : i = x.2.1
      · have hon : x.2.1 ≠ -1 := by omega
        rw [pnd_cons, if_pos ⟨hx, hio.symm⟩] at a3 a5
        have hop := a5 (List.cons_ne_nil _ _)
        have hs := slo_kids (R 0 i)
        rw [a3] at hs
        have hsl := slo_app dn hs
        have gm1' : R' 1 m = R 1 i + 1 := by rw [gm1, hdo, hio]; unfold dpt; rw [if_neg hon]
        have hnx := opn_nxt hop him' g1 gm1'
        have go' := go hon
        rw [← hio] at go'
        have hsl3 : 1 ≤ x.2.2.1 ∧ x.2.2.1 ≤ 3 := by omega
        refine ⟨cs, q0, dn ++ [(x.1, x.2.2.1)], m, fun hk => ?_, fun hk => a2 (by rw [← g0 i him']; exact hk), ?_, ?_, fun _ => Or.inr ⟨him', by omega, gm1'.trans (by rw [g1 i him']), fun j j1 j2 => by omega⟩⟩
        · rw [g0 i him'] at hk
          obtain ⟨b1, b2, b3, b4⟩ := a1 hk
          have hsl2 : x.2.2.1 = 2 := by
            rw [hk] at a3
            have e3 : kids 3 = [(99, 2)] := rfl
            rw [e3] at a3
            cases dn with
            | nil => exact (congrArg Prod.snd (List.cons.inj a3).1).symm
            | cons a dn => 
              have := congrArg List.length a3
              rw [List.length_cons, List.cons_append, List.length_cons, List.length_append, List.length_cons] at this
              simp at this
          rw [go' 16 (by decide), go' 18 (by decide), hsl2, g3 i him']
          exact ⟨chc_congr him' g1 (fun j hj z => by rw [g0 j hj]; exact z) (by omega) cs (fun c hc => g19 c (chc_mem cs b1 (fun j j1 j2 => by omega) c hc).2.1) b1, b2, b3, b4⟩
        · rw [g0 i him', hpe, a3, List.append_assoc]; rfl
        · refine lks_app dn (lks_congr him' g1 (fun j hj _ => g0 j hj) (by omega) dn (fun y hy => ?_) a4) ⟨?_, ?_, ?_, ?_, ?_⟩
          · have := hsl y hy
            rw [go' _ (by omega), if_neg (by show ¬ (15 + y.2.toNat = 15 + x.2.2.1.toNat); have : y.2 < x.2.2.1 := this.1; omega)]
          all_goals (dsimp only; rw [go' _ (by omega), if_pos rfl])
          · exact hnx
          · rw [gm0]; exact hb
          · rw [gm1', g1 i him']
          · omega
          · rfl
      · rw [hpr i (fun z => hio z.2.symm)] at a3 a5
        refine ⟨cs, q0, dn, q, fun hk => ?_, fun hk => a2 (by rw [← g0 i him']; exact hk), by rw [g0 i him', hpe]; exact a3, lks_congr him' g1 (fun j hj _ => g0 j hj) (by omega) dn (fun y _ => gl _ i him' hio) a4, fun hne => ?_⟩
        · rw [g0 i him'] at hk
          obtain ⟨b1, b2, b3, b4⟩ := a1 hk
          rw [gl 16 i him' hio, gl 18 i him' hio, g3 i him']
          exact ⟨chc_congr him' g1 (fun j hj z => by rw [g0 j hj]; exact z) (by omega) cs (fun c hc => g19 c (chc_mem cs b1 (fun j j1 j2 => by omega) c hc).2.1) b1, b2, b3, b4⟩
        · rw [hpe] at hne
          obtain ⟨y, hy, hyc, hyi⟩ := pnd_mem.mp hne
          have hy41 : y.1 ≠ 41 := by omega
          have hdy := t1.1 hx41 y hy hy41
          rw [hyi] at hdy
          rcases hdy with z | ⟨z1, z2⟩
          · exact absurd z hio
          · have hon : x.2.1 ≠ -1 := by omega
            have e1 : dpt R i = R 1 i := by unfold dpt; rw [if_neg (by omega)]
            have e2 : dpt R x.2.1 = R 1 x.2.1 := by unfold dpt; rw [if_neg hon]
            exact opn_new (o := x.2.1) (a5 hne) him' (by omega) (by omega) g1 (by rw [gm1, hdo, e2])
  · subst e; exact TI_pop hT (by unfold ckd; omega) (by omega) (fun _ => rfl) (fun _ => rfl) (fun _ _ _ _ => rfl) (fun _ _ => rfl) how
  · -- a case
    subst e
    obtain ⟨o1, o2, osg⟩ := hsgk (by omega) (by omega)
    have hk3 : R 0 x.2.1 = 3 := osg.1 hx
    have g0 : ∀ j, j < m → caseR R m x.2.1 0 j = R 0 j := fun j hj => caseR_ne 0 j (by omega) (by omega)
    have g1 : ∀ j, j < m → caseR R m x.2.1 1 j = R 1 j := fun j hj => caseR_ne 1 j (by omega) (by omega)
    have g3 : ∀ j, j < m → j ≠ x.2.1 → caseR R m x.2.1 3 j = R 3 j := fun j hj ho => caseR_3 (by omega) ho
    have g3o : caseR R m x.2.1 3 x.2.1 = R 3 x.2.1 + 1 := caseR_3o (by omega)
    have gv : ∀ (f : Nat) (j : Int), j < m → 16 ≤ f ∧ f ≤ 19 → _ := fun f j hj hf => caseR_v (R := R) (m := m) (ow := x.2.1) f j (by omega) hf
    have gm0 : caseR R m x.2.1 0 m = 31 := (caseR_m 0 (by omega) (by omega)).trans (newN_0 _ _ _ _)
    have gm1 : caseR R m x.2.1 1 m = R 1 x.2.1 + 1 := (caseR_m 1 (by omega) (by omega)).trans ((newN_1 _ _ _ _).trans (by unfold deepOf; rw [if_neg (by omega), im_rdn _ _ _ _ (by decide)]))
    have gm19 : (R 3 x.2.1 ≠ 0 → R 18 x.2.1 ≠ m) → caseR R m x.2.1 19 m = -1 := caseR_19m
    generalize caseR R m x.2.1 = R' at g0 g1 g3 g3o gv gm0 gm1 gm19 ⊢
    have hx41 : x.1 ≠ 41 := by omega
    have hdm : dpt R' m = R 1 x.2.1 + 1 := by unfold dpt; rw [if_neg (by omega)]; exact gm1
    have hdo : dpt R x.2.1 = R 1 x.2.1 := by unfold dpt; rw [if_neg (by omega)]
    have how' : ∀ y ∈ x :: r, y.1 ≠ 41 → y.2.1 < m := fun y hy h41 => by
      rcases List.mem_cons.mp hy with z | z
      · rw [z]; exact o2
      · exact how y z h41
    have hdp : ∀ y ∈ x :: r, y.1 ≠ 41 → dpt R' y.2.1 = dpt R y.2.1 := fun y hy h41 => by unfold dpt; rw [g1 _ (how' y hy h41)]
    have hmn : ¬ (28 ≤ (99 : Int)) → False := fun z => z (by decide)
    -- the when itself
    obtain ⟨csO, q0O, dnO, qO, b1, b2, b3, b4, b5⟩ := t5 x.2.1 o1 o2
    obtain ⟨d1, d2, d3, d4⟩ := b1 hk3
    have hpO : pnd x.2.1 (x :: r) ≠ [] := by
      obtain ⟨y, hy, hyc, hyo⟩ := t2.1 hx
      exact pnd_mem.mpr ⟨y, List.mem_cons_of_mem _ hy, hyc, hyo⟩
    have hopO := b5 hpO
    have hdnO : dnO = [] := by
      rw [hk3] at b3
      have e3 : kids 3 = [(99, 2)] := rfl
      rw [e3] at b3
      cases dnO with
      | nil => rfl
      | cons a dn =>
        have := congrArg List.length b3
        rw [List.length_cons, List.cons_append, List.length_cons, List.length_append] at this
        cases hpp : pnd x.2.1 (x :: r) with
        | nil => exact absurd hpp hpO
        | cons a b => rw [hpp, List.length_cons] at this; simp at this
    subst hdnO
    have hqO : q0O = qO := b4
    subst hqO
    have hmemO := chc_mem csO d1 (fun j j1 j2 => by omega)
    have hcs0 : csO = [] ↔ R 3 x.2.1 = 0 := by
      rw [d2]
      cases csO with
      | nil => exact ⟨fun _ => rfl, fun _ => rfl⟩
      | cons a b => exact ⟨fun z => (by cases z), fun z => (by rw [List.length_cons] at z; omega)⟩
    have hqm : csO ≠ [] → q0O ∈ csO := fun hne => by
      rcases chc_last csO d1 with z | z
      · exact absurd z.1 hne
      · exact z
    refine ⟨⟨fun _ y hy h41 => Or.inr ?_, dch_congr (m := m) g1 (x :: r) how' t1⟩, ⟨fun z => absurd (show (97 : Int) = 107 from z) (by decide), t2⟩, fun y r' e => ?_, fun i i0 i1 => ⟨?_, fun z => ?_⟩, fun i i0 i1 => ?_⟩
    · show dpt R' y.2.1 < dpt R' m ∧ y.2.1 < m
      rw [hdp y hy h41, hdm]
      have := how' y hy h41
      rcases List.mem_cons.mp hy with z | z
      · rw [z] at this ⊢; omega
      · rcases t1.1 hx41 y z h41 with z | z
        · rw [z] at this ⊢; omega
        · omega
    · cases e
      refine ⟨fun _ => rfl, fun z hz => ?_⟩
      rcases List.mem_cons.mp hz with e | e
      · rw [e]; omega
      · exact h97 z e
    · show knd (R' 0 i)
      have i1 : i < m + 1 := i1
      by_cases him : i = m
      · rw [him, gm0]; exact Or.inl (by decide)
      · rw [g0 i (by omega)]; exact (t4 i i0 (by omega)).1
    · have z : R' 0 i = 31 := z
      have i1 : i < m + 1 := i1
      by_cases him : i = m
      · exact ⟨_, _, rfl, rfl, him.symm⟩
      · rw [g0 i (by omega)] at z
        exact absurd z (hno31 (by omega) i i0 (by omega))
    · have i1 : i < m + 1 := i1
      show nodeI R' (m + 1) ((97, m, 0, 1) :: x :: r) i
      have hpe : pnd i ((97, m, 0, 1) :: x :: r) = pnd i (x :: r) := by
        rw [pnd_cons, if_neg (fun z : ckd 97 ∧ _ => by rcases z.1 with z | z | z <;> exact absurd z (by decide))]
      by_cases him : i = m
      · subst him
        have e31 : kids 31 = [] := rfl
        have hpn : pnd i ((97, i, 0, 1) :: x :: r) = [] := by
          rw [hpe]
          exact pnd_nil (fun y hy hc => by have := how' y hy (by omega); omega)
        refine ⟨[], i, [], i, fun hk => by rw [gm0] at hk; exact absurd hk (by decide), fun _ => rfl, by rw [gm0, hpn, e31]; rfl, rfl, fun hne => absurd hpn hne⟩
      have him' : i < m := by omega
      by_cases hio : i = x.2.1
      · subst hio
        refine ⟨csO ++ [m], m, [], m, fun _ => ⟨?_, ?_, ?_, fun _ => ?_⟩, fun hk => absurd ((g0 _ o2).trans hk3) hk, ?_, rfl, fun _ => Or.inr ⟨o2, by omega, gm1.trans (by rw [g1 _ o2]), fun j j1 j2 => by omega⟩⟩
        · have hm19 : R' 19 m = -1 := gm19 (fun z => by
            have hne : csO ≠ [] := fun w => z (hcs0.mp w)
            rw [d4 hne]
            have := (hmemO q0O (hqm hne)).2.1
            omega)
          have := chc_snoc (R' := R') o2 g1 g0 gm1 gm0 hm19 csO d1 (fun c hc => by
            have hne : csO ≠ [] := fun w => by rw [w] at hc; cases hc
            have hcm := (hmemO c hc).2.1
            rw [gv 19 c hcm (by decide), if_neg (fun z => absurd z.1 (by decide)), if_neg (fun z => absurd z.1 (by decide)), d4 hne]
            by_cases hcq : c = q0O
            · rw [if_pos ⟨rfl, hcq, fun w => hne (hcs0.mpr w)⟩, if_pos hcq]
            · rw [if_neg (fun z => hcq z.2.1), if_neg hcq]) (opn_nxt hopO o2 g1 gm1)
          rw [gv 16 _ o2 (by decide), if_neg (fun z => absurd z.1 (by decide))]
          by_cases hne : csO = []
          · rw [if_pos hne] at this
            rw [if_pos ⟨rfl, rfl, hcs0.mp hne⟩]; exact this
          · rw [if_neg hne] at this
            rw [if_neg (fun z => hne (hcs0.mpr z.2.2)), if_neg (fun z => absurd z.1 (by decide))]; exact this
        · rw [g3o, d2, List.length_append, List.length_singleton]; omega
        · rw [List.length_append, List.length_singleton]; omega
        · rw [gv 18 _ o2 (by decide), if_pos ⟨rfl, rfl⟩]
        · rw [g0 _ o2, hpe]; exact b3
      · obtain ⟨cs, q0, dn, q, a1, a2, a3, a4, a5⟩ := t5 i i0 him'
        have gvi : ∀ f : Nat, 16 ≤ f → f ≤ 18 → R' f i = R f i := fun f f1 f2 => by
          rw [gv f i him' (by omega), if_neg (fun z => hio z.2), if_neg (fun z => hio z.2.1), if_neg (fun z => by omega)]
        have hs := slo_kids (R 0 i)
        refine ⟨cs, q0, dn, q, fun hk => ?_, fun hk => a2 (by rw [← g0 i him']; exact hk), by rw [g0 i him', hpe]; exact a3, lks_congr him' g1 (fun j hj _ => g0 j hj) (by omega) dn (fun y hy => ?_) a4, fun hne => ?_⟩
        · rw [g0 i him'] at hk
          obtain ⟨c1, c2, c3, c4⟩ := a1 hk
          rw [gvi 16 (by decide) (by decide), gvi 18 (by decide) (by decide), g3 i him' hio]
          have hmem := chc_mem cs c1 (fun j j1 j2 => by omega)
          refine ⟨chc_congr him' g1 (fun j hj z => by rw [g0 j hj]; exact z) (by omega) cs (fun c hc => ?_) c1, c2, c3, c4⟩
          obtain ⟨m1, m2, m3, _, m5⟩ := hmem c hc
          rw [gv 19 c m2 (by decide), if_neg (fun z => absurd z.1 (by decide)), if_neg (fun z => absurd z.1 (by decide)), if_neg]
          intro z
          have hne : csO ≠ [] := fun w => z.2.2 (hcs0.mp w)
          have ec : c = q0O := z.2.1.trans (d4 hne)
          obtain ⟨n1, n2, n3, _, n5⟩ := hmemO q0O (hqm hne)
          rw [← ec] at n1 n2 n3 n5
          by_cases hlt : i < x.2.1
          · have := m5 x.2.1 hlt (by omega); omega
          · have := n5 i (by omega) (by omega); omega
        · have : 1 ≤ y.2 ∧ y.2 ≤ 3 := by
            rw [a3] at hs
            have gen : ∀ (l : List (Int × Int)) {b : Int} {r : List (Int × Int)}, 0 ≤ b → slo b (l ++ r) → ∀ y ∈ l, 1 ≤ y.2 ∧ y.2 ≤ 3 := by
              intro l
              induction l with
              | nil => intro b r _ _ y hy; cases hy
              | cons a l ih =>
                intro b r hb h y hy
                obtain ⟨z1, z2, z3⟩ := h
                rcases List.mem_cons.mp hy with e | e
                · rw [e]; omega
                · exact ih (by omega) z3 y e
            exact gen dn (Int.le_refl _) hs y hy
          exact gvi _ (by omega) (by omega)
        · rw [hpe] at hne
          have hne' := hne
          rw [hpr i (fun z => hio z.2.symm)] at hne'
          obtain ⟨y, hy, hyc, hyi⟩ := pnd_mem.mp hne'
          have hy41 : y.1 ≠ 41 := by omega
          have hdy := t1.1 hx41 y hy hy41
          rw [hyi] at hdy
          rcases hdy with z | ⟨z1, z2⟩
          · exact absurd z hio
          · have e1 : dpt R i = R 1 i := by unfold dpt; rw [if_neg (by omega)]
            exact opn_new (o := x.2.1) (a5 hne) him' (by omega) (by omega) g1 gm1
  · -- an action
    subst e
    obtain ⟨o1, o2, osg⟩ := hsgk (by omega) (by omega)
    have hk31 : R 0 x.2.1 = 31 := (osg.2.1 hx).1
    have hom := (t3 x r rfl).1 hx
    have g0 : ∀ j, j ≠ x.2.1 → im_u R 0 x.2.1 ty 0 j = R 0 j := fun j hj => im_rdk _ _ _ hj
    have g0o : im_u R 0 x.2.1 ty 0 x.2.1 = ty := im_rds _ _ _ _
    have gf : ∀ (f : Nat) (j : Int), f ≠ 0 → im_u R 0 x.2.1 ty f j = R f j := fun f j hf => im_rdn _ _ _ _ hf
    generalize im_u R 0 x.2.1 ty = R' at g0 g0o gf ⊢
    have hckx : ¬ ckd x.1 := by unfold ckd; omega
    have hx41 : x.1 ≠ 41 := by omega
    refine ⟨dch_sh (dch_congr (m := m) (fun j _ => gf 1 j (by decide)) r how t1.2) (shp ty) (fun y hy h41 => ?_), e107_shE t2.2 ty _, fun y r' e => ?_, fun i i0 i1 => ⟨?_, fun z => ?_⟩, fun i i0 i1 => ?_⟩
    · have : ∀ j, dpt R' j = dpt R j := fun j => by unfold dpt; rw [gf 1 _ (by decide)]
      rw [this, this]
      exact t1.1 hx41 y hy h41
    · have hall : ∀ z ∈ shE ty x.2.1 ++ r, z.1 ≠ 97 := fun z hz => by
        rcases List.mem_append.mp hz with hz | hz
        · exact shE_97 (by omega) z hz
        · exact h97 z hz
      have e : shE ty x.2.1 ++ r = y :: r' := e
      rw [e] at hall
      exact ⟨fun z => absurd z (hall y List.mem_cons_self), fun z hz => hall z (List.mem_cons_of_mem _ hz)⟩
    · show knd (R' 0 i)
      by_cases hio : i = x.2.1
      · rw [hio, g0o]; unfold knd; omega
      · rw [g0 i hio]; exact (t4 i i0 i1).1
    · have z : R' 0 i = 31 := z
      by_cases hio : i = x.2.1
      · rw [hio, g0o] at z; omega
      · rw [g0 i hio] at z
        obtain ⟨y, r', e, _, e2⟩ := (t4 i i0 i1).2 z
        cases e; exact absurd e2.symm hio
    · have i1 : i < m := i1
      show nodeI R' m (shE ty x.2.1 ++ r) i
      have hni := t5 i i0 i1
      by_cases hio : i = x.2.1
      · subst hio
        obtain ⟨cs, q0, dn, q, a1, a2, a3, a4, a5⟩ := hni
        have hpn : pnd x.2.1 r = [] := by
          rw [hk31, hpr _ (fun z => hckx z.1)] at a3
          have e31 : kids 31 = [] := rfl
          rw [e31] at a3
          exact (List.append_eq_nil_iff.mp a3.symm).2
        refine ⟨[], x.2.1, [], x.2.1, fun hk => by rw [g0o] at hk; omega, fun _ => rfl, by rw [g0o, pnd_shE, if_pos rfl, hpn, List.append_nil]; rfl, rfl, fun _ => Or.inl ⟨rfl, by omega⟩⟩
      · obtain ⟨cs, q0, dn, q, a1, a2, a3, a4, a5⟩ := hni
        rw [hpr i (fun z => hckx z.1)] at a3 a5
        have hpe : pnd i (shE ty x.2.1 ++ r) = pnd i r := by rw [pnd_shE, if_neg hio]
        refine ⟨cs, q0, dn, q, fun hk => ?_, fun hk => a2 (by rw [← g0 i hio]; exact hk), by rw [g0 i hio, hpe]; exact a3, lks_congr i1 (fun j _ => gf 1 j (by decide)) (fun j _ z => g0 j (fun w => z (by rw [w]; exact hk31))) (Int.le_refl _) dn (fun y _ => gf _ _ (by omega)) a4, fun hne => ?_⟩
        · rw [g0 i hio] at hk
          obtain ⟨b1, b2, b3, b4⟩ := a1 hk
          rw [gf 16 i (by decide), gf 18 i (by decide), gf 3 i (by decide)]
          refine ⟨chc_congr i1 (fun j _ => gf 1 j (by decide)) (fun j _ z => ?_) (Int.le_refl _) cs (fun c _ => gf 19 c (by decide)) b1, b2, b3, b4⟩
          by_cases hj : j = x.2.1
          · rw [hj, g0o]; omega
          · rw [g0 j hj]; exact z
        · rw [hpe] at hne
          rcases a5 hne with z | ⟨z1, z2, z3, z4⟩
          · exact Or.inl z
          · exact Or.inr ⟨z1, z2, by rw [gf 1 _ (by decide), gf 1 _ (by decide)]; exact z3, fun j j1 j2 => by rw [gf 1 _ (by decide), gf 1 _ (by decide)]; exact z4 j j1 j2⟩
  · subst e; exact hsame (by decide) (by decide) (by decide) (fun z => absurd z (by decide)) (by unfold ckd; omega) (by omega)
  · subst e; exact hsame (by decide) (by decide) (by decide) (fun z => absurd z (by decide)) (by unfold ckd; omega) (by omega)
  · subst e; exact TI_pop hT (by unfold ckd; omega) (by omega) (fun _ => rfl) (fun _ => rfl) (fun _ _ _ _ => rfl) (fun _ _ => rfl) how
  · subst e
    obtain ⟨o1, o2, osg⟩ := hsgk (by omega) (by omega)
    have h6 := (osg.2.2.1 (Or.inl hx)).2
    have hf : ∀ (f : Nat) (j : Int), f < 8 ∨ 15 < f → im_u R (8 + (R 6 x.2.1).toNat) x.2.1 v f j = R f j := fun f j hf => im_rdn _ _ _ _ (by omega)
    refine ⟨⟨fun _ y hy h41 => ?_, dch_congr (m := m) (fun j _ => hf 1 j (by omega)) _ (fun y hy h41 => ?_) t1⟩, ⟨fun z => absurd (show (104 : Int) = 107 from z) (by decide), t2⟩, fun y r' e => ?_, fun i i0 i1 => ⟨by show knd (im_u R _ _ _ 0 i); rw [hf 0 i (by omega)]; exact (t4 i i0 i1).1, fun z => ?_⟩, fun i i0 i1 => nodeI_same (t5 i i0 i1) i1 (fun j => hf 0 j (by omega)) (fun j => hf 1 j (by omega)) (fun f j f1 f2 => hf f j (by omega)) (fun _ => hf 3 i (by omega)) ?_⟩
    · have : ∀ j, dpt (im_u R (8 + (R 6 x.2.1).toNat) x.2.1 v) j = dpt R j := fun j => by unfold dpt; rw [hf 1 _ (by omega)]
      show y.2.1 = x.2.1 ∨ _
      rcases List.mem_cons.mp hy with z | z
      · rw [z]; exact Or.inl rfl
      · rw [this, this]; exact t1.1 (by omega) y z h41
    · rcases List.mem_cons.mp hy with z | z
      · rw [z]; exact o2
      · exact how y z h41
    · cases e
      refine ⟨fun z => absurd (show (104 : Int) = 97 from z) (by decide), fun z hz => ?_⟩
      rcases List.mem_cons.mp hz with e | e
      · rw [e]; omega
      · exact h97 z e
    · have z : im_u R (8 + (R 6 x.2.1).toNat) x.2.1 v 0 i = 31 := z
      rw [hf 0 i (by omega)] at z
      exact absurd z (hno31 (by omega) i i0 i1)
    · rw [pnd_cons, if_neg (fun z : ckd 104 ∧ _ => by rcases z.1 with z | z | z <;> exact absurd z (by decide))]
  · subst e
    obtain ⟨o1, o2, osg⟩ := hsgk (by omega) (by omega)
    have h6 := (osg.2.2.1 (Or.inr hx)).2
    have h63 := osg.2.2.2.1 hx
    have hf : ∀ (f : Nat) (j : Int), f < 6 ∨ 15 < f → im_u (im_u R (12 + (R 6 x.2.1).toNat) x.2.1 v) 6 x.2.1 (R 6 x.2.1 + 1) f j = R f j := fun f j hf => by rw [im_rdn _ _ _ _ (by omega), im_rdn _ _ _ _ (by omega)]
    exact TI_pop hT (by unfold ckd; omega) (by omega) (fun j => hf 0 j (by omega)) (fun j => hf 1 j (by omega)) (fun f j f1 f2 => hf f j (by omega)) (fun j _ => hf 3 j (by omega)) how
  · subst e; exact TI_pop hT (by unfold ckd; omega) (by omega) (fun _ => rfl) (fun _ => rfl) (fun _ _ _ _ => rfl) (fun _ _ => rfl) how
  · subst e
    obtain ⟨o1, o2, osg⟩ := hsgk (by omega) (by omega)
    have := osg.2.2.2.2.2.1 hx
    exact hsame (by decide) (by decide) (by decide) (fun _ => by omega) (by unfold ckd; omega) (by omega)
  · subst e; exact TI_pop hT (by unfold ckd; omega) (by omega) (fun _ => rfl) (fun _ => rfl) (fun _ _ _ _ => rfl) (fun _ _ => rfl) how
  · subst e
    have hff : ∀ f : Nat, f = (if x.1 = 49 then 4 else if x.1 = 50 then 5 else 6) → f = 4 ∨ f = 5 ∨ f = 6 := fun f hf => by
      rw [hf]; split
      · exact Or.inl rfl
      · split
        · exact Or.inr (Or.inl rfl)
        · exact Or.inr (Or.inr rfl)
    have hff := hff _ rfl
    exact hsame (by omega) (by omega) (by omega) (fun z => by omega) (by unfold ckd; omega) c5
theorem TI_bg (lo w0 : Int) : TI lo ([(99, -1, 0, 1)], fun _ _ => 0, lo, w0) := by
  refine ⟨⟨fun _ y hy => (by cases hy), trivial⟩, ⟨fun z => absurd (show (99 : Int) = 107 from z) (by decide), trivial⟩, fun x r e => ?_, fun i i0 i1 => ?_, fun i i0 i1 => ?_⟩
  · cases e
    exact ⟨fun z => absurd (show (99 : Int) = 97 from z) (by decide), fun y hy => (by cases hy)⟩
  · have i1 : i < lo := i1
    omega
  · have i1 : i < lo := i1
    omega
/-- a node's parts, when all is read -/
def TR (R : Rw) (m i : Int) : Prop := (knd (R 0 i) ∧ R 0 i ≠ 31) ∧ ∃ (cs : List Int) (q0 q : Int), (R 0 i = 3 → chc R m i i (R 16 i) cs q0 ∧ R 3 i = cs.length ∧ cs.length ≤ 8) ∧ (R 0 i ≠ 3 → q0 = i) ∧ lks R m i q0 (kids (R 0 i)) q
theorem TI_end {lo m lw : Int} {R : Rw} (h : TI lo ([], R, m, lw)) : ∀ i, lo ≤ i → i < m → TR R m i := by
  intro i i0 i1
  obtain ⟨_, _, _, t4, t5⟩ := h
  obtain ⟨cs, q0, dn, q, a1, a2, a3, a4, _⟩ := t5 i i0 i1
  refine ⟨⟨(t4 i i0 i1).1, fun z => ?_⟩, cs, q0, q, fun hk => ⟨(a1 hk).1, (a1 hk).2.1, (a1 hk).2.2.1⟩, a2, ?_⟩
  · obtain ⟨x, r, e, _⟩ := (t4 i i0 i1).2 z
    cases e
  · have e : kids (R 0 i) = dn := by rw [a3]; exact List.append_nil dn
    have a4 : lks R m i q0 dn q := a4
    rw [e]; exact a4
theorem TR_mono {R R' : Rw} {m m' i : Int} (h : TR R m i) (hi : i < m) (hR : ∀ (f : Nat) (j : Int), j < m → R' f j = R f j) (hm : m ≤ m') : TR R' m' i := by
  obtain ⟨a0, cs, q0, q, a1, a2, a3⟩ := h
  unfold TR
  rw [hR 0 i hi, hR 16 i hi, hR 3 i hi]
  refine ⟨a0, cs, q0, q, fun hk => ?_, a2, lks_congr hi (fun j hj => hR 1 j hj) (fun j hj _ => hR 0 j hj) hm _ (fun y _ => hR _ i hi) a3⟩
  obtain ⟨b1, b2⟩ := a1 hk
  exact ⟨chc_congr hi (fun j hj => hR 1 j hj) (fun j hj z => by rw [hR 0 j hj]; exact z) hm cs (fun c hc => hR 19 c (chc_mem cs b1 (fun j j1 j2 => by omega) c hc).2.1) b1, b2⟩
/-- names, times, pairs, the root -/
def nmv (R : Rw) (i : Int) : Prop := (0 ≤ R 4 i ∧ 0 ≤ R 5 i ∧ 0 ≤ R 6 i) ∧ (R 0 i = 35 → 97 ≤ R 4 i) ∧ (R 0 i = 3 → R 4 i ≤ 1000000000000000 ∧ (R 5 i = 0 ∨ 97 ≤ R 5 i)) ∧ (R 0 i = 1 → R 3 i = 0 ∨ R 3 i = 1)
def NI (lo : Int) (S : pS) : Prop := (∀ i, lo ≤ i → i < S.2.2.1 → nmv S.2.1 i ∧ (S.2.1 0 i = 29 → 1 ≤ S.2.1 6 i ∨ ∃ x ∈ S.1, x.1 = 98 ∧ x.2.1 = i)) ∧ (lo < S.2.2.1 → S.2.1 1 lo = 0 ∧ 0 ≤ S.2.1 0 lo ∧ S.2.1 0 lo ≤ 5)
theorem nmv_congr {R R' : Rw} {i : Int} (h : nmv R i) (h0 : ∀ f : Nat, f < 8 → R' f i = R f i) : nmv R' i := by
  unfold nmv
  rw [h0 0 (by decide), h0 3 (by decide), h0 4 (by decide), h0 5 (by decide), h0 6 (by decide)]
  exact h
theorem kids_98 {k n : Int} (h : k = 29) : (98, n, 0, 2) ∈ shE k n := by
  subst h
  show (98, n, 0, 2) ∈ [((49, n, 1, 5) : en), (50, n, 2, 4), (91, n, 0, 3), (98, n, 0, 2), (99, n, 2, 1)]
  simp
theorem NI_stp {lo ty nm v : Int} {x : en} {r : List en} {R : Rw} {m lw : Int} {S' : pS} (h : stp lo ty nm v (x :: r, R, m, lw) = .inr S') (hw : wfS lo (x :: r, R, m, lw)) (hq : Q2 lo (x :: r, R, m, lw)) (h49 : i49 (x :: r, R, m, lw)) (hnm : ty = 35 ∨ ty = 36 → 97 ≤ nm) (hN : NI lo (x :: r, R, m, lw)) : NI lo S' := by
  have hent : ∀ y ∈ x :: r, y.1 ≠ 41 → ent R lo m y := hw.2.2.2.2.2.1
  have hlo : 0 ≤ lo := hw.1
  have hlm : lo ≤ m := hw.2.1
  obtain ⟨n1, n2⟩ := id hN
  dsimp only at n1 n2
  have hsgk : x.1 ≠ 99 → x.1 ≠ 41 → lo ≤ x.2.1 ∧ x.2.1 < m ∧ sgk R x := fun h99 h41 => by
    rcases (hent x List.mem_cons_self h41).2.2 with z | z
    · exact absurd z.1 h99
    · exact z
  -- the stack loses its top, and a row has one more thing
  have one : ∀ {R' : Rw} {lw' : Int}, x.1 ≠ 98 → (∀ (f : Nat) (j : Int), (f < 2 ∨ (f = 6 ∧ R 0 j = 29) → R' f j = R f j)) → (∀ j, lo ≤ j → j < m → nmv R j → nmv R' j) → NI lo (r, R', m, lw') := fun {R' lw'} hx hR hj => by
    refine ⟨fun i i0 i1 => ⟨hj i i0 i1 (n1 i i0 i1).1, fun hk => ?_⟩, fun hl => ?_⟩
    · have hk : R' 0 i = 29 := hk
      rw [hR 0 i (Or.inl (by decide))] at hk
      show 1 ≤ R' 6 i ∨ _
      rw [hR 6 i (Or.inr ⟨rfl, hk⟩)]
      rcases (n1 i i0 i1).2 hk with z | ⟨y, hy, y1, y2⟩
      · exact Or.inl z
      · rcases List.mem_cons.mp hy with e | e
        · rw [e] at y1; exact absurd y1 hx
        · exact Or.inr ⟨y, e, y1, y2⟩
    · show R' 1 lo = 0 ∧ 0 ≤ R' 0 lo ∧ R' 0 lo ≤ 5
      rw [hR 1 lo (Or.inl (by decide)), hR 0 lo (Or.inl (by decide))]
      exact n2 hl
  have sid : x.1 ≠ 98 → ∀ {lw' : Int}, NI lo (r, R, m, lw') := fun hx {_} => one hx (fun _ _ _ => rfl) (fun _ _ _ z => z)
  refine stp_ind h (fun hx hty e => ?_) (fun hx hty hb hmu e => ?_) (fun hx _ e => ?_) (fun hx hty hmu h8 e => ?_) (fun hx hty e => ?_) (fun hx hty e => ?_) (fun hx hty has e => ?_) (fun hx _ h6 e => ?_) (fun hx _ h4 e => ?_) (fun hx _ _ e => ?_) (fun hx _ e => ?_) (fun hx hty e => ?_) (fun hx _ e => ?_) (fun c1 c2 c3 c4 c5 c6 c7 c8 c9 c10 c11 hty e => ?_)
  · subst e
    refine ⟨fun i i0 i1 => ⟨(n1 i i0 i1).1, fun hk => ?_⟩, n2⟩
    rcases (n1 i i0 i1).2 hk with z | ⟨y, hy, y1, y2⟩
    · exact Or.inl z
    · rcases List.mem_cons.mp hy with e | e
      · exact Or.inr ⟨y, by rw [e]; exact List.mem_cons_self, y1, y2⟩
      · exact Or.inr ⟨y, List.mem_cons_of_mem _ (List.mem_cons_of_mem _ e), y1, y2⟩
  · subst e
    have hx41 : x.1 ≠ 41 := by omega
    have hek := hent x List.mem_cons_self hx41
    have hos : x.2.1 = -1 ∨ (1 ≤ x.2.2.1 ∧ x.2.2.1 ≤ 3) := by
      rcases hek.2.2 with z | z
      · exact Or.inl z.2
      · exact Or.inr (z.2.2.2.2.2.2.2.2.2.2.1 hx)
    have hom : m ≠ x.2.1 := by
      rcases hek.2.2 with z | z
      · omega
      · omega
    have hrt : x.2.1 = -1 ∨ lo < m := by
      rcases hek.2.2 with z | z
      · exact Or.inl z.2
      · exact Or.inr (by omega)
    have hrt2 : x.2.1 = -1 → m = lo ∧ x.1 = 99 := fun z => by
      rcases hek.2.2 with w | w
      · rcases hq.2 with ⟨_, _, _, e⟩ | ⟨_, e⟩
        · exact ⟨e, w.1⟩
        · exact absurd z (e x List.mem_cons_self hx41)
      · omega
    have g : ∀ (f : Nat) (j : Int), f < 16 → j < m → nodR R m ty nm v x.2.1 x.2.2.1 f j = R f j := fun f j hf hj => nodR_ne f j (by omega) (Or.inl hf) hos
    have gm : ∀ (f : Nat), f ≠ 7 ∧ f ≠ 4 → nodR R m ty nm v x.2.1 x.2.2.1 f m = newN R m ty x.2.1 f m := fun f hf => nodR_m f hom hf hos
    have gm4 : nodR R m ty nm v x.2.1 x.2.2.1 4 m = if ty = 35 then nm else 0 := by
      have hl : lnk (newN R m ty x.2.1) x.2.1 x.2.2.1 m 4 m = 0 := by
        rcases hos with z | z
        · rw [z, lnk_r]; exact newN_4 _ _ _ _
        · rw [lnk_ne 4 m (Or.inl (by decide)) z]; exact newN_4 _ _ _ _
      unfold nodR setv
      by_cases c1 : ty = 34
      · rw [if_pos c1, if_neg (by omega), im_rdn _ _ _ _ (by decide)]; exact hl
      · rw [if_neg c1]
        by_cases c2 : ty = 35
        · rw [if_pos c2, if_pos c2, im_rds]
        · rw [if_neg c2, if_neg c2]; exact hl
    have gm0 := (gm 0 (by decide)).trans (newN_0 _ _ _ _)
    have gm1 := (gm 1 (by decide)).trans (newN_1 _ _ _ _)
    have gm3 := (gm 3 (by decide)).trans (newN_3 _ _ _ _)
    have gm5 := (gm 5 (by decide)).trans (newN_5 _ _ _ _)
    have gm6 := (gm 6 (by decide)).trans (newN_6 _ _ _ _)
    generalize nodR R m ty nm v x.2.1 x.2.2.1 = R' at g gm gm4 gm0 gm1 gm3 gm5 gm6 ⊢
    refine ⟨fun i i0 i1 => ?_, fun _ => ?_⟩
    · have i1 : i < m + 1 := i1
      show nmv R' i ∧ (R' 0 i = 29 → 1 ≤ R' 6 i ∨ _)
      by_cases him : i = m
      · subst him
        refine ⟨?_, fun hk => Or.inr ⟨_, List.mem_append_left _ (kids_98 (gm0.symm.trans hk)), rfl, rfl⟩⟩
        unfold nmv
        rw [gm4, gm0, gm3, gm5, gm6]
        refine ⟨⟨?_, by decide, by decide⟩, fun z => ?_, fun z => ?_, fun _ => Or.inl rfl⟩
        · by_cases c2 : ty = 35
          · rw [if_pos c2]; have := hnm (Or.inl c2); omega
          · rw [if_neg c2]; decide
        · rw [if_pos z]; exact hnm (Or.inl z)
        · rw [if_neg (by omega)]; exact ⟨by decide, Or.inl rfl⟩
      · have hi : i < m := by omega
        refine ⟨nmv_congr (n1 i i0 hi).1 (fun f hf => g f i (by omega) hi), fun hk => ?_⟩
        rw [g 0 i (by decide) hi] at hk
        rw [g 6 i (by decide) hi]
        rcases (n1 i i0 hi).2 hk with z | ⟨y, hy, y1, y2⟩
        · exact Or.inl z
        · rcases List.mem_cons.mp hy with e | e
          · rw [e] at y1; omega
          · exact Or.inr ⟨y, List.mem_append_right _ e, y1, y2⟩
    · show R' 1 lo = 0 ∧ 0 ≤ R' 0 lo ∧ R' 0 lo ≤ 5
      by_cases hlo' : lo < m
      · rw [g 1 lo (by decide) hlo', g 0 lo (by decide) hlo']; exact n2 hlo'
      · have hx1 : x.2.1 = -1 := by omega
        obtain ⟨z1, z2⟩ := hrt2 hx1
        rw [← z1, gm1, gm0]
        refine ⟨by unfold deepOf; rw [if_pos hx1], ?_⟩
        unfold bgn at hb; omega
  · subst e; exact sid (by omega)
  · subst e
    obtain ⟨o1, o2, osg⟩ := hsgk (by omega) (by omega)
    have hk3 : R 0 x.2.1 = 3 := osg.1 hx
    have g : ∀ (f : Nat) (j : Int), f < 16 → f ≠ 3 → j < m → caseR R m x.2.1 f j = R f j := fun f j hf hf3 hj => caseR_ne f j (by omega) (by omega)
    have g3 : ∀ j, j < m → j ≠ x.2.1 → caseR R m x.2.1 3 j = R 3 j := fun j hj ho => caseR_3 (by omega) ho
    have gm : ∀ f, f < 16 → caseR R m x.2.1 f m = newN (im_u R 3 x.2.1 (R 3 x.2.1 + 1)) m 31 x.2.1 f m := fun f hf => caseR_m f (by omega) (by omega)
    have gm0 := (gm 0 (by decide)).trans (newN_0 _ _ _ _)
    have gm3 := (gm 3 (by decide)).trans (newN_3 _ _ _ _)
    have gm4 := (gm 4 (by decide)).trans (newN_4 _ _ _ _)
    have gm5 := (gm 5 (by decide)).trans (newN_5 _ _ _ _)
    have gm6 := (gm 6 (by decide)).trans (newN_6 _ _ _ _)
    generalize caseR R m x.2.1 = R' at g g3 gm gm0 gm3 gm4 gm5 gm6 ⊢
    refine ⟨fun i i0 i1 => ?_, fun _ => ?_⟩
    · have i1 : i < m + 1 := i1
      show nmv R' i ∧ (R' 0 i = 29 → 1 ≤ R' 6 i ∨ _)
      by_cases him : i = m
      · subst him
        refine ⟨?_, fun hk => by rw [gm0] at hk; exact absurd hk (by decide)⟩
        unfold nmv
        rw [gm4, gm0, gm3, gm5, gm6]
        exact ⟨⟨by decide, by decide, by decide⟩, fun z => absurd z (by decide), fun z => absurd z (by decide), fun _ => Or.inl rfl⟩
      · have hi : i < m := by omega
        refine ⟨?_, fun hk => ?_⟩
        · have hn := (n1 i i0 hi).1
          unfold nmv at hn ⊢
          rw [g 0 i (by decide) (by decide) hi, g 4 i (by decide) (by decide) hi, g 5 i (by decide) (by decide) hi, g 6 i (by decide) (by decide) hi]
          refine ⟨hn.1, hn.2.1, hn.2.2.1, fun z => ?_⟩
          rw [g3 i hi (fun w => by rw [w, hk3] at z; exact absurd z (by decide))]
          exact hn.2.2.2 z
        · rw [g 0 i (by decide) (by decide) hi] at hk
          rw [g 6 i (by decide) (by decide) hi]
          rcases (n1 i i0 hi).2 hk with z | ⟨y, hy, y1, y2⟩
          · exact Or.inl z
          · exact Or.inr ⟨y, List.mem_cons_of_mem _ hy, y1, y2⟩
    · show R' 1 lo = 0 ∧ 0 ≤ R' 0 lo ∧ R' 0 lo ≤ 5
      rw [g 1 lo (by decide) (by decide) (by omega), g 0 lo (by decide) (by decide) (by omega)]; exact n2 (by omega)
  · subst e
    obtain ⟨o1, o2, osg⟩ := hsgk (by omega) (by omega)
    obtain ⟨hk31, _⟩ := osg.2.1 hx
    have g : ∀ (f : Nat) (j : Int), f ≠ 0 → im_u R 0 x.2.1 ty f j = R f j := fun f j hf => im_rdn _ _ _ _ hf
    have g0 : ∀ j, j ≠ x.2.1 → im_u R 0 x.2.1 ty 0 j = R 0 j := fun j hj => im_rdk _ _ _ hj
    have g0o : im_u R 0 x.2.1 ty 0 x.2.1 = ty := im_rds _ _ _ _
    generalize im_u R 0 x.2.1 ty = R' at g g0 g0o ⊢
    refine ⟨fun i i0 i1 => ?_, fun hl => ?_⟩
    · show nmv R' i ∧ (R' 0 i = 29 → 1 ≤ R' 6 i ∨ _)
      have hn := (n1 i i0 i1).1
      by_cases hio : i = x.2.1
      · rw [hio] at hn ⊢
        refine ⟨?_, fun hk => Or.inr ⟨_, List.mem_append_left _ (kids_98 (g0o.symm.trans hk)), rfl, rfl⟩⟩
        unfold nmv at hn ⊢
        rw [g 4 _ (by decide), g 5 _ (by decide), g 6 _ (by decide), g0o]
        exact ⟨hn.1, fun z => by omega, fun z => by omega, fun z => by omega⟩
      · refine ⟨?_, fun hk => ?_⟩
        · unfold nmv at hn ⊢
          rw [g 4 _ (by decide), g 5 _ (by decide), g 6 _ (by decide), g 3 _ (by decide), g0 i hio]
          exact hn
        · rw [g0 i hio] at hk
          rw [g 6 i (by decide)]
          rcases (n1 i i0 i1).2 hk with z | ⟨y, hy, y1, y2⟩
          · exact Or.inl z
          · rcases List.mem_cons.mp hy with e | e
            · rw [e] at y1; omega
            · exact Or.inr ⟨y, List.mem_append_right _ e, y1, y2⟩
    · show R' 1 lo = 0 ∧ 0 ≤ R' 0 lo ∧ R' 0 lo ≤ 5
      have := n2 hl
      rw [g 1 lo (by decide), g0 lo (fun z => by rw [z] at this; omega)]; exact this
  · subst e
    obtain ⟨o1, o2, osg⟩ := hsgk (by omega) (by omega)
    have hk3 := osg.2.2.2.2.1 hx
    refine one (by omega) (fun f j hf => im_rdn _ _ _ _ (by omega)) (fun j j0 j1 hn => ?_)
    unfold nmv at hn ⊢
    rw [im_rdn _ _ _ _ (by decide : (4 : Nat) ≠ 5), im_rdn _ _ _ _ (by decide : (6 : Nat) ≠ 5), im_rdn _ _ _ _ (by decide : (3 : Nat) ≠ 5), im_rdn _ _ _ _ (by decide : (0 : Nat) ≠ 5)]
    have := hnm (Or.inl hty)
    by_cases hj : j = x.2.1
    · rw [hj, im_rds]
      rw [hj] at hn
      exact ⟨⟨hn.1.1, by omega, hn.1.2.2⟩, hn.2.1, fun z => ⟨(hn.2.2.1 z).1, Or.inr this⟩, hn.2.2.2⟩
    · rw [im_rdk _ _ _ hj]; exact hn
  · subst e
    obtain ⟨o1, o2, osg⟩ := hsgk (by omega) (by omega)
    have hk3 := osg.2.2.2.2.1 hx
    refine one (by omega) (fun f j hf => im_rdn _ _ _ _ (by omega)) (fun j j0 j1 hn => ?_)
    unfold nmv at hn ⊢
    rw [im_rdn _ _ _ _ (by decide : (5 : Nat) ≠ 4), im_rdn _ _ _ _ (by decide : (6 : Nat) ≠ 4), im_rdn _ _ _ _ (by decide : (3 : Nat) ≠ 4), im_rdn _ _ _ _ (by decide : (0 : Nat) ≠ 4)]
    have hv : 0 ≤ asT v ∧ asT v ≤ 1000000000000000 := by
      unfold asT at has ⊢
      by_cases c : 0 ≤ v ∧ v ≤ 1000000000000000
      · rw [if_pos c]; exact c
      · rw [if_neg c] at has; exact absurd rfl has
    by_cases hj : j = x.2.1
    · rw [hj, im_rds]
      rw [hj] at hn
      exact ⟨⟨hv.1, hn.1.2.1, hn.1.2.2⟩, fun z => by omega, fun z => ⟨hv.2, (hn.2.2.1 z).2⟩, hn.2.2.2⟩
    · rw [im_rdk _ _ _ hj]; exact hn
  · subst e
    refine ⟨fun i i0 i1 => ⟨(n1 i i0 i1).1, fun hk => ?_⟩, n2⟩
    rcases (n1 i i0 i1).2 hk with z | ⟨y, hy, y1, y2⟩
    · exact Or.inl z
    · rcases List.mem_cons.mp hy with e | e
      · rw [e] at y2
        refine Or.inl ?_
        show 1 ≤ R 6 i
        rw [← y2]; omega
      · exact Or.inr ⟨y, e, y1, y2⟩
  · subst e
    obtain ⟨o1, o2, osg⟩ := hsgk (by omega) (by omega)
    have h6 := (osg.2.2.1 (Or.inl hx)).2
    have hf : ∀ (f : Nat) (j : Int), f < 8 → im_u R (8 + (R 6 x.2.1).toNat) x.2.1 v f j = R f j := fun f j hf => im_rdn _ _ _ _ (by omega)
    generalize im_u R (8 + (R 6 x.2.1).toNat) x.2.1 v = R' at hf ⊢
    refine ⟨fun i i0 i1 => ⟨nmv_congr (n1 i i0 i1).1 (fun f h => hf f i h), fun hk => ?_⟩, fun hl => ?_⟩
    · have hk : R' 0 i = 29 := hk
      rw [hf 0 i (by decide)] at hk
      show 1 ≤ R' 6 i ∨ _
      rw [hf 6 i (by decide)]
      rcases (n1 i i0 i1).2 hk with z | ⟨y, hy, y1, y2⟩
      · exact Or.inl z
      · exact Or.inr ⟨y, List.mem_cons_of_mem _ hy, y1, y2⟩
    · show R' 1 lo = 0 ∧ 0 ≤ R' 0 lo ∧ R' 0 lo ≤ 5
      rw [hf 1 lo (by decide), hf 0 lo (by decide)]; exact n2 hl
  · subst e
    obtain ⟨o1, o2, osg⟩ := hsgk (by omega) (by omega)
    obtain ⟨hk29, h60, _⟩ := osg.2.2.1 (Or.inr hx)
    have hf : ∀ (f : Nat) (j : Int), f < 6 → im_u (im_u R (12 + (R 6 x.2.1).toNat) x.2.1 v) 6 x.2.1 (R 6 x.2.1 + 1) f j = R f j := fun f j hf => by rw [im_rdn _ _ _ _ (by omega), im_rdn _ _ _ _ (by omega)]
    have h6n : ∀ j, j ≠ x.2.1 → im_u (im_u R (12 + (R 6 x.2.1).toNat) x.2.1 v) 6 x.2.1 (R 6 x.2.1 + 1) 6 j = R 6 j := fun j hj => by rw [im_rdk _ _ _ hj, im_rdn _ _ _ _ (by omega)]
    have h6o : im_u (im_u R (12 + (R 6 x.2.1).toNat) x.2.1 v) 6 x.2.1 (R 6 x.2.1 + 1) 6 x.2.1 = R 6 x.2.1 + 1 := im_rds _ _ _ _
    generalize im_u (im_u R (12 + (R 6 x.2.1).toNat) x.2.1 v) 6 x.2.1 (R 6 x.2.1 + 1) = R' at hf h6n h6o ⊢
    refine ⟨fun i i0 i1 => ⟨?_, fun hk => ?_⟩, fun hl => ?_⟩
    · have hn := (n1 i i0 i1).1
      show nmv R' i
      unfold nmv at hn ⊢
      rw [hf 4 _ (by decide), hf 5 _ (by decide), hf 0 _ (by decide), hf 3 _ (by decide)]
      by_cases hj : i = x.2.1
      · rw [hj, h6o]; rw [hj] at hn; exact ⟨⟨hn.1.1, hn.1.2.1, by omega⟩, hn.2⟩
      · rw [h6n i hj]; exact hn
    · have hk : R' 0 i = 29 := hk
      rw [hf 0 i (by decide)] at hk
      show 1 ≤ R' 6 i ∨ _
      by_cases hj : i = x.2.1
      · rw [hj, h6o]; exact Or.inl (by omega)
      · rw [h6n i hj]
        rcases (n1 i i0 i1).2 hk with z | ⟨y, hy, y1, y2⟩
        · exact Or.inl z
        · rcases List.mem_cons.mp hy with e | e
          · rw [e] at y1; omega
          · exact Or.inr ⟨y, e, y1, y2⟩
    · show R' 1 lo = 0 ∧ 0 ≤ R' 0 lo ∧ R' 0 lo ≤ 5
      rw [hf 1 lo (by decide), hf 0 lo (by decide)]; exact n2 hl
  · subst e; exact sid (by omega)
  · subst e
    obtain ⟨o1, o2, osg⟩ := hsgk (by omega) (by omega)
    refine one (by omega) (fun f j hf => im_rdn _ _ _ _ (by omega)) (fun j j0 j1 hn => ?_)
    unfold nmv at hn ⊢
    rw [im_rdn _ _ _ _ (by decide : (4 : Nat) ≠ 3), im_rdn _ _ _ _ (by decide : (5 : Nat) ≠ 3), im_rdn _ _ _ _ (by decide : (6 : Nat) ≠ 3), im_rdn _ _ _ _ (by decide : (0 : Nat) ≠ 3)]
    by_cases hj : j = x.2.1
    · rw [hj, im_rds]
      rw [hj] at hn
      refine ⟨hn.1, hn.2.1, hn.2.2.1, fun _ => ?_⟩
      by_cases c : ty = 33
      · rw [if_pos c]; exact Or.inr rfl
      · rw [if_neg c]; exact Or.inl rfl
    · rw [im_rdk _ _ _ hj]; exact hn
  · subst e; exact sid (by omega)
  · subst e
    obtain ⟨o1, o2, osg⟩ := hsgk c1 c9
    have h51 := osg.2.2.2.2.2.2.1
    have hsg := osg.2.2.2.2.2.2.2.1
    have h3 : R 0 x.2.1 ≠ 3 := by
      by_cases h51' : x.1 = 51
      · have := h51 h51'; omega
      · exact h49 x List.mem_cons_self (by omega)
    have hn97 := hnm (Or.inr hty)
    have hfv : ∀ f : Nat, f = (if x.1 = 49 then 4 else if x.1 = 50 then 5 else 6) → (f = 4 ∨ f = 5 ∨ f = 6) ∧ (f = 6 → x.1 = 51) := fun f hf => by
      by_cases a1 : x.1 = 49
      · rw [if_pos a1] at hf; omega
      · rw [if_neg a1] at hf
        by_cases a2 : x.1 = 50
        · rw [if_pos a2] at hf; omega
        · rw [if_neg a2] at hf; omega
    generalize (if x.1 = 49 then 4 else if x.1 = 50 then 5 else 6 : Nat) = f at hfv ⊢
    obtain ⟨hf1, hf2⟩ := hfv f rfl
    refine one c7 (fun f' j hf' => ?_) (fun j j0 j1 hn => ?_)
    · by_cases e6 : f' = f
      · have : f' = 6 ∧ R 0 j = 29 := by omega
        have hj : j ≠ x.2.1 := fun z => by
          have := h51 (hf2 (by omega))
          rw [← z] at this; omega
        subst e6; exact im_rdk _ _ _ hj
      · exact im_rdn _ _ _ _ e6
    · have hu : ∀ f' : Nat, f' ≠ f → im_u R f x.2.1 nm f' j = R f' j := fun f' h => im_rdn _ _ _ _ h
      have hge : ∀ f' : Nat, 0 ≤ R f' j → 0 ≤ im_u R f x.2.1 nm f' j := fun f' h => by
        by_cases e1 : f' = f
        · subst e1
          by_cases hj : j = x.2.1
          · rw [hj, im_rds]; omega
          · rw [im_rdk _ _ _ hj]; exact h
        · rw [hu f' e1]; exact h
      unfold nmv at hn ⊢
      rw [hu 0 (by omega), hu 3 (by omega)]
      refine ⟨⟨hge 4 hn.1.1, hge 5 hn.1.2.1, hge 6 hn.1.2.2⟩, fun z => ?_, fun z => ?_, hn.2.2.2⟩
      · by_cases hj : j = x.2.1
        · by_cases e1 : (4 : Nat) = f
          · subst e1; rw [hj, im_rds]; exact hn97
          · rw [hu 4 e1]; exact hn.2.1 z
        · by_cases e1 : (4 : Nat) = f
          · subst e1; rw [im_rdk _ _ _ hj]; exact hn.2.1 z
          · rw [hu 4 e1]; exact hn.2.1 z
      · have hj : j ≠ x.2.1 := fun w => by rw [w] at z; exact h3 z
        have : ∀ f' : Nat, im_u R f x.2.1 nm f' j = R f' j := fun f' => by
          by_cases e1 : f' = f
          · subst e1; exact im_rdk _ _ _ hj
          · exact hu f' e1
        rw [this, this]; exact hn.2.2.1 z
