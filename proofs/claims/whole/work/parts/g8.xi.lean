/-! WHAT A TEXT LEAVES, more of it: names, links, whens, parents -/
def kin (R : Rw) (p i : Int) : Prop := (∃ y ∈ kids (R 0 p), R (15 + y.2.toNat) p = i) ∨ (R 0 p = 3 ∧ R 16 p = i) ∨ ((28 ≤ R 0 p ∧ R 0 p ≤ 31) ∧ R 19 p = i)
def big3 (R : Rw) (i : Int) : Prop := R 4 i ≤ 9223372036854775807 ∧ R 5 i ≤ 9223372036854775807 ∧ R 6 i ≤ 9223372036854775807
def whn (R : Rw) (i : Int) : Prop := (∀ s : Nat, 16 ≤ s → s ≤ 18 → (s = 18 → R 0 i ≠ 3) → R s i ≠ -1 → R 2 (R s i) = R 2 i + (if R 0 (R s i) = 3 then 1 else 0)) ∧ (R 19 i ≠ -1 → R 2 (R 19 i) = R 2 i) ∧ (R 0 i = 3 → R 18 i ≠ -1 → R 2 (R 18 i) = R 2 i)
def lkD (R : Rw) (m i : Int) : Prop := ∀ s : Nat, 16 ≤ s → s ≤ 19 → R s i = -1 ∨ (i < R s i ∧ R s i < m)
def nol (R : Rw) (i : Int) : Prop := R 0 i ≠ 3 → ∀ s : Nat, 1 ≤ s → s ≤ 3 → (∀ y ∈ kids (R 0 i), y.2 ≠ s) → R (15 + s) i = -1
def XN (lo : Int) (R : Rw) (m i : Int) : Prop := (i ≠ lo → 1 ≤ R 1 i) ∧ big3 R i ∧ lkD R m i ∧ whn R i ∧ (i = lo → R 2 i = if R 0 i = 3 then 1 else 0) ∧ (i ≠ lo → ∃ p, lo ≤ p ∧ p < i ∧ kin R p i) ∧ nol R i
def XZ (st : List en) (R : Rw) (i : Int) : Prop := R 0 i < 28 → R 0 i ≠ 3 → ((R 4 i ≠ 0 → nA (R 0 i)) ∧ (nA (R 0 i) → R 4 i ≠ 0 ∨ ∃ y ∈ st, y.1 = 49 ∧ y.2.1 = i)) ∧ ((R 5 i ≠ 0 → nB (R 0 i)) ∧ (nB (R 0 i) → R 5 i ≠ 0 ∨ ∃ y ∈ st, y.1 = 50 ∧ y.2.1 = i)) ∧ ((R 6 i ≠ 0 → R 0 i = 1) ∧ (R 0 i = 1 → R 6 i ≠ 0 ∨ ∃ y ∈ st, y.1 = 51 ∧ y.2.1 = i))
def XE (R : Rw) (y : en) : Prop := (ckd y.1 → y.2.1 ≠ -1 → R (15 + y.2.2.1.toNat) y.2.1 = -1) ∧ (y.1 = 49 → nA (R 0 y.2.1) ∨ R 0 y.2.1 = 28 ∨ R 0 y.2.1 = 29) ∧ (y.1 = 50 → nB (R 0 y.2.1) ∨ R 0 y.2.1 = 28 ∨ R 0 y.2.1 = 29)
def XI (lo : Int) (S : pS) : Prop := (∀ i, lo ≤ i → i < S.2.2.1 → XN lo S.2.1 S.2.2.1 i ∧ XZ S.1 S.2.1 i) ∧ ∀ y ∈ S.1, XE S.2.1 y
theorem pnd_in {i : Int} : ∀ {r : List en} {y : en}, y ∈ r → ckd y.1 → y.2.1 = i → (y.1, y.2.2.1) ∈ pnd i r := by
  intro r
  induction r with
  | nil => intro y hy; cases hy
  | cons x r ih =>
    intro y hy h1 h2
    rw [pnd_cons]
    rcases List.mem_cons.mp hy with e | e
    · rw [← e, if_pos ⟨h1, h2⟩]; exact List.mem_cons_self
    · by_cases c : ckd x.1 ∧ x.2.1 = i
      · rw [if_pos c]; exact List.mem_cons_of_mem _ (ih e h1 h2)
      · rw [if_neg c]; exact ih e h1 h2
theorem slo_ge : ∀ (l : List (Int × Int)) {b : Int}, slo b l → ∀ z ∈ l, b < z.2 ∧ z.2 ≤ 3 := by
  intro l
  induction l with
  | nil => intro b _ z hz; cases hz
  | cons a l ih =>
    intro b h z hz
    rcases List.mem_cons.mp hz with e | e
    · rw [e]; exact ⟨h.1, h.2.1⟩
    · have := ih h.2.2 z e; have := h.1; omega
theorem slo_tail : ∀ (l : List (Int × Int)) {b : Int} {y : Int × Int} {r : List (Int × Int)}, slo b (l ++ y :: r) → ∀ z ∈ r, y.2 < z.2 := by
  intro l
  induction l with
  | nil => intro b y r h z hz; exact (slo_ge r h.2.2 z hz).1
  | cons a l ih => intro b y r h; exact ih h.2.2
theorem nodeI_kid {R : Rw} {m i : Int} {st : List en} (h : nodeI R m st i) {y : en} (hy : y ∈ st) (hc : ckd y.1) (ho : y.2.1 = i) : (y.1, y.2.2.1) ∈ kids (R 0 i) := by
  obtain ⟨_, _, dn, _, _, _, a3, _⟩ := h
  rw [a3]
  exact List.mem_append_right _ (pnd_in hy hc ho)
theorem nodeI_top {R : Rw} {m i : Int} {x : en} {r : List en} (h : nodeI R m (x :: r) i) (hx : ckd x.1) (ho : x.2.1 = i) {y : en} (hy : y ∈ r) (hc : ckd y.1) (hyo : y.2.1 = i) : x.2.2.1 < y.2.2.1 := by
  obtain ⟨_, _, dn, _, _, _, a3, _⟩ := h
  rw [pnd_cons, if_pos ⟨hx, ho⟩] at a3
  have hs := slo_kids (R 0 i)
  rw [a3] at hs
  exact slo_tail dn hs _ (pnd_in hy hc hyo)
theorem kids_3 {y : Int × Int} (h : y ∈ kids 3) : y.2 = 2 := by
  have e3 : kids 3 = [(99, 2)] := rfl
  rw [e3] at h
  rcases List.mem_singleton.mp h with rfl
  rfl
theorem kids_sl {k : Int} {y : Int × Int} (h : y ∈ kids k) : 1 ≤ y.2 ∧ y.2 ≤ 3 := by
  have := slo_ge _ (slo_kids k) y h
  omega
theorem chc_end {R : Rw} {m i : Int} : ∀ (cs : List Int) {p l q : Int}, chc R m i p l cs q → cs ≠ [] → R 19 q = -1 := by
  intro cs
  induction cs with
  | nil => intro p l q _ h; exact absurd rfl h
  | cons a cs ih =>
    intro p l q h _
    cases cs with
    | nil => obtain ⟨_, _, _, _, _, h1, h2⟩ := h; rw [← h1]; exact h2
    | cons b cs => exact ih h.2.2.2.2.2 (List.cons_ne_nil _ _)
theorem chc_next {R : Rw} {m i : Int} : ∀ (cs : List Int) {p l q : Int}, chc R m i p l cs q → ∀ c ∈ cs, R 19 c ≠ -1 → R 19 c ∈ cs := by
  intro cs
  induction cs with
  | nil => intro p l q _ c hc; cases hc
  | cons a cs ih =>
    intro p l q h c hc hn
    obtain ⟨h1, _, _, _, _, h6⟩ := h
    rcases List.mem_cons.mp hc with e | e
    · rw [e] at hn ⊢
      cases cs with
      | nil => exact absurd h6.2 hn
      | cons b cs => rw [h6.1]; exact List.mem_cons_of_mem _ List.mem_cons_self
    · exact List.mem_cons_of_mem _ (ih h6 c e hn)
theorem chc_fst {R : Rw} {m i p l q : Int} {cs : List Int} (h : chc R m i p l cs q) (hl : l ≠ -1) : l ∈ cs := by
  cases cs with
  | nil => exact absurd h.2 hl
  | cons a cs => rw [h.1]; exact List.mem_cons_self
theorem shE_49 {k n : Int} : ∀ y ∈ shE k n, (y.1 = 49 → nA k ∨ k = 28 ∨ k = 29) ∧ (y.1 = 50 → nB k ∨ k = 28 ∨ k = 29) := by
  intro y hy
  obtain ⟨_, z, hz, hyz⟩ := shE_mem hy
  rw [hyz]
  unfold nA nB
  revert z
  refine shp_ind (P := fun k l => ∀ z ∈ l, y.1 = z.1 → (z.1 = 49 → (k = 1 ∨ k = 4 ∨ k = 6 ∨ k = 12 ∨ k = 15 ∨ k = 20) ∨ k = 28 ∨ k = 29) ∧ (z.1 = 50 → (k = 1 ∨ k = 6 ∨ k = 12 ∨ k = 20) ∨ k = 28 ∨ k = 29)) k (fun _ => ?_) (fun _ => ?_) (fun _ => ?_) (fun _ => ?_) (fun _ => ?_) (fun _ => ?_) (fun _ => ?_) (fun _ => ?_) (fun _ => ?_) (fun _ => ?_) (fun _ => ?_) (fun _ => ?_) (fun _ => ?_) (fun _ => ?_) (fun _ => ?_) (fun _ z hz => by cases hz) <;> (intro z hz _; simp only [List.mem_cons, List.not_mem_nil, or_false] at hz; (repeat' (rcases hz with rfl | hz)) <;> first | (subst hz; constructor <;> (intro w; first | omega | (exact absurd w (by decide)))) | (constructor <;> (intro w; first | omega | (exact absurd w (by decide)))))
theorem shE_nA {k n : Int} (h : nA k) : ∃ y ∈ shE k n, y.1 = 49 ∧ y.2.1 = n := by
  unfold nA at h
  rcases h with h | h | h | h | h | h <;> subst h <;> exact ⟨_, List.mem_cons_self, rfl, rfl⟩
theorem shE_nB {k n : Int} (h : nB k) : ∃ y ∈ shE k n, y.1 = 50 ∧ y.2.1 = n := by
  unfold nB at h
  rcases h with h | h | h | h <;> subst h
  · exact ⟨(50, n, 2, 4), List.mem_cons_of_mem _ (List.mem_cons_of_mem _ List.mem_cons_self), rfl, rfl⟩
  all_goals exact ⟨(50, n, 2, 1), List.mem_cons_of_mem _ List.mem_cons_self, rfl, rfl⟩
theorem shE_n1 {k n : Int} (h : k = 1) : ∃ y ∈ shE k n, y.1 = 51 ∧ y.2.1 = n := by
  subst h
  exact ⟨(51, n, 3, 3), List.mem_cons_of_mem _ (List.mem_cons_of_mem _ (List.mem_cons_of_mem _ List.mem_cons_self)), rfl, rfl⟩
/-- nothing but names, numbers and what waits is other -/
theorem XN_same {lo m i : Int} {R R' : Rw} (h : XN lo R m i) (hR : ∀ (f : Nat) (j : Int), (f < 3 ∨ (16 ≤ f ∧ f ≤ 19)) → R' f j = R f j) (hb : big3 R' i) : XN lo R' m i := by
  obtain ⟨a1, _, a3, ⟨b1, b2, b3⟩, a5, a6, a7⟩ := h
  have h0 : ∀ j, R' 0 j = R 0 j := fun j => hR 0 j (by omega)
  have h2 : ∀ j, R' 2 j = R 2 j := fun j => hR 2 j (by omega)
  have h18 : ∀ j, R' 18 j = R 18 j := fun j => hR 18 j (by omega)
  have h19 : ∀ j, R' 19 j = R 19 j := fun j => hR 19 j (by omega)
  refine ⟨fun z => by rw [hR 1 i (by omega)]; exact a1 z, hb, fun s s1 s2 => by rw [hR s i (by omega)]; exact a3 s s1 s2, ⟨fun s s1 s2 s3 s4 => ?_, fun z => ?_, fun z z2 => ?_⟩, fun z => by rw [h2, h0]; exact a5 z, fun z => ?_, fun z s s1 s2 hy => ?_⟩
  · rw [hR s i (by omega)] at s4 ⊢
    rw [h2, h2, h0]
    exact b1 s s1 s2 (fun w => by rw [← h0]; exact s3 w) s4
  · rw [h19] at z ⊢; rw [h2, h2]; exact b2 z
  · rw [h18] at z2 ⊢; rw [h0] at z; rw [h2, h2]; exact b3 z z2
  · obtain ⟨p, p0, p1, hk⟩ := a6 z
    refine ⟨p, p0, p1, ?_⟩
    unfold kin
    rw [h0, h19, hR 16 p (by omega)]
    rcases hk with ⟨y, hy, e⟩ | hk | hk
    · have := kids_sl hy
      exact Or.inl ⟨y, hy, by rw [hR _ p (by omega)]; exact e⟩
    · exact Or.inr (Or.inl hk)
    · exact Or.inr (Or.inr hk)
  · rw [h0] at z hy
    rw [hR _ i (by omega)]
    exact a7 z s s1 s2 hy
