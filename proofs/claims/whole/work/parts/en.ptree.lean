/-! WHERE A NODE'S PARTS END -/
/-- j is a part of i -/
def isK (R : Rw) (m i j : Int) : Prop := (∃ y ∈ kids (R 0 i), j = R (15 + y.2.toNat) i) ∨ (R 0 i = 3 ∧ ∃ cs q0, chc R m i i (R 16 i) cs q0 ∧ j ∈ cs)
/-- each node that isn't a root has one above it -/
def prT (R : Rw) (m : Int) : Prop := ∀ j, 0 ≤ j → j < m → R 1 j = 0 ∨ ∃ i, 0 ≤ i ∧ i < j ∧ isK R m i j
/-- what comes behind the part p of i -/
noncomputable def nxE (R : Rw) (m i p : Int) : Int := if p = i then i + 1 else eN R m p
theorem lks_all {R : Rw} {m i : Int} : ∀ (L : List (Int × Int)) {p q : Int}, lks R m i p L q → (∀ j, i < j → j ≤ p → R 1 i < R 1 j) → (p = i ∨ (i < p ∧ p < m ∧ R 1 p = R 1 i + 1)) → p ≤ q ∧ (q = i ∨ (i < q ∧ q < m ∧ R 1 q = R 1 i + 1)) ∧ (L ≠ [] → i < q) ∧ (∀ j, i < j → j ≤ q → R 1 i < R 1 j) ∧ ∀ y ∈ L, R 1 (R (15 + y.2.toNat) i) = R 1 i + 1 ∧ i < R (15 + y.2.toNat) i ∧ R (15 + y.2.toNat) i ≤ q ∧ R (15 + y.2.toNat) i < m := by
  intro L
  induction L with
  | nil => intro p q h hp h1; cases h; exact ⟨Int.le_refl _, h1, fun z => absurd rfl z, hp, fun y hy => by cases hy⟩
  | cons y L ih =>
    intro p q h hp h1
    obtain ⟨a1, a2, a3, a4, a5⟩ := h
    have hlt := nxt_lt a1
    have hd := nxt_deep a1 a3 hp
    obtain ⟨b1, b2, b3, b4, b5⟩ := ih a5 hd (Or.inr ⟨hlt.1, a4, a3⟩)
    refine ⟨by omega, b2, fun _ => by omega, b4, fun z hz => ?_⟩
    rcases List.mem_cons.mp hz with e | hz
    · rw [e]; exact ⟨a3, hlt.1, b1, a4⟩
    · exact b5 z hz
theorem chc_all {R : Rw} {m i : Int} : ∀ (cs : List Int) {p l q : Int}, chc R m i p l cs q → (∀ j, i < j → j ≤ p → R 1 i < R 1 j) → (p = i ∨ (i < p ∧ p < m ∧ R 1 p = R 1 i + 1)) → p ≤ q ∧ (q = i ∨ (i < q ∧ q < m ∧ R 1 q = R 1 i + 1)) ∧ (∀ j, i < j → j ≤ q → R 1 i < R 1 j) ∧ ∀ c ∈ cs, c ≤ q := by
  intro cs
  induction cs with
  | nil => intro p l q h hp h1; obtain ⟨h, _⟩ := h; subst h; exact ⟨Int.le_refl _, h1, hp, fun y hy => by cases hy⟩
  | cons c cs ih =>
    intro p l q h hp h1
    obtain ⟨a0, a1, a2, a3, a4, a5⟩ := h
    have hlt := nxt_lt a1
    have hd := nxt_deep a1 a3 hp
    obtain ⟨b1, b2, b3, b4⟩ := ih a5 hd (Or.inr ⟨hlt.1, a4, a3⟩)
    refine ⟨by omega, b2, b3, fun z hz => ?_⟩
    rcases List.mem_cons.mp hz with e | hz
    · rw [e]; exact b1
    · exact b4 z hz
theorem chc_u {R : Rw} {m i : Int} (hi : 0 ≤ i) : ∀ (cs cs' : List Int) {p l q q' : Int}, chc R m i p l cs q → chc R m i p l cs' q' → cs = cs' ∧ q = q' := by
  intro cs
  induction cs with
  | nil =>
    intro cs' p l q q' h h'
    obtain ⟨h1, h2⟩ := h
    cases cs' with
    | nil => obtain ⟨h3, _⟩ := h'; exact ⟨rfl, by omega⟩
    | cons c cs' => obtain ⟨a0, a1, _⟩ := h'; have := nxt_lt a1; omega
  | cons c cs ih =>
    intro cs' p l q q' h h'
    obtain ⟨a0, a1, a2, a3, a4, a5⟩ := h
    cases cs' with
    | nil => obtain ⟨_, h3⟩ := h'; have := nxt_lt a1; omega
    | cons c' cs' =>
      obtain ⟨b0, b1, b2, b3, b4, b5⟩ := h'
      have ec : c = c' := by omega
      subst ec
      obtain ⟨e1, e2⟩ := ih cs' a5 b5
      exact ⟨by rw [e1], e2⟩
theorem isK_d {R : Rw} {m i j : Int} (hT : TR R m i) (h : isK R m i j) : R 1 j = R 1 i + 1 ∧ i < j ∧ ∀ x, i < x → x ≤ j → R 1 i < R 1 x := by
  obtain ⟨_, cs, q0, q, h1, h2, h3⟩ := hT
  have h0 : (∀ x, i < x → x ≤ q0 → R 1 i < R 1 x) ∧ (q0 = i ∨ (i < q0 ∧ q0 < m ∧ R 1 q0 = R 1 i + 1)) := by
    by_cases c : R 0 i = 3
    · have := chc_all cs (h1 c).1 (fun x a b => by omega) (Or.inl rfl)
      exact ⟨this.2.2.1, this.2.1⟩
    · rw [h2 c]; exact ⟨fun x a b => by omega, Or.inl rfl⟩
  obtain ⟨b1, b2, b3, b4, b5⟩ := lks_all _ h3 h0.1 h0.2
  rcases h with ⟨y, hy, e⟩ | ⟨_, cs', q0', hc, hj⟩
  · obtain ⟨c1, c2, c3, c4⟩ := b5 y hy
    rw [e]; exact ⟨c1, c2, fun x a b => b4 x a (by omega)⟩
  · obtain ⟨c1, _, c3, _, c5⟩ := chc_mem cs' hc (fun x a b => by omega) j hj
    exact ⟨c3, c1, c5⟩
/-- behind the last part is behind the node -/
theorem lastE {R : Rw} {m i : Int} (hW : WFP R m) (hP : prT R m) (hi : 0 ≤ i ∧ i < m) (he : ∀ j, 0 ≤ j → j < m → ends (R 1) m j (eN R m j)) {cs : List Int} {q0 q : Int} (h1 : R 0 i = 3 → chc R m i i (R 16 i) cs q0) (h2 : R 0 i ≠ 3 → q0 = i) (h3 : lks R m i q0 (kids (R 0 i)) q) : nxE R m i q = eN R m i := by
  have h0 : (∀ x, i < x → x ≤ q0 → R 1 i < R 1 x) ∧ (q0 = i ∨ (i < q0 ∧ q0 < m ∧ R 1 q0 = R 1 i + 1)) ∧ (R 0 i = 3 → ∀ c ∈ cs, c ≤ q0) := by
    by_cases c : R 0 i = 3
    · have := chc_all cs (h1 c) (fun x a b => by omega) (Or.inl rfl)
      exact ⟨this.2.2.1, this.2.1, fun _ => this.2.2.2⟩
    · rw [h2 c]; exact ⟨fun x a b => by omega, Or.inl rfl, fun z => absurd z c⟩
  obtain ⟨b1, b2, b3, b4, b5⟩ := lks_all _ h3 h0.1 h0.2.1
  have hD : ∀ j, 0 ≤ j → j < m → 0 ≤ R 1 j := fun j a b => (hW.2.2 j a b).2.2.1.1
  have noK : ∀ j, isK R m i j → j ≤ q := fun j hj => by
    rcases hj with ⟨y, hy, e⟩ | ⟨k3, cs', q0', hc, hj⟩
    · rw [e]; exact (b5 y hy).2.2.1
    · have := (chc_u hi.1 cs' cs hc (h1 k3)).1
      rw [this] at hj
      have := h0.2.2 k3 j hj
      omega
  have key : ∀ e', i < e' → e' < m → q < e' → (∀ x, i < x → x < e' → R 1 i < R 1 x) → R 1 e' ≤ R 1 i + 1 → R 1 e' ≤ R 1 i := fun e' e1 e2 e3 e4 e5 => by
    apply Decidable.byContradiction
    intro hn
    have := hD i hi.1 hi.2
    rcases hP e' (by omega) e2 with z | ⟨i', i0, i1, ik⟩
    · omega
    · obtain ⟨k1, k2, k3⟩ := isK_d (hW.2.2 i' i0 (by omega)).1 ik
      by_cases c1 : i' = i
      · rw [c1] at ik; have := noK e' ik; omega
      · by_cases c2 : i' < i
        · have := k3 i c2 (by omega); omega
        · have := e4 i' (by omega) i1; omega
  unfold nxE
  by_cases c : q = i
  · rw [if_pos c]
    refine (eN_eq ⟨by omega, by omega, fun x a b => by omega, fun z => ?_⟩).symm
    refine key (i + 1) (by omega) z (by omega) (fun x a b => by omega) ?_
    apply Decidable.byContradiction
    intro hn
    have := hD i hi.1 hi.2
    rcases hP (i + 1) (by omega) z with z' | ⟨i', i0, i1, ik⟩
    · omega
    · obtain ⟨k1, k2, k3⟩ := isK_d (hW.2.2 i' i0 (by omega)).1 ik
      by_cases c1 : i' = i
      · rw [c1] at k1; omega
      · have := k3 i (by omega) (by omega); omega
  · rw [if_neg c]
    have hq : i < q ∧ q < m ∧ R 1 q = R 1 i + 1 := by
      rcases b2 with z | z
      · exact absurd z c
      · exact z
    obtain ⟨a1, a2, a3, a4⟩ := he q (by omega) hq.2.1
    generalize eN R m q = e' at a1 a2 a3 a4
    have hall : ∀ x, i < x → x < e' → R 1 i < R 1 x := fun x x1 x2 => by
      by_cases c3 : x ≤ q
      · exact b4 x x1 c3
      · have := a3 x (by omega) x2; omega
    exact (eN_eq ⟨by omega, a2, hall, fun z => key e' (by omega) z a1 hall (by have := a4 z; omega)⟩).symm
/-- the next part stands where the one before ends -/
theorem nxE_c {R : Rw} {m i p c : Int} (hi : 0 ≤ i) (hp : i ≤ p) (he : ∀ j, 0 ≤ j → j < m → ends (R 1) m j (eN R m j)) (h : nxt R i p c) (hc : c < m) : nxE R m i p = c := by
  unfold nxE
  rcases h with ⟨h1, h2⟩ | ⟨h1, h2, h3⟩
  · rw [if_pos h1]; omega
  · rw [if_neg (by omega)]
    exact ends_nx h3 hc (he p (by omega) (by have := h3.1; omega))
