/-! VALUES AND OBSERVATIONS: what both sides work out -/
abbrev Bk : Type := Nat × (Int → Int) × (Int → Int) × (Int → Int)
noncomputable def ps (β : Bk) (a b : Int) : Int := Classical.choose (posn_ex β.1 β.2.1 β.2.2.1 a b)
theorem ps_ok (β : Bk) (a b : Int) : posn β.1 β.2.1 β.2.2.1 a b (ps β a b) := Classical.choose_spec (posn_ex β.1 β.2.1 β.2.2.1 a b)
abbrev hs2 (β : Bk) (a b : Int) : Prop := ps β a b < (β.1 : Int) ∧ β.2.1 (ps β a b) = a ∧ β.2.2.1 (ps β a b) = b
noncomputable def hld (β : Bk) (a b : Int) : Int := if hs2 β a b then β.2.2.2 (ps β a b) else 0
/-- accounts, choices, lets, parameters, start, end -/
abbrev Env : Type := Bk × Bk × Bk × Bk × Int × Int
noncomputable def lim (v : Int) : Option Int := if -LIM < v ∧ v < LIM then some v else none
abbrev lfk (k : Int) : Prop := k = 6 ∨ k = 12 ∨ k = 13 ∨ k = 14 ∨ k = 15 ∨ k = 34 ∨ k = 35 ∨ k = 20 ∨ k = 26 ∨ k = 27
noncomputable def lfv (R : Rw) (Γ : Env) (n : Int) : Int :=
  if R 0 n = 34 then R 7 n else if R 0 n = 35 then hld Γ.2.2.2.1 (R 4 n) 0 else if R 0 n = 6 then hld Γ.1 (R 4 n) (R 5 n)
  else if R 0 n = 12 then hld Γ.2.1 (R 4 n) (R 5 n) else if R 0 n = 15 then hld Γ.2.2.1 (R 4 n) 0 else if R 0 n = 13 then Γ.2.2.2.2.1
  else if R 0 n = 14 then Γ.2.2.2.2.2 else if R 0 n = 20 then (if hs2 Γ.2.1 (R 4 n) (R 5 n) then 1 else 0) else if R 0 n = 26 then 1 else 0
def so (k x y : Int) : Int := if k = 21 then (if y ≤ x then 1 else 0) else if k = 22 then (if y < x then 1 else 0) else if k = 23 then (if x ≤ y then 1 else 0) else if k = 24 then (if x < y then 1 else 0) else (if x = y then 1 else 0)
noncomputable def opv (k x y : Int) : Option Int :=
  if k = 8 then lim (x + y) else if k = 9 then lim (x - y) else if k = 10 then lim (x * y) else if k = 11 then some (x.tdiv y)
  else if k = 17 then some (if x = 1 ∧ y = 1 then 1 else 0) else if k = 18 then some (if x = 1 ∨ y = 1 then 1 else 0)
  else some (so k x y)
noncomputable def ev (R : Rw) (Γ : Env) : Nat → Int → Option Int
  | 0, _ => none
  | f + 1, n => if lfk (R 0 n) then some (lfv R Γ n) else (ev R Γ f (R 16 n)).bind (fun x => if R 0 n = 7 then some (-x) else if R 0 n = 19 then some (1 - x) else if R 0 n = 16 then (if x = 1 then ev R Γ f (R 17 n) else ev R Γ f (R 18 n)) else (ev R Γ f (R 17 n)).bind (fun y => opv (R 0 n) x y))
/-- a pool of nodes -/
def WFP (R : Rw) (m : Int) : Prop := 0 ≤ m ∧ m ≤ 5000 ∧ ∀ i, 0 ≤ i → i < m → TR R m i ∧ nmv R i ∧ (0 ≤ R 1 i ∧ R 1 i ≤ 100) ∧ (R 0 i = 29 → 1 ≤ R 6 i ∧ R 6 i ≤ 4)
abbrev vkd (k : Int) : Prop := (6 ≤ k ∧ k ≤ 16) ∨ k = 34 ∨ k = 35
abbrev okd (k : Int) : Prop := 17 ≤ k ∧ k ≤ 27
theorem ends_nx {R : Rw} {m p c e : Int} (h : nx R p c) (hc : c < m) (he : ends (R 1) m p e) : e = c := by
  obtain ⟨a1, a2, a3⟩ := h
  obtain ⟨b1, b2, b3, b4⟩ := he
  apply Decidable.byContradiction
  intro hne
  by_cases hlt : e < c
  · have := a2 e b1 hlt; have := b4 (by omega); omega
  · have := b3 c a1 (by omega); omega
theorem nxt_0 {R : Rw} {i c : Int} (h : nxt R i i c) : c = i + 1 := by
  rcases h with h | h <;> omega
theorem nxt_1 {R : Rw} {i p c : Int} (h : nxt R i p c) (hp : i < p) : nx R p c := by
  rcases h with h | h
  · omega
  · exact h.2.2
/-- the parts of a value or an observation -/
def srt1 (k : Int) : Int := if k = 16 ∨ k = 17 ∨ k = 18 ∨ k = 19 then 111 else 118
def srt2 (k : Int) : Int := if k = 17 ∨ k = 18 then 111 else 118
theorem kids_v {R : Rw} {m n : Int} (h : TR R m n) (hk : vkd (R 0 n) ∨ okd (R 0 n)) (hl : ¬ lfk (R 0 n)) :
    (R 16 n = n + 1 ∧ n + 1 < m ∧ R 1 (n + 1) = R 1 n + 1 ∧ bgn (srt1 (R 0 n)) (R 0 (n + 1))) ∧
    (R 0 n ≠ 7 → R 0 n ≠ 19 → nx R (n + 1) (R 17 n) ∧ n + 1 < R 17 n ∧ R 17 n < m ∧ R 1 (R 17 n) = R 1 n + 1 ∧ bgn (srt2 (R 0 n)) (R 0 (R 17 n))) ∧
    (R 0 n = 16 → nx R (R 17 n) (R 18 n) ∧ R 17 n < R 18 n ∧ R 18 n < m ∧ R 1 (R 18 n) = R 1 n + 1 ∧ bgn 118 (R 0 (R 18 n))) := by
  obtain ⟨_, cs, q0, q, _, h2, h3⟩ := h
  have hq0 := h2 (by unfold vkd okd at hk; omega)
  subst hq0
  have one : ∀ {s : Int} {L : List (Int × Int)}, lks R m q0 q0 ((s, 1) :: L) q → R 16 q0 = q0 + 1 ∧ q0 + 1 < m ∧ R 1 (q0 + 1) = R 1 q0 + 1 ∧ bgn s (R 0 (q0 + 1)) ∧ lks R m q0 (q0 + 1) L q := fun {s L} hh => by
    obtain ⟨a1, a2, a3, a4, a5⟩ := hh
    have e : R 16 q0 = q0 + 1 := nxt_0 a1
    have a2 : bgn s (R 0 (R 16 q0)) := a2
    have a3 : R 1 (R 16 q0) = R 1 q0 + 1 := a3
    have a4 : R 16 q0 < m := a4
    have a5 : lks R m q0 (R 16 q0) L q := a5
    rw [e] at a2 a3 a4 a5
    exact ⟨e, a4, a3, a2, a5⟩
  have two : ∀ {s : Int} {L : List (Int × Int)}, lks R m q0 (q0 + 1) ((s, 2) :: L) q → nx R (q0 + 1) (R 17 q0) ∧ q0 + 1 < R 17 q0 ∧ R 17 q0 < m ∧ R 1 (R 17 q0) = R 1 q0 + 1 ∧ bgn s (R 0 (R 17 q0)) ∧ lks R m q0 (R 17 q0) L q := fun {s L} hh => by
    obtain ⟨a1, a2, a3, a4, a5⟩ := hh
    have a1 : nxt R q0 (q0 + 1) (R 17 q0) := a1
    exact ⟨nxt_1 a1 (by omega), (nxt_lt a1).2, a4, a3, a2, a5⟩
  have hkk := hl
  by_cases c16 : R 0 q0 = 16
  · rw [c16] at h3 ⊢
    obtain ⟨b1, b2, b3, b4, b5⟩ := one h3
    obtain ⟨d1, d2, d3, d4, d5, d6⟩ := two b5
    obtain ⟨a1, a2, a3, a4, _⟩ := d6
    have a1 : nxt R q0 (R 17 q0) (R 18 q0) := a1
    exact ⟨⟨b1, b2, b3, b4⟩, fun _ _ => ⟨d1, d2, d3, d4, d5⟩, fun _ => ⟨nxt_1 a1 (by omega), (nxt_lt a1).2, a4, a3, a2⟩⟩
  by_cases c7 : R 0 q0 = 7
  · rw [c7] at h3 ⊢
    obtain ⟨b1, b2, b3, b4, b5⟩ := one h3
    exact ⟨⟨b1, b2, b3, b4⟩, fun z => absurd rfl z, fun z => absurd z (by decide)⟩
  by_cases c19 : R 0 q0 = 19
  · rw [c19] at h3 ⊢
    obtain ⟨b1, b2, b3, b4, b5⟩ := one h3
    exact ⟨⟨b1, b2, b3, b4⟩, fun _ z => absurd rfl z, fun z => absurd z (by decide)⟩
  by_cases c17 : R 0 q0 = 17 ∨ R 0 q0 = 18
  · have hkd : kids (R 0 q0) = [(111, 1), (111, 2)] := by rcases c17 with z | z <;> rw [z] <;> rfl
    rw [hkd] at h3
    obtain ⟨b1, b2, b3, b4, b5⟩ := one h3
    obtain ⟨d1, d2, d3, d4, d5, d6⟩ := two b5
    have s1 : srt1 (R 0 q0) = 111 := by unfold srt1; rw [if_pos (by omega)]
    have s2 : srt2 (R 0 q0) = 111 := by unfold srt2; rw [if_pos (by omega)]
    rw [s1, s2]
    exact ⟨⟨b1, b2, b3, b4⟩, fun _ _ => ⟨d1, d2, d3, d4, d5⟩, fun z => absurd z c16⟩
  · have hkk2 : (8 ≤ R 0 q0 ∧ R 0 q0 ≤ 11) ∨ (21 ≤ R 0 q0 ∧ R 0 q0 ≤ 25) := by unfold vkd okd at hk; unfold lfk at hl; omega
    have hkd : kids (R 0 q0) = [(118, 1), (118, 2)] := by
      unfold kids shp
      rw [if_neg (by omega), if_neg (by omega), if_neg (by omega), if_neg (by omega), if_neg (by omega), if_neg (by omega), if_neg (by omega), if_neg (by omega), if_neg (by omega), if_neg (by omega), if_neg (by omega), if_pos hkk2]
      rfl
    rw [hkd] at h3
    obtain ⟨b1, b2, b3, b4, b5⟩ := one h3
    obtain ⟨d1, d2, d3, d4, d5, d6⟩ := two b5
    have s1 : srt1 (R 0 q0) = 118 := by unfold srt1; rw [if_neg (by omega)]
    have s2 : srt2 (R 0 q0) = 118 := by unfold srt2; rw [if_neg (by omega)]
    rw [s1, s2]
    exact ⟨⟨b1, b2, b3, b4⟩, fun _ _ => ⟨d1, d2, d3, d4, d5⟩, fun z => absurd z c16⟩
theorem bgn_v {k : Int} (h : bgn 118 k) : vkd k := by unfold bgn at h; unfold vkd; omega
theorem bgn_o {k : Int} (h : bgn 111 k) : okd k := by unfold bgn at h; unfold okd; omega
theorem bgn_s {s k : Int} (h : bgn s k) (hs : s = 111 ∨ s = 118) : vkd k ∨ okd k := by unfold bgn at h; unfold vkd okd; omega
theorem srt1_2 (k : Int) : srt1 k = 111 ∨ srt1 k = 118 := by unfold srt1; split <;> simp
theorem srt2_2 (k : Int) : srt2 k = 111 ∨ srt2 k = 118 := by unfold srt2; split <;> simp
theorem lfv_01 {R : Rw} {Γ : Env} {n : Int} (hk : okd (R 0 n)) : lfv R Γ n = 0 ∨ lfv R Γ n = 1 := by
  unfold okd at hk
  unfold lfv
  rw [if_neg (by omega), if_neg (by omega), if_neg (by omega), if_neg (by omega), if_neg (by omega), if_neg (by omega), if_neg (by omega)]
  by_cases c : R 0 n = 20
  · rw [if_pos c]; split
    · exact Or.inr rfl
    · exact Or.inl rfl
  · rw [if_neg c]; split
    · exact Or.inr rfl
    · exact Or.inl rfl
theorem opv_01 {k x y w : Int} (hk : okd k) (h : opv k x y = some w) : w = 0 ∨ w = 1 := by
  unfold okd at hk
  unfold opv at h
  rw [if_neg (by omega), if_neg (by omega), if_neg (by omega), if_neg (by omega)] at h
  unfold so at h
  (repeat' (split at h)) <;> (injection h with h; omega)
/-- an observation is 0 or 1 -/
theorem ev_01 {R : Rw} {Γ : Env} {m : Int} (hW : WFP R m) : ∀ (f : Nat) (n x : Int), 0 ≤ n → n < m → okd (R 0 n) → ev R Γ f n = some x → x = 0 ∨ x = 1 := by
  intro f
  induction f with
  | zero => intro n x _ _ _ h; cases h
  | succ f ih =>
    intro n x n0 n1 hk h
    have h : (if lfk (R 0 n) then some (lfv R Γ n) else (ev R Γ f (R 16 n)).bind (fun x => if R 0 n = 7 then some (-x) else if R 0 n = 19 then some (1 - x) else if R 0 n = 16 then (if x = 1 then ev R Γ f (R 17 n) else ev R Γ f (R 18 n)) else (ev R Γ f (R 17 n)).bind (fun y => opv (R 0 n) x y))) = some x := h
    by_cases hl : lfk (R 0 n)
    · rw [if_pos hl] at h
      injection h with h
      rw [← h]; exact lfv_01 hk
    rw [if_neg hl] at h
    obtain ⟨⟨k1, k2, k3, k4⟩, k5, _⟩ := kids_v (hW.2.2 n n0 n1).1 (Or.inr hk) hl
    cases he : ev R Γ f (R 16 n) with
    | none => rw [he] at h; cases h
    | some y =>
      rw [he] at h
      have h : (if R 0 n = 7 then some (-y) else if R 0 n = 19 then some (1 - y) else if R 0 n = 16 then (if y = 1 then ev R Γ f (R 17 n) else ev R Γ f (R 18 n)) else (ev R Γ f (R 17 n)).bind (fun z => opv (R 0 n) y z)) = some x := h
      have hk' := hk
      unfold okd at hk'
      rw [if_neg (by omega)] at h
      by_cases c19 : R 0 n = 19
      · rw [if_pos c19] at h
        injection h with h
        have hs : srt1 (R 0 n) = 111 := by unfold srt1; rw [if_pos (by omega)]
        rw [hs] at k4
        rw [k1] at he
        have := ih (n + 1) y (by omega) k2 (bgn_o k4) he
        omega
      · rw [if_neg c19, if_neg (by omega)] at h
        cases he2 : ev R Γ f (R 17 n) with
        | none => rw [he2] at h; cases h
        | some z => rw [he2] at h; exact opv_01 hk h
