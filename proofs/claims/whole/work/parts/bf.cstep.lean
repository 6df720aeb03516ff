/-! contracts: their parts; the class's time, its cases -/
theorem kids_c {R : Rw} {m n : Int} (h : TR R m n) (hk : R 0 n = 1 ∨ R 0 n = 2 ∨ R 0 n = 4 ∨ R 0 n = 5) :
    (R 16 n = n + 1 ∧ n + 1 < m ∧ R 1 (n + 1) = R 1 n + 1 ∧ ((R 0 n = 1 ∨ R 0 n = 4) → vkd (R 0 (n + 1))) ∧ ((R 0 n = 2 ∨ R 0 n = 5) → okd (R 0 (n + 1)))) ∧
    (nx R (n + 1) (R 17 n) ∧ n + 1 < R 17 n ∧ R 17 n < m ∧ R 1 (R 17 n) = R 1 n + 1 ∧ bgn 99 (R 0 (R 17 n))) ∧
    (R 0 n = 2 → nx R (R 17 n) (R 18 n) ∧ R 17 n < R 18 n ∧ R 18 n < m ∧ R 1 (R 18 n) = R 1 n + 1 ∧ bgn 99 (R 0 (R 18 n))) := by
  obtain ⟨_, cs, q0, q, _, h2, h3⟩ := h
  have hq0 := h2 (by omega)
  subst hq0
  have one : ∀ {s : Int} {L : List (Int × Int)}, lks R m q0 q0 ((s, 1) :: L) q → R 16 q0 = q0 + 1 ∧ q0 + 1 < m ∧ R 1 (q0 + 1) = R 1 q0 + 1 ∧ bgn s (R 0 (q0 + 1)) ∧ lks R m q0 (q0 + 1) L q := fun {s L} hh => by
    obtain ⟨a1, a2, a3, a4, a5⟩ := hh
    have e : R 16 q0 = q0 + 1 := nxt_0 a1
    have a2 : bgn s (R 0 (R 16 q0)) := a2
    have a3 : R 1 (R 16 q0) = R 1 q0 + 1 := a3
    have a4 : R 16 q0 < m := a4
    have a5 : lks R m q0 (R 16 q0) L q := a5
    rw [e] at a2 a3 a4 a5
    exact ⟨e, a4, a3, a2, a5⟩
  have two : ∀ {s : Int} {L : List (Int × Int)}, lks R m q0 (q0 + 1) ((s, 2) :: L) q → nx R (q0 + 1) (R 17 q0) ∧ q0 + 1 < R 17 q0 ∧ R 17 q0 < m ∧ R 1 (R 17 q0) = R 1 q0 + 1 ∧ bgn s (R 0 (R 17 q0)) ∧ lks R m q0 (R 17 q0) L q := fun {s L} hh => by
    obtain ⟨a1, a2, a3, a4, a5⟩ := hh
    have a1 : nxt R q0 (q0 + 1) (R 17 q0) := a1
    exact ⟨nxt_1 a1 (by omega), (nxt_lt a1).2, a4, a3, a2, a5⟩
  rcases hk with hk | hk | hk | hk
  · rw [hk] at h3 ⊢
    obtain ⟨b1, b2, b3, b4, b5⟩ := one h3
    obtain ⟨d1, d2, d3, d4, d5, d6⟩ := two b5
    exact ⟨⟨b1, b2, b3, fun _ => bgn_v b4, fun z => by omega⟩, ⟨d1, d2, d3, d4, d5⟩, fun z => by omega⟩
  · rw [hk] at h3 ⊢
    obtain ⟨b1, b2, b3, b4, b5⟩ := one h3
    obtain ⟨d1, d2, d3, d4, d5, d6⟩ := two b5
    obtain ⟨a1, a2, a3, a4, _⟩ := d6
    have a1 : nxt R q0 (R 17 q0) (R 18 q0) := a1
    exact ⟨⟨b1, b2, b3, fun z => by omega, fun _ => bgn_o b4⟩, ⟨d1, d2, d3, d4, d5⟩, fun _ => ⟨nxt_1 a1 (by omega), (nxt_lt a1).2, a4, a3, a2⟩⟩
  · rw [hk] at h3 ⊢
    obtain ⟨b1, b2, b3, b4, b5⟩ := one h3
    obtain ⟨d1, d2, d3, d4, d5, d6⟩ := two b5
    exact ⟨⟨b1, b2, b3, fun _ => bgn_v b4, fun z => by omega⟩, ⟨d1, d2, d3, d4, d5⟩, fun z => by omega⟩
  · rw [hk] at h3 ⊢
    obtain ⟨b1, b2, b3, b4, b5⟩ := one h3
    obtain ⟨d1, d2, d3, d4, d5, d6⟩ := two b5
    exact ⟨⟨b1, b2, b3, fun z => by omega, fun _ => bgn_o b4⟩, ⟨d1, d2, d3, d4, d5⟩, fun z => by omega⟩
theorem kids_w {R : Rw} {m n : Int} (h : TR R m n) (hk : R 0 n = 3) : ∃ (cs : List Int) (q0 : Int), chc R m n n (R 16 n) cs q0 ∧ cs.length ≤ 8 ∧ nxt R n q0 (R 17 n) ∧ n < R 17 n ∧ R 17 n < m ∧ R 1 (R 17 n) = R 1 n + 1 ∧ bgn 99 (R 0 (R 17 n)) := by
  obtain ⟨_, cs, q0, q, h1, h2, h3⟩ := h
  obtain ⟨c1, c2, c3⟩ := h1 hk
  rw [hk] at h3
  obtain ⟨a1, a2, a3, a4, a5⟩ := h3
  have a1 : nxt R n q0 (R 17 n) := a1
  exact ⟨cs, q0, c1, c3, a1, (nxt_lt a1).1, a4, a3, a2⟩
section CSTEP
variable {g : im_g} {d : Nat} {e : im_E} {M : im_M} {K : im_K} {R : Rw} {m E : Int} {giv : Bk} {st en lk fl : Int} {s : TS} {bs bp np : Nat}
theorem c_isCase {n : Int} (hC : CP M R m E) (hm : m ≤ 5000) (n0 : 0 ≤ n) (n1 : n < m) (hK1 : 28 ≤ R 0 n ∧ R 0 n ≤ 30 → K (.inl (some (vI 1))) e M) (hK0 : ¬ (28 ≤ R 0 n ∧ R 0 n ≤ 30) → K (.inl (some (vI 0))) e M) : im_T g d 116 0 [some (.ref 13), some (vI n)] [] e M K := by
  have r1 : M 14 n = R 0 n := (hC.2 n n0 n1).1.1
  refine k_Pool_isCase_0 ?_
  rw [r1]
  exact ⟨by constructor <;> omega, fun _ _ => ⟨by constructor <;> omega, fun a b => hK1 ⟨a, b⟩⟩, fun z => hK0 (by omega)⟩
/-- the next of a when's cases, or its contract -/
def hdc (cs : List Int) (c : Int) : Int := match cs with
  | [] => c
  | a :: _ => a
theorem hdc_nx {R : Rw} {m n p l q0 c : Int} {cs : List Int} (h : chc R m n p l cs q0) (hc : nxt R n q0 c) : nxt R n p (hdc cs c) := by
  cases cs with
  | nil => rw [h.1]; exact hc
  | cons a cs => exact h.2.1
theorem l_behindCases {n q0 : Int} (hC : CP M R m E) (hW : WFP R m) (hk : nxt R n q0 (R 17 n)) (hb : bgn 99 (R 0 (R 17 n))) (h17 : R 17 n < m) (n0 : 0 ≤ n) (hd : 1 ≤ d) (hK : K (.inl (some (vI (R 17 n)))) e M) : ∀ (cs : List Int) (p l i : Int), chc R m n p l cs q0 → n ≤ p → 0 ≤ i → i + cs.length ≤ 8 → im_T g d 115 6 [some (.ref 13), none, some (vI (hdc cs (R 17 n))), some (vI i)] [] e M K := by
  have hm := hW.2.1
  intro cs
  induction cs with
  | nil =>
    intro p l i h hp i0 hi
    have h0 := (nxt_lt hk).1
    have hi : i + 0 ≤ 8 := hi
    refine k_Pool_behindCases_6 hd ⟨by constructor <;> omega, fun _ => hK, fun _ => c_isCase hC hm (by show 0 ≤ R 17 n; omega) h17 (fun z => ?_) (fun z => ⟨_, rfl, rfl, by decide, fun _ => hK, fun w => absurd rfl w⟩)⟩
    have z : 28 ≤ R 0 (R 17 n) ∧ R 0 (R 17 n) ≤ 30 := z
    unfold bgn at hb; omega
  | cons c cs ih =>
    intro p l i h hp i0 hi
    have hl : (c :: cs).length = cs.length + 1 := rfl
    obtain ⟨a1, a2, a3, a4, a5, a6⟩ := h
    have hlt := nxt_lt a2
    have h31 := (hW.2.2 c (by omega) a5).1.1.2
    refine k_Pool_behindCases_6 hd ⟨by constructor <;> omega, fun z => by omega, fun _ => c_isCase hC hm (by show 0 ≤ c; omega) a5 (fun z => ⟨_, rfl, rfl, by decide, fun w => absurd w (by decide), fun _ => ⟨by show 0 ≤ c ∧ c < 5000; omega, ?_⟩⟩) (fun z => ?_)⟩
    · have hn := nxt_1 (hdc_nx a6 hk) (by omega)
      have hlt2 : hdc cs (R 17 n) < m := by
        cases cs with
        | nil => exact h17
        | cons b cs => exact a6.2.2.2.2.1
      have e15 : M 15 c = hdc cs (R 17 n) := ends_nx hn hlt2 (hC.2 c (by omega) a5).2
      show im_T g d 115 6 [some (.ref 13), none, some (vI (M 15 c)), some (vI (i + 1))] [] e M K
      rw [e15]
      exact ih c _ (i + 1) a6 (by omega) (by omega) (by omega)
    · have z : ¬ (28 ≤ R 0 c ∧ R 0 c ≤ 30) := z
      omega
theorem c_behindCases {n : Int} (hC : CP M R m E) (hW : WFP R m) (n0 : 0 ≤ n) (n1 : n < m) (hk : R 0 n = 3) (hd : 1 ≤ d) (hK : K (.inl (some (vI (R 17 n)))) e M) : im_T g d 115 0 [some (.ref 13), some (vI n), none, none] [] e M K := by
  obtain ⟨cs, q0, c1, c2, c3, c4, c5, c6, c7⟩ := kids_w (hW.2.2 n n0 n1).1 hk
  have h := l_behindCases (g := g) (d := d) (e := e) (K := K) hC hW c3 c7 c5 n0 hd hK cs n (R 16 n) 0 c1 (Int.le_refl _) (Int.le_refl _) (by omega)
  have hh := nxt_0 (hdc_nx c1 c3)
  rw [hh] at h
  exact k_Pool_behindCases_0 h
theorem c_lastPart {n : Int} (hC : CP M R m E) (hW : WFP R m) (n0 : 0 ≤ n) (n1 : n < m) (hk : R 0 n ≠ 29) (h1 : n + 1 < m) (hnx : nx R (n + 1) (R 17 n)) (h17 : R 17 n < m) (hK : K (.inl (some (vI (R 17 n)))) e M) : im_T g d 138 0 [some (.ref 13), some (vI n)] [] e M K := by
  have hm := hW.2.1
  have r1 : M 14 n = R 0 n := (hC.2 n n0 n1).1.1
  have e15 : M 15 (n + 1) = R 17 n := ends_nx hnx h17 (hC.2 (n + 1) (by omega) h1).2
  refine k_Pool_lastPart_0 ?_
  rw [r1, e15]
  refine ⟨by constructor <;> omega, fun _ => by constructor <;> omega, fun x hx => ?_⟩
  have : x = R 17 n := by omega
  rw [this]; exact hK
theorem asT_i64 (v : Int) : im_i64 (asT v) := by unfold asT; split <;> constructor <;> omega
theorem c_timeOf {n : Int} (hC : CP M R m E) (hE : CEb M e (s.env giv st en) bs bp np) (hm : m ≤ 5000) (n0 : 0 ≤ n) (n1 : n < m) (hd : 2 ≤ d) (hK : im_i64 (tmo R giv n) → K (.inl (some (vL (tmo R giv n)))) e M) : im_T g d 113 0 [some (.ref 931), some (vI n), none, none] [] e M K := by
  refine im_rng (j := n) sf_20 n0 (by show n < 5000; omega) (fun hr20 => im_rng (j := n) sf_19 n0 (by show n < 5000; omega) (fun hr19 => ?_))
  have hr20 : im_i64 (M 20 n) := hr20
  have hr19 : im_i64 (M 19 n) := hr19
  obtain ⟨r1, r2, r3, r4, r5, _⟩ := (hC.2 n n0 n1).1
  rw [r5] at hr20
  rw [r4] at hr19
  unfold tmo at hK
  refine k_Machine_timeOf_0 (by omega) ?_
  rw [r4, r5]
  refine ⟨by constructor <;> omega, fun h => ?_, fun h => by rw [if_pos h] at hK; exact hK hr19⟩
  rw [if_neg h] at hK
  obtain ⟨⟨e1, e2⟩, ⟨s1, s2, s3, s4, s5⟩, e3, e4, ⟨b1, b2, b3, b4⟩, _⟩ := hE
  exact ⟨bp, e2, np, s5.1, c_heldB (p := 0) s5 b4 hr20 (by decide) (by omega) (fun c c1 c2 c3 c4 => ⟨_, rfl, rfl, c1, c_asTime c1 c4 ⟨_, rfl, rfl, hK (asT_i64 _)⟩⟩)⟩
theorem c_isQuiet {t : Int} (hC : CT M e R m E giv st en lk fl s bs bp np) (hm : m ≤ 5000) (n0 : 0 ≤ s.nd) (n1 : s.nd < m) (ht : im_i64 t) (hd : 3 ≤ d)
    (hK1 : (R 0 s.nd = 0 ∧ s.acc.1 = 0) ∨ (R 0 s.nd = 3 ∧ t < tmo R giv s.nd) → K (.inl (some (vI 1))) e M) (hK0 : ¬ ((R 0 s.nd = 0 ∧ s.acc.1 = 0) ∨ (R 0 s.nd = 3 ∧ t < tmo R giv s.nd)) → K (.inl (some (vI 0))) e M) : im_T g d 112 0 [some (.ref 931), some (vL t), none, none] [] e M K := by
  have hE := hC.1
  have hCP := hC.2.1
  have h5 : M bs 5 = s.nd := hC.2.2.2.1.2.2.2
  have r1 : M 14 s.nd = R 0 s.nd := (hCP.2 _ n0 n1).1.1
  have hb := hE.1.1
  have hst := hE.2.1.1
  obtain ⟨π, k1, _⟩ := hE.2.2.2.2.1.1
  have k4 : M (bs + 1) 4 = (s.acc.1 : Int) := k1.1
  refine k_Machine_isQuietAt_0 (by omega) ⟨bs, hb, hst, ?_⟩
  rw [h5, r1]
  refine ⟨by constructor <;> omega, fun h0 => ⟨fun h3 => hK0 (by omega), fun h3 => ⟨bs, hb, hst, ?_⟩⟩, fun h0 => ⟨bs, hb, hst, fun x hx => ?_⟩⟩
  · rw [h5]
    exact c_timeOf hCP hE hm n0 n1 (by omega) (fun hi => ⟨_, rfl, rfl, ht, hi, fun z => hK0 (by omega), fun z => hK1 (Or.inr ⟨h3, z⟩)⟩)
  · rw [k4] at hx
    by_cases c : s.acc.1 = 0
    · have : x = 1 := by omega
      rw [this]; exact hK1 (Or.inl ⟨h0, c⟩)
    · have : x = 0 := by omega
      rw [this]; exact hK0 (by omega)
end CSTEP
