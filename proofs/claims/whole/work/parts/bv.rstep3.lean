theorem bdeb_cnt (β : Bk) (a b v : Int) : (bdeb β a b v).1 ≤ β.1 := by
  unfold bdeb
  split
  · split
    · show β.1 - 1 ≤ β.1; omega
    · exact Nat.le_refl _
  · exact Nat.le_refl _
theorem bcre_cnt {β β' : Bk} {n : Nat} {a b v : Int} (h : bcre β n a b v = .inr β') : β'.1 ≤ β.1 + 1 := by
  unfold bcre at h
  by_cases c : hs2 β a b
  · rw [if_pos c] at h
    by_cases c2 : -LIM < β.2.2.2 (ps β a b) + v ∧ β.2.2.2 (ps β a b) + v < LIM
    · rw [if_pos c2] at h; cases h; exact Nat.le_succ _
    · rw [if_neg c2] at h; cases h
  · rw [if_neg c] at h
    by_cases c2 : β.1 < n
    · rw [if_pos c2] at h; cases h; exact Nat.le_refl _
    · rw [if_neg c2] at h; cases h
theorem payO_cnt {lk : Int} {s s' : TS} {sort a b c v : Int} (hp : payO lk s sort a b c v = .inr s') : s'.acc.1 ≤ s.acc.1 + 1 := by
  have hd := bdeb_cnt s.acc a c v
  unfold payO at hp
  by_cases c1 : s.pay.1 < 60
  · rw [if_pos c1] at hp
    by_cases c2 : sort = 1
    · rw [if_pos c2] at hp
      cases hb : bcre (bdeb s.acc a c v) 40 b c v with
      | inl k => rw [hb] at hp; cases hp
      | inr β => rw [hb] at hp; cases hp; have := bcre_cnt hb; show β.1 ≤ _; omega
    · rw [if_neg c2] at hp
      by_cases c3 : lk = 0
      · rw [if_pos c3] at hp
        cases hb : bcre s.wal 60 b c v with
        | inl k => rw [hb] at hp; cases hp
        | inr β => rw [hb] at hp; cases hp; show (bdeb s.acc a c v).1 ≤ _; omega
      · rw [if_neg c3] at hp; cases hp; show (bdeb s.acc a c v).1 ≤ _; omega
  · rw [if_neg c1] at hp; cases hp
theorem payN_ok {R : Rw} {lk : Int} {s s' : TS} {n x : Int} (h : OT s) (hp : payN R lk s n x = .inr s') : OT s' ∧ s'.nd = R 17 n ∧ s'.acc.1 ≤ s.acc.1 + 1 := by
  have hO : OT (s.sNd (R 17 n)) := h
  unfold payN at hp
  by_cases c1 : x ≤ 0
  · rw [if_pos c1] at hp
    obtain ⟨w1, w2, w3, _⟩ := warnO_ok hO hp
    exact ⟨w1, w2, by rw [w3]; exact Nat.le_succ _⟩
  · rw [if_neg c1] at hp
    by_cases c2 : x ≤ hld s.acc (R 4 n) (R 6 n)
    · rw [if_pos c2] at hp
      have := payO_cnt hp
      obtain ⟨w1, w2⟩ := payO_ok hO (by omega) (fun z => by rw [((hld_pos h.1.2).1 z).2] at c2; exact c2) hp
      exact ⟨w1, w2, this⟩
    · rw [if_neg c2] at hp
      cases hw : warnO (s.sNd (R 17 n)) 3 (R 4 n) (R 5 n) (R 6 n) x with
      | inl c => rw [hw] at hp; cases hp
      | inr s2 =>
        rw [hw] at hp
        dsimp only at hp
        obtain ⟨w1, w2, w3, _⟩ := warnO_ok hO hw
        have w3 : s2.acc = s.acc := w3
        by_cases c3 : 0 < hld s.acc (R 4 n) (R 6 n)
        · rw [if_pos c3] at hp
          have := payO_cnt hp
          obtain ⟨v1, v2⟩ := payO_ok w1 c3 (fun z => by rw [w3] at z ⊢; rw [((hld_pos h.1.2).1 z).2]; exact Int.le_refl _) hp
          exact ⟨v1, v2.trans w2, by rw [w3] at this; exact this⟩
        · rw [if_neg c3] at hp; cases hp
          exact ⟨w1, w2, by rw [w3]; exact Nat.le_succ _⟩
/-- a node of the contract that ends at e0 -/
def EB (R : Rw) (m e0 n : Int) : Prop := (∃ e1, ends (R 1) m n e1 ∧ e1 ≤ e0) ∧ ∀ j, n < j → j < e0 → R 1 j ≠ 0
theorem EB.lt {R : Rw} {m e0 n : Int} (h : EB R m e0 n) : n < e0 := by
  obtain ⟨⟨e1, h1, h2⟩, -⟩ := h
  have := h1.1
  omega
theorem EB.kid {R : Rw} {m e0 n c : Int} (h : EB R m e0 n) (hc : n < c) (hm : c < m) (hd : ∀ j, n < j → j ≤ c → R 1 n < R 1 j) : EB R m e0 c := by
  obtain ⟨⟨e1, h1, h2⟩, h3⟩ := h
  obtain ⟨ec, hec⟩ := ends_ex (R 1) hm
  exact ⟨⟨ec, hec, Int.le_trans (ends_in h1 (ends_lt h1 hc hm hd) (hd c hc (Int.le_refl _)) hec) h2⟩, fun j a b => h3 j (by omega) b⟩
/-- the contracts under a contract end where it ends -/
theorem EB.c17 {R : Rw} {m e0 n : Int} (h : EB R m e0 n) (hW : WFP R m) (n0 : 0 ≤ n) (n1 : n < m) (hk : R 0 n = 1 ∨ R 0 n = 2 ∨ R 0 n = 4 ∨ R 0 n = 5) : EB R m e0 (R 17 n) ∧ EB R m e0 (n + 1) ∧ (R 0 n = 2 → EB R m e0 (R 18 n)) := by
  obtain ⟨⟨j0, j1, j2, _, _⟩, ⟨⟨i1, i2, i3⟩, i4, i5, i6, i7⟩, h18⟩ := kids_c (hW.2.2 n n0 n1).1 hk
  have a1 : ∀ j, n < j → j ≤ n + 1 → R 1 n < R 1 j := fun j a b => by
    have : j = n + 1 := by omega
    rw [this]; omega
  have a2 : ∀ j, n < j → j ≤ R 17 n → R 1 n < R 1 j := fun j a b => by
    by_cases c : j ≤ n + 1
    · exact a1 j a c
    · by_cases c2 : j = R 17 n
      · rw [c2]; omega
      · have := i2 j (by omega) (by omega); omega
  refine ⟨h.kid (by omega) i5 a2, h.kid (by omega) j1 a1, fun z => ?_⟩
  obtain ⟨⟨l1, l2, l3⟩, l4, l5, l6, l7⟩ := h18 z
  refine h.kid (by omega) l5 (fun j a b => ?_)
  by_cases c : j ≤ R 17 n
  · exact a2 j a c
  · by_cases c2 : j = R 18 n
    · rw [c2]; omega
    · have := l2 j (by omega) (by omega); omega
theorem EB.w17 {R : Rw} {m e0 n : Int} (h : EB R m e0 n) (hW : WFP R m) (n0 : 0 ≤ n) (n1 : n < m) (hk : R 0 n = 3) : EB R m e0 (R 17 n) := by
  obtain ⟨cs, q0, c1, c2, c3, c4, c5, c6, c7⟩ := kids_w (hW.2.2 n n0 n1).1 hk
  refine h.kid c4 c5 (nxt_deep c3 c6 ?_)
  have base : ∀ j, n < j → j ≤ n → R 1 n < R 1 j := fun j a b => by omega
  rcases chc_last cs c1 with z | z
  · rw [z.2]; exact base
  · exact (chc_mem cs c1 base q0 z).2.2.2.2
