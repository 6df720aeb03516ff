/-! THE SEARCH: its levels -/
/-- what a level and what it still offers keep -/
def lvO (R : Rw) (m e0 : Int) (l : Lv) (L : List Pe) : Prop := ((sbk l.ac ∧ posb l.ac) ∧ sbk l.ch ∧ (sbk l.lt ∧ l.lt.2.2.1 = z0)) ∧ (0 ≤ l.nd ∧ l.nd < m ∧ (0 ≤ R 0 l.nd ∧ R 0 l.nd ≤ 5)) ∧ (0 ≤ l.ls ∧ l.ls ≤ 1000000000000000) ∧ l.ac.1 ≤ 40 ∧ EB R m e0 l.nd ∧ ∀ p ∈ L, peO p ∧ (R 0 l.nd = 0 → l.ac.1 ≠ 0)
theorem lvO.ot {R : Rw} {m e0 : Int} {l : Lv} {L : List Pe} (h : lvO R m e0 l L) (ρ ρ' : Rl) (cp : Int) : OT (l.ts ρ ρ' cp) := ⟨h.1.1, h.1.2.1, h.1.2.2, fun i j _ _ hj => by
  have hj : j < ((0 : Nat) : Int) := hj
  omega, fun i hi hj => by
  have hj : i < ((0 : Nat) : Int) := hj
  omega⟩
theorem lvO.vn {R : Rw} {m e0 : Int} {l : Lv} {L : List Pe} (h : lvO R m e0 l L) (ρ ρ' : Rl) (cp : Int) : VN R m (l.ts ρ ρ' cp) := h.2.1
theorem lvO.tl {R : Rw} {m e0 : Int} {l : Lv} {p : Pe} {L : List Pe} (h : lvO R m e0 l (p :: L)) : lvO R m e0 l L := ⟨h.1, h.2.1, h.2.2.1, h.2.2.2.1, h.2.2.2.2.1, fun q hq => h.2.2.2.2.2 q (List.mem_cons_of_mem _ hq)⟩
theorem trP_mu {R : Rw} {m e0 : Int} {giv : Bk} {l : Lv} {p : Pe} {L : List Pe} {ρ ρ' : Rl} {cp t : Int} {s : TS} (hW : WFP R m) (h : lvO R m e0 l L) (hp : R 0 l.nd = 0 → l.ac.1 ≠ 0) (hr : trP R giv l p ρ ρ' cp = .inr s) : mu R (s.lv t) < mu R l := by
  have hO := h.ot ρ ρ' cp
  have hV := h.vn ρ ρ' cp
  have h0 : SI R m (l.ts ρ ρ' cp).fresh := ⟨hO, hV, fun i hi => absurd hi (Nat.not_lt_zero i)⟩
  have hSI := runO_inv hW hO hV hr
  have n0 := h.2.1.1
  have n1 := h.2.1.2.1
  have hd1 := (hW.2.2 l.nd n0 n1).2.2.1
  have hd2 := (hW.2.2 s.nd hSI.2.1.1 hSI.2.1.2.1).2.2.1
  have hac := h.2.2.2.1
  have deep : R 0 l.nd ≠ 0 → R 1 l.nd < R 1 s.nd → mu R (s.lv t) < mu R l := fun hk hd => by
    unfold mu
    rw [if_neg hk]
    show (if R 0 s.nd = 0 then (if s.acc.1 = 0 then 0 else 1) else 103 - R 1 s.nd) < 103 - R 1 l.nd
    by_cases c : R 0 s.nd = 0
    · rw [if_pos c]
      split <;> omega
    · rw [if_neg c]; omega
  unfold trP runO at hr
  generalize hst : max p.2.2.2.2.2 l.ls = st at hr
  by_cases c1 : p.2.2.2.2.2 < p.2.2.2.2.2 ∨ p.2.2.2.2.2 < 0 ∨ 1000000000000000 < p.2.2.2.2.2
  · rw [if_pos c1] at hr; cases hr
  · rw [if_neg c1] at hr
    by_cases c2 : p.2.2.2.2.2 < l.ls
    · rw [if_pos c2] at hr; cases hr
    · rw [if_neg c2] at hr
      cases ha : redO R giv st p.2.2.2.2.2 1 142 (l.ts ρ ρ' cp).fresh with
      | inl z => rw [ha] at hr; cases hr
      | inr s1 =>
        rw [ha] at hr
        dsimp only at hr
        have hA := redO_dp hW 142 h0 ha
        have hS1 := redO_inv hW 142 h0 ha
        have hnd : (l.ts ρ ρ' cp).fresh.nd = l.nd := rfl
        rw [hnd] at hA
        by_cases c3 : p.1 = -1
        · rw [if_pos c3] at hr
          have hins : ∀ (a b c d v : Int → Int), insO R giv st p.2.2.2.2.2 1 a b c d v 0 0 s1 = .inr s1 := fun _ _ _ _ _ => rfl
          rw [hins] at hr
          dsimp only at hr
          by_cases c4 : (0 : Nat) = 0 ∧ s1.nd = (l.ts ρ ρ' cp).nd ∧ s1.cp = 0
          · rw [if_pos c4] at hr; cases hr
          · rw [if_neg c4] at hr
            cases hr
            by_cases hk : R 0 l.nd = 0
            · obtain ⟨b1, b2⟩ := redO_c 142 (s := (l.ts ρ ρ' cp).fresh) h.1.1.1 hk (by show l.ac.1 < 142; omega) ha
              have b1 : s.nd = l.nd := b1
              have hp' := hp hk
              unfold mu
              rw [if_pos hk, if_neg hp']
              show (if R 0 s.nd = 0 then (if s.acc.1 = 0 then 0 else 1) else 103 - R 1 s.nd) < 1
              rw [b1, if_pos hk, if_pos b2]
              decide
            · refine deep hk ?_
              rcases hA with z | z | z
              · exact absurd ⟨rfl, by rw [z]; rfl, by rw [z]; rfl⟩ c4
              · exact absurd z.1 hk
              · exact z
        · rw [if_neg c3] at hr
          rw [insO] at hr
          cases hb : appO R giv st p.2.2.2.2.2 1 s1 p.1 p.2.1 p.2.2.1 p.2.2.2.1 p.2.2.2.2.1 with
          | inl z => rw [hb] at hr; cases hr
          | inr s2 =>
            rw [hb] at hr
            dsimp only at hr
            cases hc : redO R giv st p.2.2.2.2.2 1 142 s2 with
            | inl z => rw [hc] at hr; cases hr
            | inr s3 =>
              rw [hc] at hr
              dsimp only at hr
              rw [insO] at hr
              dsimp only at hr
              rw [if_neg (fun w => absurd w.1 (by decide))] at hr
              cases hr
              have h2 := appO_dp hW hS1 hb
              have h3 := redO_dp hW 142 (appO_inv hW hS1 hb) hc
              have hk3 : R 0 s1.nd = 3 := by
                unfold appO at hb
                by_cases q : R 0 s1.nd = 3
                · exact q
                · rw [if_neg q] at hb; cases hb
              have h4 : R 1 s1.nd < R 1 s.nd := by
                rcases h3 with z | z | z
                · rw [z]; exact h2
                · rw [z.2]; exact h2
                · omega
              have hk : R 0 l.nd ≠ 0 := by
                intro q
                rcases hA with z | z | z
                · rw [z] at hk3
                  have hk3 : R 0 l.nd = 3 := hk3
                  omega
                · rw [z.2] at hk3; omega
                · obtain ⟨b1, b2⟩ := redO_c 142 (s := (l.ts ρ ρ' cp).fresh) h.1.1.1 q (by show l.ac.1 < 142; omega) ha
                  have b1 : s1.nd = l.nd := b1
                  rw [b1] at z; omega
              refine deep hk ?_
              rcases hA with z | z | z
              · rw [z] at h4; exact h4
              · exact absurd z.1 hk
              · omega
/-- what is offered is well formed -/
theorem chB_ok {R : Rw} {ls c : Int} (hls : 0 ≤ ls ∧ ls ≤ 1000000000000000) (h4 : 0 ≤ R 4 c ∧ R 4 c ≤ 9223372036854775807) (h5 : 0 ≤ R 5 c ∧ R 5 c ≤ 9223372036854775807) : ∀ (k q : Nat), ∀ p ∈ chB R ls c k q, peO p := by
  intro k
  induction k with
  | zero => intro q p hp; cases hp
  | succ k ih =>
    intro q p hp
    unfold chB at hp
    rcases List.mem_append.mp hp with z | z
    · unfold chE at z
      split at z
      · cases z
      · rw [List.mem_singleton] at z
        subst z
        exact ⟨Or.inr (Or.inr (Or.inl rfl)), fun _ => ⟨h4, h5⟩, fun z => absurd z (by show ¬ ((29 : Int) = 28); decide), hls⟩
    · exact ih (q + 1) p z
theorem ofs_ok {R : Rw} {m : Int} {giv : Bk} {l : Lv} (hW : WFP R m) (hn : ∀ j, 0 ≤ j → j < m → R 4 j ≤ 9223372036854775807 ∧ R 5 j ≤ 9223372036854775807 ∧ R 6 j ≤ 9223372036854775807) (n0 : 0 ≤ l.nd) (n1 : l.nd < m) (hls : 0 ≤ l.ls ∧ l.ls ≤ 1000000000000000) (ht : R 0 l.nd = 3 → R 5 l.nd ≠ 0 → 0 ≤ hld giv (R 5 l.nd) 0 ∧ hld giv (R 5 l.nd) 0 ≤ 1000000000000000) : ∀ p ∈ ofs R giv l, peO p ∧ (R 0 l.nd = 0 → l.ac.1 ≠ 0) := by
  intro p hp
  unfold ofs at hp
  have wt : ∀ t, 0 ≤ t ∧ t ≤ 1000000000000000 → peO (-1, 0, 0, 0, 0, t) := fun t h => ⟨Or.inl rfl, fun z => absurd z (by show ¬ ((-1 : Int) = 28 ∨ (-1 : Int) = 29); decide), fun z => absurd z (by show ¬ ((-1 : Int) = 28); decide), h⟩
  by_cases c1 : R 0 l.nd = 0 ∧ l.ac.1 = 0
  · rw [if_pos c1] at hp; cases hp
  · rw [if_neg c1] at hp
    refine ⟨?_, fun z w => c1 ⟨z, w⟩⟩
    by_cases c2 : R 0 l.nd = 3 ∧ l.ls < tmo R giv l.nd
    · rw [if_pos c2] at hp
      obtain ⟨cs, q0, d1, d2, _⟩ := kids_w (hW.2.2 _ n0 n1).1 c2.1
      rw [csO_chc cs l.nd (R 16 l.nd) 9 n0 (Int.le_refl _) d1 (by omega)] at hp
      have htm : 0 ≤ tmo R giv l.nd ∧ tmo R giv l.nd ≤ 1000000000000000 := by
        have h4 := (hW.2.2 l.nd n0 n1).2.1.2.2.1 c2.1
        have h0 := (hW.2.2 l.nd n0 n1).2.1.1
        unfold tmo
        split
        · omega
        · rename_i hz
          have := ht c2.1 hz
          unfold asT
          omega
      have key : ∀ (cs : List Int) (pp w : Int), l.nd ≤ pp → chc R m l.nd pp w cs q0 → p ∈ ofK R (l.env giv) l.ls (tmo R giv l.nd) cs → peO p := by
        intro cs
        induction cs with
        | nil =>
          intro pp w _ _ hp
          unfold ofK at hp
          rw [List.mem_singleton] at hp
          rw [hp]
          exact wt _ htm
        | cons c cs ih =>
          intro pp w hpp hch hp
          obtain ⟨a1, a2, a3, a4, a5, a6⟩ := hch
          have hlt := nxt_lt a2
          have c0 : 0 ≤ c := by omega
          have hnm := hn c c0 a5
          have hnv := (hW.2.2 c c0 a5).2.1.1
          unfold ofK at hp
          rcases List.mem_append.mp hp with z | z
          · unfold caB at z
            split at z
            · exact chB_ok hls ⟨hnv.1, hnm.1⟩ ⟨hnv.2.1, hnm.2.1⟩ _ _ p z
            · unfold oneB at z
              cases hev : ev R (l.env giv) 101 (R 16 c) with
              | none => rw [hev] at z; cases z
              | some x =>
                rw [hev] at z
                dsimp only at z
                split at z
                · rw [List.mem_singleton] at z
                  subst z
                  exact ⟨Or.inr (Or.inl rfl), fun _ => ⟨⟨hnv.1, hnm.1⟩, ⟨hnv.2.1, hnm.2.1⟩⟩, fun _ => ⟨hnv.2.2, hnm.2.2⟩, hls⟩
                · split at z
                  · rw [List.mem_singleton] at z
                    subst z
                    exact ⟨Or.inr (Or.inr (Or.inr rfl)), fun z => absurd z (by show ¬ ((30 : Int) = 28 ∨ (30 : Int) = 29); decide), fun z => absurd z (by show ¬ ((30 : Int) = 28); decide), hls⟩
                  · cases z
          · exact ih c _ (by omega) a6 z
      exact key cs l.nd _ (Int.le_refl _) d1 hp
    · rw [if_neg c2] at hp
      rw [List.mem_singleton] at hp
      rw [hp]
      exact wt _ hls
