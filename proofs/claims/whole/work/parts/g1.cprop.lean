/-! THE CLASS proposes its next try -/
/-- a cursor on cases -/
def cuC (R : Rw) (m : Int) (l : Lv) (cs : List Int) (pp w : Int) (p : Nat) : Prop := (∃ q0, chc R m l.nd pp w cs q0 ∧ nxt R l.nd q0 (R 17 l.nd)) ∧ l.nd ≤ pp ∧ cs.length ≤ 8 ∧ ∀ c cs', cs = c :: cs' → (R 0 c = 29 → (p : Int) ≤ 2 * R 6 c) ∧ (R 0 c ≠ 29 → p = 0)
theorem cuC.nx {R : Rw} {m : Int} {l : Lv} {cs : List Int} {c pp w : Int} {p : Nat} (hW : WFP R m) (h : cuC R m l (c :: cs) pp w p) (n0 : 0 ≤ l.nd) : cuC R m l cs c (R 19 c) 0 := by
  obtain ⟨⟨q0, ⟨a1, a2, a3, a4, a5, a6⟩, hx⟩, h2, h4, h5⟩ := h
  have hlt := nxt_lt a2
  refine ⟨⟨q0, a6, hx⟩, by omega, by simp only [List.length_cons] at h4; omega, fun c' cs' hc => ⟨fun h29 => ?_, fun _ => rfl⟩⟩
  rw [hc] at a6
  obtain ⟨b1, b2, b3, b4, b5, b6⟩ := a6
  have hlt2 := nxt_lt b2
  have := (hW.2.2 c' (by omega) b5).2.2.2 h29
  omega
def cCu (M : im_M) (R : Rw) (m : Int) (giv : Bk) (j : Nat) (l : Lv) (L : List Pe) : Prop := (M 2058 j = -1 ∧ L = ofs R giv l) ∨ (M 2058 j = -2 ∧ L = []) ∨ (R 0 l.nd = 3 ∧ ∃ (cs : List Int) (pp w : Int) (p : Nat), cuC R m l cs pp w p ∧ M 2058 j = hdc cs (R 17 l.nd) ∧ M 2059 j = p ∧ L = ofP R (l.env giv) l.ls (tmo R giv l.nd) p cs)
theorem cCu.cg {M M' : im_M} {R : Rw} {m : Int} {giv : Bk} {j : Nat} {l : Lv} {L : List Pe} (h : cCu M R m giv j l L) (h1 : M' 2058 j = M 2058 j) (h2 : M' 2059 j = M 2059 j) : cCu M' R m giv j l L := by
  unfold cCu; rw [h1, h2]; exact h
/-- the machine stands at a level -/
def aimd (M : im_M) (e : im_E) (R : Rw) (m E : Int) (giv : Bk) (l : Lv) (b bp : Nat) : Prop := M b 4 = l.ls ∧ ∃ st en fl ρ ρ' cp, CT M e R m E giv st en 1 fl (l.ts ρ ρ' cp) b bp 20
/-- a try stands on the path -/
def cRy (M : im_M) (j : Nat) (p : Pe) : Prop := cPe M j p ∧ (M 1797 j = p.2.1 ∧ M 1798 j = p.2.2.1 ∧ M 1799 j = p.2.2.2.1)
def cz (R : Rw) : Nat → List Int → Nat
  | _, [] => 0
  | p, c :: cs => (if R 0 c = 29 then 2 * (R 6 c).toNat - p + 1 else 1) + cz R 0 cs
section CPROP
variable {g : im_g} {d : Nat} {e : im_E} {M : im_M} {K : im_K} {R : Rw} {m E : Int} {giv : Bk} {l : Lv} {j b bp : Nat}
theorem aimd.cg {M' : im_M} (h : aimd M e R m E giv l b bp) (hb : 7082 ≤ b) (hbp : bpO bp) (hs : ∀ x, x < 1793 ∨ 2062 ≤ x → M' x = M x) : aimd M' e R m E giv l b bp := by
  obtain ⟨h4, st, en, fl, ρ, ρ', cp, h⟩ := h
  exact ⟨by rw [hs b (by omega)]; exact h4, st, en, fl, ρ, ρ', cp, h.cg hb hbp hs⟩
theorem c_pWait {t : Int} (hj : j < 128) (ht : im_i64 t) (h : aimd M e R m E giv l b bp) (hb : 7082 ≤ b) (hbp : bpO bp) (hp : pN M) (hd : 1 ≤ d) (hK : ∀ M', PFr j M M' → (M' 2058 j = M 2058 j ∧ M' 2059 j = M 2059 j) → aimd M' e R m E giv l b bp → pN M' → cRy M' j (-1, 0, 0, 0, 0, t) → K (.inl (some (vI 1))) e M') : im_T g d 241 0 [some (.ref 1793), some (vI j), some (vL t), none] [] e M K := by
  refine k_Search_proposeWait_0 hd ⟨⟨by omega, by omega⟩, ht, c_pset hj (by decide) (by decide) (by decide) (by decide) (fun M1 x1 F1 ⟨r1, r2, r3, r4⟩ => ⟨rfl, rfl, ?_⟩)⟩
  have ux : ∀ x, x ≠ 2057 → im_u M 2057 j t x = M x := fun x a => im_u_ne _ _ _ a
  have F0 : PFr j M (im_u M 2057 j t) := PFr.u _ (by omega)
  have e57 : M1 2057 j = t := by rw [x1 2057 (by decide)]; exact im_rds _ _ _ _
  refine hK M1 (F0.trans F1) ⟨by rw [x1 2058 (by decide), ux 2058 (by decide)], by rw [x1 2059 (by decide), ux 2059 (by decide)]⟩ (h.cg hb hbp (fun x hx => by rw [x1 x (by omega), ux x (by omega)])) (hp.cg (fun x hx => by rw [x1 x (by omega), ux x (by omega)])) ⟨⟨r1, fun z => absurd z (by show ¬ ((-1 : Int) = 28 ∨ (-1 : Int) = 29); decide), fun z => absurd z (by show ¬ ((-1 : Int) = 28); decide), e57⟩, r2, r3, r4⟩
/-- what a case's proposal leaves -/
def pKt (K : im_K) (e : im_E) (M : im_M) (R : Rw) (m E : Int) (giv : Bk) (l : Lv) (b bp j : Nat) (c : Int) (cs : List Int) (p : Nat) : Prop := ∀ M' (f : Bool) (c' : Int) (p' : Nat) (o : List Pe), PFr j M M' → aimd M' e R m E giv l b bp → pN M' → M' 2058 j = c' → M' 2059 j = p' → (c' = c ∧ R 0 c = 29 ∧ p' = p + 1 ∧ (p : Int) < 2 * R 6 c ∧ ofP R (l.env giv) l.ls (tmo R giv l.nd) p (c :: cs) = o ++ ofP R (l.env giv) l.ls (tmo R giv l.nd) p' (c :: cs) ∨ c' = hdc cs (R 17 l.nd) ∧ p' = 0 ∧ ofP R (l.env giv) l.ls (tmo R giv l.nd) p (c :: cs) = o ++ ofP R (l.env giv) l.ls (tmo R giv l.nd) 0 cs) → (f = true → ∃ q, o = [q] ∧ cRy M' j q) → (f = false → o = []) → K (.inl (some (vI (if f = true then 1 else 0)))) e M'
theorem c_pCh {c : Int} {cs : List Int} {p : Nat} (hW : WFP R m) (hj : j < 128) (h : aimd M e R m E giv l b bp) (hb : 7082 ≤ b) (hbp : bpO bp) (hp : pN M) (c0 : 0 ≤ c) (c1 : c < m) (hk : R 0 c = 29) (h58 : M 2058 j = c) (h59 : M 2059 j = p) (h57 : M 2057 j = l.ls) (hle : (p : Int) ≤ 2 * R 6 c) (h15 : M 15 c = hdc cs (R 17 l.nd)) (hd : 3 ≤ d) (hK : pKt K e M R m E giv l b bp j c cs p) : im_T g d 242 0 [some (.ref 1793), some (vI j), some (vI c), none] [] e M K := by
  have hm := hW.2.1
  have hpr := (hW.2.2 c c0 c1).2.2.2 hk
  obtain ⟨h4, st, en, fl, ρ, ρ', cp, hC⟩ := id h
  have hr := (hC.2.1.2 c c0 c1).1
  have e21 : M 21 c = R 6 c := hr.2.2.2.2.2.1
  refine im_rng (j := c) sf_19 c0 (by show c < 5000; omega) (fun ra => im_rng (j := c) sf_20 c0 (by show c < 5000; omega) (fun rb => ?_))
  have ra : im_i64 (M 19 c) := ra
  have rb : im_i64 (M 20 c) := rb
  refine k_Search_proposeChoice_0 (by omega) ?_
  rw [h59, e21, h15]
  refine ⟨⟨by omega, by omega⟩, ⟨c0, by omega⟩, by constructor <;> omega, fun hlt => ⟨by constructor <;> omega, ?_⟩, fun hge => ?_⟩
  · refine c_pset hj (by decide) ra rb (by decide) (fun M1 x1 F1 ⟨r1, r2, r3, r4⟩ => ⟨rfl, rfl, ?_⟩)
    have ux : ∀ x, x ≠ 2059 → im_u M 2059 j ((p : Int) + 1) x = M x := fun x a => im_u_ne _ _ _ a
    have F0 : PFr j M (im_u M 2059 j ((p : Int) + 1)) := PFr.u _ (by omega)
    have u59 : M1 2059 j = ((p + 1 : Nat) : Int) := by rw [x1 2059 (by decide), im_rds]; omega
    have u58 : M1 2058 j = c := by rw [x1 2058 (by decide), ux 2058 (by decide)]; exact h58
    have u57 : M1 2057 j = l.ls := by rw [x1 2057 (by decide), ux 2057 (by decide)]; exact h57
    have A1 : aimd M1 e R m E giv l b bp := h.cg hb hbp (fun x hx => by rw [x1 x (by omega), ux x (by omega)])
    have P1 : pN M1 := hp.cg (fun x hx => by rw [x1 x (by omega), ux x (by omega)])
    have C1 : CP M1 R m E := by obtain ⟨_, _, _, _, _, _, _, q⟩ := A1; exact q.2.1
    have hnj : im_num e (1801 + 2 * j) := rw_1795.2 j hj
    refine ⟨1801 + 2 * j, (P1.1 j hj).1, hnj, ?_⟩
    have tm2 : (p : Int).tmod 2 = ((p % 2 : Nat) : Int) := by rw [Int.tmod_eq_emod_of_nonneg (by omega)]; omega
    refine c_loadB (w := p) C1 hm c0 c1 hk hpr hlt hnj (by omega) (fun M2 f2 c2 => ⟨rfl, rfl, by rw [tm2]; constructor <;> omega, ?_⟩)
    have P2 : pN M2 := P1.nf (j := j) f2 (Or.inl rfl) hj c2
    have A2 : aimd M2 e R m E giv l b bp := A1.cg hb hbp (fun x hx => f2 x (by omega) (by omega))
    have F2 : PFr j M M2 := (F0.trans F1).trans (PFr.nf f2 (Or.inl rfl) hj)
    have g : ∀ x, x ≠ 1801 + 2 * j → x ≠ 1801 + 2 * j + 1 → M2 x = M1 x := f2
    have hof := ofP_ch (R := R) (Γ := l.env giv) (ls := l.ls) (tm := tmo R giv l.nd) (cs := cs) hk hlt
    have e19 : M 19 c = R 4 c := hr.2.2.2.1
    have e20 : M 20 c = R 5 c := hr.2.2.2.2.1
    have rdy : ∀ {N : im_M} {v : Int}, (∀ x, x ≠ 2060 → x ≠ 2061 → N x = M2 x) → cn M2 (1801 + 2 * j) v → cRy N j (29, R 4 c, R 5 c, 0, v, l.ls) := fun {N v} hN hv => by
      refine ⟨⟨?_, fun _ => ⟨?_, ?_, ?_, ?_⟩, fun z => absurd z (by show ¬ ((29 : Int) = 28); decide), ?_⟩, ?_, ?_, ?_⟩
      · rw [hN _ (by decide) (by decide), g _ (by omega) (by omega)]; exact r1
      · rw [hN _ (by decide) (by decide), g _ (by omega) (by omega)]; exact r2.trans e19
      · rw [hN _ (by decide) (by decide), g _ (by omega) (by omega)]; exact r3.trans e20
      · rw [hN _ (by decide) (by decide), g _ (by omega) (by omega)]; exact (P1.1 j hj).1
      · exact cn_congr hv (hN _ (by omega) (by omega)) (hN _ (by omega) (by omega))
      · rw [hN _ (by decide) (by decide), g _ (by omega) (by omega)]; exact u57
      · rw [hN _ (by decide) (by decide), g _ (by omega) (by omega)]; exact r2.trans e19
      · rw [hN _ (by decide) (by decide), g _ (by omega) (by omega)]; exact r3.trans e20
      · rw [hN _ (by decide) (by decide), g _ (by omega) (by omega)]; exact r4
    rw [tm2]
    refine ⟨fun hodd => ?_, fun heven => ?_⟩
    · have hp1 : p % 2 = 1 := by omega
      have C2 : CP M2 R m E := by obtain ⟨_, _, _, _, _, _, _, q⟩ := A2; exact q.2.1
      have ep : ((p : Int) - 1) = ((p - 1 : Nat) : Int) := by omega
      rw [ep]
      refine c_loadB (w := p - 1) C2 hm c0 c1 hk hpr (by omega) nm_2060 (by omega) (fun M3 f3 c3 => ⟨rfl, rfl, 1801 + 2 * j, ?_, hnj, ?_⟩)
      · rw [f3 1800 (by decide) (by decide)]; exact (P2.1 j hj).1
      · rw [if_pos (show (p - 1) % 2 = 0 by omega), show (p - 1) / 2 = p / 2 by omega] at c3
        rw [if_neg (show ¬ p % 2 = 0 by omega)] at c2
        refine c_compare nm_2060 hnj c3 (cn_congr c2 (f3 _ (by omega) (by omega)) (f3 _ (by omega) (by omega))) (by omega) ⟨_, rfl, rfl, by unfold cmpI; (repeat' split) <;> decide, fun x34 hx => ?_⟩
        have P3 : pN M3 := P2.nf (j := j) f3 (Or.inr rfl) hj c3
        have A3 : aimd M3 e R m E giv l b bp := A2.cg hb hbp (fun x hx => f3 x (by omega) (by omega))
        have F3 : PFr j M M3 := F2.trans (PFr.nf f3 (Or.inr rfl) hj)
        have v58 : M3 2058 j = c := by rw [f3 2058 (by decide) (by decide), g 2058 (by omega) (by omega)]; exact u58
        have v59 : M3 2059 j = ((p + 1 : Nat) : Int) := by rw [f3 2059 (by decide) (by decide), g 2059 (by omega) (by omega)]; exact u59
        by_cases he : R (8 + p / 2) c = R (12 + p / 2) c
        · have : cmpI (R (8 + p / 2) c) (R (12 + p / 2) c) = 0 := by unfold cmpI; rw [if_neg (by omega), if_pos he]
          have hx0 : x34 = 0 := by omega
          rw [hx0]
          rw [chE_odd hp1 he] at hof
          exact hK M3 false c (p + 1) [] F3 A3 P3 v58 v59 (Or.inl ⟨rfl, hk, rfl, hlt, hof⟩) (fun z => by cases z) (fun _ => rfl)
        · have : cmpI (R (8 + p / 2) c) (R (12 + p / 2) c) ≠ 0 := by unfold cmpI; (repeat' split) <;> omega
          have hx0 : x34 = 1 := by omega
          rw [hx0]
          rw [chE_od2 hp1 he] at hof
          exact hK M3 true c (p + 1) _ F3 A3 P3 v58 v59 (Or.inl ⟨rfl, hk, rfl, hlt, hof⟩) (fun _ => ⟨_, rfl, rdy f3 c2⟩) (fun z => by cases z)
    · have hp0 : p % 2 = 0 := by omega
      rw [if_pos hp0] at c2
      rw [chE_ev hp0] at hof
      exact hK M2 true c (p + 1) _ F2 A2 P2 (by rw [g 2058 (by omega) (by omega)]; exact u58) (by rw [g 2059 (by omega) (by omega)]; exact u59) (Or.inl ⟨rfl, hk, rfl, hlt, hof⟩) (fun _ => ⟨_, rfl, rdy (fun _ _ _ => rfl) c2⟩) (fun z => by cases z)
  · have ux : ∀ x, x ≠ 2058 → x ≠ 2059 → im_u (im_u M 2058 j (hdc cs (R 17 l.nd))) 2059 j 0 x = M x := fun x a b => by rw [im_u_ne _ _ _ b, im_u_ne _ _ _ a]
    exact hK _ false (hdc cs (R 17 l.nd)) 0 [] ((PFr.u _ (by omega)).trans (PFr.u _ (by omega))) (h.cg hb hbp (fun x hx => ux x (by omega) (by omega))) (hp.cg (fun x hx => ux x (by omega) (by omega))) (by rw [im_rdn _ _ _ _ (by decide), im_rds]) (by rw [im_rds]; rfl) (Or.inr ⟨rfl, rfl, ofP_en hk hge⟩) (fun z => by cases z) (fun _ => rfl)
end CPROP
