/-! THE CLASS reduces -/
section CRED
variable {g : im_g} {d : Nat} {e : im_E} {M : im_M} {K : im_K} {R : Rw} {m E : Int} {giv : Bk} {st en lk fl : Int} {s : TS} {bs bp np : Nat}
theorem CT.nn (hC : CT M e R m E giv st en lk fl s bs bp np) {n : Int} : im_u M bs 5 n 19 = M 19 ∧ im_u M bs 5 n 932 = M 932 := by
  have := hC.2.2.2.2.2.2.2.2.1
  have hb := hC.1.2.2.1
  exact ⟨im_u_ne _ _ _ (by omega), im_u_ne _ _ _ (by omega)⟩
/-- a pay is passed -/
theorem c_pass1 {n x τ : Int} {c0 : Nat} (hC : CT M e R m E giv st en lk fl s bs bp np) (hW : WFP R m) (n0 : 0 ≤ n) (n1 : n < m) (hk : R 0 n = 1) (h0 : M 932 0 = c0) (hx : cn M c0 x) (hd : 5 ≤ d)
    (hKs : ∀ s', wgh (s.sNd (R 17 n)) (R 4 n) (R 5 n) (R 6 n) x = .inr s' → ∀ M', XT bs M M' → CT M' e R m E giv st en lk fl s' bs bp np → cn M' 934 (wgt (hld s.acc (R 4 n) (R 6 n)) x) → K (.inl (some (vI 0))) e M')
    (hKe : wgh (s.sNd (R 17 n)) (R 4 n) (R 5 n) (R 6 n) x = .inl (-9) → ∀ M', XT bs M M' → CX M' e R m E giv st en lk bs bp np → K (.inl (some (vI (-9)))) e M') : im_T g d 137 0 [some (.ref 931), some (vI n), some (vI 1), some (vI τ), none] [] e M K := by
  obtain ⟨⟨j0, j1, _⟩, ⟨i1, i2, i3, i4, i5⟩, _⟩ := kids_c (hW.2.2 n n0 n1).1 (Or.inl hk)
  have hm := hW.2.1
  refine k_Machine_pass_0 (by omega) (c_lastPart hC.2.1 hW n0 n1 (by omega) j1 i1 i3 ⟨_, rfl, rfl, bs, hC.1.1.1, hC.1.2.1.1, by decide, fun z => absurd z (by decide), fun _ => ⟨by constructor <;> omega, fun _ => ?_, fun z => absurd z (by decide), fun z => absurd z (by decide), fun z => absurd z (by decide)⟩⟩)
  obtain ⟨C1, X1⟩ := hC.node (R 17 n)
  have hc0 := (hC.n0 h0).2
  have hbs := hC.1.2.2.1
  refine c_weigh C1 hm n0 n1 (by rw [hC.nn.2]; exact h0) (cn_congr hx (im_u_ne _ _ _ (by omega)) (im_u_ne _ _ _ (by omega))) (by omega) (fun s' hs' M' X' C' z' => ⟨_, rfl, rfl, hKs s' hs' M' (X1.trans X') C' z'⟩) (fun hw M' X' C' => ⟨_, rfl, rfl, hKe hw M' (X1.trans X') C'⟩)
theorem c_pass4 {n x τ : Int} {c0 : Nat} (hC : CT M e R m E giv st en lk fl s bs bp np) (hW : WFP R m) (n0 : 0 ≤ n) (n1 : n < m) (hk : R 0 n = 4) (h0 : M 932 0 = c0) (hx : cn M c0 x) (hd : 5 ≤ d)
    (hKs : ∀ s', letN R s n x = .inr s' → ∀ M', XT bs M M' → CT M' e R m E giv st en lk fl s' bs bp np → K (.inl (some (vI 0))) e M')
    (hKe : ∀ k, letN R s n x = .inl k → k ≠ 0 → im_i32 k → ∀ M', XT bs M M' → CX M' e R m E giv st en lk bs bp np → K (.inl (some (vI k))) e M') : im_T g d 137 0 [some (.ref 931), some (vI n), some (vI 4), some (vI τ), none] [] e M K := by
  obtain ⟨⟨j0, j1, _⟩, ⟨i1, i2, i3, i4, i5⟩, _⟩ := kids_c (hW.2.2 n n0 n1).1 (Or.inr (Or.inr (Or.inl hk)))
  have hm := hW.2.1
  refine im_rng (j := n) sf_19 n0 (by show n < 5000; omega) (fun hr19 => ?_)
  have hr19 : im_i64 (M 19 n) := hr19
  have r4 : M 19 n = R 4 n := (hC.2.1.2 n n0 n1).1.2.2.2.1
  rw [r4] at hr19
  refine k_Machine_pass_0 (by omega) (c_lastPart hC.2.1 hW n0 n1 (by omega) j1 i1 i3 ⟨_, rfl, rfl, bs, hC.1.1.1, hC.1.2.1.1, by decide, fun z => absurd z (by decide), fun _ => ⟨by constructor <;> omega, fun z => absurd z (by decide), fun _ => ⟨by constructor <;> omega, ?_⟩, fun z => absurd z (by decide), fun z => absurd z (by decide)⟩⟩)
  obtain ⟨C1, X1⟩ := hC.node (R 17 n)
  have hc0 := (hC.n0 h0).2
  have hbs := hC.1.2.2.1
  rw [hC.nn.1, r4]
  rw [letN_L] at hKs hKe
  exact c_let C1 (by rw [hC.nn.2]; exact h0) (cn_congr hx (im_u_ne _ _ _ (by omega)) (im_u_ne _ _ _ (by omega))) hr19 (by omega) (fun s' hs' M' X' C' => ⟨_, rfl, rfl, hKs s' hs' M' (X1.trans X') C'⟩) (fun k hw k0 ki M' X' C' => ⟨_, rfl, rfl, hKe k hw k0 ki M' (X1.trans X') C'⟩)
theorem c_pass2 {n τ : Int} (hC : CT M e R m E giv st en lk fl s bs bp np) (hW : WFP R m) (n0 : 0 ≤ n) (n1 : n < m) (hk : R 0 n = 2) (hτ : τ = 0 ∨ τ = 1) (hd : 5 ≤ d)
    (hKs : ∀ M', XT bs M M' → CT M' e R m E giv st en lk fl (s.sNd (if τ = 1 then R 17 n else R 18 n)) bs bp np → K (.inl (some (vI 0))) e M') : im_T g d 137 0 [some (.ref 931), some (vI n), some (vI 2), some (vI τ), none] [] e M K := by
  obtain ⟨⟨j0, j1, _⟩, ⟨i1, i2, i3, i4, i5⟩, h18⟩ := kids_c (hW.2.2 n n0 n1).1 (Or.inr (Or.inl hk))
  obtain ⟨k1, k2, k3, k4, k5⟩ := h18 hk
  have hm := hW.2.1
  have e15 : M 15 (R 17 n) = R 18 n := ends_nx k1 k3 (hC.2.1.2 (R 17 n) (by omega) i3).2
  have hi : im_i32 τ := by rcases hτ with z | z <;> rw [z] <;> decide
  refine k_Machine_pass_0 (by omega) (c_lastPart hC.2.1 hW n0 n1 (by omega) j1 i1 i3 ⟨_, rfl, rfl, bs, hC.1.1.1, hC.1.2.1.1, by decide, fun _ => ⟨hi, fun h0 => ⟨by constructor <;> omega, fun z => absurd z (by decide), fun z => absurd z (by decide), fun z => absurd z (by decide), fun _ => ?_⟩⟩, fun hor => ⟨by constructor <;> omega, fun z => absurd z (by decide), fun z => absurd z (by decide), fun z => absurd z (by decide), fun _ => ?_⟩⟩)
  · rw [e15]
    obtain ⟨C1, X1⟩ := hC.node (R 18 n)
    rw [if_neg (by omega)] at hKs
    exact hKs _ X1 C1
  · have h1 : τ = 1 := by omega
    obtain ⟨C1, X1⟩ := hC.node (R 17 n)
    rw [if_pos h1] at hKs
    exact hKs _ X1 C1
theorem c_pass5 {n τ : Int} (hC : CT M e R m E giv st en lk fl s bs bp np) (hW : WFP R m) (n0 : 0 ≤ n) (n1 : n < m) (hk : R 0 n = 5) (hτ : τ = 0 ∨ τ = 1) (hd : 5 ≤ d)
    (hKs : ∀ s', (if τ = 1 then .inr (s.sNd (R 17 n)) else warnO (s.sNd (R 17 n)) 5 0 0 0 0) = Sum.inr s' → ∀ M', XT bs M M' → CT M' e R m E giv st en lk fl s' bs bp np → K (.inl (some (vI 0))) e M')
    (hKe : ∀ k, (if τ = 1 then .inr (s.sNd (R 17 n)) else warnO (s.sNd (R 17 n)) 5 0 0 0 0) = Sum.inl k → k ≠ 0 → im_i32 k → ∀ M', XT bs M M' → CX M' e R m E giv st en lk bs bp np → K (.inl (some (vI k))) e M') : im_T g d 137 0 [some (.ref 931), some (vI n), some (vI 5), some (vI τ), none] [] e M K := by
  obtain ⟨⟨j0, j1, _⟩, ⟨i1, i2, i3, i4, i5⟩, _⟩ := kids_c (hW.2.2 n n0 n1).1 (Or.inr (Or.inr (Or.inr hk)))
  have hm := hW.2.1
  have hi : im_i32 τ := by rcases hτ with z | z <;> rw [z] <;> decide
  obtain ⟨c0, h0, hn0, hc0, hc1⟩ := hC.2.2.1.at (e := e) (i := 0) (by decide)
  have h0 : M 932 0 = c0 := h0
  have hbs := hC.1.2.2.1
  obtain ⟨C1, X1⟩ := hC.node (R 17 n)
  refine k_Machine_pass_0 (by omega) (c_lastPart hC.2.1 hW n0 n1 (by omega) j1 i1 i3 ⟨_, rfl, rfl, bs, hC.1.1.1, hC.1.2.1.1, by decide, fun z => absurd z (by decide), fun _ => ⟨by constructor <;> omega, fun z => absurd z (by decide), fun z => absurd z (by decide), fun _ => ⟨hi, fun h1 => ?_, fun h1 => ⟨c0, by rw [hC.nn.2]; exact h0, hn0, ?_⟩⟩, fun z => absurd z (by decide)⟩⟩)
  · have h1 : τ = 1 := by omega
    rw [if_pos h1] at hKs
    exact hKs _ rfl _ X1 C1
  · rw [if_neg (by omega)] at hKs hKe
    obtain ⟨w, hw⟩ := C1.2.2.1.cn (i := 0) (c := c0) (by decide) (by rw [hC.nn.2]; exact h0)
    refine c_warn (w := 0) C1 hn0 (by omega) hw (fun z => absurd rfl z) (by decide) (by decide) (by decide) (by decide) (by omega) (fun s2 hs2' M3 X3 f3 C3 => ⟨_, rfl, rfl, by decide, fun z => absurd z (by decide), fun _ => ?_⟩) (fun hw' => ⟨_, rfl, rfl, by decide, fun _ => ?_, fun z => absurd rfl z⟩)
    · exact hKs s2 hs2' M3 (X1.trans X3) C3
    · exact hKe (-9) hw' (by decide) (by decide) _ X1 ⟨_, _, C1⟩
end CRED
def VN (R : Rw) (m : Int) (s : TS) : Prop := 0 ≤ s.nd ∧ s.nd < m ∧ (0 ≤ R 0 s.nd ∧ R 0 s.nd ≤ 5)
def mea (R : Rw) (s : TS) : Int := if R 0 s.nd = 0 then s.acc.1 else 141 - R 1 s.nd
theorem stepO_0 {R : Rw} {giv : Bk} {st en lk : Int} {s : TS} (hk : R 0 s.nd = 0) : stepO R giv st en lk s = if s.acc.1 = 0 then none else some (payO lk (s.sCp 1) 0 (s.acc.2.1 0) (s.acc.2.1 0) (s.acc.2.2.1 0) (s.acc.2.2.2 0)) := by unfold stepO; rw [if_pos hk]
theorem stepO_3 {R : Rw} {giv : Bk} {st en lk : Int} {s : TS} (hk : R 0 s.nd = 3) : stepO R giv st en lk s = if en < tmo R giv s.nd then none else if st < tmo R giv s.nd then some (.inl (-4)) else some (.inr (s.sNd (R 17 s.nd))) := by unfold stepO; rw [if_neg (by omega), if_pos hk]
theorem stepO_n {R : Rw} {giv : Bk} {st en lk : Int} {s : TS} (h0 : R 0 s.nd ≠ 0) (h3 : R 0 s.nd ≠ 3) : ev R (s.env giv st en) 101 (s.nd + 1) = none → stepO R giv st en lk s = some (.inl (-8)) := fun h => by
  unfold stepO; rw [if_neg h0, if_neg h3, h]
theorem stepO_s {R : Rw} {giv : Bk} {st en lk : Int} {s : TS} (h0 : R 0 s.nd ≠ 0) (h3 : R 0 s.nd ≠ 3) {x : Int} : ev R (s.env giv st en) 101 (s.nd + 1) = some x → stepO R giv st en lk s = some (if R 0 s.nd = 1 then payN R lk s s.nd x else if R 0 s.nd = 2 then .inr (s.sNd (if x = 1 then R 17 s.nd else R 18 s.nd)) else if R 0 s.nd = 4 then letN R s s.nd x else if x = 1 then .inr (s.sNd (R 17 s.nd)) else warnO (s.sNd (R 17 s.nd)) 5 0 0 0 0) := fun h => by
  unfold stepO; rw [if_neg h0, if_neg h3, h]
theorem redO_n {R : Rw} {giv : Bk} {st en lk : Int} {f : Nat} {s : TS} (h : stepO R giv st en lk s = none) : redO R giv st en lk (f + 1) s = .inr s := by rw [redO, h]
theorem redO_e {R : Rw} {giv : Bk} {st en lk : Int} {f : Nat} {s : TS} {c : Int} (h : stepO R giv st en lk s = some (.inl c)) : redO R giv st en lk (f + 1) s = .inl c := by rw [redO, h]
theorem redO_s {R : Rw} {giv : Bk} {st en lk : Int} {f : Nat} {s s' : TS} (h : stepO R giv st en lk s = some (.inr s')) : redO R giv st en lk (f + 1) s = redO R giv st en lk f s' := by rw [redO, h]
theorem letN_ok {R : Rw} {s s' : TS} {n x : Int} (h : OT s) (hw : letN R s n x = .inr s') : OT s' ∧ s'.nd = R 17 n ∧ s'.acc = s.acc := by
  obtain ⟨a1, a2, ⟨a3, a4⟩, a5⟩ := id h
  unfold letN at hw
  by_cases c : hs2 s.lts (R 4 n) 0
  · rw [if_pos c] at hw
    cases hh : warnO (s.sNd (R 17 n)) 4 (R 4 n) 0 0 (s.lts.2.2.2 (ps s.lts (R 4 n) 0)) with
    | inl k => rw [hh] at hw; cases hw
    | inr s2 =>
      rw [hh] at hw
      cases hw
      obtain ⟨⟨o1, o2, o3, o4⟩, o5, o6, o7⟩ := warnO_ok (s := s.sNd (R 17 n)) h hh
      exact ⟨⟨o1, o2, ⟨sbk_bset a3, a4⟩, o4⟩, o5, o6⟩
  · rw [if_neg c] at hw
    by_cases c2 : s.lts.1 < 40
    · rw [if_pos c2] at hw; cases hw
      refine ⟨⟨a1, a2, ⟨sbk_bins a3 c, ?_⟩, a5⟩, rfl, rfl⟩
      show insF s.lts.2.2.1 (ps s.lts (R 4 n) 0) 0 = z0
      rw [a4]; exact insF_z0 _
    · rw [if_neg c2] at hw; cases hw
theorem wgh_ok {s s' : TS} {a b c x : Int} (h : OT s) (hw : wgh s a b c x = .inr s') : OT s' ∧ s'.nd = s.nd ∧ s'.acc = s.acc := by
  unfold wgh at hw
  by_cases c1 : x ≤ 0
  · rw [if_pos c1] at hw
    obtain ⟨o1, o2, o3, _⟩ := warnO_ok h hw
    exact ⟨o1, o2, o3⟩
  · rw [if_neg c1] at hw
    by_cases c2 : x ≤ hld s.acc a c
    · rw [if_pos c2] at hw; cases hw; exact ⟨h, rfl, rfl⟩
    · rw [if_neg c2] at hw
      obtain ⟨o1, o2, o3, _⟩ := warnO_ok h hw
      exact ⟨o1, o2, o3⟩
theorem wgt_le {s : TS} (h : OT s) {a c x : Int} : hs2 s.acc a c → wgt (hld s.acc a c) x ≤ s.acc.2.2.2 (ps s.acc a c) := fun z => by
  obtain ⟨z1, z2⟩ := (hld_pos h.1.2 (a := a) (b := c)).1 z
  unfold wgt
  by_cases c1 : x ≤ 0
  · rw [if_pos c1]; omega
  · rw [if_neg c1]
    by_cases c2 : x ≤ hld s.acc a c
    · rw [if_pos c2]; omega
    · rw [if_neg c2]; omega
/-- a close pays its first account out -/
theorem payO_0 {lk : Int} {s s' : TS} (h : OT s) (hk : s.acc.1 ≠ 0) (hp : payO lk (s.sCp 1) 0 (s.acc.2.1 0) (s.acc.2.1 0) (s.acc.2.2.1 0) (s.acc.2.2.2 0) = .inr s') : (s'.acc.1 : Int) = s.acc.1 - 1 := by
  obtain ⟨e1, e2⟩ := hs2_eq h.1.1 (i := 0) (Int.le_refl _) (by omega) rfl rfl
  have hb : bdeb s.acc (s.acc.2.1 0) (s.acc.2.2.1 0) (s.acc.2.2.2 0) = brem s.acc (s.acc.2.1 0) (s.acc.2.2.1 0) := by
    unfold bdeb
    rw [if_pos e2, e1, if_pos (by omega)]
  have hbr : ((brem s.acc (s.acc.2.1 0) (s.acc.2.2.1 0)).1 : Int) = s.acc.1 - 1 := by
    show ((s.acc.1 - 1 : Nat) : Int) = _
    omega
  unfold payO at hp
  have e3 : (s.sCp 1).acc = s.acc := rfl
  rw [e3, hb] at hp
  by_cases c1 : (s.sCp 1).pay.1 < 60
  · rw [if_pos c1, if_neg (by decide)] at hp
    by_cases c3 : lk = 0
    · rw [if_pos c3] at hp
      cases hh : bcre (s.sCp 1).wal 60 (s.acc.2.1 0) (s.acc.2.2.1 0) (s.acc.2.2.2 0) with
      | inl k => rw [hh] at hp; cases hp
      | inr β => rw [hh] at hp; cases hp; exact hbr
    · rw [if_neg c3] at hp; cases hp; exact hbr
  · rw [if_neg c1] at hp; cases hp
