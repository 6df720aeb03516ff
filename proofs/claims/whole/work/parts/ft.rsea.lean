/-! THE REFERENCE's search: what its steps keep -/
abbrev sK (k : Int) : Prop := k ≠ 7 ∧ k ≠ 8 ∧ k ≠ 46 ∧ k ≠ 83 ∧ k ≠ 84 ∧ k ≠ 85 ∧ k ≠ 89 ∧ k ≠ 93 ∧ k ≠ 99 ∧ k ≠ 100 ∧ k ≠ 101 ∧ k ≠ 103 ∧ k ≠ 104 ∧ k ≠ 110 ∧ k ≠ 116 ∧ k ≠ 122 ∧ k ≠ 124 ∧ k ≠ 174 ∧ k ≠ 175
abbrev bkL (x : Nat) : Prop := x = 7061 ∨ x = 7062 ∨ x = 7063 ∨ x = 7065 ∨ x = 7066 ∨ x = 7067 ∨ x = 7069 ∨ x = 7070
def STp (j : Nat) (T : Int) (M N : im_M) : Prop := (∀ x, x ≠ 6952 → (x < 6955 ∨ 6958 < x) → (x < 6979 ∨ 6983 < x) → (x < 7011 ∨ 7018 < x) → (x < 7021 ∨ 7041 < x) → (x < 7057 ∨ 7079 < x) → N x = M x) ∧ (∀ k, sK k → N 6952 k = M 6952 k) ∧ (∀ i, i < T → N 6955 i = M 6955 i) ∧ (∀ x, 7057 ≤ x → x ≤ 7079 → ∀ q, q < (j : Int) → N x q = M x q) ∧ (∀ x, bkL x → ∀ q, q < 40 * (j : Int) → N x q = M x q)
theorem STp.rf (j : Nat) (T : Int) (M : im_M) : STp j T M M := ⟨fun _ _ _ _ _ _ _ => rfl, fun _ _ => rfl, fun _ _ => rfl, fun _ _ _ _ _ => rfl, fun _ _ _ _ => rfl⟩
theorem STp.trans {j : Nat} {T : Int} {M M1 M2 : im_M} (h : STp j T M M1) (h' : STp j T M1 M2) : STp j T M M2 := ⟨fun x a b c d f i => (h'.1 x a b c d f i).trans (h.1 x a b c d f i), fun k a => (h'.2.1 k a).trans (h.2.1 k a), fun i a => (h'.2.2.1 i a).trans (h.2.2.1 i a), fun x a b q c => (h'.2.2.2.1 x a b q c).trans (h.2.2.2.1 x a b q c), fun x a q c => (h'.2.2.2.2 x a q c).trans (h.2.2.2.2 x a q c)⟩
theorem STp.wk {j j' : Nat} {T T' : Int} {M N : im_M} (h : STp j T M N) (hj : j' ≤ j) (hT : T' ≤ T) : STp j' T' M N := ⟨h.1, h.2.1, fun i a => h.2.2.1 i (by omega), fun x a b q c => h.2.2.2.1 x a b q (by omega), fun x a q c => h.2.2.2.2 x a q (by omega)⟩
theorem tkL.st {j : Nat} {T : Int} {M N : im_M} (h : tkL M N) : STp j T M N := ⟨fun x a b c d f i => h.1 x a (by omega), fun k a => h.2 k a.1 a.2.2.1 a.2.2.2.1 a.2.2.2.2.1 a.2.2.2.2.2.1 a.2.2.2.2.2.2.1 a.2.2.2.2.2.2.2.1 a.2.2.2.2.2.2.2.2.1 a.2.2.2.2.2.2.2.2.2.1 a.2.2.2.2.2.2.2.2.2.2.2.2.2.2.2.2.2.1, fun i _ => by rw [h.1 6955 (by decide) (by decide)], fun x a b q _ => by rw [h.1 x (by omega) (by omega)], fun x a q _ => by rw [h.1 x (by omega) (by omega)]⟩
theorem OF.st {j : Nat} {T : Int} {M N : im_M} (h : OF j M N) (hT : T ≤ M 6952 7) : STp j T M N := ⟨fun x a b c d f i => h.1 x a b c (by omega) (by omega), fun k a => h.2.2.1 k a.1 a.2.1 a.2.2.1 a.2.2.2.2.2.2.2.2.2.2.2.2.2.2.2.1 a.2.2.2.2.2.2.2.2.2.2.2.2.2.2.2.2.1 a.2.2.2.2.2.2.2.2.2.2.2.2.2.2.2.2.2.1, fun i hi => h.2.2.2.1 i (by omega), fun x a b q hq => by
  by_cases z : x < 7071 ∨ 7073 < x
  · rw [h.1 x (by omega) (by omega) (by omega) (by omega) z]
  · exact h.2.1 x (by omega) (by omega) q (by omega), fun x a q _ => by rw [h.1 x (by omega) (by omega) (by omega) (by omega) (by omega)]⟩
theorem RU.st {j : Nat} {T : Int} {M N : im_M} (h : RU M N) (hT : T ≤ M 6952 7) : STp j T M N := ⟨fun x a b c d f i => h.1 x a b (by omega) (by omega), fun k a => h.2.1 k a.1 a.2.1 a.2.2.2.1 a.2.2.2.2.1 a.2.2.2.2.2.1 a.2.2.2.2.2.2.1 a.2.2.2.2.2.2.2.1 a.2.2.2.2.2.2.2.2.1 a.2.2.2.2.2.2.2.2.2.1 a.2.2.2.2.2.2.2.2.2.2.1 a.2.2.2.2.2.2.2.2.2.2.2.1 a.2.2.2.2.2.2.2.2.2.2.2.2.1 a.2.2.2.2.2.2.2.2.2.2.2.2.2.1 a.2.2.2.2.2.2.2.2.2.2.2.2.2.2.1 a.2.2.2.2.2.2.2.2.2.2.2.2.2.2.2.1 a.2.2.2.2.2.2.2.2.2.2.2.2.2.2.2.2.1, fun i hi => h.2.2.1 i (by omega), fun x a b q _ => by rw [h.1 x (by omega) (by omega) (by omega) (by omega)], fun x a q _ => by rw [h.1 x (by omega) (by omega) (by omega) (by omega)]⟩
theorem STp.f {j : Nat} {T : Int} {M N : im_M} (h : STp j T M N) {k y : Int} (hk : k = 174 ∨ k = 175) : STp j T M (im_u N 6952 k y) := ⟨fun x a b c d f i => (im_u_ne _ _ _ a).trans (h.1 x a b c d f i), fun k' a => (im_rdk _ _ _ (fun z => by rcases hk with w | w <;> (rw [w] at z; first | exact a.2.2.2.2.2.2.2.2.2.2.2.2.2.2.2.2.2.1 z | exact a.2.2.2.2.2.2.2.2.2.2.2.2.2.2.2.2.2.2 z))).trans (h.2.1 k' a), fun i hi => (im_rdn _ _ _ _ (by decide)).trans (h.2.2.1 i hi), fun x a b q hq => (im_rdn _ _ _ _ (by omega)).trans (h.2.2.2.1 x a b q hq), fun x a q hq => (im_rdn _ _ _ _ (by omega)).trans (h.2.2.2.2 x a q hq)⟩
def s9 (M : im_M) : Prop := (0 ≤ M 6952 99 ∧ M 6952 99 ≤ 1000000000000000) ∧ (0 ≤ M 6952 100 ∧ M 6952 100 ≤ 1000000000000000)
/-- what a search has all the while -/
def SS (M : im_M) (R : Rw) (m : Int) (giv : Bk) (T0 : Int) : Prop := RP M R m ∧ (rb1 M 96 7019 7020 giv T0 ∧ giv.1 ≤ 20 ∧ sbk giv) ∧ (M 6952 6 ≤ T0 ∧ 0 ≤ T0) ∧ (M 6952 102 = 1 ∧ (∀ Γ : Env, Γ.2.2.2.1 = giv → KN M R m Γ) ∧ (M 6952 8 = 0 ∨ M 6952 8 = 1)) ∧ (0 ≤ M 6952 116 ∧ M 6952 116 ≤ 60) ∧ M 6952 36 ≤ 20400 ∧ s9 M
theorem SS.st {j : Nat} {M N : im_M} {R : Rw} {m : Int} {giv : Bk} {T0 T : Int} (h : SS M R m giv T0) (hF : STp j T M N) (hT : T0 ≤ T) (hk : ∀ Γ : Env, Γ.2.2.2.1 = giv → KN N R m Γ) (h8 : N 6952 8 = 0 ∨ N 6952 8 = 1) (h116 : 0 ≤ N 6952 116 ∧ N 6952 116 ≤ 60) (h9 : s9 N) : SS N R m giv T0 := by
  obtain ⟨c1, ⟨c2, c3, c4⟩, ⟨c5, c6⟩, ⟨c7, _, _⟩, _, c9, _⟩ := h
  obtain ⟨f1, f2, f3, _, _⟩ := hF
  have g6 := f2 6 (by decide)
  have g36 := f2 36 (by decide)
  refine ⟨RP_congr c1 g6 g36 (fun x a b => f1 x (by omega) (by omega) (by omega) (by omega) (by omega) (by omega)) (fun i hi => f3 i (by omega)), ⟨rb1_congr c2 (f2 96 (by decide)) (f1 7019 (by decide) (by decide) (by decide) (by decide) (by decide) (by decide)) (f1 7020 (by decide) (by decide) (by decide) (by decide) (by decide) (by decide)) (fun i hi => f3 i (by omega)) (Int.le_refl _), c3, c4⟩, ⟨by rw [g6]; exact c5, c6⟩, ⟨by rw [f2 102 (by decide)]; exact c7, hk, h8⟩, h116, by rw [g36]; exact c9, h9⟩
/-- a level is taken -/
theorem SS.tk {M N : im_M} {R : Rw} {m : Int} {giv : Bk} {T0 T : Int} {l : Lv} (h : SS M R m giv T0) (hF : tkL M N) (hT : T0 ≤ T) (hls : 0 ≤ l.ls ∧ l.ls ≤ 1000000000000000) (h7 : N 6952 83 = l.nd ∧ N 6952 84 = l.ls ∧ N 6952 7 = T ∧ N 6952 99 = l.ls ∧ N 6952 100 = l.ls ∧ N 6952 46 = 0 ∧ N 6952 174 = l.ls) (ha : rb2 N 85 7011 7012 7013 l.ac T) (hc : rb2 N 89 7014 7015 7016 l.ch T) (hl : rb1 N 93 7017 7018 l.lt T) : TKL N R m giv l T := by
  obtain ⟨c1, ⟨c2, c3, c4⟩, ⟨c5, c6⟩, ⟨c7, c8, c9⟩, c10, c11, _⟩ := h
  obtain ⟨f1, f2⟩ := hF
  have g : ∀ k, k ≠ 7 → k ≠ 46 → k ≠ 83 → k ≠ 84 → k ≠ 85 → k ≠ 89 → k ≠ 93 → k ≠ 99 → k ≠ 100 → k ≠ 174 → N 6952 k = M 6952 k := f2
  have g6 := g 6 (by decide) (by decide) (by decide) (by decide) (by decide) (by decide) (by decide) (by decide) (by decide) (by decide)
  have g36 := g 36 (by decide) (by decide) (by decide) (by decide) (by decide) (by decide) (by decide) (by decide) (by decide) (by decide)
  have g96 := g 96 (by decide) (by decide) (by decide) (by decide) (by decide) (by decide) (by decide) (by decide) (by decide) (by decide)
  have g102 := g 102 (by decide) (by decide) (by decide) (by decide) (by decide) (by decide) (by decide) (by decide) (by decide) (by decide)
  have g8 := g 8 (by decide) (by decide) (by decide) (by decide) (by decide) (by decide) (by decide) (by decide) (by decide) (by decide)
  have g116 := g 116 (by decide) (by decide) (by decide) (by decide) (by decide) (by decide) (by decide) (by decide) (by decide) (by decide)
  have p5 : ∀ i, N 6955 i = M 6955 i := fun i => by rw [f1 6955 (by decide) (by decide)]
  refine ⟨RP_congr c1 g6 g36 (fun x a b => f1 x (by omega) (by omega)) (fun i _ => p5 i), ⟨ha, hc, hl, ⟨rb1_congr c2 g96 (f1 7019 (by decide) (by decide)) (f1 7020 (by decide) (by decide)) (fun i _ => p5 i) hT, c3, c4⟩, ⟨h7.2.2.2.1, h7.2.2.2.2.1⟩, hls, hls⟩, ⟨by rw [g6]; omega, by omega, by rw [h7.2.2.1]; exact Int.le_refl _⟩, ⟨by rw [g102]; exact c7, KN_congr (c8 (l.env giv) rfl) (fun x a b => f1 x (by omega) (by omega)), by rw [g8]; exact c9⟩, by rw [g116]; exact c10, by rw [g36]; exact c11, h7.1, h7.2.1⟩
theorem rPe.cg {M N : im_M} {T T' : Int} {j : Nat} {p : Pe} (h : rPe M T j p) (hs : ∀ x, 7074 ≤ x → x ≤ 7079 → N x j = M x j) (hp : ∀ i, i < T → N 6955 i = M 6955 i) (hT : T ≤ T') : rPe N T' j p := by
  obtain ⟨h1, h2, h3, h4, h5⟩ := h
  unfold rPe
  rw [hs 7074 (by decide) (by decide), hs 7075 (by decide) (by decide), hs 7076 (by decide) (by decide), hs 7077 (by decide) (by decide), hs 7078 (by decide) (by decide), hs 7079 (by decide) (by decide)]
  exact ⟨h1, h2, fun z => ⟨(h3 z).1, (h3 z).2.1, rnp_congr (h3 z).2.2 hp hT⟩, h4, h5⟩
/-- the levels that wait -/
def rStk (M : im_M) (R : Rw) (m e0 : Int) (giv : Bk) (T0 P0 : Int) (P : Nat → Pe) : Int → List (Lv × List Pe) → Prop
  | _, [] => True
  | U, x :: S => ∃ T, (T0 ≤ T ∧ T ≤ U) ∧ rLv M S.length x.1.nd x.1.ls T x.1.ac x.1.ch x.1.lt ∧ rCu M R m giv S.length x.1 x.2 ∧ lvO R m e0 x.1 x.2 ∧ mu R x.1 + S.length ≤ 103 ∧ T + 700 * (e0 - x.1.nd) + 400 * x.1.ac.1 + 2416 * (104 - S.length) ≤ P0 ∧ (∀ i : Nat, S.length = i + 1 → rPe M T i (P i) ∧ peO (P i)) ∧ rStk M R m e0 giv T0 P0 P T S
theorem rStk.fr {M N : im_M} {R : Rw} {m e0 : Int} {giv : Bk} {T0 P0 : Int} {P P' : Nat → Pe} {j : Nat} : ∀ (S : List (Lv × List Pe)) {U T' : Int}, rStk M R m e0 giv T0 P0 P U S → STp j T' M N → S.length ≤ j → U ≤ T' → (∀ i, i < S.length → P' i = P i) → rStk N R m e0 giv T0 P0 P' U S := by
  intro S
  induction S with
  | nil => intro U T' _ _ _ _ _; trivial
  | cons x S ih =>
    intro U T' h hF hl hU hP
    have hlen : (x :: S).length = S.length + 1 := rfl
    rw [hlen] at hl
    obtain ⟨T, h1, h2, h3, h4, h5, h6, h7, h8⟩ := h
    have pl : ∀ i, i < T → N 6955 i = M 6955 i := fun i hi => hF.2.2.1 i (by omega)
    refine ⟨T, h1, h2.lw (j := j) ⟨fun y a b q hq => hF.2.2.2.1 y a (by omega) q hq, fun y hy q hq => hF.2.2.2.2 y hy q hq⟩ (by omega) pl, h3.cg (fun y a b => hF.2.2.2.1 y (by omega) (by omega) _ (by omega)), h4, h5, h6, fun i hi => ?_, ih h8 hF (by omega) (by omega) (fun i hi => hP i (by rw [hlen]; omega))⟩
    rw [hP i (by rw [hlen]; omega)]
    exact ⟨(h7 i hi).1.cg (fun y a b => hF.2.2.2.1 y (by omega) b _ (by omega)) pl (Int.le_refl _), (h7 i hi).2⟩
theorem rStk.le {M : im_M} {R : Rw} {m e0 : Int} {giv : Bk} {T0 P0 : Int} {P : Nat → Pe} : ∀ {S : List (Lv × List Pe)} {U U' : Int}, rStk M R m e0 giv T0 P0 P U S → U ≤ U' → rStk M R m e0 giv T0 P0 P U' S := by
  intro S
  cases S with
  | nil => intro _ _ _ _; trivial
  | cons x S =>
    intro U U' h hU
    obtain ⟨T, h1, h2⟩ := h
    exact ⟨T, ⟨h1.1, by omega⟩, h2⟩
/-- all tries on the path -/
theorem rStk.pa {M : im_M} {R : Rw} {m e0 : Int} {giv : Bk} {T0 P0 : Int} {P : Nat → Pe} : ∀ (S : List (Lv × List Pe)) {U : Int}, rStk M R m e0 giv T0 P0 P U S → ∀ i : Nat, i + 1 < S.length → rPe M U i (P i) ∧ peO (P i) := by
  intro S
  induction S with
  | nil => intro U _ i hi; exact absurd hi (Nat.not_lt_zero _)
  | cons x S ih =>
    intro U h i hi
    obtain ⟨T, h1, h2, h3, h4, h5, h6, h7, h8⟩ := h
    have hlen : (x :: S).length = S.length + 1 := rfl
    rw [hlen] at hi
    by_cases z : S.length = i + 1
    · exact ⟨(h7 i z).1.cg (fun _ _ _ => rfl) (fun _ _ => rfl) h1.2, (h7 i z).2⟩
    · have := ih h8 i (by omega)
      exact ⟨this.1.cg (fun _ _ _ => rfl) (fun _ _ => rfl) h1.2, this.2⟩
section KEEPT
variable {g : im_g} {d : Nat} {e : im_E} {M : im_M} {K : im_K} {R : Rw} {m : Int} {giv : Bk} {l : Lv} {T e0 : Int} {j : Nat}
theorem c_keepTry {p : Pe} (hj : j < 402) (hp : peO p) (h : rRd M p) (hK : ∀ M', (∀ x, (x < 7074 ∨ 7079 < x) → M' x = M x) → (∀ x q, q ≠ (j : Int) → M' x q = M x q) → rPe M' (M 6952 7) j p → K (.inl none) e M') : im_T g d 436 0 [some (.ref 6952), some (vI j)] [] e M K := by
  obtain ⟨h46, h174, hI⟩ := h
  refine b_keepTry_0 (fun x4 hx4 => ⟨⟨by omega, by omega⟩, ?_, ?_⟩)
  · by_cases z : p.1 = -1
    · rw [if_pos z] at h46
      have : x4 = 0 := by omega
      rw [this]; decide
    · obtain ⟨_, i2, i3, _⟩ := hI z
      rw [if_neg z] at h46
      have : x4 = p.1 - 20 := by omega
      rw [this]; constructor <;> omega
  · generalize hF : im_u (im_u (im_u (im_u (im_u (im_u M 7074 j x4) 7075 j (M 6980 0)) 7076 j (M 6981 0)) 7077 j (M 6982 0)) 7078 j (M 6983 0)) 7079 j (M 6952 174) = F
    have fx : ∀ x, (x < 7074 ∨ 7079 < x) → F x = M x := fun x a => by rw [← hF, im_u_ne _ _ _ (by omega), im_u_ne _ _ _ (by omega), im_u_ne _ _ _ (by omega), im_u_ne _ _ _ (by omega), im_u_ne _ _ _ (by omega), im_u_ne _ _ _ (by omega)]
    have up : ∀ (N : im_M) (a : Nat) (v : Int) (x : Nat) (q : Int), q ≠ (j : Int) → im_u N a j v x q = N x q := fun N a v x q hq => by
      by_cases z : x = a
      · rw [z, im_rdk _ _ _ hq]
      · rw [im_rdn _ _ _ _ z]
    have fq : ∀ x q, q ≠ (j : Int) → F x q = M x q := fun x q a => by rw [← hF, up _ _ _ _ _ a, up _ _ _ _ _ a, up _ _ _ _ _ a, up _ _ _ _ _ a, up _ _ _ _ _ a, up _ _ _ _ _ a]
    have f79 : F 7079 j = M 6952 174 := by rw [← hF, im_rds]
    have f78 : F 7078 j = M 6983 0 := by rw [← hF, im_rdn _ _ _ _ (by decide), im_rds]
    have f77 : F 7077 j = M 6982 0 := by rw [← hF, im_rdn _ _ _ _ (by decide), im_rdn _ _ _ _ (by decide), im_rds]
    have f76 : F 7076 j = M 6981 0 := by rw [← hF, im_rdn _ _ _ _ (by decide), im_rdn _ _ _ _ (by decide), im_rdn _ _ _ _ (by decide), im_rds]
    have f75 : F 7075 j = M 6980 0 := by rw [← hF, im_rdn _ _ _ _ (by decide), im_rdn _ _ _ _ (by decide), im_rdn _ _ _ _ (by decide), im_rdn _ _ _ _ (by decide), im_rds]
    have f74 : F 7074 j = x4 := by rw [← hF, im_rdn _ _ _ _ (by decide), im_rdn _ _ _ _ (by decide), im_rdn _ _ _ _ (by decide), im_rdn _ _ _ _ (by decide), im_rdn _ _ _ _ (by decide), im_rds]
    clear hF
    refine hK F fx fq ⟨fun z => ?_, fun z => ?_, fun z => ?_, fun z => ?_, by rw [f79]; exact h174⟩
    · rw [if_pos z] at h46
      rw [f74]; omega
    · obtain ⟨_, i2, i3, _⟩ := hI z
      rw [if_neg z] at h46
      rw [f74]; omega
    · obtain ⟨_, i2, i3, i4, _⟩ := hI (by omega)
      obtain ⟨y1, y2, y3⟩ := i4 (by omega)
      rw [f75, f76, f78]
      exact ⟨y1, y2, rnp_congr y3 (fun i _ => by rw [fx 6955 (by decide)]) (Int.le_refl _)⟩
    · obtain ⟨_, i2, i3, i4, i5⟩ := hI (by omega)
      rw [f77]; exact i5 z
end KEEPT
