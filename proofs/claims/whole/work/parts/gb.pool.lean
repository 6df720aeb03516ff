/-! THE POOL grows by a text -/
theorem nxt_cg {R R' : Rw} {lo i p c : Int} (hR : ∀ (f : Nat) (j : Int), lo ≤ j → R' f j = R f j) (hi : lo ≤ i) (h : nxt R i p c) : nxt R' i p c := by
  rcases h with h | ⟨a, b, c1, c2, c3⟩
  · exact Or.inl h
  · refine Or.inr ⟨a, by rw [hR 1 p (by omega), hR 1 i hi]; exact b, c1, fun j j1 j2 => ?_, by rw [hR 1 c (by omega), hR 1 p (by omega)]; exact c3⟩
    rw [hR 1 p (by omega), hR 1 j (by omega)]; exact c2 j j1 j2
theorem lks_cg {R R' : Rw} {lo m i : Int} (hR : ∀ (f : Nat) (j : Int), lo ≤ j → R' f j = R f j) (hi : lo ≤ i) : ∀ (L : List (Int × Int)) {p q : Int}, lks R m i p L q → lks R' m i p L q := by
  intro L
  induction L with
  | nil => intro p q h; exact h
  | cons y L ih =>
    intro p q h
    obtain ⟨a1, a2, a3, a4, a5⟩ := h
    have := (nxt_lt a1).1
    show nxt R' i p (R' (15 + y.2.toNat) i) ∧ bgn y.1 (R' 0 (R' (15 + y.2.toNat) i)) ∧ R' 1 (R' (15 + y.2.toNat) i) = R' 1 i + 1 ∧ R' (15 + y.2.toNat) i < m ∧ lks R' m i (R' (15 + y.2.toNat) i) L q
    rw [hR _ i hi, hR 0 _ (by omega), hR 1 _ (by omega), hR 1 i hi]
    exact ⟨nxt_cg hR hi a1, a2, a3, a4, ih a5⟩
theorem chc_cg {R R' : Rw} {lo m i : Int} (hR : ∀ (f : Nat) (j : Int), lo ≤ j → R' f j = R f j) (hi : lo ≤ i) : ∀ (cs : List Int) {p l q : Int}, chc R m i p l cs q → chc R' m i p l cs q := by
  intro cs
  induction cs with
  | nil => intro p l q h; exact h
  | cons c cs ih =>
    intro p l q h
    obtain ⟨a1, a2, a3, a4, a5, a6⟩ := h
    have := (nxt_lt a2).1
    refine ⟨a1, nxt_cg hR hi a2, by rw [hR 0 c (by omega)]; exact a3, by rw [hR 1 c (by omega), hR 1 i hi]; exact a4, a5, ?_⟩
    rw [hR 19 c (by omega)]; exact ih a6
theorem TR_cg {R R' : Rw} {lo m i : Int} (hR : ∀ (f : Nat) (j : Int), lo ≤ j → R' f j = R f j) (hi : lo ≤ i) (h : TR R m i) : TR R' m i := by
  obtain ⟨h1, cs, q0, q, h2, h3, h4⟩ := h
  refine ⟨by rw [hR 0 i hi]; exact h1, cs, q0, q, fun z => ?_, fun z => h3 (by rw [← hR 0 i hi]; exact z), by rw [hR 0 i hi]; exact lks_cg hR hi _ h4⟩
  rw [hR 0 i hi] at z
  rw [hR 16 i hi, hR 3 i hi]
  exact ⟨chc_cg hR hi cs (h2 z).1, (h2 z).2⟩
theorem XN_cg {R R' : Rw} {lo m i : Int} (hR : ∀ (f : Nat) (j : Int), lo ≤ j → R' f j = R f j) (h0 : 0 ≤ lo) (hi : lo ≤ i) (h : XN lo R m i) : XN lo R' m i := by
  obtain ⟨a1, a2, a3, ⟨b1, b2, b3⟩, a5, a6, a7⟩ := h
  have e : ∀ f : Nat, R' f i = R f i := fun f => hR f i hi
  refine ⟨fun z => by rw [e]; exact a1 z, by unfold big3; rw [e, e, e]; exact a2, fun s s1 s2 => by rw [e]; exact a3 s s1 s2, ⟨fun s s1 s2 s3 s4 => ?_, fun z => ?_, fun z z2 => ?_⟩, fun z => by rw [e, e]; exact a5 z, fun z => ?_, fun z s s1 s2 hy => ?_⟩
  · rw [e] at s4 ⊢
    rw [e] at s3
    have := a3 s s1 (by omega)
    rw [e, hR 2 _ (by omega), hR 0 _ (by omega)]; exact b1 s s1 s2 s3 s4
  · rw [e] at z ⊢
    have := a3 19 (by decide) (by decide)
    rw [e, hR 2 _ (by omega)]; exact b2 z
  · rw [e] at z z2 ⊢
    have := a3 18 (by decide) (by decide)
    rw [e, hR 2 _ (by omega)]; exact b3 z z2
  · obtain ⟨p, p0, p1, hk⟩ := a6 z
    refine ⟨p, p0, p1, ?_⟩
    unfold kin
    rw [hR 0 p p0, hR 16 p p0, hR 19 p p0]
    rcases hk with ⟨y, hy, q⟩ | hk | hk
    · exact Or.inl ⟨y, hy, by rw [hR _ p p0]; exact q⟩
    · exact Or.inr (Or.inl hk)
    · exact Or.inr (Or.inr hk)
  · rw [e] at z hy ⊢
    exact a7 z s s1 s2 hy
theorem lks_bgn {R : Rw} {m i : Int} : ∀ (L : List (Int × Int)) {p q : Int}, lks R m i p L q → ∀ y ∈ L, bgn y.1 (R 0 (R (15 + y.2.toNat) i)) := by
  intro L
  induction L with
  | nil => intro p q _ y hy; cases hy
  | cons a L ih =>
    intro p q h y hy
    obtain ⟨_, a2, _, _, a5⟩ := h
    rcases List.mem_cons.mp hy with e | e
    · rw [e]; exact a2
    · exact ih a5 y e
/-- a parent's part -/
theorem kin_isK {lo m : Int} {R : Rw} (h0 : 0 ≤ lo) (hr : R 0 lo ≤ 5) (h : ∀ i, lo ≤ i → i < m → TR R m i ∧ XN lo R m i) : ∀ (n : Nat) (j : Int), lo < j → j < m → (j - lo).toNat ≤ n → ∃ i, lo ≤ i ∧ i < j ∧ isK R m i j := by
  intro n
  induction n with
  | zero => intro j j0 j1 hn; omega
  | succ n ih =>
    intro j j0 j1 hn
    obtain ⟨p, p0, p1, hk⟩ := (h j (by omega) j1).2.2.2.2.2.2.1 (by omega)
    rcases hk with ⟨y, hy, e⟩ | ⟨k1, k2⟩ | ⟨k1, k2⟩
    · exact ⟨p, p0, p1, Or.inl ⟨y, hy, e.symm⟩⟩
    · obtain ⟨cs, q0, q, a1, _⟩ := (h p p0 (by omega)).1.2
      obtain ⟨b1, _⟩ := a1 k1
      refine ⟨p, p0, p1, Or.inr ⟨k1, cs, q0, b1, ?_⟩⟩
      rw [← k2]
      exact chc_fst b1 (by omega)
    · have hpl : p ≠ lo := fun z => by rw [z] at k1; omega
      obtain ⟨i, i0, i1, hi⟩ := ih p (by omega) (by omega) (by omega)
      rcases hi with ⟨y, hy, e⟩ | ⟨q1, cs, q0, q2, q3⟩
      · obtain ⟨_, cs, q0, q, _, _, hl⟩ := (h i i0 (by omega)).1
        have hb := lks_bgn _ hl y hy
        rw [← e] at hb
        unfold bgn at hb
        omega
      · refine ⟨i, i0, by omega, Or.inr ⟨q1, cs, q0, q2, ?_⟩⟩
        rw [← k2]
        exact chc_next cs q2 p q3 (by omega)
/-- all that the pool keeps -/
def PW (R : Rw) (m : Int) : Prop := WFP R m ∧ m ≤ 4000 ∧ prH R m ∧ lkR R m ∧ abH R m ∧ w2H R m
theorem PW_0 (R : Rw) : PW R 0 := by
  refine ⟨⟨Int.le_refl _, by decide, fun i a b => by omega⟩, by decide, ⟨fun i a b => by omega, fun i a b => by omega⟩, fun i a b => by omega, ⟨fun i a b => by omega, fun i a b => by omega⟩, fun i a b => by omega, fun i a b => by omega, fun i a b => by omega, fun i a b => by omega⟩
theorem isK_mono {R R' : Rw} {m m' i j : Int} (hi : i < m) (hR : ∀ (f : Nat) (j : Int), j < m → R' f j = R f j) (hm : m ≤ m') (h : isK R m i j) : isK R' m' i j := by
  rcases h with ⟨y, hy, e⟩ | ⟨k1, cs, q0, h1, h2⟩
  · exact Or.inl ⟨y, by rw [hR 0 i hi]; exact hy, by rw [hR _ i hi]; exact e⟩
  · refine Or.inr ⟨by rw [hR 0 i hi]; exact k1, cs, q0, ?_, h2⟩
    rw [hR 16 i hi]
    exact chc_congr hi (fun j hj => hR 1 j hj) (fun j hj z => by rw [hR 0 j hj]; exact z) hm cs (fun c hc => hR 19 c (chc_mem cs h1 (fun j j1 j2 => by omega) c hc).2.1) h1
theorem isK_cg {R R' : Rw} {lo m i j : Int} (hi : lo ≤ i) (hR : ∀ (f : Nat) (j : Int), lo ≤ j → R' f j = R f j) (h : isK R m i j) : isK R' m i j := by
  rcases h with ⟨y, hy, e⟩ | ⟨k1, cs, q0, h1, h2⟩
  · exact Or.inl ⟨y, by rw [hR 0 i hi]; exact hy, by rw [hR _ i hi]; exact e⟩
  · refine Or.inr ⟨by rw [hR 0 i hi]; exact k1, cs, q0, ?_, h2⟩
    rw [hR 16 i hi]
    exact chc_cg hR hi cs h1
theorem nzr_cg {R R' : Rw} {i : Int} (hR : ∀ f : Nat, R' f i = R f i) (h : nzr R i) : nzr R' i := by
  unfold nzr
  rw [hR 0, hR 4, hR 5, hR 6]
  refine ⟨h.1, fun z s s1 s2 hy => ?_⟩
  rw [hR]; exact h.2 z s s1 s2 hy
theorem GX_glue {R S : Rw} {m m' : Int} (h : GX m S m') (h0 : 0 ≤ m) : GX m (glR R m S) m' := by
  have hR : ∀ (f : Nat) (j : Int), m ≤ j → glR R m S f j = S f j := fun f j hj => glR_ge hj
  obtain ⟨h1, h2, h3⟩ := h
  refine ⟨h1, by rw [hR 1 m (Int.le_refl _), hR 0 m (Int.le_refl _)]; exact h2, fun i i0 i1 => ?_⟩
  obtain ⟨a1, a2, a3, a4, a5, a6, a7⟩ := h3 i i0 i1
  refine ⟨TR_cg hR i0 a1, nmv_congr a2 (fun f _ => hR f i i0), by rw [hR 1 i i0]; exact a3, by rw [hR 0 i i0, hR 6 i i0]; exact a4, by rw [hR 1 i i0, hR 2 i i0]; exact a5, XN_cg hR h0 i0 a6, nzr_cg (fun f => hR f i i0) a7⟩
theorem PW_add {R G : Rw} {m m' : Int} (hP : PW R m) (h : GX m G m') (hm' : m' ≤ 4000) (hG : ∀ (f : Nat) (j : Int), j < m → G f j = R f j) : PW G m' := by
  obtain ⟨⟨p0, p1, p2⟩, p3, ⟨p4, p5⟩, p6, ⟨p7, p8⟩, p9, p10, p11, p12⟩ := hP
  obtain ⟨⟨g1, g2, g3⟩, ⟨g4, g5, g6⟩, g7⟩ := h
  have hK := kin_isK p0 g6 (fun i i0 i1 => ⟨(g7 i i0 i1).1, (g7 i i0 i1).2.2.2.2.2.1⟩)
  refine ⟨⟨by omega, by omega, fun i i0 i1 => ?_⟩, hm', ⟨fun j j0 j1 => ?_, fun i i0 i1 => ?_⟩, fun i i0 i1 s s1 s2 => ?_, ⟨fun i i0 i1 => ?_, fun i i0 i1 => ?_⟩, fun i i0 i1 s s1 s2 s3 s4 => ?_, fun i i0 i1 s4 => ?_, fun i i0 i1 s4 => ?_, fun i i0 i1 s4 => ?_⟩
  · by_cases c : i < m
    · obtain ⟨a1, a2, a3, a4⟩ := p2 i i0 c
      exact ⟨TR_mono a1 c hG (by omega), nmv_congr a2 (fun f _ => hG f i c), by rw [hG 1 i c]; exact a3, by rw [hG 0 i c, hG 6 i c]; exact a4⟩
    · obtain ⟨a1, a2, a3, a4, _⟩ := g7 i (by omega) i1
      exact ⟨a1, a2, a3, a4⟩
  · by_cases c : j < m
    · rw [hG 1 j c]
      rcases p4 j j0 c with z | ⟨i, i0, i1, z⟩
      · exact Or.inl z
      · exact Or.inr ⟨i, i0, i1, isK_mono (by omega) hG (by omega) z⟩
    · by_cases e : j = m
      · rw [e]; exact Or.inl g4
      · obtain ⟨i, i0, i1, z⟩ := hK _ j (by omega) j1 (Nat.le_refl _)
        exact Or.inr ⟨i, by omega, i1, z⟩
  · by_cases c : i < m
    · rw [hG 4 i c, hG 5 i c, hG 6 i c]
      exact ⟨(p5 i i0 c).1, nzr_cg (fun f => hG f i c) (p5 i i0 c).2⟩
    · obtain ⟨_, _, _, _, _, a6, a7⟩ := g7 i (by omega) i1
      exact ⟨a6.2.1, a7⟩
  · by_cases c : i < m
    · rw [hG s i c]; have := p6 i i0 c s s1 s2; omega
    · have := (g7 i (by omega) i1).2.2.2.2.2.1.2.2.1 s s1 s2; omega
  · by_cases c : i < m
    · rw [hG 4 i c, hG 5 i c, hG 6 i c]; exact p7 i i0 c
    · obtain ⟨_, a2, _, _, _, a6, _⟩ := g7 i (by omega) i1
      have b := a6.2.1
      have b' := a2.1
      unfold big3 at b
      refine ⟨⟨by omega, by omega⟩, ⟨by omega, by omega⟩, ⟨by omega, by omega⟩⟩
  · by_cases c : i < m
    · rw [hG 2 i c]; exact p8 i i0 c
    · obtain ⟨_, _, a3, _, a5, _⟩ := g7 i (by omega) i1
      omega
  · by_cases c : i < m
    · rw [hG 0 i c] at s3
      rw [hG s i c] at s4 ⊢
      have := p6 i i0 c s s1 (by omega)
      rw [hG 2 i c, hG 2 _ (by omega), hG 0 _ (by omega)]
      exact p9 i i0 c s s1 s2 s3 s4
    · exact (g7 i (by omega) i1).2.2.2.2.2.1.2.2.2.1.1 s s1 s2 s3 s4
  · by_cases c : i < m
    · rw [hG 19 i c] at s4 ⊢
      have := p6 i i0 c 19 (by decide) (by decide)
      rw [hG 2 i c, hG 2 _ (by omega)]
      exact p10 i i0 c s4
    · exact (g7 i (by omega) i1).2.2.2.2.2.1.2.2.2.1.2.1 s4
  · by_cases c : i < m
    · rw [hG 1 i c] at s4
      rw [hG 2 i c, hG 0 i c]; exact p11 i i0 c s4
    · have a6 := (g7 i (by omega) i1).2.2.2.2.2.1
      by_cases e : i = m
      · exact a6.2.2.2.2.1 e
      · have := a6.1 e; omega
  · by_cases c : i < m
    · rw [hG 1 i c] at s4
      obtain ⟨k, k0, k1, k2⟩ := p12 i i0 c s4
      refine ⟨k, k0, ?_, fun x x1 x2 => by rw [hG 1 x (by omega)]; exact k2 x x1 x2⟩
      unfold lnkd
      rw [hG 16 k (by omega), hG 17 k (by omega), hG 0 k (by omega), hG 18 k (by omega), hG 19 k (by omega)]; exact k1
    · have e : i ≠ m := fun e => by rw [e] at s4; exact s4 g4
      obtain ⟨p, q0, q1, hk⟩ := (g7 i (by omega) i1).2.2.2.2.2.1.2.2.2.2.2.1 e
      refine ⟨p, ⟨by omega, q1⟩, ?_, fun x x1 x2 => ?_⟩
      · rcases hk with ⟨y, hy, e⟩ | ⟨k1, k2⟩ | ⟨k1, k2⟩
        · have hs := kids_sl hy
          have h3 : G 0 p = 3 → y.2 = 2 := fun z => by rw [z] at hy; exact kids_3 hy
          have hc : y.2 = 1 ∨ y.2 = 2 ∨ y.2 = 3 := by omega
          rcases hc with z | z | z
          · rw [z] at e; exact Or.inl e
          · rw [z] at e; exact Or.inr (Or.inl e)
          · rw [z] at e; exact Or.inr (Or.inr (Or.inl ⟨fun w => by have := h3 w; omega, e⟩))
        · exact Or.inl k2
        · exact Or.inr (Or.inr (Or.inr k2))
      · have := (g7 x (by omega) (by omega)).2.2.2.2.2.1.1 (by omega)
        omega
theorem GX_root {G : Rw} {m m' : Int} (h : GX m G m') : ends (G 1) m' m m' ∧ G 1 m = 0 := by
  obtain ⟨⟨g1, g2, g3⟩, ⟨g4, _⟩, g7⟩ := h
  refine ⟨⟨g1, Int.le_refl _, fun j j1 j2 => ?_, fun z => by omega⟩, g4⟩
  have := (g7 j (by omega) j2).2.2.2.2.2.1.1 (by omega)
  show G 1 m < G 1 j
  omega
