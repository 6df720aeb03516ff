/-! what a book holds, by names -/
theorem hs2_i {β : Bk} (hs : sbk β) {a b i : Int} (h0 : 0 ≤ i) (h1 : i < β.1) (ha : β.2.1 i = a) (hb : β.2.2.1 i = b) : hs2 β a b ∧ hld β a b = β.2.2.2 i := by
  obtain ⟨e1, e2⟩ := hs2_eq hs h0 h1 ha hb
  exact ⟨e2, by unfold hld; rw [if_pos e2, e1]⟩
theorem hs2_x {β : Bk} {a b : Int} (h : hs2 β a b) : ∃ i, 0 ≤ i ∧ i < (β.1 : Int) ∧ β.2.1 i = a ∧ β.2.2.1 i = b ∧ hld β a b = β.2.2.2 i := ⟨ps β a b, (ps_ok β a b).1, h.1, h.2.1, h.2.2, by unfold hld; rw [if_pos h]⟩
theorem lk_bset {β : Bk} {a b v : Int} (h : hs2 β a b) : (∀ a' b', hs2 (bset β a b v) a' b' ↔ hs2 β a' b') ∧ hld (bset β a b v) a b = v ∧ (∀ a' b', ¬ (a' = a ∧ b' = b) → hld (bset β a b v) a' b' = hld β a' b') := by
  refine ⟨fun a' b' => Iff.rfl, ?_, fun a' b' hn => ?_⟩
  · have h' : hs2 (bset β a b v) a b := h
    unfold hld
    rw [if_pos h']
    exact im_up_eq _ _ _
  · unfold hld
    by_cases c : hs2 β a' b'
    · have c' : hs2 (bset β a b v) a' b' := c
      rw [if_pos c', if_pos c]
      show im_up β.2.2.2 (ps β a b) v (ps β a' b') = _
      rw [im_up_ne]
      intro z
      have h1 := h.2
      have c1 := c.2
      rw [z] at c1
      exact hn ⟨c1.1.symm.trans h1.1, c1.2.symm.trans h1.2⟩
    · have c' : ¬ hs2 (bset β a b v) a' b' := c
      rw [if_neg c', if_neg c]
theorem lk_bins {β : Bk} {a b v : Int} (hs : sbk β) (h : ¬ hs2 β a b) : (∀ a' b', hs2 (bins β a b v) a' b' ↔ (a' = a ∧ b' = b) ∨ hs2 β a' b') ∧ hld (bins β a b v) a b = v ∧ (∀ a' b', hs2 β a' b' → hld (bins β a b v) a' b' = hld β a' b') := by
  have hs' := sbk_bins (v := v) hs h
  obtain ⟨p1, p2, _⟩ := ps_ok β a b
  have e0 : ∀ i, (bins β a b v).2.1 i = insF β.2.1 (ps β a b) a i ∧ (bins β a b v).2.2.1 i = insF β.2.2.1 (ps β a b) b i ∧ (bins β a b v).2.2.2 i = insF β.2.2.2 (ps β a b) v i := fun i => ⟨rfl, rfl, rfl⟩
  have ek : ((bins β a b v).1 : Int) = β.1 + 1 := by show ((β.1 + 1 : Nat) : Int) = _; omega
  have hp := hs2_i hs' (i := ps β a b) (a := a) (b := b) p1 (by rw [ek]; omega) (by rw [(e0 _).1]; unfold insF; rw [if_neg (by omega), if_pos rfl]) (by rw [(e0 _).2.1]; unfold insF; rw [if_neg (by omega), if_pos rfl])
  have hold : ∀ a' b', hs2 β a' b' → hs2 (bins β a b v) a' b' ∧ hld (bins β a b v) a' b' = hld β a' b' := fun a' b' hh => by
    obtain ⟨i, i0, i1, ia, ib, iv⟩ := hs2_x hh
    by_cases c : i < ps β a b
    · obtain ⟨q1, q2⟩ := hs2_i hs' (i := i) (a := a') (b := b') i0 (by rw [ek]; omega) (by rw [(e0 _).1]; unfold insF; rw [if_pos c]; exact ia) (by rw [(e0 _).2.1]; unfold insF; rw [if_pos c]; exact ib)
      refine ⟨q1, ?_⟩
      rw [q2, iv, (e0 i).2.2]
      unfold insF; rw [if_pos c]
    · obtain ⟨q1, q2⟩ := hs2_i hs' (i := i + 1) (a := a') (b := b') (by omega) (by rw [ek]; omega) (by rw [(e0 _).1]; unfold insF; rw [if_neg (by omega), if_neg (by omega), show i + 1 - 1 = i by omega]; exact ia) (by rw [(e0 _).2.1]; unfold insF; rw [if_neg (by omega), if_neg (by omega), show i + 1 - 1 = i by omega]; exact ib)
      refine ⟨q1, ?_⟩
      rw [q2, iv, (e0 _).2.2]
      unfold insF; rw [if_neg (by omega), if_neg (by omega), show i + 1 - 1 = i by omega]
  refine ⟨fun a' b' => ⟨fun hh => ?_, fun hh => ?_⟩, ?_, fun a' b' hh => (hold a' b' hh).2⟩
  · obtain ⟨i, i0, i1, ia, ib, _⟩ := hs2_x hh
    rw [ek] at i1
    rw [(e0 i).1] at ia
    rw [(e0 i).2.1] at ib
    unfold insF at ia ib
    by_cases c : i < ps β a b
    · rw [if_pos c] at ia ib
      exact Or.inr (hs2_i hs i0 (by omega) ia ib).1
    · rw [if_neg c] at ia ib
      by_cases c2 : i = ps β a b
      · rw [if_pos c2] at ia ib
        exact Or.inl ⟨ia.symm, ib.symm⟩
      · rw [if_neg c2] at ia ib
        exact Or.inr (hs2_i hs (i := i - 1) (by omega) (by omega) ia ib).1
  · rcases hh with ⟨z1, z2⟩ | hh
    · rw [z1, z2]; exact hp.1
    · exact (hold a' b' hh).1
  · rw [hp.2, (e0 _).2.2]
    unfold insF; rw [if_neg (by omega), if_pos rfl]
theorem lk_brem {β : Bk} {a b : Int} (hs : sbk β) (h : hs2 β a b) : (∀ a' b', hs2 (brem β a b) a' b' ↔ hs2 β a' b' ∧ ¬ (a' = a ∧ b' = b)) ∧ (∀ a' b', hs2 β a' b' → ¬ (a' = a ∧ b' = b) → hld (brem β a b) a' b' = hld β a' b') := by
  have hs' := sbk_brem (a := a) (b := b) hs
  obtain ⟨p1, p2, _⟩ := ps_ok β a b
  have hlt := h.1
  have e0 : ∀ i, (brem β a b).2.1 i = remF β.2.1 (ps β a b) i ∧ (brem β a b).2.2.1 i = remF β.2.2.1 (ps β a b) i ∧ (brem β a b).2.2.2 i = remF β.2.2.2 (ps β a b) i := fun i => ⟨rfl, rfl, rfl⟩
  have ek : ((brem β a b).1 : Int) = β.1 - 1 := by show ((β.1 - 1 : Nat) : Int) = _; omega
  have hold : ∀ a' b', hs2 β a' b' → ¬ (a' = a ∧ b' = b) → hs2 (brem β a b) a' b' ∧ hld (brem β a b) a' b' = hld β a' b' := fun a' b' hh hn => by
    obtain ⟨i, i0, i1, ia, ib, iv⟩ := hs2_x hh
    have hne : i ≠ ps β a b := fun z => hn ⟨by rw [← ia, z]; exact h.2.1, by rw [← ib, z]; exact h.2.2⟩
    by_cases c : i < ps β a b
    · obtain ⟨q1, q2⟩ := hs2_i hs' (i := i) (a := a') (b := b') i0 (by rw [ek]; omega) (by rw [(e0 _).1]; unfold remF; rw [if_pos c]; exact ia) (by rw [(e0 _).2.1]; unfold remF; rw [if_pos c]; exact ib)
      refine ⟨q1, ?_⟩
      rw [q2, iv, (e0 i).2.2]
      unfold remF; rw [if_pos c]
    · obtain ⟨q1, q2⟩ := hs2_i hs' (i := i - 1) (a := a') (b := b') (by omega) (by rw [ek]; omega) (by rw [(e0 _).1]; unfold remF; rw [if_neg (by omega), show i - 1 + 1 = i by omega]; exact ia) (by rw [(e0 _).2.1]; unfold remF; rw [if_neg (by omega), show i - 1 + 1 = i by omega]; exact ib)
      refine ⟨q1, ?_⟩
      rw [q2, iv, (e0 _).2.2]
      unfold remF; rw [if_neg (by omega), show i - 1 + 1 = i by omega]
  refine ⟨fun a' b' => ⟨fun hh => ?_, fun hh => (hold a' b' hh.1 hh.2).1⟩, fun a' b' hh hn => (hold a' b' hh hn).2⟩
  obtain ⟨i, i0, i1, ia, ib, _⟩ := hs2_x hh
  rw [ek] at i1
  rw [(e0 i).1] at ia
  rw [(e0 i).2.1] at ib
  unfold remF at ia ib
  by_cases c : i < ps β a b
  · rw [if_pos c] at ia ib
    obtain ⟨q1, _⟩ := hs2_eq hs i0 (by omega) ia ib
    refine ⟨(hs2_i hs i0 (by omega) ia ib).1, fun z => ?_⟩
    rw [z.1, z.2] at q1
    omega
  · rw [if_neg c] at ia ib
    obtain ⟨q1, _⟩ := hs2_eq hs (by omega : 0 ≤ i + 1) (by omega) ia ib
    refine ⟨(hs2_i hs (i := i + 1) (by omega) (by omega) ia ib).1, fun z => ?_⟩
    rw [z.1, z.2] at q1
    omega
section RACC
variable {g : im_g} {d : Nat} {e : im_E} {M : im_M} {K : im_K} {R : Rw} {m : Int} {giv : Bk} {st en lk : Int} {s : TS}
/-- an account goes -/
theorem l_drop {k : Nat} {p : Int} {M0 : im_M} (hk : k ≤ 40) (hp : 0 ≤ p ∧ p < k) (hK : ∀ M', (∀ x, x ≠ 7011 → x ≠ 7012 → x ≠ 7013 → M' x = M0 x) → sr1 M0 M' 7011 p ((k : Int) - 1) → sr1 M0 M' 7012 p ((k : Int) - 1) → sr1 M0 M' 7013 p ((k : Int) - 1) → K (.inl none) e M') (h85 : M0 6952 85 = (k : Int) - 1) :
    ∀ (n : Nat) (j : Int) (M : im_M), j + n = (k : Int) - 1 → p ≤ j → (∀ x, x ≠ 7011 → x ≠ 7012 → x ≠ 7013 → M x = M0 x) → sr1 M0 M 7011 p j → sr1 M0 M 7012 p j → sr1 M0 M 7013 p j → im_T g d 366 12 [some (.ref 6952), none, some (vI j)] [] e M K := by
  intro n
  induction n with
  | zero =>
    intro j M hj hpj hF h1 h2 h3
    refine b_dropAccount_12 ?_
    rw [hF 6952 (by decide) (by decide) (by decide), h85]
    have : j = (k : Int) - 1 := by omega
    subst this
    exact ⟨by constructor <;> omega, fun _ => hK M hF h1 h2 h3, fun z => by omega⟩
  | succ n ih =>
    intro j M hj hpj hF h1 h2 h3
    refine b_dropAccount_12 ?_
    rw [hF 6952 (by decide) (by decide) (by decide), h85]
    refine ⟨by constructor <;> omega, fun z => by omega, fun _ => ⟨by constructor <;> omega, by constructor <;> omega, ?_⟩⟩
    refine ih (j + 1) _ (by omega) (by omega) (fun x a b c => by rw [im_u_ne _ _ _ c, im_u_ne _ _ _ b, im_u_ne _ _ _ a]; exact hF x a b c) (sr1_s h1 hpj (fun x => ?_)) (sr1_s h2 hpj (fun x => ?_)) (sr1_s h3 hpj (fun x => ?_))
    · rw [im_rdn _ _ _ _ (by decide), im_rdn _ _ _ _ (by decide), im_rdx]
    · rw [im_rdn _ _ _ _ (by decide), im_rdx, im_rdn _ _ _ _ (by decide)]
    · rw [im_rdx, im_rdn _ _ _ _ (by decide), im_rdn _ _ _ _ (by decide)]
theorem c_drop {a b p : Int} (h : RT M R m giv st en lk s) (hh : hs2 s.acc a b) (hp : p = ps s.acc a b)
    (hK : ∀ M', RX M M' → (∀ x, x ≠ 6952 → x ≠ 7011 → x ≠ 7012 → x ≠ 7013 → M' x = M x) → (∀ k, k ≠ 85 → M' 6952 k = M 6952 k) → RT M' R m giv st en lk (s.sAcc (brem s.acc a b)) → K (.inl none) e M') : im_T g d 366 0 [some (.ref 6952), some (vI p), none] [] e M K := by
  obtain ⟨r1, r2, r3, r4⟩ := h.2.1.1
  have hp1 := (ps_ok s.acc a b).1
  have hp2 := hh.1
  rw [← hp] at hp1 hp2
  refine b_dropAccount_0 ?_
  rw [r1]
  refine ⟨by constructor <;> omega, ?_⟩
  refine l_drop (k := s.acc.1) (M0 := im_u M 6952 85 ((s.acc.1 : Int) - 1)) r2 ⟨hp1, hp2⟩ (fun M' f1 s1 s2 s3 => ?_) (im_rds _ _ _ _) ((s.acc.1 : Int) - 1 - p).toNat p _ (by omega) (Int.le_refl _) (fun _ _ _ _ => rfl) (sr1_0 _ _ _) (sr1_0 _ _ _) (sr1_0 _ _ _)
  have hc : ∀ x, x ≠ 6952 → x ≠ 7011 → x ≠ 7012 → x ≠ 7013 → M' x = M x := fun x a b c d => by rw [f1 x b c d, im_u_ne _ _ _ a]
  have hf : ∀ k, k ≠ 85 → M' 6952 k = M 6952 k := fun k hk => by rw [f1 6952 (by decide) (by decide) (by decide), im_rdk _ _ _ hk]
  have h85 : M' 6952 85 = (s.acc.1 : Int) - 1 := by rw [f1 6952 (by decide) (by decide) (by decide), im_rds]
  have e55 : M' 6955 = M 6955 := hc 6955 (by decide) (by decide) (by decide) (by decide)
  have e7 := hf 7 (by decide)
  have hA := sr1_f (A := s.acc.2.1) s1 (fun i hi => by rw [im_rdn _ _ _ _ (by decide)]; exact (r3 i hi).1)
  have hB := sr1_f (A := s.acc.2.2.1) s2 (fun i hi => by rw [im_rdn _ _ _ _ (by decide)]; exact (r3 i hi).2)
  have hnew : rb2 M' 85 7011 7012 7013 (brem s.acc a b) (M' 6952 7) := by
    refine ⟨by rw [h85]; show _ = ((s.acc.1 - 1 : Nat) : Int); omega, by show s.acc.1 - 1 ≤ 40; omega, fun i hi => ?_, fun i hi => ?_⟩
    · have hi : i < s.acc.1 - 1 := hi
      show M' 7011 i = remF s.acc.2.1 (ps s.acc a b) i ∧ M' 7012 i = remF s.acc.2.2.1 (ps s.acc a b) i
      rw [← hp]
      exact ⟨hA i hi, hB i hi⟩
    · have hi : i < s.acc.1 - 1 := hi
      show rnp M' 0 (M' 6952 7) (M' 7013 i) (remF s.acc.2.2.2 (ps s.acc a b) i)
      rw [← hp, s3 i, e7]
      unfold shr remF
      by_cases c : (i : Int) < p
      · rw [if_neg (by omega), if_pos c, im_rdn _ _ _ _ (by decide)]
        exact rnp_congr (r4 i (by omega)) (fun j _ => by rw [e55]) (Int.le_refl _)
      · rw [if_pos (by omega), if_neg c, im_rdn _ _ _ _ (by decide)]
        have := r4 (i + 1) (by omega)
        rw [show ((i + 1 : Nat) : Int) = (i : Int) + 1 by omega] at this
        exact rnp_congr this (fun j _ => by rw [e55]) (Int.le_refl _)
  obtain ⟨C1, X1⟩ := h.acc (M' := M') (fun x a _ b => hc x a (by omega) (by omega) (by omega)) (fun k _ _ a => hf k a) (fun i _ => by rw [e55]) (by omega) (by rw [hf 8 (by decide)]; exact h.2.2.2.2.1.2.2) hnew
  exact hK M' X1 hc hf C1
/-- an account's number changes -/
theorem RT.accv {M' : im_M} {a b v r : Int} (h : RT M R m giv st en lk s) (hX : SX M M') (h8 : M' 6952 8 = 0 ∨ M' 6952 8 = 1) (hh : hs2 s.acc a b) (hv : rnp M' 0 (M' 6952 7) r v) : RT (im_u M' 7013 (ps s.acc a b) r) R m giv st en lk (s.sAcc (bset s.acc a b v)) ∧ RX M (im_u M' 7013 (ps s.acc a b) r) := by
  obtain ⟨r1, r2, r3, r4⟩ := h.2.1.1
  have e7 : im_u M' 7013 (ps s.acc a b) r 6952 = M' 6952 := im_u_ne _ _ _ (by decide)
  have e55 : im_u M' 7013 (ps s.acc a b) r 6955 = M' 6955 := im_u_ne _ _ _ (by decide)
  have hs : ∀ x, x ≠ 6952 → x ≠ 6955 → x ≠ 7013 → im_u M' 7013 (ps s.acc a b) r x = M x := fun x a b c => (im_u_ne _ _ _ c).trans (hX.1 x a b)
  have hnew : rb2 (im_u M' 7013 (ps s.acc a b) r) 85 7011 7012 7013 (bset s.acc a b v) (im_u M' 7013 (ps s.acc a b) r 6952 7) := by
    rw [e7]
    refine ⟨by rw [e7, hX.2.1 85 (by decide) (by decide)]; exact r1, r2, fun i hi => ?_, fun i hi => ?_⟩
    · rw [hs 7011 (by decide) (by decide) (by decide), hs 7012 (by decide) (by decide) (by decide)]; exact r3 i hi
    · show rnp _ 0 _ _ (im_up s.acc.2.2.2 (ps s.acc a b) v i)
      rw [im_rdx]
      unfold im_up
      by_cases c : (i : Int) = ps s.acc a b
      · rw [if_pos c, if_pos c]; exact rnp_congr hv (fun j _ => by rw [e55]) (Int.le_refl _)
      · rw [if_neg c, if_neg c, hX.1 7013 (by decide) (by decide)]
        exact rnp_congr (r4 i hi) (fun j hj => by rw [e55]; exact hX.2.2.1 j hj) hX.2.2.2
  exact h.acc (fun x a _ b => by
    by_cases hx : x = 6955
    · omega
    · exact hs x a hx (by omega)) (fun k a b _ => by rw [e7]; exact hX.2.1 k a b) (fun i hi => by rw [e55]; exact hX.2.2.1 i hi) (by rw [e7]; exact hX.2.2.2) (by rw [e7]; exact h8) hnew
theorem l_ins {k : Nat} {a b r p : Int} {M0 : im_M} (hk : k < 40) (hp : 0 ≤ p ∧ p ≤ k) (ha : im_i64 a) (hb : im_i64 b) (hr : im_i32 r) (h85 : M0 6952 85 = k) (hK : ∀ M', (∀ x, x ≠ 6952 → x ≠ 7011 → x ≠ 7012 → x ≠ 7013 → M' x = M0 x) → (∀ k, k ≠ 85 → M' 6952 k = M0 6952 k) → M' 6952 85 = (k : Int) + 1 → (∀ M1, sh1 M0 M1 7011 p k → (∀ x, M' 7011 x = if x = p then a else M1 7011 x) → sh1 M0 M1 7012 p k → (∀ x, M' 7012 x = if x = p then b else M1 7012 x) → sh1 M0 M1 7013 p k → (∀ x, M' 7013 x = if x = p then r else M1 7013 x) → K (.inl none) e M')) :
    ∀ (n : Nat) (j : Int) (M : im_M), j = p + n → j ≤ k → (∀ x, x ≠ 7011 → x ≠ 7012 → x ≠ 7013 → M x = M0 x) → sh1 M0 M 7011 j k → sh1 M0 M 7012 j k → sh1 M0 M 7013 j k → im_T g d 374 82 [some (.ref 6952), some (vL a), none, some (vL b), none, some (vI r), some (vI p), some (vI j)] [] e M K := by
  intro n
  induction n with
  | zero =>
    intro j M hj hjk hF h1 h2 h3
    have : j = p := by omega
    subst this
    refine b_toAccount_82 ?_
    rw [hF 6952 (by decide) (by decide) (by decide), h85]
    refine ⟨by constructor <;> omega, by constructor <;> omega, fun _ => ⟨by constructor <;> omega, by constructor <;> omega, ha, hb, hr, ?_⟩, fun z => by omega⟩
    refine hK _ (fun x a b c d => ?_) (fun k' hk' => ?_) ?_ M h1 (fun x => ?_) h2 (fun x => ?_) h3 (fun x => ?_)
    · rw [im_u_ne _ _ _ d, im_u_ne _ _ _ c, im_u_ne _ _ _ b, im_u_ne _ _ _ a]; exact hF x b c d
    · rw [im_rdn _ _ _ _ (by decide), im_rdn _ _ _ _ (by decide), im_rdn _ _ _ _ (by decide), im_rdk _ _ _ hk', hF 6952 (by decide) (by decide) (by decide)]
    · rw [im_rdn _ _ _ _ (by decide), im_rdn _ _ _ _ (by decide), im_rdn _ _ _ _ (by decide), im_rds]
    · rw [im_rdn _ _ _ _ (by decide), im_rdn _ _ _ _ (by decide), im_rdx, im_rdn _ _ _ _ (by decide)]
    · rw [im_rdn _ _ _ _ (by decide), im_rdx, im_rdn _ _ _ _ (by decide), im_rdn _ _ _ _ (by decide)]
    · rw [im_rdx, im_rdn _ _ _ _ (by decide), im_rdn _ _ _ _ (by decide), im_rdn _ _ _ _ (by decide)]
  | succ n ih =>
    intro j M hj hjk hF h1 h2 h3
    refine b_toAccount_82 ?_
    refine ⟨by constructor <;> omega, by constructor <;> omega, fun z => by omega, fun _ => ⟨by constructor <;> omega, by constructor <;> omega, ?_⟩⟩
    refine ih (j + -1) _ (by omega) (by omega) (fun x a b c => by rw [im_u_ne _ _ _ c, im_u_ne _ _ _ b, im_u_ne _ _ _ a]; exact hF x a b c) (sh1_s h1 hjk (fun x => ?_)) (sh1_s h2 hjk (fun x => ?_)) (sh1_s h3 hjk (fun x => ?_))
    · rw [im_rdn _ _ _ _ (by decide), im_rdn _ _ _ _ (by decide), im_rdx]
    · rw [im_rdn _ _ _ _ (by decide), im_rdx, im_rdn _ _ _ _ (by decide)]
    · rw [im_rdx, im_rdn _ _ _ _ (by decide), im_rdn _ _ _ _ (by decide)]
theorem c_toAccount {a b r v : Int} (h : RT M R m giv st en lk s) (hv : rnp M 0 (M 6952 7) r v) (ha : im_i64 a) (hb : im_i64 b) (h7 : M 6952 7 + 310 ≤ 1100000) (hd : 6 ≤ d)
    (hKs : ∀ β, bcre s.acc 40 a b v = .inr β → ∀ M', RX M M' → M' 6952 7 ≤ M 6952 7 + 303 → RT M' R m giv st en lk (s.sAcc β) → K (.inl none) e M')
    (hKe : ∀ c, bcre s.acc 40 a b v = .inl c → c < 0 → ∀ M', RZ M M' R m giv lk c → K (.inl none) e M') : im_T g d 374 0 [some (.ref 6952), some (vL a), none, some (vL b), none, some (vI r), none, none] [] e M K := by
  obtain ⟨r1, r2, r3, r4⟩ := h.2.1.1
  have h101 := h.2.2.2.1.2.1
  have hps := ps_ok s.acc a b
  have hp0 := hps.1
  have hp1 := hps.2.1
  have hri : im_i32 r := by
    obtain ⟨k, _, z1, z2, _⟩ := hv
    constructor <;> omega
  unfold bcre at hKs hKe
  refine b_toAccount_0 (by omega) (c_accountAt r1 r2 r3 ha hb hps ⟨_, rfl, rfl, c_hasAccount r1 r2 r3 ha hb hps (by omega) (fun hh => ⟨_, rfl, rfl, by decide, fun z => absurd z (by decide), fun _ => ?_⟩) (fun hh => ⟨_, rfl, rfl, by decide, fun _ => ?_, fun z => absurd rfl z⟩)⟩)
  · have hh' : hs2 s.acc a b := hh
    rw [if_pos hh'] at hKs hKe
    have hlt := hh.1
    have ei : (((ps s.acc a b).toNat : Nat) : Int) = ps s.acc a b := by omega
    have hvo := r4 (ps s.acc a b).toNat (by omega)
    rw [ei] at hvo
    refine ⟨by constructor <;> omega, c_sum hvo hv (Or.inl rfl) h101 (by omega) (by omega) (fun hs M1 r' X1 t1 e8 hr' => ⟨_, rfl, rfl, fun x hx => ?_⟩) (fun hs M1 r' hr0 X1 t1 e8 => ⟨_, rfl, rfl, fun x hx => ?_⟩)⟩
    · rw [Int.one_mul] at hs hr'
      rw [if_pos (show -LIM < _ ∧ _ < LIM from hs)] at hKs
      rw [X1.2.1 101 (by decide) (by decide), h101] at hx
      have hxr : x = r' := by omega
      subst hxr
      obtain ⟨C1, X2⟩ := h.accv X1 (Or.inl e8) hh' hr'
      refine ⟨?_, hKs _ rfl _ X2 (by rw [im_rdn _ _ _ _ (by decide)]; exact t1) C1⟩
      obtain ⟨k, _, z1, z2, _⟩ := hr'
      have := X1.2.2.2
      constructor <;> omega
    · rw [Int.one_mul] at hs
      rw [if_neg (show ¬ (-LIM < _ ∧ _ < LIM) from hs)] at hKe
      have e101 : im_u M1 6952 101 (-8) 6952 101 = -8 := im_rds _ _ _ _
      rw [e101] at hx
      have e13 : im_u M1 6952 101 (-8) 7013 = M 7013 := by rw [im_u_ne _ _ _ (by decide)]; exact X1.1 7013 (by decide) (by decide)
      rw [e13] at hx
      have hxr : x = M 7013 (ps s.acc a b) := by omega
      subst hxr
      have C1 := SX.rt h X1 (Or.inr e8)
      obtain ⟨z1, z2, z3, z4, z5, z6⟩ := C1.rz X1.rx (-8)
      refine ⟨?_, hKe (-8) rfl (by decide) _ ⟨z1.trans ⟨fun y a b c d => im_u_ne _ _ _ (by omega), fun k _ _ _ _ _ _ _ _ _ _ _ _ _ => im_rdn _ _ _ _ (by decide), fun i _ => im_rdn _ _ _ _ (by decide), Int.le_of_eq (im_rdn _ _ _ _ (by decide)).symm⟩, (im_rdn _ _ _ _ (by decide)).trans z2, (im_rdn _ _ _ _ (by decide)).trans z3, by rw [show ∀ w, im_u (im_u M1 6952 101 (-8)) 7013 (ps s.acc a b) w 6952 8 = im_u M1 6952 101 (-8) 6952 8 from fun w => im_rdn _ _ _ _ (by decide)]; exact z4, ?_, by rw [show ∀ w, im_u (im_u M1 6952 101 (-8)) 7013 (ps s.acc a b) w 6952 116 = im_u M1 6952 101 (-8) 6952 116 from fun w => im_rdn _ _ _ _ (by decide)]; exact z6⟩⟩
      · obtain ⟨k, _, y1, y2, _⟩ := hvo
        constructor <;> omega
      · rcases z5 with w | w
        · exact Or.inl w
        · exact Or.inr ⟨w.1, fun Γ hg => KN_congr (w.2 Γ hg) (fun y a b => im_u_ne _ _ _ (by omega))⟩
  · have hh' : ¬ hs2 s.acc a b := hh
    rw [if_neg hh'] at hKs hKe
    rw [r1]
    refine ⟨fun hn => ?_, fun hn => ?_⟩
    · rw [if_pos (show s.acc.1 < 40 by omega)] at hKs
      refine l_ins (k := s.acc.1) (M0 := M) (by omega) ⟨hp0, hp1⟩ ha hb hri r1 (fun M' f1 f2 f3 M1 a1 a2 b1 b2 c1 c2 => ?_) ((s.acc.1 : Int) - ps s.acc a b).toNat s.acc.1 M (by omega) (Int.le_refl _) (fun _ _ _ _ => rfl) (sh1_0 _ _ _) (sh1_0 _ _ _) (sh1_0 _ _ _)
      have e55 : M' 6955 = M 6955 := f1 6955 (by decide) (by decide) (by decide) (by decide)
      have e7 := f2 7 (by decide)
      have hA := sh1_f (A := s.acc.2.1) a1 (fun i hi => (r3 i hi).1) ⟨hp0, hp1⟩ a2
      have hB := sh1_f (A := s.acc.2.2.1) b1 (fun i hi => (r3 i hi).2) ⟨hp0, hp1⟩ b2
      have hnew : rb2 M' 85 7011 7012 7013 (bins s.acc a b v) (M' 6952 7) := by
        refine ⟨by rw [f3]; rfl, by show s.acc.1 + 1 ≤ 40; omega, fun i hi => ⟨hA i hi, hB i hi⟩, fun i hi => ?_⟩
        have hi : i < s.acc.1 + 1 := hi
        show rnp M' 0 (M' 6952 7) (M' 7013 i) (insF s.acc.2.2.2 (ps s.acc a b) v i)
        rw [c2 i, e7]
        unfold insF
        by_cases d1 : (i : Int) < ps s.acc a b
        · rw [if_neg (by omega), if_pos d1, c1 i]
          unfold shf
          rw [if_neg (by omega)]
          exact rnp_congr (r4 i (by omega)) (fun j _ => by rw [e55]) (Int.le_refl _)
        · rw [if_neg d1]
          by_cases d2 : (i : Int) = ps s.acc a b
          · rw [if_pos d2, if_pos d2]
            exact rnp_congr hv (fun j _ => by rw [e55]) (Int.le_refl _)
          · rw [if_neg d2, if_neg d2, c1 i]
            unfold shf
            rw [if_pos (by omega)]
            have := r4 (i - 1) (by omega)
            rw [show ((i - 1 : Nat) : Int) = (i : Int) - 1 by omega] at this
            exact rnp_congr this (fun j _ => by rw [e55]) (Int.le_refl _)
      obtain ⟨C1, X1⟩ := h.acc (M' := M') (fun x a _ b => f1 x a (by omega) (by omega) (by omega)) (fun k _ _ a => f2 k a) (fun i _ => by rw [e55]) (by omega) (by rw [f2 8 (by decide)]; exact h.2.2.2.2.1.2.2) hnew
      exact hKs _ rfl M' X1 (by omega) C1
    · rw [if_neg (show ¬ s.acc.1 < 40 by omega)] at hKe
      exact c_refuse h101 (by decide) ⟨rfl, rfl, hKe (-9) rfl (by decide) _ (h.rz (RX.rf M) (-9))⟩
end RACC
