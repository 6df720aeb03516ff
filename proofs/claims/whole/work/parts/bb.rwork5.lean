/-! THE REFERENCE works a value or an observation out, whole -/
/-- what is known -/
def KN (M : im_M) (R : Rw) (m : Int) (Γ : Env) : Prop := ∀ s, 0 ≤ s → s < 64 → M 7037 s ≠ 0 → (0 ≤ M 7038 s ∧ M 7038 s < m ∧ (M 7038 s).tmod 64 = s) ∧ stdy R 101 (M 7038 s) ∧ ((M 7039 s = -1 ∧ ev R Γ 101 (M 7038 s) = none) ∨ (∃ (k : Nat) (x : Int), M 7039 s = (k : Int) + 2 ∧ k ≤ 300 ∧ vkd (R 0 (M 7038 s)) ∧ ev R Γ 101 (M 7038 s) = some x ∧ rn (M 7040) (304 * s) k x))
theorem KN_congr {M M' : im_M} {R : Rw} {m : Int} {Γ : Env} (h : KN M R m Γ) (hs : ∀ x : Nat, 7037 ≤ x → x ≤ 7040 → M' x = M x) : KN M' R m Γ := by
  unfold KN
  rw [hs 7037 (by decide) (by decide), hs 7038 (by decide) (by decide), hs 7039 (by decide) (by decide), hs 7040 (by decide) (by decide)]
  exact h
theorem KN_env {M : im_M} {R : Rw} {m : Int} {Γ Γ' : Env} (h : KN M R m Γ) (hg : Γ'.2.2.2.1 = Γ.2.2.2.1) : KN M R m Γ' := fun s s0 s1 hs => by
  obtain ⟨a1, a2, a3⟩ := h s s0 s1 hs
  rw [ev_stdy hg 101 _ a2]
  exact ⟨a1, a2, a3⟩
/-- what a piece of work leaves as it was -/
def WX (M M' : im_M) : Prop := (∀ x, x ≠ 6952 → (x < 6955 ∨ 6958 < x) → (x < 7034 ∨ 7041 < x) → M' x = M x) ∧ (∀ k, k ≠ 7 → k ≠ 8 → k ≠ 122 → k ≠ 124 → M' 6952 k = M 6952 k) ∧ (∀ i, i < M 6952 7 → M' 6955 i = M 6955 i) ∧ M 6952 7 ≤ M' 6952 7
theorem WX.rf (M : im_M) : WX M M := ⟨fun _ _ _ _ => rfl, fun _ _ _ _ _ => rfl, fun _ _ => rfl, Int.le_refl _⟩
theorem WX.trans {M M1 M2 : im_M} (h : WX M M1) (h' : WX M1 M2) : WX M M2 :=
  ⟨fun x a b c => (h'.1 x a b c).trans (h.1 x a b c), fun k a b c d => (h'.2.1 k a b c d).trans (h.2.1 k a b c d), fun i a => (h'.2.2.1 i (by have := h.2.2.2; omega)).trans (h.2.2.1 i a), by have := h.2.2.2; have := h'.2.2.2; omega⟩
theorem WX.ef {p q : Int} {M M' : im_M} (h : EF p q M M') : WX M M' := ⟨fun x a b c => h.1 x a b (by omega), h.2.1, h.2.2.1, h.2.2.2.2.2⟩
theorem WX.rp {M M' : im_M} {R : Rw} {m : Int} (h : WX M M') (hP : RP M R m) (h6 : M 6952 6 ≤ M 6952 7) : RP M' R m := RP_congr hP (h.2.1 6 (by decide) (by decide) (by decide) (by decide)) (h.2.1 36 (by decide) (by decide) (by decide) (by decide)) (fun x a b => h.1 x (by omega) (by omega) (by omega)) (fun i a => h.2.2.1 i (by omega))
theorem WX.re {M M' : im_M} {Γ : Env} {T : Int} (h : WX M M') (hE : RE M Γ T) (hT : T ≤ M 6952 7) : RE M' Γ T := RE_congr hE (fun k a b => h.2.1 k (by omega) (by omega) (by omega) (by omega)) (fun x a b => h.1 x (by omega) (by omega) (by omega)) (fun i a => h.2.2.1 i (by omega)) (Int.le_refl _)
theorem WX.eh {M M' : im_M} {R : Rw} {m : Int} {Γ : Env} {T : Int} (h : WX M M') (hE : EH M R m Γ T) : EH M' R m Γ T := by
  obtain ⟨a1, a2, a3, a4, a5⟩ := hE
  have := h.2.2.2
  exact ⟨h.rp a1 a4, h.re a2 a3, by omega, by rw [h.2.1 6 (by decide) (by decide) (by decide) (by decide)]; omega, by omega⟩
section RWORK5
variable {g : im_g} {d : Nat} {e : im_E} {M M0 : im_M} {K : im_K} {R : Rw} {m T : Int} {Γ : Env}
theorem l_know {r s : Int} {z : Int} (hr : 0 ≤ r) (hz : z ≤ 302) (hrz : r + z ≤ 1100000) (hs : 0 ≤ s ∧ s < 64) (hK : ∀ M', (∀ x, x ≠ 7040 → M' x = M0 x) → (∀ i, i < 304 * s ∨ 304 * s + z ≤ i → M' 7040 i = M0 7040 i) → (∀ i, 0 ≤ i → i < z → M' 7040 (304 * s + i) = M0 6955 (r + i)) → K (.inl none) e M') :
    ∀ (j : Nat) (i : Int) (M : im_M), (i + j = z ∨ (z ≤ i ∧ j = 0)) → 0 ≤ i → (∀ x, x ≠ 7040 → M x = M0 x) → (∀ y, y < 304 * s ∨ 304 * s + z ≤ y → M 7040 y = M0 7040 y) → (∀ y, 0 ≤ y → y < i → y < z → M 7040 (304 * s + y) = M0 6955 (r + y)) → i < 1000 → -1000 < z → im_T g d 403 49 [some (.ref 6952), none, some (vI r), some (vI z), some (vI s), some (vI i)] [] e M K := by
  intro j
  induction j with
  | zero =>
    intro i M hi i0 h1 h2 h3 i9 z9
    exact b_know_49 ⟨by constructor <;> omega, by constructor <;> omega, fun _ => hK M h1 h2 (fun y y0 y1 => h3 y y0 (by omega) y1), fun w => by omega⟩
  | succ j ih =>
    intro i M hi i0 h1 h2 h3 i9 z9
    refine b_know_49 ⟨by constructor <;> omega, by constructor <;> omega, fun w => by omega, fun _ => ⟨by constructor <;> omega, by constructor <;> omega, ?_⟩⟩
    refine ih (i + 1) _ (by omega) (by omega) (fun x hx => (im_u_ne _ _ _ hx).trans (h1 x hx)) (fun y hy => (im_rdk _ _ _ (by omega)).trans (h2 y hy)) (fun y y0 y1 y2 => ?_) (by omega) z9
    by_cases hy : y = i
    · rw [hy, im_rds, h1 6955 (by decide)]
    · rw [im_rdk _ _ _ (by omega)]; exact h3 y y0 (by omega) y2
theorem tm64 {n : Int} (h : 0 ≤ n) : 0 ≤ n.tmod 64 ∧ n.tmod 64 < 64 := by
  rw [Int.tmod_eq_emod_of_nonneg h]; omega
/-- the reference may remember -/
theorem c_know {n r z : Int} (hW : WFP R m) (n0 : 0 ≤ n) (n1 : n < m) (hk : vkd (R 0 n) ∨ okd (R 0 n)) (hP : RP M R m) (hr : 0 ≤ r) (hrz : r + z ≤ 1100000) (hL : M 6952 102 = 0 ∨ (M 6952 102 = 1 ∧ KN M R m Γ)) (hd : 2 ≤ d)
    (hv : (z = -1 ∧ ev R Γ 101 n = none) ∨ ∃ (k : Nat) (x : Int), z = (k : Int) + 2 ∧ k ≤ 300 ∧ vkd (R 0 n) ∧ ev R Γ 101 n = some x ∧ rn (M 6955) r k x)
    (hK : ∀ M', (∀ x, (x < 7037 ∨ 7041 < x) → M' x = M x) → (M' 6952 102 = 0 ∨ (M' 6952 102 = 1 ∧ KN M' R m Γ)) → K (.inl none) e M') : im_T g d 403 0 [some (.ref 6952), some (vI n), some (vI r), some (vI z), none, none] [] e M K := by
  have hm := hW.2.1
  have hz2 : -1 ≤ z ∧ z ≤ 302 := by
    rcases hv with ⟨h, _⟩ | ⟨k, x, h, h', _⟩ <;> omega
  have ht := tm64 n0
  refine b_know_0 (by omega) ⟨by constructor <;> omega, fun h0 => hK M (fun _ _ => rfl) hL, fun h0 => ?_⟩
  have hKN : KN M R m Γ := by
    rcases hL with h | h
    · exact absurd h h0
    · exact h.2
  refine c_isSteady hW n0 n1 hk hP (by omega) (fun hs M1 h1 => ⟨_, rfl, rfl, by decide, fun _ => ⟨ht, by constructor <;> omega, ?_⟩, fun w => absurd w (by decide)⟩) (fun M1 h1 => ⟨_, rfl, rfl, by decide, fun w => absurd rfl w, fun _ => ?_⟩)
  · refine l_know (M0 := im_u (im_u (im_u M1 7037 (n.tmod 64) 1) 7038 (n.tmod 64) n) 7039 (n.tmod 64) z) hr hz2.2 hrz ht (fun M' a1 a2 a3 => ?_) z.toNat 0 _ (by omega) (Int.le_refl _) (fun _ _ => rfl) (fun _ _ => rfl) (fun y y0 y1 => by omega) (by decide) (by omega)
    have b1 : ∀ x, (x < 7037 ∨ 7041 < x) → M' x = M x := fun x hx => by
      rw [a1 x (by omega), im_u_ne _ _ _ (by omega), im_u_ne _ _ _ (by omega), im_u_ne _ _ _ (by omega)]; exact h1 x (by omega)
    refine hK M' b1 ?_
    rw [b1 6952 (by decide)]
    rcases hL with h | h
    · exact absurd h h0
    refine Or.inr ⟨h.1, fun s s0 s1 hs' => ?_⟩
    have e37 : ∀ s, s ≠ n.tmod 64 → M' 7037 s = M 7037 s := fun s hs => by rw [a1 7037 (by decide), im_rdn _ _ _ _ (by decide), im_rdn _ _ _ _ (by decide), im_rdk _ _ _ hs, h1 7037 (by decide)]
    have e38 : ∀ s, s ≠ n.tmod 64 → M' 7038 s = M 7038 s := fun s hs => by rw [a1 7038 (by decide), im_rdn _ _ _ _ (by decide), im_rdk _ _ _ hs, im_rdn _ _ _ _ (by decide), h1 7038 (by decide)]
    have e39 : ∀ s, s ≠ n.tmod 64 → M' 7039 s = M 7039 s := fun s hs => by rw [a1 7039 (by decide), im_rdk _ _ _ hs, im_rdn _ _ _ _ (by decide), im_rdn _ _ _ _ (by decide), h1 7039 (by decide)]
    have e40 : ∀ i, i < 304 * (n.tmod 64) ∨ 304 * (n.tmod 64) + z ≤ i → M' 7040 i = M 7040 i := fun i hi => by rw [a2 i hi, im_rdn _ _ _ _ (by decide), im_rdn _ _ _ _ (by decide), im_rdn _ _ _ _ (by decide), h1 7040 (by decide)]
    have f38 : M' 7038 (n.tmod 64) = n := by rw [a1 7038 (by decide), im_rdn _ _ _ _ (by decide), im_rds]
    have f39 : M' 7039 (n.tmod 64) = z := by rw [a1 7039 (by decide), im_rds]
    have f40 : ∀ i, 0 ≤ i → i < z → M' 7040 (304 * (n.tmod 64) + i) = M 6955 (r + i) := fun i i0 i1 => by
      rw [a3 i i0 i1, im_rdn _ _ _ _ (by decide), im_rdn _ _ _ _ (by decide), im_rdn _ _ _ _ (by decide), h1 6955 (by decide)]
    by_cases hst : s = n.tmod 64
    · rw [hst, f38, f39]
      refine ⟨⟨n0, n1, rfl⟩, hs, ?_⟩
      rcases hv with z1 | ⟨k, x, z1, z2, z3, z4, z5⟩
      · exact Or.inl z1
      · exact Or.inr ⟨k, x, z1, z2, z3, z4, rn_move z5 (fun i i0 i1 => f40 i i0 (by omega))⟩
    · rw [e37 s hst] at hs'
      obtain ⟨g1, g2, g3⟩ := hKN s s0 s1 hs'
      rw [e38 s hst, e39 s hst]
      refine ⟨g1, g2, ?_⟩
      rcases g3 with w | ⟨k, x, w1, w2, w3, w4, w5⟩
      · exact Or.inl w
      · refine Or.inr ⟨k, x, w1, w2, w3, w4, rn_congr w5 (fun i i0 i1 => e40 i ?_)⟩
        omega
  · refine hK M1 (fun x hx => h1 x (by omega)) ?_
    rw [h1 6952 (by decide)]
    rcases hL with h | h
    · exact Or.inl h
    · exact Or.inr ⟨h.1, KN_congr h.2 (fun x a b => h1 x (by omega))⟩
theorem l_known {s r z : Int} (hr : 0 ≤ r) (hz0 : 0 ≤ z) (hz : z ≤ 302) (hrz : r + z ≤ 1100000) (hs : 0 ≤ s ∧ s < 64) (h39 : M0 7039 s = z) (hK : ∀ M', (∀ x, x ≠ 6955 → x ≠ 6952 → M' x = M0 x) → (∀ k, k ≠ 7 → M' 6952 k = M0 6952 k) → M' 6952 7 = r + z → (∀ i, i < r → M' 6955 i = M0 6955 i) → (∀ i, 0 ≤ i → i < z → M' 6955 (r + i) = M0 7040 (304 * s + i)) → K (.inl (some (vI r))) e M') :
    ∀ (j : Nat) (i : Int) (M : im_M), i + j = z → 0 ≤ i → (∀ x, x ≠ 6955 → M x = M0 x) → (∀ y, y < r → M 6955 y = M0 6955 y) → (∀ y, 0 ≤ y → y < i → M 6955 (r + y) = M0 7040 (304 * s + y)) → im_T g d 380 34 [some (.ref 6952), some (vI s), some (vI r), some (vI i)] [] e M K := by
  intro j
  induction j with
  | zero =>
    intro i M hi i0 h1 h2 h3
    refine b_known_34 ?_
    rw [h1 7039 (by decide), h39]
    refine ⟨hs, by constructor <;> omega, fun _ => ⟨by constructor <;> omega, hK _ (fun x a b => (im_u_ne _ _ _ b).trans (h1 x a)) (fun k a => by rw [im_rdk _ _ _ a, h1 6952 (by decide)]) (im_rds _ _ _ _) (fun y a => (im_rdn _ _ _ _ (by decide)).trans (h2 y a)) (fun y y0 y1 => (im_rdn _ _ _ _ (by decide)).trans (h3 y y0 (by omega)))⟩, fun w => by omega⟩
  | succ j ih =>
    intro i M hi i0 h1 h2 h3
    refine b_known_34 ?_
    rw [h1 7039 (by decide), h39]
    refine ⟨hs, by constructor <;> omega, fun w => by omega, fun _ => ⟨by constructor <;> omega, by constructor <;> omega, ?_⟩⟩
    refine ih (i + 1) _ (by omega) (by omega) (fun x hx => (im_u_ne _ _ _ hx).trans (h1 x hx)) (fun y hy => (im_rdk _ _ _ (by omega)).trans (h2 y hy)) (fun y y0 y1 => ?_)
    by_cases hy : y = i
    · rw [hy, im_rds, h1 7040 (by decide)]
    · rw [im_rdk _ _ _ (by omega)]; exact h3 y y0 (by omega)
/-- a number goes down to the mark -/
theorem l_down {n r z mk : Int} (hz0 : 0 ≤ z) (hz : z ≤ 302) (hmk : 0 ≤ mk) (hr : mk ≤ r) (hrz : r + z ≤ 1100000)
    (hK : ∀ M', (∀ x, x ≠ 6955 → M' x = M0 x) → (∀ i, i < mk → M' 6955 i = M0 6955 i) → (∀ i, 0 ≤ i → i < z → M' 6955 (mk + i) = M0 6955 (r + i)) → im_T g d 379 160 [some (.ref 6952), some (vI n), some (vI mk), some (vI r), some (vI z), some (vI z)] [] e M' K) (hd : 1 ≤ d) :
    ∀ (j : Nat) (i : Int) (M : im_M), i + j = z → 0 ≤ i → (∀ x, x ≠ 6955 → M x = M0 x) → (∀ y, y < mk ∨ mk + i ≤ y → M 6955 y = M0 6955 y) → (∀ y, 0 ≤ y → y < i → M 6955 (mk + y) = M0 6955 (r + y)) → im_T g d 379 160 [some (.ref 6952), some (vI n), some (vI mk), some (vI r), some (vI z), some (vI i)] [] e M K := by
  intro j
  induction j with
  | zero =>
    intro i M hi i0 h1 h2 h3
    obtain rfl : i = z := by omega
    exact hK M h1 (fun y hy => h2 y (Or.inl hy)) h3
  | succ j ih =>
    intro i M hi i0 h1 h2 h3
    refine b_work_160 hd ⟨by constructor <;> omega, by constructor <;> omega, fun w => by omega, fun _ => ⟨by constructor <;> omega, by constructor <;> omega, ?_⟩⟩
    refine ih (i + 1) _ (by omega) (by omega) (fun x hx => (im_u_ne _ _ _ hx).trans (h1 x hx)) (fun y hy => (im_rdk _ _ _ (by omega)).trans (h2 y (by omega))) (fun y y0 y1 => ?_)
    by_cases hy : y = i
    · rw [hy, im_rds]; exact h2 _ (by omega)
    · rw [im_rdk _ _ _ (by omega)]; exact h3 y y0 (by omega)
theorem c_rwork {n e' : Int} (hW : WFP R m) (n0 : 0 ≤ n) (n1 : n < m) (hk : vkd (R 0 n) ∨ okd (R 0 n)) (hE : EH M R m Γ T) (hen : ends (R 1) m n e') (h7 : M 6952 7 + 660 * (e' - n) ≤ 1100000) (hL : M 6952 102 = 0 ∨ (M 6952 102 = 1 ∧ KN M R m Γ)) (hd : 9 ≤ d)
    (hKs : ∀ M' r x, ev R Γ 101 n = some x → WX M M' → M' 6952 8 = 0 → M' 6952 7 ≤ M 6952 7 + 302 → (vkd (R 0 n) → rnp M' 0 (M' 6952 7) r x) → (okd (R 0 n) → r = x) → (M' 6952 102 = 0 ∨ (M' 6952 102 = 1 ∧ KN M' R m Γ)) → K (.inl (some (vI r))) e M')
    (hKl : ∀ M', ev R Γ 101 n = none → WX M M' → M' 6952 8 = 1 → M' 6952 7 = M 6952 7 → (M' 6952 102 = 0 ∨ (M' 6952 102 = 1 ∧ KN M' R m Γ)) → K (.inl (some (vI 0))) e M') :
    im_T g d 379 0 [some (.ref 6952), some (vI n), none, none, none, none] [] e M K := by
  have hm := hW.2.1
  have hD := (hW.2.2 n n0 n1).2.2.1
  have ht := tm64 n0
  have hene := hen.1
  obtain ⟨hP, hRE, hT, h6, h70⟩ := id hE
  have hkk : Wr (vkd (R 0 n) ∨ okd (R 0 n)) := hk
  replace hk := hkk
  clear hkk
  replace hL : Wr (M 6952 102 = 0 ∨ (M 6952 102 = 1 ∧ KN M R m Γ)) := hL
  refine b_work_0 (by omega) ⟨fun h102 => ⟨by constructor <;> omega, ht, fun h37 h38 => ?_⟩, fun _ => ?_⟩
  · -- it is known
    have hKN : M 6952 102 = 1 ∧ KN M R m Γ := by
      rcases hL with h | h
      · exact absurd h h102
      · exact h
    obtain ⟨a1, a2, a3⟩ := hKN.2 _ ht.1 ht.2 h37
    rw [h38] at a1 a2 a3
    refine b_known_0 ⟨ht, fun w hw => ?_⟩
    have hX8 : ∀ v, WX M (im_u M 6952 8 v) := fun v => ⟨fun x a _ _ => im_u_ne _ _ _ a, fun k _ b _ _ => im_rdk _ _ _ b, fun i _ => by rw [im_rdn _ _ _ _ (by decide)], by rw [im_rdk _ _ _ (by decide)]; exact Int.le_refl _⟩
    rcases a3 with ⟨z1, z2⟩ | ⟨k, x, z1, z2, z3, z4, z5⟩
    · have hw1 : w = 1 := by omega
      subst hw1
      refine ⟨fun z => absurd z (by decide), fun _ => ⟨_, rfl, rfl, hKl _ z2 (hX8 1) (im_rds _ _ _ _) (im_rdk _ _ _ (by decide)) ?_⟩⟩
      rw [im_rdk _ _ _ (by decide)]
      exact Or.inr ⟨hKN.1, KN_congr hKN.2 (fun x a b => im_u_ne _ _ _ (by omega))⟩
    · have hw0 : w = 0 := by omega
      subst hw0
      refine ⟨fun _ => ?_, fun z => absurd rfl z⟩
      refine l_known (M0 := im_u M 6952 8 0) (z := (k : Int) + 2) h70 (by omega) (by omega) (by omega) ht (by rw [im_rdn _ _ _ _ (by decide)]; exact z1) (fun M' b1 b2 b3 b4 b5 => ⟨_, rfl, rfl, ?_⟩) (k + 2) 0 _ (by omega) (Int.le_refl _) (fun _ _ => rfl) (fun _ _ => rfl) (fun y y0 y1 => by omega)
      have f55 : ∀ i, i < M 6952 7 → M' 6955 i = M 6955 i := fun i hi => by rw [b4 i hi, im_rdn _ _ _ _ (by decide)]
      refine hKs M' _ x z4 ⟨fun y a b c => by rw [b1 y (by omega) a, im_u_ne _ _ _ a], fun j a b _ _ => by rw [b2 j a, im_rdk _ _ _ b], f55, by omega⟩ (by rw [b2 8 (by decide), im_rds]) (by omega) (fun _ => ⟨k, ?_, h70, by omega, z2⟩) (fun ho => by unfold vkd at z3; unfold okd at ho; omega) ?_
      · refine rn_move z5 (fun i i0 i1 => ?_)
        rw [b5 i i0 (by omega), im_rdn _ _ _ _ (by decide)]
      · rw [b2 102 (by decide), im_rdk _ _ _ (by decide)]
        exact Or.inr ⟨hKN.1, KN_congr hKN.2 (fun y a b => by rw [b1 y (by omega) (by omega), im_u_ne _ _ _ (by omega)])⟩
  · -- it is worked out
    generalize hM1 : im_u (im_u (im_u M 6952 8 0) 6952 122 0) 6952 124 0 = M1
    have m1 : ∀ x, x ≠ 6952 → M1 x = M x := fun x hx => by rw [← hM1, im_u_ne _ _ _ hx, im_u_ne _ _ _ hx, im_u_ne _ _ _ hx]
    have m2 : ∀ k, k ≠ 8 → k ≠ 122 → k ≠ 124 → M1 6952 k = M 6952 k := fun k a b c => by rw [← hM1, im_rdk _ _ _ c, im_rdk _ _ _ b, im_rdk _ _ _ a]
    have v8 : M1 6952 8 = 0 := by rw [← hM1, im_rdk _ _ _ (by decide), im_rdk _ _ _ (by decide), im_rds]
    have v122 : M1 6952 122 = 0 := by rw [← hM1, im_rdk _ _ _ (by decide), im_rds]
    have v124 : M1 6952 124 = 0 := by rw [← hM1, im_rds]
    clear hM1
    refine c_pile (b := 0) v122 (by decide) (by constructor <;> omega) (fun M2 z1 z2 z3 z4 z5 z6 => ⟨rfl, rfl, ?_⟩)
    have f7 : M2 6952 7 = M 6952 7 := (z2 7 (by decide)).trans (m2 7 (by decide) (by decide) (by decide))
    have X2 : WX M M2 := ⟨fun x a _ b => (z1 x a (by omega) (by omega)).trans (m1 x a), fun k a b c d => (z2 k c).trans (m2 k b c d), fun i _ => by rw [z1 6955 (by decide) (by decide) (by decide), m1 6955 (by decide)], by omega⟩
    have hE2 := X2.eh hE
    have hL2 : M2 6952 102 = 0 ∨ (M2 6952 102 = 1 ∧ KN M2 R m Γ) := by
      rw [z2 102 (by decide), m2 102 (by decide) (by decide) (by decide)]
      rcases hL with h | h
      · exact Or.inl h
      · exact Or.inr ⟨h.1, KN_congr h.2 (fun x a b => by rw [z1 x (by omega) (by omega) (by omega), m1 x (by omega)])⟩
    refine l_ev (B := M 6952 7) hW (by omega) hT 101 n e' 0 0 M2 n0 n1 hk hen hE2 (by rw [X2.2.1 6 (by decide) (by decide) (by decide) (by decide)]; exact h6) (by omega) (by omega) (by omega) (Int.le_refl _) (by omega) (Int.le_refl _) (by omega) ⟨z3, z4, z5, (z2 124 (by decide)).trans v124, (z2 8 (by decide)).trans v8⟩ (fun M3 x hx X3 a1 a2 a3 a4 a5 a6 => ?_) (fun M3 hx X3 a1 => ?_)
    · have hX := X2.trans (WX.ef X3)
      obtain ⟨hP3, _, hT3, h63, h703⟩ := hX.eh hE
      have hq := (hP3 n n0 n1).1
      have hL3 : M3 6952 102 = 0 ∨ (M3 6952 102 = 1 ∧ KN M3 R m Γ) := by
        rw [X3.2.1 102 (by decide) (by decide) (by decide) (by decide)]
        rcases hL2 with h | h
        · exact Or.inl h
        · exact Or.inr ⟨h.1, KN_congr h.2 (fun y a b => X3.1 y (by omega) (by omega) (by omega))⟩
      have h773 := X3.2.2.2.2.2
      have down : ∀ v, M 6952 7 ≤ v → WX M (im_u M3 6952 7 v) := fun v hv => ⟨fun y a b c => (im_u_ne _ _ _ a).trans (hX.1 y a b c), fun j a b c d' => (im_rdk _ _ _ a).trans (hX.2.1 j a b c d'), fun i hi => (im_rdn _ _ _ _ (by decide)).trans (hX.2.2.1 i hi), by rw [im_rds]; exact hv⟩
      have hLd : ∀ v, (im_u M3 6952 7 v 6952 102 = 0 ∨ (im_u M3 6952 7 v 6952 102 = 1 ∧ KN (im_u M3 6952 7 v) R m Γ)) := fun v => by
        rw [im_rdk _ _ _ (by decide)]
        rcases hL3 with h | h
        · exact Or.inl h
        · exact Or.inr ⟨h.1, KN_congr h.2 (fun y a b => im_u_ne _ _ _ (by omega))⟩
      refine b_work_66 (by omega) ⟨fun w => by omega, fun _ => ⟨fun _ => ?_, fun w => absurd a3 w⟩⟩
      rw [hq]
      rcases hk with hv | ho
      · have hkr := kR_v (a := R 3 n) hv
        have hv' := hv
        unfold vkd at hv'
        obtain ⟨⟨k, r1, r2, r3, r4⟩, hlow⟩ := a5 hv
        have rl := r1.1
        refine ⟨by constructor <;> omega, fun _ => ⟨by constructor <;> omega, by constructor <;> omega, fun hge => ?_, fun hlt => ?_⟩, fun w => by omega⟩
        · rw [rl]
          refine l_down (M0 := M3) (z := (k : Int) + 2) (by omega) (by omega) h70 hge (by omega) (fun M4 b1 b2 b3 => ?_) (by omega) (k + 2) 0 M3 (by omega) (Int.le_refl _) (fun _ _ => rfl) (fun _ _ => rfl) (fun y y0 y1 => by omega)
          refine b_work_160 (by omega) ⟨by constructor <;> omega, by constructor <;> omega, fun _ => ⟨by constructor <;> omega, ?_⟩, fun w => by omega⟩
          have g7 : ∀ j, j ≠ 7 → im_u M4 6952 7 (M 6952 7 + ((k : Int) + 2)) 6952 j = M3 6952 j := fun j hj => by rw [im_rdk _ _ _ hj, b1 6952 (by decide)]
          have ga : ∀ y, y ≠ 6952 → y ≠ 6955 → im_u M4 6952 7 (M 6952 7 + ((k : Int) + 2)) y = M3 y := fun y a b => by rw [im_u_ne _ _ _ a, b1 y b]
          have gp : im_u M4 6952 7 (M 6952 7 + ((k : Int) + 2)) 6955 = M4 6955 := im_u_ne _ _ _ (by decide)
          have gt : im_u M4 6952 7 (M 6952 7 + ((k : Int) + 2)) 6952 7 = M 6952 7 + ((k : Int) + 2) := im_rds _ _ _ _
          have hX5 : WX M (im_u M4 6952 7 (M 6952 7 + ((k : Int) + 2))) := ⟨fun y a b c => (ga y a (by omega)).trans (hX.1 y a b c), fun j a b c d' => (g7 j a).trans (hX.2.1 j a b c d'), fun i hi => by rw [gp, b2 i hi]; exact hX.2.2.1 i hi, by omega⟩
          have hrn : rn (im_u M4 6952 7 (M 6952 7 + ((k : Int) + 2)) 6955) (M 6952 7) k x := by
            rw [gp]
            exact rn_move r1 (fun i i0 i1 => b3 i i0 (by omega))
          have hL5 : im_u M4 6952 7 (M 6952 7 + ((k : Int) + 2)) 6952 102 = 0 ∨ (im_u M4 6952 7 (M 6952 7 + ((k : Int) + 2)) 6952 102 = 1 ∧ KN (im_u M4 6952 7 (M 6952 7 + ((k : Int) + 2))) R m Γ) := by
            rw [g7 102 (by decide)]
            rcases hL3 with h | h
            · exact Or.inl h
            · exact Or.inr ⟨h.1, KN_congr h.2 (fun y a b => ga y (by omega) (by omega))⟩
          have g8 := g7 8 (by decide)
          generalize im_u M4 6952 7 (M 6952 7 + ((k : Int) + 2)) = M5 at hX5 hrn hL5 gt g8 ⊢
          refine c_know hW n0 n1 (Or.inl hv) (hX5.rp hP h6) h70 (by omega) hL5 (by omega) (Or.inr ⟨k, x, rfl, r4, hv, hx, hrn⟩) (fun M6 d1 d2 => ⟨rfl, rfl, ?_⟩)
          have e52 : M6 6952 = M5 6952 := d1 6952 (by decide)
          have e55 : M6 6955 = M5 6955 := d1 6955 (by decide)
          refine hKs M6 _ x hx (hX5.trans ⟨fun y a b c => d1 y (by omega), fun j _ _ _ _ => by rw [e52], fun i _ => by rw [e55], by rw [e52]; exact Int.le_refl _⟩) (by rw [e52, g8]; exact a3) (by rw [e52, gt]; omega) (fun _ => ⟨k, by rw [e55]; exact hrn, h70, by rw [e52, gt]; omega, r4⟩) (fun ho => by unfold okd at ho; omega) d2
        · refine hKs _ _ x hx (down _ (Int.le_refl _)) (by rw [im_rdk _ _ _ (by decide)]; exact a3) (by rw [im_rds]; omega) (fun _ => ?_) (fun ho => by unfold okd at ho; omega) (hLd _)
          rw [im_rds]
          exact rnp_congr (hlow hlt) (fun i _ => im_rdn _ _ _ _ (by decide)) (Int.le_refl _)
      · have hkr := kR_o (a := R 3 n) ho
        have ho' := ho
        unfold okd at ho'
        refine ⟨by constructor <;> omega, fun w => by omega, fun _ => ⟨by constructor <;> omega, ?_⟩⟩
        rw [a6 ho]
        exact hKs _ x x hx (down _ (Int.le_refl _)) (by rw [im_rdk _ _ _ (by decide)]; exact a3) (by rw [im_rds]; omega) (fun hv => by unfold vkd at hv; omega) (fun _ => rfl) (hLd _)
    · have hX := X2.trans (WX.ef X3)
      obtain ⟨hP3, _, hT3, h63, h703⟩ := hX.eh hE
      have hX5 : WX M (im_u M3 6952 7 (M 6952 7)) := ⟨fun y a b c => (im_u_ne _ _ _ a).trans (hX.1 y a b c), fun j a b c d' => (im_rdk _ _ _ a).trans (hX.2.1 j a b c d'), fun i hi => (im_rdn _ _ _ _ (by decide)).trans (hX.2.2.1 i hi), by rw [im_rds]; exact Int.le_refl _⟩
      have hL5 : im_u M3 6952 7 (M 6952 7) 6952 102 = 0 ∨ (im_u M3 6952 7 (M 6952 7) 6952 102 = 1 ∧ KN (im_u M3 6952 7 (M 6952 7)) R m Γ) := by
        rw [im_rdk _ _ _ (by decide), X3.2.1 102 (by decide) (by decide) (by decide) (by decide)]
        rcases hL2 with h | h
        · exact Or.inl h
        · exact Or.inr ⟨h.1, KN_congr h.2 (fun y a b => by rw [im_u_ne _ _ _ (by omega), X3.1 y (by omega) (by omega) (by omega)])⟩
      have g8 : im_u M3 6952 7 (M 6952 7) 6952 8 = 1 := (im_rdk _ _ _ (by decide)).trans a1
      have g7 : im_u M3 6952 7 (M 6952 7) 6952 7 = M 6952 7 := im_rds _ _ _ _
      refine b_work_66 (by omega) ⟨fun _ w => by omega, fun _ => ⟨fun w => by omega, fun _ => ⟨by constructor <;> omega, ?_⟩⟩⟩
      generalize im_u M3 6952 7 (M 6952 7) = M5 at hX5 hL5 g8 g7 ⊢
      refine c_know hW n0 n1 hk (hX5.rp hP h6) (Int.le_refl _) (by decide) hL5 (by omega) (Or.inl ⟨rfl, hx⟩) (fun M6 d1 d2 => ⟨rfl, rfl, ?_⟩)
      have e52 : M6 6952 = M5 6952 := d1 6952 (by decide)
      have e55 : M6 6955 = M5 6955 := d1 6955 (by decide)
      exact hKl M6 hx (hX5.trans ⟨fun y a b c => d1 y (by omega), fun j _ _ _ _ => by rw [e52], fun i _ => by rw [e55], by rw [e52]; exact Int.le_refl _⟩) (by rw [e52]; exact g8) (by rw [e52]; exact g7) d2
end RWORK5
