/-! THE CLASS works values and observations out -/
def CP (M : im_M) (R : Rw) (m E : Int) : Prop := (0 ≤ E ∧ E ≤ 32836) ∧ ∀ i, 0 ≤ i → i < m → rowC M R E i ∧ ends (R 1) m i (M 15 i)
theorem rowC_all {M M' : im_M} {R : Rw} {E i : Int} (h : rowC M R E i) (hs : ∀ x : Nat, 14 ≤ x → x ≤ 22 → M' x = M x) : rowC M' R E i := by
  obtain ⟨r1, r2, r3, r4, r5, r6, r7, r8, r9⟩ := h
  unfold rowC
  rw [hs 14 (by decide) (by decide), hs 16 (by decide) (by decide), hs 17 (by decide) (by decide), hs 18 (by decide) (by decide), hs 19 (by decide) (by decide), hs 20 (by decide) (by decide), hs 21 (by decide) (by decide)]
  have h22 := hs 22 (by decide) (by decide)
  refine ⟨r1, r2, r3, r4, r5, r6, r7, fun z => ?_, fun z z' => ?_⟩
  · obtain ⟨p', h1, h2⟩ := r8 z
    exact ⟨p', dgs_congr h1 (fun j _ _ => by rw [h22]), h2⟩
  · obtain ⟨p', h1, h2⟩ := r9 z z'
    exact ⟨p', (dsq_congr _ h1 (fun j _ _ => by rw [h22])).1, h2⟩
theorem CP_congr {M M' : im_M} {R : Rw} {m E : Int} (h : CP M R m E) (hs : ∀ x : Nat, 14 ≤ x → x ≤ 22 → M' x = M x) : CP M' R m E :=
  ⟨h.1, fun i i0 i1 => ⟨rowC_all (h.2 i i0 i1).1 hs, by rw [hs 15 (by decide) (by decide)]; exact (h.2 i i0 i1).2⟩⟩
/-- the machine's numbers, each in a cell of its own -/
def NPp (M : im_M) (π : Nat → Nat) : Prop := (∀ i : Nat, i < 104 → π i < 104 ∧ M 932 i = ((1585 + 2 * π i : Nat) : Int)) ∧ ∀ i j : Nat, i < 104 → j < 104 → π i = π j → i = j
def NP (M : im_M) : Prop := (∃ π : Nat → Nat, NPp M π) ∧ ∀ i : Nat, i < 104 → ∃ w, cn M (1585 + 2 * i) w
theorem NP.at {e : im_E} {M : im_M} (h : NP M) {i : Nat} (hi : i < 104) : ∃ c : Nat, M 932 i = c ∧ im_num e c ∧ 1585 ≤ c ∧ c + 1 < 1793 := by
  obtain ⟨⟨π, h1, _⟩, _⟩ := h
  obtain ⟨a, b⟩ := h1 i hi
  exact ⟨1585 + 2 * π i, b, nm_nums _ a, by omega, by omega⟩
theorem NP.cn {M : im_M} (h : NP M) {i c : Nat} (hi : i < 104) (hc : M 932 i = c) : ∃ w, cn M c w := by
  obtain ⟨⟨π, h1, _⟩, h2⟩ := h
  obtain ⟨a, b⟩ := h1 i hi
  rw [hc] at b
  have e : c = 1585 + 2 * π i := by omega
  rw [e]; exact h2 _ a
theorem NP.ne {M : im_M} (h : NP M) {i j : Nat} {c c' : Nat} (hi : i < 104) (hj : j < 104) (hij : i ≠ j) (h1 : M 932 i = c) (h2 : M 932 j = c') : c ≠ c' ∧ c + 1 ≠ c' ∧ c ≠ c' + 1 := by
  obtain ⟨⟨π, a, b⟩, _⟩ := h
  have e1 := (a i hi).2
  have e2 := (a j hj).2
  have : π i ≠ π j := fun z => hij (b i j hi hj z)
  rw [h1] at e1
  rw [h2] at e2
  omega
theorem NP.congr {M M' : im_M} (h : NP M) (hs : M' 932 = M 932) (hc : ∀ x, 1585 ≤ x → x < 1793 → M' x = M x) : NP M' := by
  unfold NP NPp
  rw [hs]
  refine ⟨h.1, fun i hi => ?_⟩
  obtain ⟨w, hw⟩ := h.2 i hi
  exact ⟨w, cn_congr hw (hc _ (by omega) (by omega)) (hc _ (by omega) (by omega))⟩
def WD (δ : Nat) (M M' : im_M) : Prop := (∀ x, x ≠ 931 → x ≠ 932 → x ≠ 933 → (x < 1585 ∨ 1793 ≤ x) → M' x = M x) ∧ (∀ k, k ≠ 12 → M' 931 k = M 931 k) ∧ NP M' ∧ (∀ i : Nat, i < δ → i < 104 → M' 932 i = M 932 i) ∧ (∀ i : Nat, i < δ → i < 104 → ∀ c : Nat, M 932 i = c → M' c = M c ∧ M' (c + 1) = M (c + 1))
theorem WD.rf {δ : Nat} {M : im_M} (h : NP M) : WD δ M M := ⟨fun _ _ _ _ _ => rfl, fun _ _ => rfl, h, fun _ _ _ => rfl, fun _ _ _ _ _ => ⟨rfl, rfl⟩⟩
theorem WD.trans {δ δ' : Nat} {M M1 M2 : im_M} (h : WD δ M M1) (h' : WD δ' M1 M2) (hl : δ ≤ δ') : WD δ M M2 :=
  ⟨fun x a b c d => (h'.1 x a b c d).trans (h.1 x a b c d), fun k a => (h'.2.1 k a).trans (h.2.1 k a), h'.2.2.1, fun i hi h4 => (h'.2.2.2.1 i (by omega) h4).trans (h.2.2.2.1 i hi h4), fun i hi h4 c hc => by
    have e1 := h.2.2.2.2 i hi h4 c hc
    have e2 := h'.2.2.2.2 i (by omega) h4 c ((h.2.2.2.1 i hi h4).trans hc)
    exact ⟨e2.1.trans e1.1, e2.2.trans e1.2⟩⟩
theorem NP.ge {M : im_M} (h : NP M) {i c : Nat} (hi : i < 104) (hc : M 932 i = c) : 1585 ≤ c ∧ c + 1 < 1793 := by
  obtain ⟨⟨π, a, _⟩, _⟩ := h
  obtain ⟨e0, e1⟩ := a i hi
  rw [hc] at e1; omega
theorem WD.num {δ : Nat} {M M1 : im_M} {c : Nat} {w : Int} (h : NP M) (hδ : δ < 104) (hc : M 932 δ = c) (hF : NR c M M1) (hw : cn M1 c w) : WD δ M M1 := by
  have hc1 := h.ge hδ hc
  have h932 : M1 932 = M 932 := hF 932 (by omega) (by omega) (by decide)
  have hNP : NP M1 := by
    unfold NP NPp
    rw [h932]
    refine ⟨h.1, fun i hi => ?_⟩
    obtain ⟨w', hw'⟩ := h.2 i hi
    obtain ⟨⟨π, a, _⟩, _⟩ := h
    obtain ⟨e0, e1⟩ := a δ hδ
    rw [hc] at e1
    by_cases hic : 1585 + 2 * i = c
    · rw [hic]; exact ⟨w, hw⟩
    · exact ⟨w', cn_congr hw' (hF _ hic (by omega) (by omega)) (hF _ (by omega) (by omega) (by omega))⟩
  refine ⟨fun x a b c' d => hF x (by omega) (by omega) c', fun k _ => by rw [hF 931 (by omega) (by omega) (by decide)], hNP, fun i _ _ => by rw [h932], fun i hi h4 c' hc' => ?_⟩
  have hne := h.ne (i := i) (j := δ) h4 hδ (by omega) hc' hc
  have h93 := h.ge h4 hc'
  exact ⟨hF c' hne.1 hne.2.2 (by omega), hF (c' + 1) hne.2.1 (by omega) (by omega)⟩
theorem NF.r {a : Nat} {M M' : im_M} (h : NF a M M') : NR a M M' := fun x a b _ => h x a b
theorem WD.fl {δ : Nat} {M M1 : im_M} (h : WD δ M M1) (v : Int) : WD δ M (im_u M1 931 12 v) :=
  ⟨fun x a b c d => (im_u_ne _ _ _ a).trans (h.1 x a b c d), fun k a => (im_rdk _ _ _ a).trans (h.2.1 k a), h.2.2.1.congr (im_u_ne _ _ _ (by decide)) (fun x a b => im_u_ne _ _ _ (by omega)), fun i hi h4 => (im_rdn _ _ _ _ (by decide)).trans (h.2.2.2.1 i hi h4), fun i hi h4 c hc => by
    have h93 := h.2.2.1.ge h4 ((h.2.2.2.1 i hi h4).trans hc)
    rw [im_u_ne _ _ _ (by omega), im_u_ne _ _ _ (by omega)]
    exact h.2.2.2.2 i hi h4 c hc⟩
/-- raise: two numbers change places -/
theorem WD.sw {δ : Nat} {M M1 : im_M} {b b' : Nat} (h : WD δ M M1) (hδ : δ + 1 < 104) (hb : M1 932 δ = b) (hb' : M1 932 ((δ : Int) + 1) = b') : WD δ M (im_u (im_u M1 932 ((δ : Int) + 1) b) 932 δ b') := by
  have hr : ∀ i : Nat, im_u (im_u M1 932 ((δ : Int) + 1) b) 932 δ b' 932 i = if i = δ then (b' : Int) else if i = δ + 1 then (b : Int) else M1 932 i := fun i => by
    by_cases c1 : i = δ
    · rw [if_pos c1, c1, im_rds]
    · rw [if_neg c1, im_rdk _ _ _ (by omega)]
      by_cases c2 : i = δ + 1
      · rw [if_pos c2, c2]
        exact im_rds _ _ _ _
      · rw [if_neg c2, im_rdk _ _ _ (by omega)]
  refine ⟨fun x a c d f => ?_, fun k a => ?_, ?_, fun i hi h4 => ?_, fun i hi h4 c hc => ?_⟩
  · rw [im_u_ne _ _ _ c, im_u_ne _ _ _ c]; exact h.1 x a c d f
  · rw [im_rdn _ _ _ _ (by decide), im_rdn _ _ _ _ (by decide)]; exact h.2.1 k a
  · obtain ⟨⟨π, p1, p2⟩, p3⟩ := h.2.2.1
    refine ⟨⟨fun i => if i = δ then π (δ + 1) else if i = δ + 1 then π δ else π i, fun i hi => ?_, fun i j hi hj hij => ?_⟩, fun i hi => ?_⟩
    · dsimp only
      rw [hr i]
      obtain ⟨d1, d2⟩ := p1 δ (by omega)
      obtain ⟨f1, f2⟩ := p1 (δ + 1) (by omega)
      obtain ⟨g1, g2⟩ := p1 i hi
      rw [hb] at d2
      have f2 : M1 932 ((δ : Int) + 1) = ((1585 + 2 * π (δ + 1) : Nat) : Int) := f2
      rw [hb'] at f2
      by_cases c1 : i = δ
      · rw [if_pos c1, if_pos c1]; exact ⟨f1, f2⟩
      · rw [if_neg c1, if_neg c1]
        by_cases c2 : i = δ + 1
        · rw [if_pos c2, if_pos c2]; exact ⟨d1, d2⟩
        · rw [if_neg c2, if_neg c2]; exact ⟨g1, g2⟩
    · dsimp only at hij
      by_cases c1 : i = δ
      · rw [if_pos c1] at hij
        by_cases c3 : j = δ
        · omega
        · rw [if_neg c3] at hij
          by_cases c4 : j = δ + 1
          · rw [if_pos c4] at hij
            have := p2 (δ + 1) δ (by omega) (by omega) hij; omega
          · rw [if_neg c4] at hij
            have := p2 (δ + 1) j (by omega) hj hij; omega
      · rw [if_neg c1] at hij
        by_cases c2 : i = δ + 1
        · rw [if_pos c2] at hij
          by_cases c3 : j = δ
          · rw [if_pos c3] at hij
            have := p2 δ (δ + 1) (by omega) (by omega) hij; omega
          · rw [if_neg c3] at hij
            by_cases c4 : j = δ + 1
            · omega
            · rw [if_neg c4] at hij
              have := p2 δ j (by omega) hj hij; omega
        · rw [if_neg c2] at hij
          by_cases c3 : j = δ
          · rw [if_pos c3] at hij
            have := p2 i (δ + 1) hi (by omega) hij; omega
          · rw [if_neg c3] at hij
            by_cases c4 : j = δ + 1
            · rw [if_pos c4] at hij
              have := p2 i δ hi (by omega) hij; omega
            · rw [if_neg c4] at hij
              exact p2 i j hi hj hij
    · obtain ⟨w, hw⟩ := p3 i hi
      exact ⟨w, cn_congr hw (by rw [im_u_ne _ _ _ (by omega), im_u_ne _ _ _ (by omega)]) (by rw [im_u_ne _ _ _ (by omega), im_u_ne _ _ _ (by omega)])⟩
  · rw [hr i, if_neg (by omega), if_neg (by omega)]; exact h.2.2.2.1 i hi h4
  · have h93 := h.2.2.1.ge h4 ((h.2.2.2.1 i hi h4).trans hc)
    rw [im_u_ne _ _ _ (by omega), im_u_ne _ _ _ (by omega), im_u_ne _ _ _ (by omega), im_u_ne _ _ _ (by omega)]
    exact h.2.2.2.2 i hi h4 c hc
/-- a book of the class -/
def cb (M : im_M) (b n : Nat) (β : Bk) : Prop := cbk M b n β.1 β.2.1 β.2.2.1 β.2.2.2
/-- what the machine is aimed at -/
def CEb (M : im_M) (e : im_E) (Γ : Env) (bs bp np : Nat) : Prop := (M 931 4 = bs ∧ M 931 5 = bp) ∧ (im_state e bs ∧ bkN e (bs + 1) 40 ∧ bkN e (bs + 87) 40 ∧ bkN e (bs + 173) 40 ∧ bkN e bp np) ∧ (bs + 259 ≤ 931 ∨ 1793 ≤ bs) ∧ (bp + 6 + 2 * np ≤ 931 ∨ 1793 ≤ bp) ∧ (cb M (bs + 1) 40 Γ.1 ∧ cb M (bs + 87) 40 Γ.2.1 ∧ cb M (bs + 173) 40 Γ.2.2.1 ∧ cb M bp np Γ.2.2.2.1) ∧ (M 931 10 = Γ.2.2.2.2.1 ∧ M 931 11 = Γ.2.2.2.2.2) ∧ (0 ≤ Γ.2.2.2.2.1 ∧ Γ.2.2.2.2.1 ≤ 1000000000000000) ∧ (0 ≤ Γ.2.2.2.2.2 ∧ Γ.2.2.2.2.2 ≤ 1000000000000000)
theorem CEb_congr {M M' : im_M} {e : im_E} {Γ : Env} {bs bp np : Nat} (h : CEb M e Γ bs bp np) (hs : ∀ x, x ≠ 931 → x ≠ 932 → x ≠ 933 → (x < 1585 ∨ 1793 ≤ x) → M' x = M x) (hf : ∀ k, k ≠ 12 → M' 931 k = M 931 k) : CEb M' e Γ bs bp np := by
  obtain ⟨a1, a2, a3, a4, ⟨b1, b2, b3, b4⟩, a6, a7⟩ := h
  refine ⟨by rw [hf 4 (by decide), hf 5 (by decide)]; exact a1, a2, a3, a4, ⟨cbk_congr b1 (fun x x1 x2 => hs x (by omega) (by omega) (by omega) (by omega)), cbk_congr b2 (fun x x1 x2 => hs x (by omega) (by omega) (by omega) (by omega)), cbk_congr b3 (fun x x1 x2 => hs x (by omega) (by omega) (by omega) (by omega)), cbk_congr b4 (fun x x1 x2 => hs x (by omega) (by omega) (by omega) (by omega))⟩, by rw [hf 10 (by decide), hf 11 (by decide)]; exact a6, a7⟩
theorem cn_neg {M : im_M} {b : Nat} {v : Int} (h : cn M b v) : cn (im_u M b 0 (-(M b 0))) b (-v) := by
  obtain ⟨n, h1, h2, h3, h4, h5, h6⟩ := h
  have e1 : im_u M b 0 (-(M b 0)) (b + 1) = M (b + 1) := im_u_ne _ _ _ (by omega)
  refine ⟨n, by rw [im_rdk _ _ _ (by decide)]; exact h1, h2, by rw [e1]; exact h3, ?_, ?_, sm_neg h6⟩
  · rw [im_rds]; omega
  · rw [im_rds, e1, Int.neg_mul, h5]
section CWORK
variable {g : im_g} {e : im_E} {K : im_K} {R : Rw} {m E : Int} {Γ : Env}
theorem c_isLeaf {d : Nat} {M : im_M} {k : Int} (hk : im_i32 k) (hK1 : lfk k → K (.inl (some (vI 1))) e M) (hK0 : ¬ lfk k → K (.inl (some (vI 0))) e M) : im_T g d 123 0 [some (vI k)] [] e M K := by
  refine k_Machine_isLeaf_0 ⟨hk, fun h => hK1 (by unfold lfk; omega), fun h => ⟨fun a b c => hK0 (by unfold lfk; omega), fun a => hK1 (by unfold lfk; omega)⟩⟩
theorem c_isSo {d : Nat} {M : im_M} {k x y : Int} (hk : 21 ≤ k ∧ k ≤ 25) (hK : K (.inl (some (vI (so k x y)))) e M) : im_T g d 136 0 [some (vI k), some (vI (cmpI x y))] [] e M K := by
  have hc : im_i32 (cmpI x y) := by unfold cmpI; (repeat' split) <;> decide
  have hc3 : (cmpI x y = -1 ∧ x < y) ∨ (cmpI x y = 0 ∧ x = y) ∨ (cmpI x y = 1 ∧ y < x) := by unfold cmpI; (repeat' split) <;> omega
  generalize cmpI x y = c at hc hc3 ⊢
  unfold so at hK
  refine k_Machine_isSo_0 ⟨by constructor <;> omega, fun z => ⟨hc, fun w hw => ?_⟩, fun z => ⟨hc, fun w hw => ?_⟩, fun z => ⟨hc, fun w hw => ?_⟩, fun z => ⟨hc, fun w hw => ?_⟩, fun z => ⟨hc, fun w hw => ?_⟩⟩
  · rw [if_pos z] at hK
    by_cases c1 : y ≤ x
    · rw [if_pos c1] at hK
      have : w = 1 := by omega
      rw [this]; exact hK
    · rw [if_neg c1] at hK
      have : w = 0 := by omega
      rw [this]; exact hK
  · rw [if_neg (by omega), if_pos z] at hK
    by_cases c1 : y < x
    · rw [if_pos c1] at hK
      have : w = 1 := by omega
      rw [this]; exact hK
    · rw [if_neg c1] at hK
      have : w = 0 := by omega
      rw [this]; exact hK
  · rw [if_neg (by omega), if_neg (by omega), if_pos z] at hK
    by_cases c1 : x ≤ y
    · rw [if_pos c1] at hK
      have : w = 1 := by omega
      rw [this]; exact hK
    · rw [if_neg c1] at hK
      have : w = 0 := by omega
      rw [this]; exact hK
  · rw [if_neg (by omega), if_neg (by omega), if_neg (by omega), if_pos z] at hK
    by_cases c1 : x < y
    · rw [if_pos c1] at hK
      have : w = 1 := by omega
      rw [this]; exact hK
    · rw [if_neg c1] at hK
      have : w = 0 := by omega
      rw [this]; exact hK
  · rw [if_neg (by omega), if_neg (by omega), if_neg (by omega), if_neg (by omega)] at hK
    by_cases c1 : x = y
    · rw [if_pos c1] at hK
      have : w = 1 := by omega
      rw [this]; exact hK
    · rw [if_neg c1] at hK
      have : w = 0 := by omega
      rw [this]; exact hK
theorem c_heldB {d : Nat} {M : im_M} {b n : Nat} {β : Bk} {a a' : Int} {p : Nat} (hb : bkN e b n) (hc : cb M b n β) (ha : im_i64 a) (ha' : im_i64 a') (hd : 1 ≤ d)
    (hK : ∀ c, im_num e c → b ≤ c → c < b + 6 + 2 * n → cn M c (hld β a a') → K (.inl (some (.ref c))) e M) : im_T g d 89 0 [some (.ref b), some (vL a), none, some (vL a'), none, none] [] e M K := by
  refine c_held hb hc ha ha' (ps_ok β a a') hd (fun h c c1 c2 c3 c4 => hK c c1 c2 c3 ?_) (fun h c c1 c2 c3 c4 => hK c c1 c2 c3 ?_)
  · unfold hld; rw [if_pos (show hs2 β a a' from h)]; exact c4
  · unfold hld; rw [if_neg (show ¬ hs2 β a a' from h)]; exact c4
theorem c_leaf {d : Nat} {M : im_M} {n : Int} {p bs bp np : Nat} (hp : im_num e p) (hpp : 1585 ≤ p ∧ p + 1 < 1793) (hm : m ≤ 5000) (hC : CP M R m E) (hE : CEb M e Γ bs bp np) (n0 : 0 ≤ n) (n1 : n < m) (hl : lfk (R 0 n)) (hd : 3 ≤ d)
    (hKv : vkd (R 0 n) → ∀ M', NF p M M' → cn M' p (lfv R Γ n) → K (.inl (some (vI 0))) e M') (hKo : okd (R 0 n) → K (.inl (some (vI (lfv R Γ n)))) e M) : im_T g d 124 0 [some (.ref 931), some (vI n), some (.ref p), none, none, none, none] [] e M K := by
  refine im_rng (j := n) sf_19 n0 (by show n < 5000; omega) (fun hr19 => im_rng (j := n) sf_20 n0 (by show n < 5000; omega) (fun hr20 => ?_))
  have hr19 : im_i64 (M 19 n) := hr19
  have hr20 : im_i64 (M 20 n) := hr20
  obtain ⟨⟨r1, r2, r3, r4, r5, r6, r7, r8, r9⟩, _⟩ := hC.2 n n0 n1
  obtain ⟨⟨e1, e2⟩, ⟨s1, s2, s3, s4, s5⟩, e3, e4, ⟨b1, b2, b3, b4⟩, ⟨e5, e6⟩, e7, e8⟩ := hE
  refine k_Machine_leaf_0 hp (by omega) ?_
  rw [r1]
  rw [r4] at hr19
  rw [r5] at hr20
  rw [r4, r5]
  unfold lfv at hKv hKo
  unfold vkd at hKv
  unfold okd at hKo
  have hcp : ∀ {c : Nat} {v : Int}, im_num e c → c < 1585 ∨ 1793 ≤ c → cn M c v → (∀ M', NF p M M' → cn M' p v → K (.inl (some (vI 0))) e M') → im_T g (d - 1) 66 0 [some (.ref p), some (.ref c), none] [] e M (im_r0 (fun e_ M17 => e = e_ ∧ K (.inl (some (vI 0))) e M17)) := fun {c v} hc hcl hv hk => c_copy hp hc (by omega) hv (fun M' a b => ⟨rfl, rfl, hk M' a b⟩)
  refine ⟨by constructor <;> omega, fun k => ?_, fun k => ?_, fun k => ?_, fun k => ?_, fun k => ?_, fun k => ?_, fun k => ?_, fun k => ?_, fun k => ?_⟩
  · rw [if_pos k] at hKv
    obtain ⟨p', d1, d2⟩ := r8 k
    exact c_load hp d1 (by omega) (fun M' a b => ⟨_, rfl, rfl, hKv (by omega) M' a b⟩)
  · rw [if_neg (by omega), if_pos k] at hKv
    refine ⟨bp, e2, np, s5.1, c_heldB (p := p) s5 b4 hr19 (by decide) (by omega) (fun c c1 c2 c3 c4 => ⟨_, rfl, rfl, c1, hcp c1 ?_ c4 (hKv (by omega))⟩)⟩
    have := (c1 : im_num e c)
    omega
  · rw [if_neg (by omega), if_neg (by omega), if_pos k] at hKv
    exact ⟨bs, e1, s1, c_heldB (p := p) s2 b1 hr19 hr20 (by omega) (fun c c1 c2 c3 c4 => ⟨_, rfl, rfl, c1, hcp c1 (by omega) c4 (hKv (by omega))⟩)⟩
  · rw [if_neg (by omega), if_neg (by omega), if_neg (by omega), if_pos k] at hKv
    exact ⟨bs, e1, s1, c_heldB (p := p) s3 b2 hr19 hr20 (by omega) (fun c c1 c2 c3 c4 => ⟨_, rfl, rfl, c1, hcp c1 (by omega) c4 (hKv (by omega))⟩)⟩
  · rw [if_neg (by omega), if_neg (by omega), if_neg (by omega), if_neg (by omega), if_pos k] at hKv
    exact ⟨bs, e1, s1, c_heldB (p := p) s4 b3 hr19 (by decide) (by omega) (fun c c1 c2 c3 c4 => ⟨_, rfl, rfl, c1, hcp c1 (by omega) c4 (hKv (by omega))⟩)⟩
  · rw [if_neg (by omega), if_neg (by omega), if_neg (by omega), if_neg (by omega), if_neg (by omega), if_pos k] at hKv
    rw [e5]
    exact c_setTime hp e7.1 (by omega) (by omega) (fun M' a b => ⟨rfl, rfl, hKv (by omega) M' a b⟩)
  · rw [if_neg (by omega), if_neg (by omega), if_neg (by omega), if_neg (by omega), if_neg (by omega), if_neg (by omega), if_pos k] at hKv
    rw [e6]
    exact c_setTime hp e8.1 (by omega) (by omega) (fun M' a b => ⟨rfl, rfl, hKv (by omega) M' a b⟩)
  · rw [if_neg (by omega), if_neg (by omega), if_neg (by omega), if_neg (by omega), if_neg (by omega), if_neg (by omega), if_neg (by omega), if_pos k] at hKo
    refine ⟨bs, e1, s1, ?_⟩
    obtain ⟨π, c1, c2, c3⟩ := b2
    have hps := ps_ok Γ.2.1 (R 4 n) (R 5 n)
    have hk40 : Γ.2.1.1 ≤ 40 := c1.2.1
    have hp0 := hps.1
    have hp1 := hps.2.1
    refine c_find s3.1 c1 hr19 hr20 hps (fun h => ⟨_, rfl, rfl, by constructor <;> omega, fun w hw => ?_⟩) (fun h => ⟨_, rfl, rfl, by constructor <;> omega, fun w hw => ?_⟩)
    · rw [if_pos (show hs2 Γ.2.1 (R 4 n) (R 5 n) from h)] at hKo
      have : w = 1 := by omega
      rw [this]; exact hKo (by omega)
    · rw [if_neg (show ¬ hs2 Γ.2.1 (R 4 n) (R 5 n) from h)] at hKo
      have : w = 0 := by omega
      rw [this]; exact hKo (by omega)
  · intro w hw
    clear r8 r9
    unfold lfk at hl
    rw [if_neg (by omega), if_neg (by omega), if_neg (by omega), if_neg (by omega), if_neg (by omega), if_neg (by omega), if_neg (by omega), if_neg (by omega)] at hKo
    by_cases c1 : R 0 n = 26
    · rw [if_pos c1] at hKo
      have : w = 1 := by omega
      rw [this]; exact hKo (by omega)
    · rw [if_neg c1] at hKo
      have : w = 0 := by omega
      rw [this]; exact hKo (by omega)
/-- how a piece of work ends -/
def rs (R : Rw) (n z : Int) (o : Option Int) (M M' : im_M) (τ : Int) : Prop := (0 ≤ τ ∧ τ ≤ 1) ∧ (vkd (R 0 n) → ∃ (c : Nat) (w : Int), M' 932 z = c ∧ cn M' c w ∧ ∀ x, o = some x → w = x) ∧ (okd (R 0 n) → ∀ x, o = some x → τ = x) ∧ (∀ x, o = some x → M' 931 12 = M 931 12) ∧ (o = none → M' 931 12 = 1)
theorem bin_fin {o1 o2 : Option Int} {k w1 w2 f0 f1 f2 f3 : Int} (a1 : ∀ x, o1 = some x → f1 = f0) (a2 : o1 = none → f1 = 1) (b1 : ∀ x, o2 = some x → f2 = f1) (b2 : o2 = none → f2 = 1) (h1 : ∀ x, o1 = some x → w1 = x) (h2 : ∀ x, o2 = some x → w2 = x) (c1 : opv k w1 w2 ≠ none → f3 = f2) (c2 : opv k w1 w2 = none → f3 = 1) (c3 : f2 = 1 → f3 = 1) : (∀ x, o1.bind (fun x => o2.bind (fun y => opv k x y)) = some x → f3 = f0 ∧ opv k w1 w2 = some x) ∧ (o1.bind (fun x => o2.bind (fun y => opv k x y)) = none → f3 = 1) := by
  cases o1 with
  | none =>
    refine ⟨fun x h => (by cases h), fun _ => c3 ?_⟩
    cases o2 with
    | none => exact b2 rfl
    | some y => rw [b1 y rfl]; exact a2 rfl
  | some a =>
    cases o2 with
    | none => exact ⟨fun x h => (by cases h), fun _ => c3 (b2 rfl)⟩
    | some b =>
      rw [h1 a rfl, h2 b rfl] at c1 c2 ⊢
      refine ⟨fun x h => ?_, fun h => c2 h⟩
      have h : opv k a b = some x := h
      exact ⟨by rw [c1 (by rw [h]; exact Option.some_ne_none x), b1 b rfl, a1 a rfl], h⟩
theorem WD.mono {δ δ' : Nat} {M M' : im_M} (h : WD δ' M M') (hl : δ ≤ δ') : WD δ M M' := ⟨h.1, h.2.1, h.2.2.1, fun i hi => h.2.2.2.1 i (by omega), fun i hi => h.2.2.2.2 i (by omega)⟩
theorem WD.cp {δ : Nat} {M M' : im_M} (h : WD δ M M') (hC : CP M R m E) : CP M' R m E := CP_congr hC (fun x a b => h.1 x (by omega) (by omega) (by omega) (by omega))
theorem WD.ce {δ : Nat} {M M' : im_M} {bs bp np : Nat} (h : WD δ M M') (hC : CEb M e Γ bs bp np) : CEb M' e Γ bs bp np := CEb_congr hC h.1 h.2.1
theorem lim_some {v : Int} (h : sm v) : lim v = some v := if_pos h
theorem lim_none {v : Int} (h : ¬ sm v) : lim v = none := if_neg h
theorem srt1_118 {k : Int} (h16 : k ≠ 16) (h17 : k ≠ 17) (h18 : k ≠ 18) (h19 : k ≠ 19) : srt1 k = 118 := by unfold srt1; rw [if_neg (by omega)]
theorem srt2_118 {k : Int} (h17 : k ≠ 17) (h18 : k ≠ 18) : srt2 k = 118 := by unfold srt2; rw [if_neg (by omega)]
theorem cmp_k {k : Int} (hk : vkd k ∨ okd k) (hl : ¬ lfk k) (h7 : k ≠ 7) (h16 : k ≠ 16) (h19 : k ≠ 19) (h : k < 8 ∨ 18 < k ∨ k = 12 ∨ k = 13 ∨ k = 14 ∨ k = 15 ∨ k = 16) : 21 ≤ k ∧ k ≤ 25 := by unfold vkd okd at hk; unfold lfk at hl; omega
theorem c_work (hW : WFP R m) {bs bp np : Nat} : ∀ (f : Nat) {K : im_K} (n z : Int) (δ d : Nat) (M : im_M), z = (δ : Int) → 0 ≤ n → n < m → (vkd (R 0 n) ∨ okd (R 0 n)) → CP M R m E → CEb M e Γ bs bp np → NP M → (M 931 12 = 0 ∨ M 931 12 = 1) → 101 ≤ R 1 n + f → (δ : Int) ≤ R 1 n → f + 4 ≤ d →
    (∀ M' τ, WD δ M M' → (M' 931 12 = 0 ∨ M' 931 12 = 1) → rs R n z (ev R Γ f n) M M' τ → K (.inl (some (vI τ))) e M') →
    im_T g d 122 0 [some (.ref 931), some (vI n), some (vI z), none, none, none, none, none, none, none, none] [] e M K := by
  intro f
  induction f with
  | zero =>
    intro K n z δ d M _ n0 n1 _ _ _ _ _ hf
    have := (hW.2.2 n n0 n1).2.2.1
    omega
  | succ f ih =>
    intro K n z δ d M hz n0 n1 hk hC hE hNP h12 hf hδ hd hK
    subst hz
    obtain ⟨tr, nv, ⟨D0, D1⟩, _⟩ := hW.2.2 n n0 n1
    have hm := hW.2.1
    have r1 : M 14 n = R 0 n := (hC.2 n n0 n1).1.1
    refine k_Machine_work_0 (by omega) ?_
    rw [r1]
    have hki : im_i32 (R 0 n) := by unfold vkd okd at hk; constructor <;> omega
    refine ⟨by constructor <;> omega, fun _ => ⟨by constructor <;> omega, ?_⟩, fun z => absurd z (by omega)⟩
    refine c_isLeaf hki (fun hl => ⟨_, rfl, rfl, by decide, fun z => absurd z (by decide), fun _ => ?_⟩) (fun hl => ⟨_, rfl, rfl, by decide, fun _ => ?_, fun z => absurd rfl z⟩)
    · -- a leaf
      have hev : ev R Γ (f + 1) n = some (lfv R Γ n) := by
        show (if _ then _ else _) = _
        rw [if_pos hl]
      obtain ⟨c, hc, hcn, hc1⟩ := hNP.at (e := e) (i := δ) (by omega)
      refine ⟨by constructor <;> omega, c, hc, hcn, c_leaf hcn hc1 hm hC hE n0 n1 hl (by omega) (fun hv M' hF hcv => ⟨_, rfl, rfl, by decide, ?_⟩) (fun ho => ⟨_, rfl, rfl, ?_, ?_⟩)⟩
      · have e931 : M' 931 = M 931 := hF 931 (by omega) (by omega)
        refine hK M' 0 (WD.num hNP (by omega) hc hF.r hcv) (by rw [e931]; exact h12) ⟨by decide, fun _ => ⟨c, _, by rw [hF 932 (by omega) (by omega)]; exact hc, hcv, fun x hx => ?_⟩, fun ho => by unfold vkd at hv; unfold okd at ho; omega, fun _ _ => by rw [e931], fun hx => ?_⟩
        · rw [hev] at hx; injection hx
        · rw [hev] at hx; cases hx
      · have := lfv_01 (Γ := Γ) ho; omega
      · have h01 := lfv_01 (Γ := Γ) ho
        refine hK M _ (WD.rf hNP) h12 ⟨by omega, fun hv => by unfold vkd at hv; unfold okd at ho; omega, fun _ x hx => ?_, fun _ _ => rfl, fun hx => ?_⟩
        · rw [hev] at hx; injection hx
        · rw [hev] at hx; cases hx
    · -- a part, and more
      obtain ⟨⟨k1, k2, k3, k4⟩, k5, k6⟩ := kids_v tr hk hl
      have hev : ev R Γ (f + 1) n = (ev R Γ f (n + 1)).bind (fun x => if R 0 n = 7 then some (-x) else if R 0 n = 19 then some (1 - x) else if R 0 n = 16 then (if x = 1 then ev R Γ f (R 17 n) else ev R Γ f (R 18 n)) else (ev R Γ f (R 17 n)).bind (fun y => opv (R 0 n) x y)) := by
        show (if _ then _ else _) = _
        rw [if_neg hl, k1]
      rw [hev] at hK
      refine ih (n + 1) ((δ : Int) + 1) (δ + 1) (d - 1) M (by omega) (by omega) k2 (bgn_s k4 (srt1_2 _)) hC hE hNP h12 (by omega) (by omega) (by omega) (fun M1 τ1 hW1 hf1 hr1 => ⟨_, rfl, rfl, ?_⟩)
      obtain ⟨t1, v1, u1, p1, q1⟩ := hr1
      have hi1 : im_i32 τ1 := by constructor <;> omega
      generalize ev R Γ f (n + 1) = o1 at hK v1 u1 p1 q1
      obtain ⟨c2, hc2, hc2n, hc2r⟩ := hW1.2.2.1.at (e := e) (i := δ + 1) (by omega)
      obtain ⟨c6, hc6, hc6n, hc6r⟩ := hW1.2.2.1.at (e := e) (i := δ) (by omega)
      have hc2 : M1 932 ((δ : Int) + 1) = c2 := hc2
      refine k_Machine_raise_0 ⟨by constructor <;> omega, c2, hc2, hc2n, by constructor <;> omega, c6, hc6, hc6n, rfl, rfl, ?_⟩
      have W2 : WD δ M (im_u (im_u M1 932 ((δ : Int) + 1) c6) 932 δ c2) := (hW1.mono (by omega)).sw (by omega) hc6 hc2
      have m2 : ∀ x, x ≠ 932 → im_u (im_u M1 932 ((δ : Int) + 1) c6) 932 δ c2 x = M1 x := fun x hx => by rw [im_u_ne _ _ _ hx, im_u_ne _ _ _ hx]
      have m2d : im_u (im_u M1 932 ((δ : Int) + 1) c6) 932 δ c2 932 δ = c2 := im_rds _ _ _ _
      generalize im_u (im_u M1 932 ((δ : Int) + 1) c6) 932 δ c2 = M2 at W2 m2 m2d ⊢
      have e12 : M2 931 12 = M1 931 12 := by rw [m2 931 (by decide)]
      have hf2 : M2 931 12 = 0 ∨ M2 931 12 = 1 := by rw [e12]; exact hf1
      have hC2 : CP M2 R m E := W2.cp hC
      have hE2 : CEb M2 e Γ bs bp np := W2.ce hE
      -- the first part's number, now below
      have V1 : srt1 (R 0 n) = 118 → ∃ w, cn M2 c2 w ∧ ∀ x, o1 = some x → w = x := fun hs => by
        rw [hs] at k4
        obtain ⟨c, w, z1, z2, z3⟩ := v1 (bgn_v k4)
        have : c = c2 := by rw [hc2] at z1; omega
        subst this
        exact ⟨w, cn_congr z2 (m2 c (by omega)) (m2 (c + 1) (by omega)), z3⟩
      have U1 : srt1 (R 0 n) = 111 → ∀ x, o1 = some x → τ1 = x := fun hs => by
        rw [hs] at k4
        exact u1 (bgn_o k4)
      have e15 : M2 15 = M 15 := W2.1 15 (by decide) (by decide) (by decide) (by decide)
      by_cases c19 : R 0 n = 19
      · refine ⟨⟨fun h => absurd c19 h, fun _ => hi1⟩, fun x hx => ?_⟩
        have hx1 : x = 1 - τ1 := by omega
        have hu := U1 (by unfold srt1; rw [if_pos (by omega)])
        refine hK M2 x W2 hf2 ⟨by omega, fun hv => by unfold vkd at hv; omega, fun _ y hy => ?_, fun y hy => ?_, fun hy => ?_⟩
        · cases o1 with
          | none => cases hy
          | some a =>
            have hy : (if R 0 n = 7 then some (-a) else if R 0 n = 19 then some (1 - a) else if R 0 n = 16 then (if a = 1 then ev R Γ f (R 17 n) else ev R Γ f (R 18 n)) else (ev R Γ f (R 17 n)).bind (fun y => opv (R 0 n) a y)) = some y := hy
            rw [if_neg (by omega), if_pos c19] at hy
            injection hy with hy
            have := hu a rfl
            omega
        · cases o1 with
          | none => cases hy
          | some a => rw [e12]; exact p1 a rfl
        · cases o1 with
          | none => rw [e12]; exact q1 rfl
          | some a =>
            have hy : (if R 0 n = 7 then some (-a) else if R 0 n = 19 then some (1 - a) else if R 0 n = 16 then (if a = 1 then ev R Γ f (R 17 n) else ev R Γ f (R 18 n)) else (ev R Γ f (R 17 n)).bind (fun y => opv (R 0 n) a y)) = none := hy
            rw [if_neg (by omega), if_pos c19] at hy
            cases hy
      refine ⟨⟨fun _ => ⟨fun c7 => ⟨by constructor <;> omega, ?_⟩, fun c7 => ?_⟩, fun h => absurd h c19⟩, fun x hx => by omega⟩
      · obtain ⟨j1, j2, j3, j4, j5⟩ := k5 c7 c19
        have hb1 : M2 15 (n + 1) = R 17 n := by
          rw [e15]; exact ends_nx j1 j3 (hC.2 (n + 1) (by omega) k2).2
        rw [hb1]
        by_cases c16 : R 0 n = 16
        · obtain ⟨i1, i2, i3, i4, i5⟩ := k6 c16
          have hb2 : M2 15 (R 17 n) = R 18 n := by
            rw [e15]; exact ends_nx i1 i3 (hC.2 (R 17 n) (by omega) j3).2
          rw [hb2]
          refine ⟨⟨fun h => absurd c16 h, fun _ => ⟨hi1, fun _ => by constructor <;> omega⟩⟩, fun x hx => ?_⟩
          have hu := U1 (by unfold srt1; rw [if_pos (by omega)])
          have s2 : srt2 (R 0 n) = 118 := by unfold srt2; rw [if_neg (by omega)]
          rw [s2] at j5
          have hxx : (τ1 = 0 ∧ x = R 18 n) ∨ (τ1 = 1 ∧ x = R 17 n) := by omega
          have hxb : bgn 118 (R 0 x) ∧ 0 ≤ x ∧ x < m ∧ R 1 x = R 1 n + 1 := by
            rcases hxx with ⟨_, z⟩ | ⟨_, z⟩
            · rw [z]; exact ⟨i5, by omega, i3, i4⟩
            · rw [z]; exact ⟨j5, by omega, j3, j4⟩
          refine ih x ((δ : Int) + 1) (δ + 1) (d - 1) M2 (by omega) hxb.2.1 hxb.2.2.1 (Or.inl (bgn_v hxb.1)) hC2 hE2 W2.2.2.1 hf2 (by omega) (by omega) (by omega) (fun M3 τ3 hW3 hf3 hr3 => ⟨_, rfl, rfl, ?_⟩)
          obtain ⟨t3, v3, u3, p3, q3⟩ := hr3
          obtain ⟨c4, hc4, hc4n, hc4r⟩ := hW3.2.2.1.at (e := e) (i := δ + 1) (by omega)
          obtain ⟨c5, hc5, hc5n, hc5r⟩ := hW3.2.2.1.at (e := e) (i := δ) (by omega)
          have hc4 : M3 932 ((δ : Int) + 1) = c4 := hc4
          refine k_Machine_raise_0 ⟨by constructor <;> omega, c4, hc4, hc4n, by constructor <;> omega, c5, hc5, hc5n, rfl, rfl, ?_⟩
          have W4 : WD δ M2 (im_u (im_u M3 932 ((δ : Int) + 1) c5) 932 δ c4) := (hW3.mono (by omega)).sw (by omega) hc5 hc4
          have m4 : ∀ x, x ≠ 932 → im_u (im_u M3 932 ((δ : Int) + 1) c5) 932 δ c4 x = M3 x := fun x hx => by rw [im_u_ne _ _ _ hx, im_u_ne _ _ _ hx]
          have m4d : im_u (im_u M3 932 ((δ : Int) + 1) c5) 932 δ c4 932 δ = c4 := im_rds _ _ _ _
          generalize im_u (im_u M3 932 ((δ : Int) + 1) c5) 932 δ c4 = M4 at W4 m4 m4d ⊢
          have e34 : M4 931 12 = M3 931 12 := by rw [m4 931 (by decide)]
          obtain ⟨c, w, z1, z2, z3⟩ := v3 (bgn_v hxb.1)
          have hcc : c = c4 := by rw [hc4] at z1; omega
          subst hcc
          have hoo : ∀ a, o1 = some a → (if R 0 n = 7 then some (-a) else if R 0 n = 19 then some (1 - a) else if R 0 n = 16 then (if a = 1 then ev R Γ f (R 17 n) else ev R Γ f (R 18 n)) else (ev R Γ f (R 17 n)).bind (fun y => opv (R 0 n) a y)) = ev R Γ f x := fun a ha => by
            rw [if_neg c7, if_neg c19, if_pos c16]
            have := hu a ha
            rcases hxx with ⟨z, z'⟩ | ⟨z, z'⟩
            · rw [if_neg (by omega), z']
            · rw [if_pos (by omega), z']
          refine hK M4 0 (W2.trans W4 (Nat.le_refl _)) (by rw [e34]; exact hf3) ⟨by decide, fun _ => ⟨c, w, m4d, cn_congr z2 (m4 c (by omega)) (m4 (c + 1) (by omega)), fun y hy => ?_⟩, fun ho => by unfold okd at ho; omega, fun y hy => ?_, fun hy => ?_⟩
          · cases o1 with
            | none => cases hy
            | some a => exact z3 y ((hoo a rfl).symm.trans hy)
          · cases o1 with
            | none => cases hy
            | some a => rw [e34, p3 y ((hoo a rfl).symm.trans hy), e12]; exact p1 a rfl
          · rw [e34]
            cases o1 with
            | none =>
              cases ho3 : ev R Γ f x with
              | none => exact q3 ho3
              | some b => rw [p3 b ho3, e12]; exact q1 rfl
            | some a => exact q3 ((hoo a rfl).symm.trans hy)
        · refine ⟨⟨fun _ => ?_, fun h => absurd h c16⟩, fun x hx => by omega⟩
          have hev2 : ∀ a : Int, (if R 0 n = 7 then some (-a) else if R 0 n = 19 then some (1 - a) else if R 0 n = 16 then (if a = 1 then ev R Γ f (R 17 n) else ev R Γ f (R 18 n)) else (ev R Γ f (R 17 n)).bind (fun y => opv (R 0 n) a y)) = (ev R Γ f (R 17 n)).bind (fun y => opv (R 0 n) a y) := fun a => by rw [if_neg c7, if_neg c19, if_neg c16]
          have hfe : (fun x => if R 0 n = 7 then some (-x) else if R 0 n = 19 then some (1 - x) else if R 0 n = 16 then (if x = 1 then ev R Γ f (R 17 n) else ev R Γ f (R 18 n)) else (ev R Γ f (R 17 n)).bind (fun y => opv (R 0 n) x y)) = fun x => (ev R Γ f (R 17 n)).bind (fun y => opv (R 0 n) x y) := funext hev2
          rw [hfe] at hK
          refine ih (R 17 n) ((δ : Int) + 1) (δ + 1) (d - 1) M2 (by omega) (by omega) j3 (bgn_s j5 (srt2_2 _)) hC2 hE2 W2.2.2.1 hf2 (by omega) (by omega) (by omega) (fun M3 τ3 hW3 hf3 hr3 => ⟨_, rfl, rfl, ?_⟩)
          obtain ⟨t3, v3, u3, p3, q3⟩ := hr3
          generalize ev R Γ f (R 17 n) = o2 at hK v3 u3 p3 q3
          have hi3 : im_i32 τ3 := by constructor <;> omega
          have W3 : WD δ M M3 := W2.trans hW3 (by omega)
          obtain ⟨c4, hc4, hc4n, hc4r⟩ := hW3.2.2.1.at (e := e) (i := δ + 1) (by omega)
          have hc4 : M3 932 ((δ : Int) + 1) = c4 := hc4
          have hd3 : M3 932 δ = c2 := (hW3.2.2.2.1 δ (by omega) (by omega)).trans m2d
          have hk3 := hW3.2.2.2.2 δ (by omega) (by omega) c2 m2d
          have hne : c2 ≠ c4 := (hW3.2.2.1.ne (i := δ) (j := δ + 1) (by omega) (by omega) (by omega) hd3 hc4).1
          have p3' : ∀ x, o2 = some x → M3 931 12 = M1 931 12 := fun x hx => by rw [p3 x hx, e12]
          refine ⟨by constructor <;> omega, c2, hd3, hc2n, by constructor <;> omega, c4, hc4, hc4n, ?_⟩
          -- an observation of two
          have obs : ∀ {w1 w2 τ : Int}, (∀ x, o1 = some x → w1 = x) → (∀ x, o2 = some x → w2 = x) → 0 ≤ τ ∧ τ ≤ 1 → okd (R 0 n) → opv (R 0 n) w1 w2 = some τ → K (.inl (some (vI τ))) e M3 := fun {w1 w2 τ} h1 h2 ht ho hop => by
            obtain ⟨g1, g2⟩ := bin_fin (k := R 0 n) (f3 := M3 931 12) p1 q1 p3' q3 h1 h2 (fun _ => rfl) (fun z => by rw [hop] at z; cases z) id
            refine hK M3 τ W3 hf3 ⟨ht, fun hv => by unfold vkd at hv; unfold okd at ho; omega, fun _ x hx => ?_, fun x hx => (g1 x hx).1, g2⟩
            have := (g1 x hx).2
            rw [hop] at this
            injection this
          -- a value of two
          have val : ∀ {w1 w2 w fl : Int} {M4 : im_M}, (∀ x, o1 = some x → w1 = x) → (∀ x, o2 = some x → w2 = x) → vkd (R 0 n) → NR c2 M3 M4 → cn M4 c2 w → (opv (R 0 n) w1 w2 = some w ∧ fl = M3 931 12 ∨ opv (R 0 n) w1 w2 = none ∧ fl = 1) → K (.inl (some (vI 0))) e (im_u M4 931 12 fl) := fun {w1 w2 w fl M4} h1 h2 hv hF hw hor => by
            have e931 : M4 931 = M3 931 := hF 931 (by omega) (by omega) (by decide)
            have e932 : M4 932 = M3 932 := hF 932 (by omega) (by omega) (by decide)
            have hfl : fl = 0 ∨ fl = 1 := by
              rcases hor with z | z
              · rw [z.2]; exact hf3
              · exact Or.inr z.2
            obtain ⟨g1, g2⟩ := bin_fin (k := R 0 n) (f3 := fl) p1 q1 p3' q3 h1 h2 (fun z => by
              rcases hor with z' | z'
              · exact z'.2
              · exact absurd z'.1 z) (fun z => by
              rcases hor with z' | z'
              · rw [z'.1] at z; cases z
              · exact z'.2) (fun z => by omega)
            refine hK _ 0 ((W3.trans (WD.num W3.2.2.1 (by omega) hd3 hF hw) (Nat.le_refl _)).fl fl) (by rw [im_rds]; exact hfl) ⟨by decide, fun _ => ⟨c2, w, by rw [im_rdn _ _ _ _ (by decide), e932]; exact hd3, cn_congr hw (im_u_ne _ _ _ (by omega)) (im_u_ne _ _ _ (by omega)), fun x hx => ?_⟩, fun ho => by unfold vkd at hv; unfold okd at ho; omega, fun x hx => by rw [im_rds]; exact (g1 x hx).1, fun hx => by rw [im_rds]; exact g2 hx⟩
            have hg := (g1 x hx).2
            rcases hor with z' | z'
            · rw [z'.1] at hg; injection hg
            · rw [z'.1] at hg; cases hg
          have C2 : srt1 (R 0 n) = 118 → ∃ w, cn M3 c2 w ∧ ∀ x, o1 = some x → w = x := fun hs => by
            obtain ⟨w, z1, z2⟩ := V1 hs
            exact ⟨w, cn_congr z1 hk3.1 hk3.2, z2⟩
          have C4 : srt2 (R 0 n) = 118 → ∃ w, cn M3 c4 w ∧ ∀ x, o2 = some x → w = x := fun hs => by
            rw [hs] at j5
            obtain ⟨c, w, z1, z2, z3⟩ := v3 (bgn_v j5)
            have : c = c4 := by rw [hc4] at z1; omega
            subst this
            exact ⟨w, z2, z3⟩
          have two : R 0 n ≠ 17 → R 0 n ≠ 18 → ∃ w1 w2, cn M3 c2 w1 ∧ cn M3 c4 w2 ∧ (∀ x, o1 = some x → w1 = x) ∧ (∀ x, o2 = some x → w2 = x) := fun a17 a18 => by
            obtain ⟨w1, z1, z2⟩ := C2 (srt1_118 c16 a17 a18 c19)
            obtain ⟨w2, z3, z4⟩ := C4 (srt2_118 a17 a18)
            exact ⟨w1, w2, z1, z3, z2, z4⟩
          have tt : R 0 n = 17 ∨ R 0 n = 18 → (∀ x, o1 = some x → τ1 = x) ∧ (∀ x, o2 = some x → τ3 = x) := fun h => by
            refine ⟨U1 (by unfold srt1; rw [if_pos (by omega)]), ?_⟩
            have s2 : srt2 (R 0 n) = 111 := by unfold srt2; rw [if_pos h]
            rw [s2] at j5
            exact u3 (bgn_o j5)
          have fl3 := hf3
          refine ⟨fun h => ⟨hi1, fun a => ⟨hi3, fun b => ?_⟩, fun a => ?_⟩, fun h => ⟨hi1, fun a => ⟨hi3, fun b => ?_⟩, fun a => ?_⟩, fun h => ?_, fun h => ?_, fun h => ?_, fun h => ?_, fun h => ?_⟩
          · exact obs (tt (Or.inl h)).1 (tt (Or.inl h)).2 (by decide) (by unfold okd; omega) (by rw [h, show τ1 = 1 by omega, show τ3 = 1 by omega]; rfl)
          · refine obs (tt (Or.inl h)).1 (tt (Or.inl h)).2 (by decide) (by unfold okd; omega) ?_
            rw [h]
            show some (if τ1 = 1 ∧ τ3 = 1 then (1 : Int) else 0) = _
            rw [if_neg (by omega)]
          · exact obs (tt (Or.inr h)).1 (tt (Or.inr h)).2 (by decide) (by unfold okd; omega) (by rw [h, a, b]; rfl)
          · refine obs (tt (Or.inr h)).1 (tt (Or.inr h)).2 (by decide) (by unfold okd; omega) ?_
            rw [h]
            show some (if τ1 = 1 ∨ τ3 = 1 then (1 : Int) else 0) = _
            rw [if_pos (by omega)]
          · obtain ⟨w1, w2, z1, z2, z3, z4⟩ := two (by omega) (by omega)
            have hop : opv (R 0 n) w1 w2 = lim (w1 + w2) := by rw [h]; rfl
            refine c_add hc2n hc4n hne z1 z2 (Or.inl rfl) (by omega) (fun hs M4 hF hw => ⟨_, rfl, rfl, ?_⟩) (fun hs M4 hF hw => ⟨_, rfl, rfl, ?_⟩)
            · rw [Int.one_mul] at hs hw
              have e931 : M4 931 = M3 931 := hF 931 (by omega) (by omega)
              refine ⟨fun a => ⟨by decide, fun _ => ?_⟩, fun a => ?_⟩
              · exact val z3 z4 (by unfold vkd; omega) hF.r hw (Or.inl ⟨hop.trans (lim_some hs), by rw [e931] at a; exact a.symm⟩)
              · exact val z3 z4 (by unfold vkd; omega) hF.r hw (Or.inl ⟨hop.trans (lim_some hs), by rw [e931] at a; omega⟩)
            · rw [Int.one_mul] at hs
              refine ⟨fun a => ⟨by decide, fun z => absurd rfl z⟩, fun a => ?_⟩
              exact val z3 z4 (by unfold vkd; omega) hF.r hw (Or.inr ⟨hop.trans (lim_none hs), rfl⟩)
          · obtain ⟨w1, w2, z1, z2, z3, z4⟩ := two (by omega) (by omega)
            have hop : opv (R 0 n) w1 w2 = lim (w1 - w2) := by rw [h]; rfl
            refine c_add hc2n hc4n hne z1 z2 (Or.inr rfl) (by omega) (fun hs M4 hF hw => ⟨_, rfl, rfl, ?_⟩) (fun hs M4 hF hw => ⟨_, rfl, rfl, ?_⟩)
            · rw [show w1 + -1 * w2 = w1 - w2 by omega] at hs hw
              have e931 : M4 931 = M3 931 := hF 931 (by omega) (by omega)
              refine ⟨fun a => ⟨by decide, fun _ => ?_⟩, fun a => ?_⟩
              · exact val z3 z4 (by unfold vkd; omega) hF.r hw (Or.inl ⟨hop.trans (lim_some hs), by rw [e931] at a; exact a.symm⟩)
              · exact val z3 z4 (by unfold vkd; omega) hF.r hw (Or.inl ⟨hop.trans (lim_some hs), by rw [e931] at a; omega⟩)
            · rw [show w1 + -1 * w2 = w1 - w2 by omega] at hs
              refine ⟨fun a => ⟨by decide, fun z => absurd rfl z⟩, fun a => ?_⟩
              exact val z3 z4 (by unfold vkd; omega) hF.r hw (Or.inr ⟨hop.trans (lim_none hs), rfl⟩)
          · obtain ⟨w1, w2, z1, z2, z3, z4⟩ := two (by omega) (by omega)
            have hop : opv (R 0 n) w1 w2 = lim (w1 * w2) := by rw [h]; rfl
            refine c_mul hc2n hc4n hne z1 z2 (by omega) (fun hs M4 hF hw => ⟨_, rfl, rfl, ?_⟩) (fun hs M4 hF hw => ⟨_, rfl, rfl, ?_⟩)
            · have e931 : M4 931 = M3 931 := hF 931 (by omega) (by omega) (by decide)
              refine ⟨fun a => ⟨by decide, fun _ => ?_⟩, fun a => ?_⟩
              · exact val z3 z4 (by unfold vkd; omega) hF hw (Or.inl ⟨hop.trans (lim_some hs), by rw [e931] at a; exact a.symm⟩)
              · exact val z3 z4 (by unfold vkd; omega) hF hw (Or.inl ⟨hop.trans (lim_some hs), by rw [e931] at a; omega⟩)
            · refine ⟨fun a => ⟨by decide, fun z => absurd rfl z⟩, fun a => ?_⟩
              exact val z3 z4 (by unfold vkd; omega) hF hw (Or.inr ⟨hop.trans (lim_none hs), rfl⟩)
          · obtain ⟨w1, w2, z1, z2, z3, z4⟩ := two (by omega) (by omega)
            have hop : opv (R 0 n) w1 w2 = some (w1.tdiv w2) := by rw [h]; rfl
            refine c_div hc2n hc4n hne z1 z2 (by omega) (fun M4 hF hw => ⟨rfl, rfl, ?_⟩)
            have e931 : M4 931 = M3 931 := hF 931 (by omega) (by omega) (by decide)
            refine ⟨fun a => ?_, fun a => ?_⟩
            · exact val z3 z4 (by unfold vkd; omega) hF hw (Or.inl ⟨hop, by rw [e931] at a; omega⟩)
            · exact val z3 z4 (by unfold vkd; omega) hF hw (Or.inl ⟨hop, by rw [e931] at a; exact a.symm⟩)
          · have hkr : 21 ≤ R 0 n ∧ R 0 n ≤ 25 := cmp_k hk hl c7 c16 c19 h
            obtain ⟨w1, w2, z1, z2, z3, z4⟩ := two (by omega) (by omega)
            have hop : opv (R 0 n) w1 w2 = some (so (R 0 n) w1 w2) := by
              unfold opv
              rw [if_neg (by omega), if_neg (by omega), if_neg (by omega), if_neg (by omega), if_neg (by omega), if_neg (by omega)]
            have h01 := opv_01 (by unfold okd; omega) hop
            refine c_compare hc2n hc4n z1 z2 (by omega) ⟨_, rfl, rfl, ?_⟩
            exact c_isSo hkr ⟨_, rfl, rfl, by omega, obs z3 z4 (by omega) (by unfold okd; omega) hop⟩
      · obtain ⟨w, z1, z2⟩ := V1 (by unfold srt1; rw [if_neg (by omega)])
        have hsg := cn_sg z1
        have hi : im_i32 (-(M2 c2 0)) := by
          rw [hsg]; unfold sg; (repeat' split) <;> decide
        refine ⟨by constructor <;> omega, c2, m2d, hc2n, c2, m2d, hc2n, hi, ?_⟩
        have hF : NR c2 M2 (im_u M2 c2 0 (-(M2 c2 0))) := fun x a _ _ => im_u_ne _ _ _ a
        refine hK _ 0 (W2.trans (WD.num W2.2.2.1 (by omega) m2d hF (cn_neg z1)) (Nat.le_refl _)) (by rw [im_u_ne _ _ _ (by omega)]; exact hf2) ⟨by decide, fun _ => ⟨c2, -w, by rw [im_u_ne _ _ _ (by omega)]; exact m2d, cn_neg z1, fun y hy => ?_⟩, fun ho => by unfold okd at ho; omega, fun y hy => ?_, fun hy => ?_⟩
        · cases o1 with
          | none => cases hy
          | some a =>
            have hy : (if R 0 n = 7 then some (-a) else if R 0 n = 19 then some (1 - a) else if R 0 n = 16 then (if a = 1 then ev R Γ f (R 17 n) else ev R Γ f (R 18 n)) else (ev R Γ f (R 17 n)).bind (fun y => opv (R 0 n) a y)) = some y := hy
            rw [if_pos c7] at hy
            injection hy with hy
            have := z2 a rfl
            omega
        · rw [im_u_ne _ _ _ (by omega), e12]
          cases o1 with
          | none => cases hy
          | some a => exact p1 a rfl
        · rw [im_u_ne _ _ _ (by omega), e12]
          cases o1 with
          | none => exact q1 rfl
          | some a =>
            have hy : (if R 0 n = 7 then some (-a) else if R 0 n = 19 then some (1 - a) else if R 0 n = 16 then (if a = 1 then ev R Γ f (R 17 n) else ev R Γ f (R 18 n)) else (ev R Γ f (R 17 n)).bind (fun y => opv (R 0 n) a y)) = none := hy
            rw [if_pos c7] at hy
            cases hy
end CWORK
