/-! THE REFERENCE works values and observations out: its state, its leaves -/
def RP (M : im_M) (R : Rw) (m : Int) : Prop := ∀ i, 0 ≤ i → i < m → rowR M R 0 (M 6952 6) 0 (M 6952 36) [] i
def rb2 (M : im_M) (fk : Int) (cA cB cN : Nat) (β : Bk) (T : Int) : Prop := M 6952 fk = β.1 ∧ β.1 ≤ 40 ∧ (∀ i : Nat, i < β.1 → M cA i = β.2.1 i ∧ M cB i = β.2.2.1 i) ∧ (∀ i : Nat, i < β.1 → rnp M 0 T (M cN i) (β.2.2.2 i))
def rb1 (M : im_M) (fk : Int) (cA cN : Nat) (β : Bk) (T : Int) : Prop := M 6952 fk = β.1 ∧ β.1 ≤ 40 ∧ β.2.2.1 = z0 ∧ (∀ i : Nat, i < β.1 → M cA i = β.2.1 i) ∧ (∀ i : Nat, i < β.1 → rnp M 0 T (M cN i) (β.2.2.2 i))
def sbk (β : Bk) : Prop := ∀ i j : Int, 0 ≤ i → i < j → j < β.1 → lt2 (β.2.1 i) (β.2.2.1 i) (β.2.1 j) (β.2.2.1 j)
def RE (M : im_M) (Γ : Env) (T : Int) : Prop := rb2 M 85 7011 7012 7013 Γ.1 T ∧ rb2 M 89 7014 7015 7016 Γ.2.1 T ∧ rb1 M 93 7017 7018 Γ.2.2.1 T ∧ (rb1 M 96 7019 7020 Γ.2.2.2.1 T ∧ Γ.2.2.2.1.1 ≤ 20 ∧ sbk Γ.2.2.2.1) ∧ (M 6952 99 = Γ.2.2.2.2.1 ∧ M 6952 100 = Γ.2.2.2.2.2) ∧ (0 ≤ Γ.2.2.2.2.1 ∧ Γ.2.2.2.2.1 ≤ 1000000000000000) ∧ (0 ≤ Γ.2.2.2.2.2 ∧ Γ.2.2.2.2.2 ≤ 1000000000000000)
theorem rb2_congr {M M' : im_M} {fk : Int} {cA cB cN : Nat} {β : Bk} {T T' : Int} (h : rb2 M fk cA cB cN β T) (h1 : M' 6952 fk = M 6952 fk) (h2 : M' cA = M cA) (h3 : M' cB = M cB) (h4 : M' cN = M cN) (hp : ∀ i, i < T → M' 6955 i = M 6955 i) (hT : T ≤ T') : rb2 M' fk cA cB cN β T' := by
  unfold rb2 at *
  rw [h1, h2, h3, h4]
  exact ⟨h.1, h.2.1, h.2.2.1, fun i hi => rnp_congr (h.2.2.2 i hi) hp hT⟩
theorem rb1_congr {M M' : im_M} {fk : Int} {cA cN : Nat} {β : Bk} {T T' : Int} (h : rb1 M fk cA cN β T) (h1 : M' 6952 fk = M 6952 fk) (h2 : M' cA = M cA) (h4 : M' cN = M cN) (hp : ∀ i, i < T → M' 6955 i = M 6955 i) (hT : T ≤ T') : rb1 M' fk cA cN β T' := by
  unfold rb1 at *
  rw [h1, h2, h4]
  exact ⟨h.1, h.2.1, h.2.2.1, h.2.2.2.1, fun i hi => rnp_congr (h.2.2.2.2 i hi) hp hT⟩
theorem RE_congr {M M' : im_M} {Γ : Env} {T T' : Int} (h : RE M Γ T) (hf : ∀ k, 85 ≤ k → k ≤ 100 → M' 6952 k = M 6952 k) (hc : ∀ x : Nat, 7011 ≤ x → x ≤ 7020 → M' x = M x) (hp : ∀ i, i < T → M' 6955 i = M 6955 i) (hT : T ≤ T') : RE M' Γ T' := by
  obtain ⟨a1, a2, a3, ⟨a4, a5, a6⟩, a7, a8⟩ := h
  exact ⟨rb2_congr a1 (hf _ (by decide) (by decide)) (hc _ (by decide) (by decide)) (hc _ (by decide) (by decide)) (hc _ (by decide) (by decide)) hp hT, rb2_congr a2 (hf _ (by decide) (by decide)) (hc _ (by decide) (by decide)) (hc _ (by decide) (by decide)) (hc _ (by decide) (by decide)) hp hT, rb1_congr a3 (hf _ (by decide) (by decide)) (hc _ (by decide) (by decide)) (hc _ (by decide) (by decide)) hp hT, ⟨rb1_congr a4 (hf _ (by decide) (by decide)) (hc _ (by decide) (by decide)) (hc _ (by decide) (by decide)) hp hT, a5, a6⟩, by rw [hf 99 (by decide) (by decide), hf 100 (by decide) (by decide)]; exact a7, a8⟩
theorem RP_congr {M M' : im_M} {R : Rw} {m : Int} (h : RP M R m) (h6 : M' 6952 6 = M 6952 6) (h36 : M' 6952 36 = M 6952 36) (hc : ∀ x : Nat, 6960 ≤ x → x ≤ 6974 → M' x = M x) (hp : ∀ i, i < M 6952 6 → M' 6955 i = M 6955 i) : RP M' R m := fun i i0 i1 => by
  have := h i i0 i1
  rw [h6, h36]
  exact rowR_congr this (fun x a b => by rw [hc x a (by omega)]) hp (fun x j a _ => by rw [hc x (by omega) (by omega)]) (fun _ => rfl) (Int.le_refl _) (Int.le_refl _) (fun _ _ z => z)
theorem kR_v {k a : Int} (h : vkd k) : (k = 34 → kR k a = 20) ∧ (k = 35 → kR k a = 21) ∧ (k ≠ 34 → k ≠ 35 → kR k a = k + 16) := by
  unfold vkd at h
  unfold kR
  refine ⟨fun z => ?_, fun z => ?_, fun z z' => ?_⟩
  · rw [if_neg (by omega), if_neg (by omega), if_neg (by omega), if_neg (by omega), if_neg (by omega), if_neg (by omega), if_neg (by omega), if_pos z]
  · rw [if_neg (by omega), if_neg (by omega), if_neg (by omega), if_neg (by omega), if_neg (by omega), if_neg (by omega), if_neg (by omega), if_neg (by omega)]
  · rw [if_neg (by omega), if_neg (by omega), if_neg (by omega), if_pos (by omega)]
theorem kR_o {k a : Int} (h : okd k) : kR k a = k + 23 := by
  unfold okd at h
  unfold kR
  rw [if_neg (by omega), if_neg (by omega), if_neg (by omega), if_neg (by omega), if_pos (by omega)]
theorem hs2_eq {β : Bk} (hs : sbk β) {a b i : Int} (h0 : 0 ≤ i) (h1 : i < β.1) (ha : β.2.1 i = a) (hb : β.2.2.1 i = b) : ps β a b = i ∧ hs2 β a b := by
  obtain ⟨p1, p2, p3, p4⟩ := ps_ok β a b
  have e : ps β a b = i := by
    apply Decidable.byContradiction
    intro hne
    by_cases hlt : i < ps β a b
    · have := p3 i h0 hlt
      rw [ha, hb] at this
      unfold lt2 at this; omega
    · have h2 := hs (ps β a b) i p1 (by omega) h1
      rw [ha, hb] at h2
      exact p4 (by omega) h2
  exact ⟨e, by unfold hs2; rw [e]; exact ⟨h1, ha, hb⟩⟩
section RLEAF
variable {g : im_g} {d : Nat} {e : im_E} {M M0 : im_M} {K : im_K} {R : Rw} {m T : Int} {Γ : Env}
/-- a value at r -/
def rv (B : Int) (M M' : im_M) (r v b : Int) : Prop := RF [] [7, 8] (M 6952 7) M M' ∧ M' 6952 8 = M 6952 8 ∧ M 6952 7 ≤ M' 6952 7 ∧ M' 6952 7 ≤ M 6952 7 + b ∧ rnp M' 0 (M' 6952 7) r v ∧ (r < B → rnp M' 0 B r v)
theorem rv_same {r v b B : Int} (hb : 0 ≤ b) (h : rnp M 0 T r v) (hT : T ≤ B) (hB : B ≤ M 6952 7) : rv B M M r v b := ⟨RF.rf _ _ _ _, rfl, Int.le_refl _, by omega, rnp_congr h (fun _ _ => rfl) (by omega), fun _ => rnp_congr h (fun _ _ => rfl) hT⟩
theorem c_zeroV {B : Int} (hB : B ≤ M 6952 7) (h0 : 0 ≤ M 6952 7) (h1 : M 6952 7 + 22 ≤ 1100000) (hK : ∀ M', rv B M M' (M 6952 7) 0 22 → K (.inl (some (vI (M 6952 7)))) e M') : im_T g d 386 0 [some (.ref 6952), none] [] e M K :=
  c_zero h0 (by omega) (fun M' a b c => hK M' ⟨a.mono (fun _ z => z) (fun k hk => by simp at hk; simp [hk]) (Int.le_refl _), a.2.1 8 (by decide), by omega, by omega, ⟨0, b, h0, by omega, by omega⟩, fun z => by omega⟩)
theorem l_givenOf {a v B : Int} (hE : RE M Γ T) (hT : T ≤ B) (hB : B ≤ M 6952 7) (h0 : 0 ≤ M 6952 7) (h1 : M 6952 7 + 22 ≤ 1100000) (ha : im_i64 a) (hd : 1 ≤ d) (hv : v = hld Γ.2.2.2.1 a 0)
    (hK : ∀ M' r, rv B M M' r v 22 → K (.inl (some (vI r))) e M') : ∀ (j : Nat) (i : Int), i + j = Γ.2.2.2.1.1 → 0 ≤ i → (∀ x, 0 ≤ x → x < i → Γ.2.2.2.1.2.1 x ≠ a) → im_T g d 385 2 [some (.ref 6952), some (vL a), none, some (vI i)] [] e M K := by
  obtain ⟨_, _, _, ⟨⟨a1, a2, a3, a4, a5⟩, a6, a7⟩, _⟩ := hE
  intro j
  induction j with
  | zero =>
    intro i hi i0 hx
    refine b_givenOf_2 (by omega) ?_
    rw [a1]
    refine ⟨by constructor <;> omega, fun _ => ?_, fun z => by omega⟩
    have hn : ¬ hs2 Γ.2.2.2.1 a 0 := fun z => by
      have := (ps_ok Γ.2.2.2.1 a 0).1
      exact hx (ps Γ.2.2.2.1 a 0) this (by have := z.1; omega) z.2.1
    have hv0 : v = 0 := by rw [hv]; unfold hld; rw [if_neg hn]
    rw [hv0] at hK
    exact c_zeroV hB h0 h1 (fun M' h => ⟨_, rfl, rfl, hK M' _ h⟩)
  | succ j ih =>
    intro i hi i0 hx
    refine b_givenOf_2 (by omega) ?_
    rw [a1]
    have ei : ((i.toNat : Nat) : Int) = i := by omega
    have e1 := a4 i.toNat (by omega)
    rw [ei] at e1
    rw [e1]
    refine ⟨by constructor <;> omega, fun z => by omega, fun _ => ⟨by constructor <;> omega, ha, fun hne => ?_, fun heq => ?_⟩⟩
    · refine ih (i + 1) (by omega) (by omega) (fun x x0 x1 => ?_)
      by_cases hxi : x = i
      · rw [hxi]; exact hne
      · exact hx x x0 (by omega)
    · have hb : Γ.2.2.2.1.2.2.1 i = 0 := by rw [a3]; rfl
      obtain ⟨e2, e3⟩ := hs2_eq a7 i0 (by omega) heq hb
      have hv1 : v = Γ.2.2.2.1.2.2.2 i := by rw [hv]; unfold hld; rw [if_pos e3, e2]
      have := a5 i.toNat (by omega)
      rw [ei] at this
      rw [← hv1] at this
      exact hK M _ (rv_same (by decide) this hT hB)
theorem c_givenOf {a B : Int} (hE : RE M Γ T) (hT : T ≤ B) (hB : B ≤ M 6952 7) (h0 : 0 ≤ M 6952 7) (h1 : M 6952 7 + 22 ≤ 1100000) (ha : im_i64 a) (hd : 1 ≤ d)
    (hK : ∀ M' r, rv B M M' r (hld Γ.2.2.2.1 a 0) 22 → K (.inl (some (vI r))) e M') : im_T g d 385 0 [some (.ref 6952), some (vL a), none, none] [] e M K :=
  b_givenOf_0 (l_givenOf hE hT hB h0 h1 ha hd rfl hK Γ.2.2.2.1.1 0 (by omega) (Int.le_refl _) (fun x x0 x1 => by omega))
theorem c_risLeaf {k a : Int} (hk : vkd k ∨ okd k) (hK1 : lfk k → K (.inl (some (vI 1))) e M) (hK0 : ¬ lfk k → K (.inl (some (vI 0))) e M) : im_T g d 383 0 [some (vI (kR k a)), none] [] e M K := by
  have hkr : (k = 34 ∧ kR k a = 20) ∨ (k = 35 ∧ kR k a = 21) ∨ (6 ≤ k ∧ k ≤ 16 ∧ kR k a = k + 16) ∨ (17 ≤ k ∧ k ≤ 27 ∧ kR k a = k + 23) := by
    rcases hk with h | h
    · have := kR_v (a := a) h
      unfold vkd at h; omega
    · have := kR_o (a := a) h
      unfold okd at h; omega
  generalize kR k a = q at hkr ⊢
  refine b_isLeaf_0 ⟨by constructor <;> omega, fun a1 a2 a3 a4 a5 a6 a7 => ⟨fun a8 a9 a10 => hK0 (by unfold lfk; omega), fun z => hK1 (by unfold lfk; omega)⟩, fun z => hK1 (by unfold lfk; omega)⟩
theorem c_rleaf {n B : Int} (hP : RP M R m) (hE : RE M Γ T) (hT : T ≤ B) (h6 : M 6952 6 ≤ B) (hB : B ≤ M 6952 7) (h0 : 0 ≤ M 6952 7) (h1 : M 6952 7 + 22 ≤ 1100000) (h8 : M 6952 8 = 0 ∨ M 6952 8 = 1) (n0 : 0 ≤ n) (n1 : n < m) (hm : m ≤ 5000) (hk : vkd (R 0 n) ∨ okd (R 0 n)) (hl : lfk (R 0 n)) (hd : 3 ≤ d)
    (hKv : vkd (R 0 n) → ∀ M' r, rv B M M' r (lfv R Γ n) 22 → K (.inl (some (vI r))) e M') (hKo : okd (R 0 n) → K (.inl (some (vI (lfv R Γ n)))) e M) : im_T g d 384 0 [some (.ref 6952), some (vI n)] [] e M K := by
  refine im_rng (j := n) sf_6961 n0 (by show n < 5100; omega) (fun hr1 => im_rng (j := n) sf_6962 n0 (by show n < 5100; omega) (fun hr2 => ?_))
  have hr1 : im_i64 (M 6961 n) := hr1
  have hr2 : im_i64 (M 6962 n) := hr2
  obtain ⟨q1, q2, _, _, q5, _⟩ := hP n n0 n1
  have hk3 : R 0 n ≠ 3 := by unfold lfk at hl; omega
  obtain ⟨q3, q4⟩ := q2 hk3
  have hkr : (R 0 n = 34 ∧ kR (R 0 n) (R 3 n) = 20) ∨ (R 0 n = 35 ∧ kR (R 0 n) (R 3 n) = 21) ∨ (6 ≤ R 0 n ∧ R 0 n ≤ 16 ∧ kR (R 0 n) (R 3 n) = R 0 n + 16) ∨ (17 ≤ R 0 n ∧ R 0 n ≤ 27 ∧ kR (R 0 n) (R 3 n) = R 0 n + 23) := by
    rcases hk with h | h
    · have := kR_v (a := R 3 n) h
      unfold vkd at h; omega
    · have := kR_o (a := R 3 n) h
      unfold okd at h; omega
  have hE' := hE
  obtain ⟨⟨a1, a2, a3, a4⟩, ⟨b1, b2, b3, b4⟩, ⟨l1, l2, l3, l4, l5⟩, _, ⟨t1, t2⟩, t3, t4⟩ := hE'
  refine b_leaf_0 (by omega) ?_
  rw [q1, q3, q4]
  rw [q3] at hr1
  rw [q4] at hr2
  generalize kR (R 0 n) (R 3 n) = q at hkr ⊢
  unfold lfv at hKv hKo
  unfold vkd at hKv
  unfold okd at hKo
  refine ⟨by constructor <;> omega, fun k => ?_, fun k => ?_, fun k => ?_, fun k => ?_, fun k => ?_, fun k => ?_, fun k => ?_, fun k => ?_, fun k => ?_⟩
  · have hk34 : R 0 n = 34 := by omega
    rw [if_pos hk34] at hKv
    exact hKv (by omega) M _ (rv_same (by decide) (q5 hk34) h6 hB)
  · rw [if_neg (by omega), if_pos (by omega)] at hKv
    exact c_givenOf hE hT hB h0 h1 hr1 (by omega) (fun M' r h => ⟨_, rfl, rfl, hKv (by omega) M' r h⟩)
  · rw [if_neg (by omega), if_neg (by omega), if_pos (by omega)] at hKv
    unfold hld at hKv
    have hps := ps_ok Γ.1 (R 4 n) (R 5 n)
    refine c_hasAccount a1 a2 a3 hr1 hr2 hps (by omega) (fun h => ⟨_, rfl, rfl, by decide, fun z => absurd z (by decide), fun _ => ?_⟩) (fun h => ⟨_, rfl, rfl, by decide, fun _ => ?_, fun z => absurd rfl z⟩)
    · rw [if_pos (show hs2 Γ.1 (R 4 n) (R 5 n) from h)] at hKv
      rw [q3, q4]
      have hlt := h.1
      have hp0 := hps.1
      have ei : (((ps Γ.1 (R 4 n) (R 5 n)).toNat : Nat) : Int) = ps Γ.1 (R 4 n) (R 5 n) := by omega
      have hv := a4 (ps Γ.1 (R 4 n) (R 5 n)).toNat (by omega)
      rw [ei] at hv
      exact c_accountAt a1 a2 a3 hr1 hr2 hps ⟨_, rfl, rfl, by constructor <;> omega, hKv (by omega) M _ (rv_same (by decide) hv hT hB)⟩
    · rw [if_neg (show ¬ hs2 Γ.1 (R 4 n) (R 5 n) from h)] at hKv
      exact c_zeroV hB h0 h1 (fun M' h => ⟨_, rfl, rfl, hKv (by omega) M' _ h⟩)
  · rw [if_neg (by omega), if_neg (by omega), if_neg (by omega), if_pos (by omega)] at hKv
    unfold hld at hKv
    have hps := ps_ok Γ.2.1 (R 4 n) (R 5 n)
    refine c_hasChoice b1 b2 b3 hr1 hr2 hps (by omega) (fun h => ⟨_, rfl, rfl, by decide, fun z => absurd z (by decide), fun _ => ?_⟩) (fun h => ⟨_, rfl, rfl, by decide, fun _ => ?_, fun z => absurd rfl z⟩)
    · rw [if_pos (show hs2 Γ.2.1 (R 4 n) (R 5 n) from h)] at hKv
      rw [q3, q4]
      have hlt := h.1
      have hp0 := hps.1
      have ei : (((ps Γ.2.1 (R 4 n) (R 5 n)).toNat : Nat) : Int) = ps Γ.2.1 (R 4 n) (R 5 n) := by omega
      have hv := b4 (ps Γ.2.1 (R 4 n) (R 5 n)).toNat (by omega)
      rw [ei] at hv
      exact c_choiceAt b1 b2 b3 hr1 hr2 hps ⟨_, rfl, rfl, by constructor <;> omega, hKv (by omega) M _ (rv_same (by decide) hv hT hB)⟩
    · rw [if_neg (show ¬ hs2 Γ.2.1 (R 4 n) (R 5 n) from h)] at hKv
      exact c_zeroV hB h0 h1 (fun M' h => ⟨_, rfl, rfl, hKv (by omega) M' _ h⟩)
  · rw [if_neg (by omega), if_neg (by omega), if_neg (by omega), if_neg (by omega), if_pos (by omega)] at hKv
    unfold hld at hKv
    have hps := ps_ok Γ.2.2.1 (R 4 n) 0
    have hps' := hps
    rw [l3] at hps'
    refine c_hasLet l1 l2 l4 hr1 hps' (by omega) (fun h => ⟨_, rfl, rfl, by decide, fun z => absurd z (by decide), fun _ => ?_⟩) (fun h => ⟨_, rfl, rfl, by decide, fun _ => ?_, fun z => absurd rfl z⟩)
    · have h' : hs2 Γ.2.2.1 (R 4 n) 0 := ⟨h.1, h.2.1, by rw [l3]; rfl⟩
      rw [if_pos h'] at hKv
      rw [q3]
      have hlt := h.1
      have hp0 := hps.1
      have ei : (((ps Γ.2.2.1 (R 4 n) 0).toNat : Nat) : Int) = ps Γ.2.2.1 (R 4 n) 0 := by omega
      have hv := l5 (ps Γ.2.2.1 (R 4 n) 0).toNat (by omega)
      rw [ei] at hv
      exact c_letAt l1 l2 l4 hr1 hps' ⟨_, rfl, rfl, by constructor <;> omega, hKv (by omega) M _ (rv_same (by decide) hv hT hB)⟩
    · have h' : ¬ hs2 Γ.2.2.1 (R 4 n) 0 := fun z => h ⟨z.1, z.2.1, rfl⟩
      rw [if_neg h'] at hKv
      exact c_zeroV hB h0 h1 (fun M' h => ⟨_, rfl, rfl, hKv (by omega) M' _ h⟩)
  · rw [if_neg (by omega), if_neg (by omega), if_neg (by omega), if_neg (by omega), if_neg (by omega), if_pos (by omega)] at hKv
    rw [t1]
    exact c_ofLong t3.1 (by omega) h0 h1 h8 (by omega) (fun M' k a b c f f8 => ⟨_, rfl, rfl, hKv (by omega) M' _ ⟨a, f8, by omega, by omega, ⟨k, b, h0, by omega, by omega⟩, fun z => by omega⟩⟩)
  · rw [if_neg (by omega), if_neg (by omega), if_neg (by omega), if_neg (by omega), if_neg (by omega), if_neg (by omega), if_pos (by omega)] at hKv
    rw [t2]
    exact c_ofLong t4.1 (by omega) h0 h1 h8 (by omega) (fun M' k a b c f f8 => ⟨_, rfl, rfl, hKv (by omega) M' _ ⟨a, f8, by omega, by omega, ⟨k, b, h0, by omega, by omega⟩, fun z => by omega⟩⟩)
  · rw [if_neg (by omega), if_neg (by omega), if_neg (by omega), if_neg (by omega), if_neg (by omega), if_neg (by omega), if_neg (by omega), if_pos (by omega)] at hKo
    have hps := ps_ok Γ.2.1 (R 4 n) (R 5 n)
    refine c_hasChoice b1 b2 b3 hr1 hr2 hps (by omega) (fun h => ⟨_, rfl, rfl, by decide, fun w hw => ?_⟩) (fun h => ⟨_, rfl, rfl, by decide, fun w hw => ?_⟩)
    · rw [if_pos (show hs2 Γ.2.1 (R 4 n) (R 5 n) from h)] at hKo
      have : w = 1 := by omega
      rw [this]; exact hKo (by omega)
    · rw [if_neg (show ¬ hs2 Γ.2.1 (R 4 n) (R 5 n) from h)] at hKo
      have : w = 0 := by omega
      rw [this]; exact hKo (by omega)
  · intro w hw
    unfold lfk at hl
    rw [if_neg (by omega), if_neg (by omega), if_neg (by omega), if_neg (by omega), if_neg (by omega), if_neg (by omega), if_neg (by omega), if_neg (by omega)] at hKo
    by_cases c1 : R 0 n = 26
    · rw [if_pos c1] at hKo
      have : w = 1 := by omega
      rw [this]; exact hKo (by omega)
    · rw [if_neg c1] at hKo
      have : w = 0 := by omega
      rw [this]; exact hKo (by omega)
end RLEAF
