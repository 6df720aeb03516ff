/-! ROWS of the class -/
def rwN (e : im_E) (b n : Nat) : Prop := im_row e b n ∧ ∀ j : Nat, j < n → im_num e (b + 6 + 2 * j)
def crw (M : im_M) (b n k : Nat) (T A B C V : Int → Int) : Prop := M b 5 = k ∧ k ≤ n ∧ (∀ i : Nat, i < n → M (b + 5) i = ((b + 6 + 2 * i : Nat) : Int)) ∧ (∀ i : Nat, i < k → M (b + 1) i = T i ∧ M (b + 2) i = A i ∧ M (b + 3) i = B i ∧ M (b + 4) i = C i) ∧ (∀ i : Nat, i < n → cn M (b + 6 + 2 * i) (V i))
theorem crw_congr {M M' : im_M} {b n k : Nat} {T A B C V : Int → Int} (h : crw M b n k T A B C V) (hs : ∀ x, b ≤ x → x < b + 6 + 2 * n → M' x = M x) : crw M' b n k T A B C V := by
  obtain ⟨h1, h2, h3, h4, h5⟩ := h
  have e1 := hs b (by omega) (by omega)
  have e2 := hs (b + 1) (by omega) (by omega)
  have e3 := hs (b + 2) (by omega) (by omega)
  have e4 := hs (b + 3) (by omega) (by omega)
  have e5 := hs (b + 4) (by omega) (by omega)
  have e6 := hs (b + 5) (by omega) (by omega)
  refine ⟨by rw [e1]; exact h1, h2, by rw [e6]; exact h3, by rw [e2, e3, e4, e5]; exact h4, fun i hi => cn_congr (h5 i hi) (hs _ (by omega) (by omega)) (hs _ (by omega) (by omega))⟩
theorem crw_bf {M M' : im_M} {b n k b' n' : Nat} {T A B C V : Int → Int} (h : crw M b n k T A B C V) (hF : BF b' n' M M') (hd : b + 6 + 2 * n ≤ b' ∨ b' + 6 + 2 * n' ≤ b) : crw M' b n k T A B C V := crw_congr h (fun x h1 h2 => hF x (by omega))
section ROW
variable {g : im_g} {d : Nat} {e : im_E} {M M0 : im_M} {K : im_K}
theorem c_radd {b n k q : Nat} {T A B C V : Int → Int} {t a a' a'' v : Int} (hb : rwN e b n) (hc : crw M b n k T A B C V) (hq : im_num e q) (hqo : q + 1 < b ∨ b + 6 + 2 * n ≤ q) (hv : cn M q v) (ht : im_i32 t) (ha : im_i64 a) (ha' : im_i64 a') (ha'' : im_i64 a'') (hd : 1 ≤ d)
    (hK1 : k < n → ∀ M', BF b n M M' → crw M' b n (k + 1) (im_up T k t) (im_up A k a) (im_up B k a') (im_up C k a'') (im_up V k v) → K (.inl (some (vI 1))) e M')
    (hK0 : k = n → K (.inl (some (vI 0))) e M) : im_T g d 118 0 [some (.ref b), some (vI t), some (vL a), none, some (vL a'), none, some (vL a''), none, some (.ref q)] [] e M K := by
  obtain ⟨c1, c2, c3, c4, c5⟩ := hc
  have hn := hb.1.2.2.2.2.2.2
  refine k_Row_add_0 hb.1 hq hd ?_
  rw [c1]
  refine ⟨by constructor <;> omega, fun hlt => ?_, fun hge => hK0 (by omega)⟩
  have hkn : k < n := by omega
  refine k_Row_set_0 hb.1 ⟨by constructor <;> omega, fun _ => ⟨by constructor <;> omega, fun _ => ⟨by constructor <;> omega, ht, ha, ha', ha'', rfl, rfl, ?_⟩⟩, fun z => by omega⟩
  generalize hM1 : im_u (im_u (im_u (im_u M (b + 1) k t) (b + 2) k a) (b + 3) k a') (b + 4) k a'' = M1
  have hne : ∀ x, x ≠ b + 1 → x ≠ b + 2 → x ≠ b + 3 → x ≠ b + 4 → M1 x = M x := fun x x1 x2 x3 x4 => by rw [← hM1, im_u_ne _ _ _ x4, im_u_ne _ _ _ x3, im_u_ne _ _ _ x2, im_u_ne _ _ _ x1]
  have f5 : M1 b 5 = k := by rw [hne b (by omega) (by omega) (by omega) (by omega)]; exact c1
  have f6 : M1 (b + 5) k = ((b + 6 + 2 * k : Nat) : Int) := by rw [hne _ (by omega) (by omega) (by omega) (by omega)]; exact c3 k hkn
  rw [f5]
  refine ⟨by constructor <;> omega, _, f6, hb.2 k hkn, ?_⟩
  have hvq : cn M1 q v := cn_congr hv (hne q (by omega) (by omega) (by omega) (by omega)) (hne (q + 1) (by omega) (by omega) (by omega) (by omega))
  refine c_copy (hb.2 k hkn) hq (by omega) hvq (fun M2 hF2 hcn => ⟨rfl, rfl, ?_⟩)
  have g5 : M2 b 5 = k := by rw [hF2 b (by omega) (by omega)]; exact f5
  rw [g5]
  refine ⟨by constructor <;> omega, hK1 hkn _ (fun x hx => ?_) ⟨?_, by omega, fun i hi => ?_, fun i hi => ?_, fun i hi => ?_⟩⟩
  · rw [im_u_ne _ _ _ (by omega), hF2 x (by omega) (by omega), hne x (by omega) (by omega) (by omega) (by omega)]
  · rw [im_rds]; omega
  · rw [im_rdn _ _ _ _ (by omega), hF2 _ (by omega) (by omega), hne _ (by omega) (by omega) (by omega) (by omega)]; exact c3 i hi
  · rw [im_rdn _ _ _ _ (by omega), im_rdn _ _ _ _ (by omega), im_rdn _ _ _ _ (by omega), im_rdn _ _ _ _ (by omega), hF2 (b + 1) (by omega) (by omega), hF2 (b + 2) (by omega) (by omega), hF2 (b + 3) (by omega) (by omega), hF2 (b + 4) (by omega) (by omega), ← hM1]
    by_cases hik : i = k
    · subst hik
      rw [im_rdn _ _ _ _ (by omega), im_rdn _ _ _ _ (by omega), im_rdn _ _ _ _ (by omega), im_rds, im_rdn _ _ _ _ (by omega), im_rdn _ _ _ _ (by omega), im_rds, im_rdn _ _ _ _ (by omega), im_rds, im_rds, im_up_eq, im_up_eq, im_up_eq, im_up_eq]
      exact ⟨rfl, rfl, rfl, rfl⟩
    · rw [im_rdn _ _ _ _ (by omega), im_rdn _ _ _ _ (by omega), im_rdn _ _ _ _ (by omega), im_rdk _ _ _ (by omega), im_rdn _ _ _ _ (by omega), im_rdn _ _ _ _ (by omega), im_rdk _ _ _ (by omega), im_rdn _ _ _ _ (by omega), im_rdn _ _ _ _ (by omega), im_rdk _ _ _ (by omega), im_rdn _ _ _ _ (by omega), im_rdn _ _ _ _ (by omega), im_rdk _ _ _ (by omega), im_rdn _ _ _ _ (by omega), im_rdn _ _ _ _ (by omega), im_rdn _ _ _ _ (by omega), im_up_ne _ _ (by omega), im_up_ne _ _ (by omega), im_up_ne _ _ (by omega), im_up_ne _ _ (by omega)]
      exact c4 i (by omega)
  · by_cases hik : i = k
    · subst hik
      rw [im_up_eq]
      exact cn_congr hcn (im_u_ne _ _ _ (by omega)) (im_u_ne _ _ _ (by omega))
    · rw [im_up_ne _ _ (by omega)]
      have h1 : cn M2 (b + 6 + 2 * i) (V i) := cn_nf (cn_congr (c5 i hi) (hne _ (by omega) (by omega) (by omega) (by omega)) (hne _ (by omega) (by omega) (by omega) (by omega))) hF2 (by omega) (by omega) (by omega)
      exact cn_congr h1 (im_u_ne _ _ _ (by omega)) (im_u_ne _ _ _ (by omega))
theorem l_rcopy {b n p np k : Nat} {T A B C V : Int → Int} (hb : rwN e b n) (hp : rwN e p np) (hkn : k ≤ n) (hdis : b + 6 + 2 * n ≤ p ∨ p + 6 + 2 * np ≤ b) (hd : 2 ≤ d)
    (hK : ∀ M' V', BF b n M0 M' → crw M' b n k T A B C V' → (∀ i : Nat, i < k → V' i = V i) → K (.inl none) e M') :
    ∀ (j i : Nat) (M : im_M) (T' A' B' C' V' : Int → Int), i + j = k → BF b n M0 M → crw M p np k T A B C V → crw M b n i T' A' B' C' V' → (∀ x : Nat, x < i → T' x = T x ∧ A' x = A x ∧ B' x = B x ∧ C' x = C x ∧ V' x = V x) → im_T g d 146 7 [some (.ref b), some (.ref p), some (vI i)] [] e M K := by
  have hn := hb.1.2.2.2.2.2.2
  have hn' := hp.1.2.2.2.2.2.2
  intro j
  induction j with
  | zero =>
    intro i M T' A' B' C' V' hi hF hc hr hs
    obtain rfl : i = k := by omega
    refine k_Row_copy_7 hb.1 hp.1 (by omega) ?_
    rw [hc.1]
    refine ⟨by constructor <;> omega, fun _ => hK M V' hF ⟨hr.1, hr.2.1, hr.2.2.1, fun x hx => ?_, hr.2.2.2.2⟩ (fun x hx => (hs x hx).2.2.2.2), fun z => absurd z (by omega)⟩
    obtain ⟨s1, s2, s3, s4, _⟩ := hs x hx
    rw [← s1, ← s2, ← s3, ← s4]
    exact hr.2.2.2.1 x hx
  | succ j ih =>
    intro i M T' A' B' C' V' hi hF hc hr hs
    obtain ⟨c1, c2, c3, c4, c5⟩ := hc
    obtain ⟨y1, y2, y3, y4⟩ := c4 i (by omega)
    refine k_Row_copy_7 hb.1 hp.1 (by omega) ?_
    rw [c1]
    refine ⟨by constructor <;> omega, fun z => absurd z (by omega), fun _ => ⟨by constructor <;> omega, _, c3 i (by omega), hp.2 i (by omega), ?_⟩⟩
    refine im_rng (j := (i : Int)) hp.1.2.1 (by omega) (by show (i : Int) < np; omega) (fun r1 => ?_)
    refine im_rng (j := (i : Int)) hp.1.2.2.1 (by omega) (by show (i : Int) < np; omega) (fun r2 => ?_)
    refine im_rng (j := (i : Int)) hp.1.2.2.2.1 (by omega) (by show (i : Int) < np; omega) (fun r3 => ?_)
    refine im_rng (j := (i : Int)) hp.1.2.2.2.2.1 (by omega) (by show (i : Int) < np; omega) (fun r4 => ?_)
    refine c_radd hb hr (hp.2 i (by omega)) (by omega) (c5 i (by omega)) r1 r2 r3 r4 (by omega) (fun hin M' hF' hr' => ⟨_, rfl, rfl, ?_⟩) (fun hin => absurd hin (by omega))
    rw [show (i : Int) + 1 = ((i + 1 : Nat) : Int) from by omega]
    refine ih (i + 1) M' _ _ _ _ _ (by omega) (hF.trans hF') (crw_bf ⟨c1, c2, c3, c4, c5⟩ hF' (by omega)) hr' (fun x hx => ?_)
    by_cases hxi : x = i
    · subst hxi
      rw [im_up_eq, im_up_eq, im_up_eq, im_up_eq, im_up_eq]
      exact ⟨y1, y2, y3, y4, rfl⟩
    · rw [im_up_ne _ _ (by omega), im_up_ne _ _ (by omega), im_up_ne _ _ (by omega), im_up_ne _ _ (by omega), im_up_ne _ _ (by omega)]
      exact hs x (by omega)
theorem c_rcopy {b n p np k k0 : Nat} {T A B C V T0 A0 B0 C0 V0 : Int → Int} (hb : rwN e b n) (hr : crw M b n k0 T0 A0 B0 C0 V0) (hp : rwN e p np) (hc : crw M p np k T A B C V) (hkn : k ≤ n) (hdis : b + 6 + 2 * n ≤ p ∨ p + 6 + 2 * np ≤ b) (hd : 2 ≤ d)
    (hK : ∀ M' V', BF b n M M' → crw M' b n k T A B C V' → (∀ i : Nat, i < k → V' i = V i) → K (.inl none) e M') : im_T g d 146 0 [some (.ref b), some (.ref p), none] [] e M K := by
  refine k_Row_copy_0 hb.1 hp.1 ?_
  have hs : ∀ x, x ≠ b → im_u M b 5 0 x = M x := fun x hx => im_u_ne _ _ _ hx
  obtain ⟨r1, r2, r3, r4, r5⟩ := hr
  refine l_rcopy (M0 := im_u M b 5 0) hb hp hkn hdis hd (fun M' V' hF h1 h2 => hK M' V' (fun x hx => (hF x hx).trans (hs x (by omega))) h1 h2) k 0 _ T0 A0 B0 C0 V0 (by omega) (BF.rf _ _ _) (crw_congr hc (fun x h1 h2 => hs x (by omega))) ⟨im_rds _ _ _ _, by omega, fun i hi => by rw [hs _ (by omega)]; exact r3 i hi, fun i hi => by omega, fun i hi => cn_congr (r5 i hi) (hs _ (by omega)) (hs _ (by omega))⟩ (fun x hx => by omega)
end ROW
