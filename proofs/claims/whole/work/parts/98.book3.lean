section BOOK3
variable {g : im_g} {d : Nat} {e : im_E} {M M0 : im_M} {K : im_K}
theorem l_bcopy {b n p np k : Nat} {π0 π : Nat → Nat} {A B V : Int → Int} (hb : bkN e b n) (hbo : bok M0 b n π0) (hp : bkN e p np) (hc : cbr M0 p np k π A B) (hcv : ∀ i : Nat, i < k → cn M0 (p + 6 + 2 * π i) (V i)) (hkn : k ≤ n) (hdis : b + 6 + 2 * n ≤ p ∨ p + 6 + 2 * np ≤ b) (hd : 1 ≤ d)
    (hK : ∀ M', BF b n M0 M' → cbk M' b n k A B V → K (.inl none) e M') :
    ∀ (j i : Nat) (M : im_M), i + j = k → BF b n M0 M → M b 4 = k → M (b + 5) = M0 (b + 5) → (∀ x : Nat, x < i → M (b + 3) x = A x ∧ M (b + 4) x = B x) → (∀ x : Nat, x < i → cn M (b + 6 + 2 * π0 x) (V x)) → cn M (b + 1) 0 → im_T g d 91 18 [some (.ref b), some (.ref p), some (vI i)] [] e M K := by
  obtain ⟨o1, o2, o3⟩ := hbo
  obtain ⟨c1, c2, c3, c4, c5⟩ := hc
  have hn60 := hb.1.2.2.2.2.2
  have hn60' := hp.1.2.2.2.2.2
  intro j
  induction j with
  | zero =>
    intro i M hi hF h4 h5 hn hv h0
    obtain rfl : i = k := by omega
    refine k_Book_copy_18 hb.1 hp.1 hd ?_
    rw [h4]
    exact ⟨by constructor <;> omega, fun _ => hK M hF ⟨π0, ⟨h4, hkn, fun x hx => by rw [h5]; exact o1 x hx, o2, hn⟩, hv, h0⟩, fun z => absurd z (by omega)⟩
  | succ j ih =>
    intro i M hi hF h4 h5 hn hv h0
    obtain ⟨q1, q2⟩ := o1 i (by omega)
    obtain ⟨w1, w2⟩ := c3 i (by omega)
    obtain ⟨y1, y2⟩ := c5 i (by omega)
    have f3 : M (p + 3) i = A i := by rw [hF (p + 3) (by omega)]; exact y1
    have f4 : ∀ u z, im_u M (b + 3) u z (p + 4) i = B i := fun u z => by rw [im_rdn _ _ _ _ (by omega), hF (p + 4) (by omega)]; exact y2
    refine k_Book_copy_18 hb.1 hp.1 hd ?_
    rw [h4, f3, f4]
    generalize hM1 : im_u (im_u M (b + 3) i (A i)) (b + 4) i (B i) = M1
    have g5 : M1 (b + 5) i = ((b + 6 + 2 * π0 i : Nat) : Int) := by rw [← hM1, im_rdn _ _ _ _ (by omega), im_rdn _ _ _ _ (by omega), h5]; exact q2
    have gp5 : M1 (p + 5) i = ((p + 6 + 2 * π i : Nat) : Int) := by rw [← hM1, im_rdn _ _ _ _ (by omega), im_rdn _ _ _ _ (by omega), hF (p + 5) (by omega)]; exact w2
    have hne : ∀ x, x ≠ b + 3 → x ≠ b + 4 → M1 x = M x := fun x x3 x4 => by rw [← hM1, im_u_ne _ _ _ x4, im_u_ne _ _ _ x3]
    refine ⟨by constructor <;> omega, fun z => absurd z (by omega), fun _ => ⟨by constructor <;> omega, by constructor <;> omega, _, g5, hb.2 _ q1, _, gp5, hp.2 _ w1, ?_⟩⟩
    have hvp : cn M1 (p + 6 + 2 * π i) (V i) := cn_congr (hcv i (by omega)) (by rw [hne _ (by omega) (by omega), hF _ (by omega)]) (by rw [hne _ (by omega) (by omega), hF _ (by omega)])
    refine c_copy (hb.2 _ q1) (hp.2 _ w1) (by omega) hvp (fun M2 hF2 hcn => ⟨rfl, rfl, ?_⟩)
    refine ih (i + 1) M2 (by omega) (fun x hx => ?_) ?_ ?_ (fun x hx => ?_) (fun x hx => ?_) ?_
    · rw [hF2 x (by omega) (by omega), hne x (by omega) (by omega)]; exact hF x hx
    · rw [hF2 b (by omega) (by omega), hne b (by omega) (by omega)]; exact h4
    · rw [hF2 (b + 5) (by omega) (by omega), hne (b + 5) (by omega) (by omega)]; exact h5
    · rw [hF2 (b + 3) (by omega) (by omega), hF2 (b + 4) (by omega) (by omega), ← hM1]
      by_cases hxi : x = i
      · subst hxi
        rw [im_rdn _ _ _ _ (by omega), im_rds, im_rds]; exact ⟨rfl, rfl⟩
      · rw [im_rdn _ _ _ _ (by omega), im_rdk _ _ _ (by omega), im_rdk _ _ _ (by omega), im_rdn _ _ _ _ (by omega)]; exact hn x (by omega)
    · by_cases hxi : x = i
      · subst hxi; exact hcn
      · have hpx : π0 x ≠ π0 i := fun z => hxi (o2 x i (by omega) (by omega) z)
        refine cn_nf (cn_congr (hv x (by omega)) (hne _ (by omega) (by omega)) (hne _ (by omega) (by omega))) hF2 (by omega) (by omega) (by omega)
    · exact cn_nf (cn_congr h0 (hne _ (by omega) (by omega)) (hne _ (by omega) (by omega))) hF2 (by omega) (by omega) (by omega)
theorem c_bcopy {b n p np k : Nat} {π0 : Nat → Nat} {A B V : Int → Int} (hb : bkN e b n) (hbo : bok M b n π0) (hp : bkN e p np) (hc : cbk M p np k A B V) (hkn : k ≤ n) (hdis : b + 6 + 2 * n ≤ p ∨ p + 6 + 2 * np ≤ b) (hd : 1 ≤ d)
    (hK : ∀ M', BF b n M M' → cbk M' b n k A B V → K (.inl none) e M') : im_T g d 91 0 [some (.ref b), some (.ref p), none] [] e M K := by
  obtain ⟨π, c1, c2, c3⟩ := hc
  have hn60 := hb.1.2.2.2.2.2
  refine k_Book_copy_0 hb.1 hp.1 ?_
  have e1 : min (M p 4) (n : Int) = k := by rw [c1.1]; omega
  rw [e1]
  have hs : ∀ x, x ≠ b → im_u M b 4 k x = M x := fun x hx => im_u_ne _ _ _ hx
  obtain ⟨o1, o2, o3⟩ := hbo
  have hpn := c1.2.2.1
  refine ⟨by constructor <;> omega, l_bcopy (M0 := im_u M b 4 k) (π := π) hb ⟨fun i hi => by rw [hs _ (by omega)]; exact o1 i hi, o2, cn_congr o3 (hs _ (by omega)) (hs _ (by omega))⟩ hp (cbr_congr c1 (by rw [hs p (by omega)]) (hs _ (by omega)) (hs _ (by omega)) (hs _ (by omega))) (fun i hi => by have h8 := c1.2.1; have h9 := (hpn i (by omega)).1; exact cn_congr (c2 i hi) (hs _ (by omega)) (hs _ (by omega))) hkn hdis hd (fun M' hF h => hK M' (fun x hx => (hF x hx).trans (hs x (by omega))) h) k 0 _ (by omega) (BF.rf _ _ _) (im_rds _ _ _ _) rfl (fun x hx => by omega) (fun x hx => by omega) (cn_congr o3 (hs _ (by omega)) (hs _ (by omega)))⟩
theorem cbk_bok {M : im_M} {b n k : Nat} {A B V : Int → Int} (h : cbk M b n k A B V) : ∃ π, bok M b n π := by
  obtain ⟨π, ⟨c1, c2, c3, c4, c5⟩, h2, h3⟩ := h
  exact ⟨π, c3, c4, h3⟩
end BOOK3
