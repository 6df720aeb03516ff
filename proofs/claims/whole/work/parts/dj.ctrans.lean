/-! THE CLASS does a transaction -/
theorem cbx_bok {M : im_M} {b n : Nat} (h : cbx M b n) : ∃ π, bok M b n π := by
  obtain ⟨β, π, ⟨_, _, h3, h4, _⟩, _, h0⟩ := h
  exact ⟨π, h3, h4, h0⟩
section CTRANS
variable {g : im_g} {d : Nat} {e : im_E} {M : im_M} {K : im_K}
theorem c_bcp {b n p np : Nat} {β : Bk} (hb : bkN e b n) (hx : cbx M b n) (hp : bkN e p np) (hc : cb M p np β) (hkn : β.1 ≤ n) (hdis : b + 6 + 2 * n ≤ p ∨ p + 6 + 2 * np ≤ b) (hd : 1 ≤ d)
    (hK : ∀ M', BF b n M M' → cb M' b n β → K (.inl none) e M') : im_T g d 91 0 [some (.ref b), some (.ref p), none] [] e M K := by
  obtain ⟨π, hπ⟩ := cbx_bok hx
  exact c_bcopy hb hπ hp hc hkn hdis hd hK
theorem cb_le {b n : Nat} {β : Bk} (h : cb M b n β) : β.1 ≤ n := by
  obtain ⟨π, ⟨_, h2, _⟩, _⟩ := h
  exact h2
theorem c_scopy {a p na np : Nat} {ac ch lt : Bk} (ha : stN e a na) (hp : stN e p np) (x1 : cbx M (a + 1) 40) (x2 : cbx M (a + 87) 40) (x3 : cbx M (a + 173) 40) (c1 : cb M (p + 1) 40 ac) (c2 : cb M (p + 87) 40 ch) (c3 : cb M (p + 173) 40 lt) (hdis : a + 259 ≤ p ∨ p + 259 ≤ a) (hd : 2 ≤ d)
    (hK : ∀ M', (∀ x, x < a ∨ a + 259 ≤ x → M' x = M x) → (∀ k, k ≠ 4 → k ≠ 5 → M' a k = M a k) → M' a 4 = M p 4 → M' a 5 = M p 5 → cb M' (a + 1) 40 ac → cb M' (a + 87) 40 ch → cb M' (a + 173) 40 lt → K (.inl none) e M') : im_T g d 107 0 [some (.ref a), some (.ref p)] [] e M K := by
  obtain ⟨a1, a2, a3, a4, a5⟩ := ha
  obtain ⟨p1, p2, p3, p4, p5⟩ := hp
  refine k_State_copy_0 a1 p1 (by omega) (c_bcp a2 x1 p2 c1 (cb_le c1) (by omega) (by omega) (fun M1 B1 d1 => ⟨rfl, rfl, ?_⟩))
  refine c_bcp a3 (cbx_congr x2 (fun x _ _ => B1 x (by omega))) p3 (cb_congr c2 (fun x _ _ => B1 x (by omega))) (cb_le c2) (by omega) (by omega) (fun M2 B2 d2 => ⟨rfl, rfl, ?_⟩)
  refine c_bcp a4 (cbx_congr x3 (fun x _ _ => by rw [B2 x (by omega), B1 x (by omega)])) p4 (cb_congr c3 (fun x _ _ => by rw [B2 x (by omega), B1 x (by omega)])) (cb_le c3) (by omega) (by omega) (fun M3 B3 d3 => ⟨rfl, rfl, ?_⟩)
  have ep : M3 p = M p := by rw [B3 p (by omega), B2 p (by omega), B1 p (by omega)]
  have ea : M3 a = M a := by rw [B3 a (by omega), B2 a (by omega), B1 a (by omega)]
  have hpa : p ≠ a := by omega
  refine hK _ (fun x hx => ?_) (fun k k4 k5 => ?_) ?_ ?_ (cb_congr d1 (fun x h1 h2 => ?_)) (cb_congr d2 (fun x h1 h2 => ?_)) (cb_congr d3 (fun x h1 h2 => ?_))
  · rw [im_u_ne _ _ _ (by omega), im_u_ne _ _ _ (by omega), B3 x (by omega), B2 x (by omega), B1 x (by omega)]
  · rw [im_rdk _ _ _ k5, im_rdk _ _ _ k4, ea]
  · rw [im_rdk _ _ _ (by decide), im_rds, ep]
  · rw [im_rds, im_rdn _ _ _ _ hpa, ep]
  · rw [im_u_ne _ _ _ (by omega), im_u_ne _ _ _ (by omega), B3 x (by omega), B2 x (by omega)]
  · rw [im_u_ne _ _ _ (by omega), im_u_ne _ _ _ (by omega), B3 x (by omega)]
  · rw [im_u_ne _ _ _ (by omega), im_u_ne _ _ _ (by omega)]
theorem c_isFaulty {c p : Int} (hc : im_i32 c) (hp : im_i32 p) (h5 : c ≠ 0 → M 2 5 = p) (hK : ∀ M', (∀ x, x ≠ 2 → M' x = M x) → (∀ k, k ≠ 8 → k ≠ 9 → M' 2 k = M 2 k) → M' 2 8 = c → M' 2 9 = (if c = 0 then -1 else p) → K (.inl (some (vI (if c = 0 then 0 else 1)))) e M') : im_T g d 76 0 [some (.ref 2), some (vI c)] [] e M K := by
  refine k_Reader_isFaulty_0 ⟨hc, fun x4 hx4 => ?_⟩
  have e4 : x4 = if c = 0 then -1 else p := by
    by_cases h : c = 0
    · rw [if_pos h]; omega
    · rw [if_neg h]; have := h5 h; omega
  refine ⟨by rw [e4]; split; decide; exact hp, fun x hx => ?_⟩
  have ex : x = if c = 0 then 0 else 1 := by split <;> omega
  rw [ex, e4]
  exact hK _ (fun x hx => by rw [im_u_ne _ _ _ hx, im_u_ne _ _ _ hx]) (fun k a b => by rw [im_rdk _ _ _ b, im_rdk _ _ _ a]) (by rw [im_rdk _ _ _ (by decide), im_rds]) (im_rds _ _ _ _)
theorem c_rcp {b p : Nat} {ρ : Rl} (hb : rwN e b 60) (hx : ∃ ρ0, rw6 M b ρ0) (hp : rwN e p 60) (hc : rw6 M p ρ) (hdis : b + 126 ≤ p ∨ p + 126 ≤ b) (hd : 2 ≤ d) (hK : ∀ M', BF b 60 M M' → rw6 M' b ρ → K (.inl none) e M') : im_T g d 146 0 [some (.ref b), some (.ref p), none] [] e M K := by
  obtain ⟨ρ0, V0, h0, _⟩ := hx
  obtain ⟨V, hV, hVe⟩ := hc
  refine c_rcopy hb h0 hp hV hV.2.1 (by omega) hd (fun M' V' hB hC hE => hK M' hB ⟨V', hC, fun i hi h5 => (hE i hi).trans (hVe i hi h5)⟩)
end CTRANS
