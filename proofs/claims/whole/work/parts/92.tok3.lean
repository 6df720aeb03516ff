def adP (M M' : im_M) (p q ty nm v : Int) : Prop := (∀ x, x ≠ 2 → x ≠ 5 → x ≠ 6 → M' x = M x) ∧ (∀ k, k ≠ 3 → k ≠ 4 → k ≠ 5 → k ≠ 6 → M' 2 k = M 2 k) ∧ M' 2 3 = q ∧ M' 2 4 = ty ∧ M' 2 5 = p ∧ (ty ≠ 34 → M' 5 = M 5 ∧ M' 6 = M 6) ∧ ((0 ≤ ty ∧ ty ≤ 33) ∨ ty = 35 ∨ ty = 36 → M' 2 6 = nm) ∧ (ty = 34 → cn M' 5 v)
section TOK3
variable {g : im_g} {d : Nat} {e : im_E} {M M0 : im_M} {K : im_K}
theorem c_bracket {x : Int} (h : im_i32 x) (h1 : brk x → K (.inl (some (vI (if x = 40 then 37 else if x = 41 then 38 else if x = 91 then 39 else 40)))) e M) (h0 : ¬ brk x → K (.inl (some (vI (-1)))) e M) : im_T g d 42 0 [some (vI x)] [] e M K := by
  refine k_Reader_bracket_0 ⟨h, fun a => ?_, fun a => ?_, fun a => ?_, fun a => ?_, fun a => h0 (fun z => by unfold brk at z; omega)⟩
  · subst a; exact h1 (Or.inl rfl)
  · subst a; exact h1 (Or.inr (Or.inl rfl))
  · subst a; exact h1 (Or.inr (Or.inr (Or.inl rfl)))
  · subst a; exact h1 (Or.inr (Or.inr (Or.inr rfl)))
theorem l_adv85 {b nb : Nat} {t : Int → Int} {n p q ty nm v : Int} (hsh : (im_sh0 ++ e)[b]? = some (0, nb, [])) (hnb : nb ≤ 2147483647) (hb : M0 2 1 = b) (hn2 : M0 2 2 = n) (hnn : n ≤ nb) (ht : txt (M0 b) t n) (hkw : ∀ i, 0 ≤ i → i < 34 → M0 3 i = kwv i) (hp0 : 0 ≤ p) (hpq : p < q) (hq : q ≤ n) (hin : ∀ i, p ≤ i → i < q → 32 < t i ∧ ¬ brk (t i)) (hend : q < n → t q ≤ 32 ∨ brk (t q)) (hw : wrd t p q ty nm v) (hd : 4 ≤ d)
    (hK : ∀ M', adP M0 M' p q ty nm v → K (.inl none) e M') :
    ∀ (j : Nat) (i : Int) (M : im_M), i + j = q → p ≤ i → (∀ x, x ≠ 2 → M x = M0 x) → (∀ k, k ≠ 3 → k ≠ 4 → k ≠ 5 → k ≠ 6 → M 2 k = M0 2 k) → M 2 3 = i → M 2 5 = p → im_T g d 40 85 [some (.ref 2), some (vI p)] [] e M K := by
  have hbn := bt_ne hsh
  have hTy : ∀ (M : im_M), (∀ x, x ≠ 2 → M x = M0 x) → (∀ k, k ≠ 3 → k ≠ 4 → k ≠ 5 → k ≠ 6 → M 2 k = M0 2 k) → M 2 3 = q → M 2 5 = p → im_T g (d - 1) 43 0 [some (.ref 2), some (vI p), some (vI (M 2 3)), none, none, none] [] e M (im_ri (fun x6 e_ M5 => e = e_ ∧ (im_i32 x6) ∧ K (.inl none) e (im_u M5 2 4 x6))) := by
    intro M hF hF2 h3 h5
    rw [h3]
    refine c_typeOf (t := t) (n := n) (nm := nm) (v := v) hsh hnb ((hF2 1 (by decide) (by decide) (by decide) (by decide)).trans hb) hnn (by rw [hF b hbn.1]; exact ht) (fun i i0 i1 => by rw [hF 3 (by decide)]; exact hkw i i0 i1) hp0 hpq hq hw (by omega) (fun M' hP => ⟨_, rfl, rfl, ?_, hK _ ?_⟩)
    · have : -2 ≤ ty ∧ ty ≤ 40 := by
        rcases hw with ⟨_, z, _, h⟩ | ⟨_, _, h⟩ | ⟨_, _, _, r, hr, h⟩
        · omega
        · omega
        · rcases hr with ⟨h1, _⟩ | ⟨h1, h2, _⟩ <;> omega
      constructor <;> omega
    · obtain ⟨p1, p2, p3, p4, p5⟩ := hP
      refine ⟨fun x a2 a5 a6 => ?_, fun k a3 a4 a5 a6 => ?_, ?_, im_rds _ _ _ _, ?_, fun h => ?_, fun h => ?_, fun h => ?_⟩
      · rw [im_u_ne _ _ _ a2, p1 x a2 a5 a6]; exact hF x a2
      · rw [im_rdk _ _ _ a4, p2 k a6]; exact hF2 k a3 a4 a5 a6
      · rw [im_rdk _ _ _ (by decide), p2 3 (by decide)]; exact h3
      · rw [im_rdk _ _ _ (by decide), p2 5 (by decide)]; exact h5
      · rw [im_u_ne _ _ _ (by decide), im_u_ne _ _ _ (by decide), (p3 h).1, (p3 h).2, hF 5 (by decide), hF 6 (by decide)]; exact ⟨rfl, rfl⟩
      · rw [im_rdk _ _ _ (by decide)]; exact p4 h
      · exact cn_congr (p5 h) (im_u_ne _ _ _ (by decide)) (im_u_ne _ _ _ (by decide))
  intro j
  induction j with
  | zero =>
    intro i M hi hpi hF hF2 h3 h5
    obtain rfl : i = q := by omega
    have e1 : M 2 1 = b := (hF2 1 (by decide) (by decide) (by decide) (by decide)).trans hb
    have e2 : M 2 2 = n := (hF2 2 (by decide) (by decide) (by decide) (by decide)).trans hn2
    have eb : M b = M0 b := hF b hbn.1
    refine k_Reader_advance_85 (by omega) ⟨fun _ => hTy M hF hF2 h3 h5, fun hlt => ⟨b, e1, nb, ⟨hsh, hnb⟩, by constructor <;> omega, ?_⟩⟩
    have hlt : i < n := by omega
    have hB := ht i (by omega) hlt
    have he := hend hlt
    rw [h3, eb]
    refine c_isBlank (fun hc => ⟨_, rfl, rfl, by constructor <;> omega, fun _ => hTy M hF hF2 h3 h5, fun z => absurd z (by decide)⟩) (fun hc => ⟨_, rfl, rfl, by constructor <;> omega, fun z => absurd rfl z, fun _ => ⟨b, e1, nb, ⟨hsh, hnb⟩, by constructor <;> omega, ?_⟩⟩)
    rw [h3, eb]
    have hbk : brk (t i) := by
      rcases he with z | z
      · omega
      · exact z
    refine c_bracket (by constructor <;> omega) (fun _ => ⟨_, rfl, rfl, ?_, fun _ => hTy M hF hF2 h3 h5, fun z => absurd z ?_⟩) (fun z => absurd ?_ z)
    · (repeat' split) <;> constructor <;> omega
    · (repeat' split) <;> decide
    · unfold brk at hbk ⊢; omega
  | succ j ih =>
    intro i M hi hpi hF hF2 h3 h5
    have e1 : M 2 1 = b := (hF2 1 (by decide) (by decide) (by decide) (by decide)).trans hb
    have e2 : M 2 2 = n := (hF2 2 (by decide) (by decide) (by decide) (by decide)).trans hn2
    have eb : M b = M0 b := hF b hbn.1
    have hB := ht i (by omega) (by omega)
    obtain ⟨hnb1, hnb2⟩ := hin i hpi (by omega)
    refine k_Reader_advance_85 (by omega) ⟨fun z => absurd z (by omega), fun hlt => ⟨b, e1, nb, ⟨hsh, hnb⟩, by constructor <;> omega, ?_⟩⟩
    rw [h3, eb]
    refine c_isBlank (fun hc => absurd hc (by omega)) (fun hc => ⟨_, rfl, rfl, by constructor <;> omega, fun z => absurd rfl z, fun _ => ⟨b, e1, nb, ⟨hsh, hnb⟩, by constructor <;> omega, ?_⟩⟩)
    rw [h3, eb]
    refine c_bracket (by constructor <;> omega) (fun z => absurd ?_ hnb2) (fun _ => ⟨_, rfl, rfl, by constructor <;> omega, fun z => absurd rfl z, fun _ => ⟨by constructor <;> omega, ?_⟩⟩)
    · unfold brk at z ⊢; omega
    · rw [h3]
      exact ih (i + 1) _ (by omega) (by omega) (fun x hx => (im_u_ne _ _ _ hx).trans (hF x hx)) (fun k a3 a4 a5 a6 => (im_rdk _ _ _ a3).trans (hF2 k a3 a4 a5 a6)) (im_rds _ _ _ _) ((im_rdk _ _ _ (by decide)).trans h5)
theorem l_adv5 {b nb : Nat} {t : Int → Int} {n a p q ty nm v : Int} (hsh : (im_sh0 ++ e)[b]? = some (0, nb, [])) (hnb : nb ≤ 2147483647) (hb : M 2 1 = b) (hn2 : M 2 2 = n) (hnn : n ≤ nb) (ht : txt (M b) t n) (hkw : ∀ i, 0 ≤ i → i < 34 → M 3 i = kwv i) (ha0 : 0 ≤ a) (htk : tkn t n a p q ty nm v) (hd : 4 ≤ d)
    (hK : ∀ M', adP M M' p q ty nm v → K (.inl none) e M') :
    ∀ (j : Nat) (i : Int), i + j = p → a ≤ i → im_T g d 40 5 [some (.ref 2), some (vI i)] [] e M K := by
  have hbn := bt_ne hsh
  obtain ⟨hap, hpn, hbl, hor⟩ := htk
  intro j
  induction j with
  | zero =>
    intro i hi hai
    obtain rfl : i = p := by omega
    rcases hor with ⟨h1, h2, h3⟩ | ⟨h1, h2, hor⟩
    · refine k_Reader_advance_5 (by omega) ⟨by constructor <;> omega, fun _ => ⟨fun z => absurd z (by omega), fun _ => hK _ ?_⟩, fun z => absurd z (by omega)⟩
      refine ⟨fun x a2 a5 a6 => ?_, fun k a3 a4 a5 a6 => ?_, ?_, ?_, ?_, fun _ => ?_, fun h => by omega, fun h => by omega⟩
      · rw [im_u_ne _ _ _ a2, im_u_ne _ _ _ a2, im_u_ne _ _ _ a2]
      · rw [im_rdk _ _ _ a4, im_rdk _ _ _ a3, im_rdk _ _ _ a5]
      · rw [im_rdk _ _ _ (by decide), im_rds]; omega
      · rw [im_rds, h3]
      · rw [im_rdk _ _ _ (by decide), im_rdk _ _ _ (by decide), im_rds]
      · constructor <;> rw [im_u_ne _ _ _ (by decide), im_u_ne _ _ _ (by decide), im_u_ne _ _ _ (by decide)]
    · have hB := ht i (by omega) h1
      have eb : im_u (im_u M 2 5 i) 2 3 i b = M b := by rw [im_u_ne _ _ _ hbn.1, im_u_ne _ _ _ hbn.1]
      refine k_Reader_advance_5 (by omega) ⟨by constructor <;> omega, fun z => absurd z (by omega), fun _ => ⟨b, hb, nb, ⟨hsh, hnb⟩, by constructor <;> omega, ?_⟩⟩
      refine c_isBlank (fun hc => absurd hc (by omega)) (fun hc => ⟨_, rfl, rfl, by constructor <;> omega, fun _ => ⟨fun _ => ⟨b, hb, nb, ⟨hsh, hnb⟩, by constructor <;> omega, ?_⟩, fun z => absurd z (by omega)⟩, fun z => absurd rfl z⟩)
      rw [eb]
      rcases hor with ⟨k1, k2, k3⟩ | ⟨k1, k2, k3, k4, k5, k6⟩
      · have hbk : brk (M b i) := by unfold brk at k1 ⊢; omega
        have hty : (if M b i = 40 then (37 : Int) else if M b i = 41 then 38 else if M b i = 91 then 39 else 40) = ty := by
          rw [k3]
          unfold brk at k1
          rw [show M b i = t i from by omega]
        have htr : 37 ≤ ty ∧ ty ≤ 40 := by rw [← hty]; (repeat' split) <;> decide
        refine c_bracket (by constructor <;> omega) (fun _ => ?_) (fun z => absurd hbk z)
        rw [hty]
        refine ⟨_, rfl, rfl, by constructor <;> omega, fun z => by omega, fun _ => ⟨by constructor <;> omega, hK _ ?_⟩⟩
        refine ⟨fun x a2 a5 a6 => ?_, fun k a3 a4 a5 a6 => ?_, ?_, ?_, ?_, fun _ => ?_, fun h => by omega, fun h => by omega⟩
        · rw [im_u_ne _ _ _ a2, im_u_ne _ _ _ a2, im_u_ne _ _ _ a2, im_u_ne _ _ _ a2]
        · rw [im_rdk _ _ _ a3, im_rdk _ _ _ a4, im_rdk _ _ _ a3, im_rdk _ _ _ a5]
        · rw [im_rds]; omega
        · rw [im_rdk _ _ _ (by decide), im_rds]
        · rw [im_rdk _ _ _ (by decide), im_rdk _ _ _ (by decide), im_rdk _ _ _ (by decide), im_rds]
        · constructor <;> rw [im_u_ne _ _ _ (by decide), im_u_ne _ _ _ (by decide), im_u_ne _ _ _ (by decide), im_u_ne _ _ _ (by decide)]
      · refine c_bracket (by constructor <;> omega) (fun z => absurd ?_ k1) (fun _ => ⟨_, rfl, rfl, by constructor <;> omega, fun _ => ?_, fun z => absurd rfl z⟩)
        · unfold brk at z ⊢; omega
        · refine l_adv85 (M0 := M) hsh hnb hb hn2 hnn ht hkw (by omega) k2 k3 k4 k5 k6 hd hK (q - i).toNat i _ (by omega) (Int.le_refl _) (fun x hx => ?_) (fun k a3 a4 a5 a6 => ?_) ?_ ?_
          · rw [im_u_ne _ _ _ hx, im_u_ne _ _ _ hx, im_u_ne _ _ _ hx]
          · rw [im_rdk _ _ _ a4, im_rdk _ _ _ a3, im_rdk _ _ _ a5]
          · rw [im_rdk _ _ _ (by decide), im_rds]
          · rw [im_rdk _ _ _ (by decide), im_rdk _ _ _ (by decide), im_rds]
  | succ j ih =>
    intro i hi hai
    have hB := ht i (by omega) (by omega)
    have h1 := hbl i hai (by omega)
    refine k_Reader_advance_5 (by omega) ⟨by constructor <;> omega, fun z => absurd z (by omega), fun _ => ⟨b, hb, nb, ⟨hsh, hnb⟩, by constructor <;> omega, ?_⟩⟩
    exact c_isBlank (fun hc => ⟨_, rfl, rfl, by constructor <;> omega, fun z => absurd z (by decide), fun _ => ih (i + 1) (by omega) (by omega)⟩) (fun hc => absurd hc (by omega))
theorem c_adv {b nb : Nat} {t : Int → Int} {n a p q ty nm v : Int} (hsh : (im_sh0 ++ e)[b]? = some (0, nb, [])) (hnb : nb ≤ 2147483647) (hb : M 2 1 = b) (hn2 : M 2 2 = n) (h3 : M 2 3 = a) (hnn : n ≤ nb) (ht : txt (M b) t n) (hkw : ∀ i, 0 ≤ i → i < 34 → M 3 i = kwv i) (ha0 : 0 ≤ a) (htk : tkn t n a p q ty nm v) (hd : 4 ≤ d)
    (hK : ∀ M', adP M M' p q ty nm v → K (.inl none) e M') : im_T g d 40 0 [some (.ref 2), none] [] e M K := by
  refine k_Reader_advance_0 ?_
  rw [h3]
  have hap := htk.1
  exact l_adv5 hsh hnb hb hn2 hnn ht hkw ha0 htk hd hK (p - a).toNat a (by omega) (Int.le_refl _)
/-- there is always a next token -/
theorem wrd_ex (t : Int → Int) {p q : Int} (hpq : p < q) : ∃ ty nm v, wrd t p q ty nm v := by
  by_cases hdg : dgT t (sgn t p) q
  · have hz : ∃ z, zrT t (sgn t p) q z := by
      have hlt := hdg.1
      have : ∀ (j : Nat) (i : Int), i + j = q → sgn t p ≤ i → (∀ x, sgn t p ≤ x → x < i → t x = 48) → ∃ z, zrT t (sgn t p) q z := by
        intro j
        induction j with
        | zero => intro i hi h0 hx; exact ⟨i, h0, by omega, hx, fun z => by omega⟩
        | succ j ih =>
          intro i hi h0 hx
          by_cases h48 : t i = 48
          · refine ih (i + 1) (by omega) (by omega) (fun x x0 x1 => ?_)
            by_cases hxi : x = i
            · subst hxi; exact h48
            · exact hx x x0 (by omega)
          · exact ⟨i, h0, by omega, hx, fun _ => h48⟩
      exact this (q - sgn t p).toNat (sgn t p) (by omega) (Int.le_refl _) (fun x x0 x1 => by omega)
    obtain ⟨z, hz⟩ := hz
    by_cases h3 : q - z ≤ 300
    · exact ⟨34, 0, nval t p q z, Or.inl ⟨hdg, z, hz, Or.inr ⟨h3, rfl, rfl⟩⟩⟩
    · exact ⟨-2, 0, 0, Or.inl ⟨hdg, z, hz, Or.inl ⟨by omega, rfl⟩⟩⟩
  · by_cases hnm : nmT t (ask t p) q
    · obtain ⟨r, hr⟩ := kwr_ex (pak t (ask t p) (q - ask t p).toNat)
      by_cases h63 : t p = 63
      · by_cases hr1 : r = -1
        · exact ⟨35, _, 0, Or.inr (Or.inr ⟨hdg, hnm, rfl, r, hr, Or.inl ⟨h63, hr1, rfl⟩⟩)⟩
        · exact ⟨-1, _, 0, Or.inr (Or.inr ⟨hdg, hnm, rfl, r, hr, Or.inr (Or.inl ⟨h63, hr1, rfl⟩)⟩)⟩
      · by_cases hr1 : r = -1
        · exact ⟨36, _, 0, Or.inr (Or.inr ⟨hdg, hnm, rfl, r, hr, Or.inr (Or.inr (Or.inl ⟨h63, hr1, rfl⟩))⟩)⟩
        · exact ⟨r, _, 0, Or.inr (Or.inr ⟨hdg, hnm, rfl, r, hr, Or.inr (Or.inr (Or.inr ⟨h63, hr1, rfl⟩))⟩)⟩
    · exact ⟨-1, 0, 0, Or.inr (Or.inl ⟨hdg, hnm, rfl⟩)⟩
theorem tkn_ex (t : Int → Int) {n a : Int} (han : a ≤ n) : ∃ p q ty nm v, tkn t n a p q ty nm v := by
  have hp : ∃ p, a ≤ p ∧ p ≤ n ∧ (∀ i, a ≤ i → i < p → t i ≤ 32) ∧ (p < n → 32 < t p) := by
    have : ∀ (j : Nat) (i : Int), i + j = n → a ≤ i → (∀ x, a ≤ x → x < i → t x ≤ 32) → ∃ p, a ≤ p ∧ p ≤ n ∧ (∀ i, a ≤ i → i < p → t i ≤ 32) ∧ (p < n → 32 < t p) := by
      intro j
      induction j with
      | zero => intro i hi h0 hx; exact ⟨i, h0, by omega, hx, fun z => by omega⟩
      | succ j ih =>
        intro i hi h0 hx
        by_cases h : t i ≤ 32
        · refine ih (i + 1) (by omega) (by omega) (fun x x0 x1 => ?_)
          by_cases hxi : x = i
          · subst hxi; exact h
          · exact hx x x0 (by omega)
        · exact ⟨i, h0, by omega, hx, fun _ => by omega⟩
    exact this (n - a).toNat a (by omega) (Int.le_refl _) (fun x x0 x1 => by omega)
  obtain ⟨p, h1, h2, h3, h4⟩ := hp
  by_cases hpn : p < n
  · by_cases hb : brk (t p)
    · exact ⟨p, p + 1, _, 0, 0, h1, h2, h3, Or.inr ⟨hpn, h4 hpn, Or.inl ⟨hb, rfl, rfl⟩⟩⟩
    · have hq : ∃ q, p < q ∧ q ≤ n ∧ (∀ i, p ≤ i → i < q → 32 < t i ∧ ¬ brk (t i)) ∧ (q < n → t q ≤ 32 ∨ brk (t q)) := by
        have : ∀ (j : Nat) (i : Int), i + j = n → p < i → (∀ x, p ≤ x → x < i → 32 < t x ∧ ¬ brk (t x)) → ∃ q, p < q ∧ q ≤ n ∧ (∀ i, p ≤ i → i < q → 32 < t i ∧ ¬ brk (t i)) ∧ (q < n → t q ≤ 32 ∨ brk (t q)) := by
          intro j
          induction j with
          | zero => intro i hi h0 hx; exact ⟨i, h0, by omega, hx, fun z => by omega⟩
          | succ j ih =>
            intro i hi h0 hx
            by_cases h : 32 < t i ∧ ¬ brk (t i)
            · refine ih (i + 1) (by omega) (by omega) (fun x x0 x1 => ?_)
              by_cases hxi : x = i
              · subst hxi; exact h
              · exact hx x x0 (by omega)
            · refine ⟨i, h0, by omega, hx, fun _ => ?_⟩
              by_cases h5 : t i ≤ 32
              · exact Or.inl h5
              · exact Or.inr (Classical.byContradiction (fun z => h ⟨by omega, z⟩))
        refine this (n - (p + 1)).toNat (p + 1) (by omega) (by omega) (fun x x0 x1 => ?_)
        obtain rfl : x = p := by omega
        exact ⟨h4 hpn, hb⟩
      obtain ⟨q, q1, q2, q3, q4⟩ := hq
      obtain ⟨ty, nm, v, hw⟩ := wrd_ex t q1
      exact ⟨p, q, ty, nm, v, h1, h2, h3, Or.inr ⟨hpn, h4 hpn, Or.inr ⟨hb, q1, q2, q3, q4, hw⟩⟩⟩
  · exact ⟨p, n, 41, 0, 0, h1, h2, h3, Or.inl ⟨by omega, rfl, rfl⟩⟩
end TOK3
