/-! THE REFERENCE drops, forgets, ends -/
def tc1 (r : Int) : Int := if r = -103 then 1 else 0
theorem cdf (N : im_M) (x : Int) : (∀ y, y ≠ 6952 → True → im_u N 6952 0 x y = N y) ∧ (∀ k, k ≠ 0 → im_u N 6952 0 x 6952 k = N 6952 k) := ⟨fun y a _ => im_u_ne _ _ _ a, fun k hk => im_rdk _ _ _ hk⟩
section RPUB2
variable {g : im_g} {d : Nat} {e : im_E} {M : im_M} {K : im_K} {w : Wd}
theorem c_R_drop {k : Int} (h : RW M w) (hJo : jOk w.gJr) (hk : im_i32 k) (hd : 6 ≤ d)
    (hKd : w.gJr.2.2.2.2 ≠ 0 → ∀ M', (∀ x, x < 6952 ∨ 7080 < x → M' x = M x) → RW M' w → M' 6952 0 = 2 → K (.inl (some (vI 0))) e M')
    (hK : w.gJr.2.2.2.2 = 0 → ∀ M' v, (∀ x, x < 6952 ∨ 7080 < x → M' x = M x) → RW M' (drO w 0 k).2 → M' 6952 0 = tc12 (drO w 0 k).1 → (tc12 (drO w 0 k).1 = 0 → v = (drO w 0 k).1) → K (.inl (some (vI v))) e M') : im_T g d 314 0 [some (.ref 6952), some (vI k), none] [] e M K := by
  obtain ⟨_, ⟨_, hr, _⟩, _, _, _, ⟨_, _, _, _, j4⟩, _⟩ := id h
  have he : entO 0 w.gJr 2 1 k 0 0 z0 0 = jwO w.gJr 2 1 k 0 0 z0 0 := if_pos rfl
  have ei := entO_i (ag := 0) (J := w.gJr) (kd := 2) (many := 1) (a := k) (b := 0) (c := 0) (t := z0) (n := 0)
  rw [he] at ei
  unfold drO at hK
  rw [he] at hK
  have nomay : ∀ x6 : Int, (x6 = 0 ∨ x6 = 1) → ∀ b : Int, (b = 0 ∨ b = 1) → (x6 = 0 ∨ b = 0 ∨ w.gJr.2.2.2.2 ≠ 0) → (w.gJr.2.2.2.2 = 0 → ∀ M', (∀ x, x < 6952 ∨ 7080 < x → M' x = M x) → RW M' w → M' 6952 0 = (if x6 = 0 then 1 else 2) → K (.inl (some (vI 0))) e M') → ∀ Z : im_M → Prop, im_T g (d - 1) 264 0 [some (.ref 6952), some (vI 2), some (vI x6), some (vI b), some (vI 1)] [] e M (im_ri (fun x15 e_ M14 => e = e_ ∧ (im_i32 x15) ∧ ((¬ x15 = 0 → Z M14) ∧ (x15 = 0 → K (.inl (some (vI 0))) e M14)))) := by
    intro x6 h6 b hb hno hz Z
    refine c_may (by decide) h6 hb (Or.inr rfl) (fun x hx => ⟨_, rfl, rfl, by split <;> decide, fun hne => ?_, fun _ => ?_⟩)
    · exfalso
      rw [j4] at hx
      have : x ≠ 0 := by
        by_cases c1 : w.gJr.2.2.2.2 ≠ 0
        · rw [if_pos c1] at hx; omega
        · rw [if_neg c1] at hx
          by_cases c2 : x6 = 0
          · rw [if_pos c2] at hx; omega
          · rw [if_neg c2, if_pos (by omega)] at hx; omega
      rw [if_neg this] at hne; exact hne rfl
    · rw [j4] at hx
      by_cases c1 : w.gJr.2.2.2.2 ≠ 0
      · rw [if_pos c1] at hx
        exact hKd c1 _ (fun x hx => im_u_ne _ _ _ (by omega)) (h.cd (cdf M x).1 (cdf M x).2) (by rw [im_rds]; exact hx)
      · have c1' : w.gJr.2.2.2.2 = 0 := Decidable.not_not.mp c1
        refine hz c1' _ (fun x hx => im_u_ne _ _ _ (by omega)) (h.cd (cdf M x).1 (cdf M x).2) ?_
        rw [im_rds, hx, if_neg c1]
        by_cases c2 : x6 = 0
        · rw [if_pos c2, if_pos c2]
        · rw [if_neg c2, if_neg c2, if_pos (by omega)]
  refine b_drop_0 (by omega) ⟨hk, c_isIn (by constructor <;> omega) (by decide) (by decide) (fun hI => ⟨_, rfl, rfl, ?_⟩) (fun hI => ⟨_, rfl, rfl, ?_⟩)⟩
  · refine c_isIn (by constructor <;> omega) (by decide) (by decide) (fun _ => ⟨_, rfl, rfl, by decide, fun _ => ⟨⟨hI.1, by omega⟩, fun hne => ?_⟩, fun hor => ?_⟩) (fun hI' => absurd hI hI')
    · have hk16 : 0 ≤ k ∧ k < 16 := ⟨hI.1, by omega⟩
      have hrk : w.gRt k ≠ -1 := fun z => hne ((hr k hk16.1 hk16.2).1 z)
      have hro := (hr k hk16.1 hk16.2).2 hrk
      by_cases hz : w.gJr.2.2.2.2 = 0
      · have hK := hK hz
        rw [if_neg (Decidable.not_not.mpr hk16), if_neg hrk] at hK
        refine c_may (by decide) (Or.inr rfl) (Or.inr rfl) (Or.inr rfl) (fun x hx => ⟨_, rfl, rfl, by split <;> decide, fun _ => ?_, fun heq => ?_⟩)
        · rw [j4, if_neg (Decidable.not_not.mpr hz), if_neg (by decide), if_neg (by decide), if_neg (by decide)] at hx
          have W1 : RW (im_u M 6952 0 x) w := h.cd (cdf M x).1 (cdf M x).2
          obtain ⟨_, ⟨_, hr1, _⟩, _, _, _, j1, _⟩ := id W1
          have hc1 : im_u M 6952 0 x 6952 0 = 0 := by rw [im_rds]; exact hx
          have f1 : ∀ y, y < 6952 ∨ 7080 < y → im_u M 6952 0 x y = M y := fun y hy => im_u_ne _ _ _ (by omega)
          generalize im_u M 6952 0 x = M1 at W1 hr1 j1 hc1 f1
          refine c_rwr (J := w.gJr) (t := z0) (n := 0) (kd := 2) (many := 1) j1 hJo hz (by decide) (by decide) (Or.inl ⟨rfl, rfl⟩) (by decide) (fun i a b => by omega) (by constructor <;> omega) (by decide) (by decide) (by omega) (fun M2 g1 g2 j2 => ⟨_, rfl, rfl, ?_, ?_⟩)
          · split
            · decide
            · constructor <;> omega
          · have W2 := W1.jr (fun x a b => g1 x a b) g2 j2
            have f2 : ∀ y, y < 6952 ∨ 7080 < y → M2 y = M y := fun y hy => (g1 y (by omega) (by omega)).trans (f1 y hy)
            have hc2 : M2 6952 0 = 0 := by rw [g2 0 (by decide)]; exact hc1
            have e84 : M2 6984 k = 1 := by rw [g1 6984 (by decide) (by decide)]; exact ((hr1 k hk16.1 hk16.2).2 hrk).1
            rw [e84]
            by_cases hne : (jwO w.gJr 2 1 k 0 0 z0 0).1 = 0
            · rw [if_neg (Decidable.not_not.mpr hne)] at hK
              rw [if_neg (by omega), hne]
              refine ⟨⟨fun _ _ z => absurd z (by decide), fun z => absurd z (by decide)⟩, fun _ => ?_⟩
              have W3 := W2.rt (M' := im_u M2 6984 k 0) (rt := im_up w.gRt k (-1)) (fun x a b => im_u_ne _ _ _ (by omega)) (fun _ _ => im_rdn _ _ _ _ (by decide)) (fun i i0 i1 => by
                have hri := hr1 i i0 i1
                rw [im_rdx, im_rdn _ _ _ _ (by decide), im_rdn _ _ _ _ (by decide), g1 6984 (by decide) (by decide), g1 6985 (by decide) (by decide), g1 6986 (by decide) (by decide)]
                unfold im_up
                by_cases hik : i = k
                · rw [if_pos hik, if_pos hik]; exact ⟨fun _ => rfl, fun z => absurd rfl z⟩
                · rw [if_neg hik, if_neg hik]; exact hri)
              exact hK _ 0 (fun x hx => by rw [im_u_ne _ _ _ (by omega)]; exact f2 x hx) W3 (by rw [im_rdn _ _ _ _ (by decide), hc2]; rfl) (fun _ => rfl)
            · rw [if_pos hne] at hK
              by_cases h103 : (jwO w.gJr 2 1 k 0 0 z0 0).1 = -103
              · rw [if_pos h103]
                refine ⟨⟨fun z => absurd rfl z, fun _ => hK _ 0 (fun x hx => by rw [im_u_ne _ _ _ (by omega)]; exact f2 x hx) (W2.cd (cdf M2 2).1 (cdf M2 2).2) (by rw [im_rds, h103]; rfl) (fun z => ?_)⟩, fun z => by omega⟩
                rw [h103] at z; exact absurd z (by decide)
              · rw [if_neg h103]
                have h10 : (jwO w.gJr 2 1 k 0 0 z0 0).1 = -10 := by omega
                refine ⟨⟨fun _ _ _ => ?_, fun z => by omega⟩, fun z => by omega⟩
                have same : im_u M2 6984 k 1 = M2 := by
                  funext x i
                  by_cases hx : x = 6984
                  · subst hx
                    rw [im_rdx]
                    split
                    · rename_i hik; rw [hik, e84]
                    · rfl
                  · rw [im_u_ne _ _ _ hx]
                rw [same]
                exact hK M2 _ f2 W2 (by rw [hc2, h10]; rfl) (fun _ => rfl)
        · rw [j4, if_neg (Decidable.not_not.mpr hz), if_neg (by decide), if_neg (by decide), if_neg (by decide)] at hx
          rw [if_pos hx] at heq; exact absurd heq (by decide)
      · exact nomay 1 (Or.inr rfl) 1 (Or.inr rfl) (Or.inr (Or.inr hz)) (fun z => absurd z hz) _
    · have hk16 : 0 ≤ k ∧ k < 16 := ⟨hI.1, by omega⟩
      have hrk : w.gRt k = -1 := by
        by_cases z : w.gRt k = -1
        · exact z
        · have := ((hr k hk16.1 hk16.2).2 z).1; omega
      exact nomay 1 (Or.inr rfl) 0 (Or.inl rfl) (Or.inr (Or.inl rfl)) (fun hz M' f W' hc => by
        have hK := hK hz
        rw [if_neg (Decidable.not_not.mpr hk16), if_pos hrk] at hK
        exact hK M' 0 f W' (by rw [hc]; rfl) (fun z => absurd z (show tc12 (-103) ≠ 0 by decide))) _
  · refine c_isIn (by constructor <;> omega) (by decide) (by decide) (fun hI' => absurd hI' hI) (fun _ => ⟨_, rfl, rfl, by decide, fun z => absurd rfl z, fun _ => ?_⟩)
    exact nomay 0 (Or.inl rfl) 0 (Or.inl rfl) (Or.inl rfl) (fun hz M' f W' hc => by
      have hK := hK hz
      rw [if_pos (by omega)] at hK
      exact hK M' 0 f W' (by rw [hc]; rfl) (fun z => absurd z (show tc12 (-101) ≠ 0 by decide))) _
theorem c_R_forget (h : RW M w) (hJo : jOk w.gJr) (hd : 6 ≤ d)
    (hKd : w.gJr.2.2.2.2 ≠ 0 → ∀ M', (∀ x, x < 6952 ∨ 7080 < x → M' x = M x) → RW M' w → M' 6952 0 = 1 → K (.inl (some (vI 0))) e M')
    (hK : w.gJr.2.2.2.2 = 0 → ∀ M' v, (∀ x, x < 6952 ∨ 7080 < x → M' x = M x) → RW M' (fgO w 0).2 → M' 6952 0 = tc1 (fgO w 0).1 → (tc1 (fgO w 0).1 = 0 → v = (fgO w 0).1) → K (.inl (some (vI v))) e M') : im_T g d 341 0 [some (.ref 6952), none, none] [] e M K := by
  obtain ⟨_, _, ⟨b1, _, _⟩, _, _, ⟨_, _, _, _, j4⟩, _⟩ := id h
  have he : entO 0 w.gJr 8 0 0 0 0 z0 0 = jwO w.gJr 8 0 0 0 0 z0 0 := if_pos rfl
  have ei := entO_i (ag := 0) (J := w.gJr) (kd := 8) (many := 0) (a := 0) (b := 0) (c := 0) (t := z0) (n := 0)
  rw [he] at ei
  unfold fgO at hK
  rw [he] at hK
  have p20 := b1.2.1
  refine b_forget_0 (by omega) (c_may (by decide) (Or.inr rfl) (Or.inr rfl) (Or.inr rfl) (fun x hx => ⟨_, rfl, rfl, by split <;> decide, fun hne => ?_, fun heq => ?_⟩))
  · rw [j4] at hx
    have hz : w.gJr.2.2.2.2 = 0 := by
      by_cases z : w.gJr.2.2.2.2 = 0
      · exact z
      · rw [if_pos z] at hx; rw [if_neg (by omega)] at hne; exact absurd rfl hne
    have hK := hK hz
    rw [if_neg (Decidable.not_not.mpr hz), if_neg (by decide), if_neg (by decide), if_neg (by decide)] at hx
    have W1 : RW (im_u M 6952 0 x) w := h.cd (cdf M x).1 (cdf M x).2
    obtain ⟨_, _, ⟨bb, _, _⟩, _, _, j1, _⟩ := id W1
    have hc1 : im_u M 6952 0 x 6952 0 = 0 := by rw [im_rds]; exact hx
    have f1 : ∀ y, y < 6952 ∨ 7080 < y → im_u M 6952 0 x y = M y := fun y hy => im_u_ne _ _ _ (by omega)
    generalize im_u M 6952 0 x = M1 at W1 bb j1 hc1 f1
    refine c_rwr (J := w.gJr) (t := z0) (n := 0) (kd := 8) (many := 0) j1 hJo hz (by decide) (by decide) (Or.inl ⟨rfl, rfl⟩) (by decide) (fun i a b => by omega) (by decide) (by decide) (by decide) (by omega) (fun M2 g1 g2 j2 => ⟨_, rfl, rfl, ?_, ?_⟩)
    · split
      · decide
      · constructor <;> omega
    · have W2 := W1.jr (fun x a b => g1 x a b) g2 j2
      have f2 : ∀ y, y < 6952 ∨ 7080 < y → M2 y = M y := fun y hy => (g1 y (by omega) (by omega)).trans (f1 y hy)
      have hc2 : M2 6952 0 = 0 := by rw [g2 0 (by decide)]; exact hc1
      have e62 : M2 6952 62 = w.gPm.1 := by rw [g2 62 (by decide)]; exact bb.1
      rw [e62]
      by_cases hne : (jwO w.gJr 8 0 0 0 0 z0 0).1 = 0
      · rw [if_neg (Decidable.not_not.mpr hne)] at hK
        rw [if_neg (by omega), hne]
        refine ⟨fun _ x12 h12 => ?_, fun z => absurd z (by decide)⟩
        have : x12 = 0 := by omega
        subst this
        refine ⟨by decide, fun x18 h18 => ?_⟩
        have : x18 = w.gPm.1 := by omega
        subst this
        have W3 := W2.pm (M' := im_u M2 6952 62 0) (β := (0, w.gPm.2)) (fun x a b => im_u_ne _ _ _ a) (fun k hk => im_rdk _ _ _ hk) ⟨im_rds _ _ _ _, Nat.zero_le _, b1.2.2.1, fun k hk => absurd hk (Nat.not_lt_zero k)⟩
        have ht : tc1 (w.gPm.1 : Int) = 0 := by unfold tc1; rw [if_neg (by omega)]
        exact hK _ _ (fun x hx => by rw [im_u_ne _ _ _ (by omega)]; exact f2 x hx) W3 (by rw [im_rdk _ _ _ (by decide), hc2]; exact ht.symm) (fun _ => rfl)
      · rw [if_pos hne] at hK
        by_cases h103 : (jwO w.gJr 8 0 0 0 0 z0 0).1 = -103
        · rw [if_pos h103]
          refine ⟨fun z => absurd rfl z, fun _ => hK _ 0 (fun x hx => by rw [im_u_ne _ _ _ (by omega)]; exact f2 x hx) (W2.cd (cdf M2 1).1 (cdf M2 1).2) (by rw [im_rds, h103]; rfl) (fun z => ?_)⟩
          rw [h103] at z; exact absurd z (by decide)
        · rw [if_neg h103]
          have h10 : (jwO w.gJr 8 0 0 0 0 z0 0).1 = -10 := by omega
          rw [h10] at hK ⊢
          refine ⟨fun _ x12 h12 => ?_, fun z => absurd z (by decide)⟩
          have : x12 = w.gPm.1 := by omega
          subst this
          refine ⟨by constructor <;> omega, fun x18 h18 => ?_⟩
          have : x18 = -10 := by omega
          subst this
          have same : im_u M2 6952 62 w.gPm.1 = M2 := by
            funext x i
            by_cases hx : x = 6952
            · subst hx
              rw [im_rdx]
              split
              · rename_i hik; rw [hik, e62]
              · rfl
            · rw [im_u_ne _ _ _ hx]
          rw [same]
          exact hK M2 (-10) f2 W2 (by rw [hc2]; rfl) (fun _ => rfl)
  · rw [j4] at hx
    have hz : w.gJr.2.2.2.2 ≠ 0 := fun z => by
      rw [if_neg (Decidable.not_not.mpr z), if_neg (by decide), if_neg (by decide), if_neg (by decide)] at hx
      rw [if_pos hx] at heq; exact absurd heq (by decide)
    rw [if_pos hz] at hx
    exact hKd hz _ (fun x hx => im_u_ne _ _ _ (by omega)) (h.cd (cdf M x).1 (cdf M x).2) (by rw [im_rds]; exact hx)
end RPUB2
