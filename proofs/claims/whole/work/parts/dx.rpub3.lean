/-! THE REFERENCE ends, keeps -/
section RPUB3
variable {g : im_g} {d : Nat} {e : im_E} {M : im_M} {K : im_K} {w : Wd}
theorem kR_1 {k a : Int} (h : 0 ≤ k ∧ k ≤ 5) (ha : k = 1 → a = 0 ∨ a = 1) : kR k a = 1 ↔ k = 0 := by
  unfold kR
  by_cases c : k = 0
  · rw [if_pos c]; exact ⟨fun _ => c, fun _ => rfl⟩
  · rw [if_neg c]
    by_cases c1 : k = 1
    · rw [if_pos c1]; have := ha c1; omega
    · rw [if_neg c1, if_pos (by omega)]; omega
theorem c_risOver {i : Int} (h : RW M w) (hW : WFP w.gRw w.gM) (hio : 0 ≤ i ∧ i < 16 → insOk w.gRw w.gM w.gWa (w.gIn i)) (hi : im_i32 i) (hd : 2 ≤ d) (hK : ∀ x, (x = 0 ∨ x = 1) → (x = 1 ↔ (0 ≤ i ∧ i < 16 ∧ (w.gIn i).1 = 1 ∧ ovr w i)) → K (.inl (some (vI x))) e M) : im_T g d 348 0 [some (.ref 6952), some (vI i)] [] e M K := by
  obtain ⟨_, ⟨⟨p1, _⟩, _, hin⟩, _⟩ := id h
  refine b_isOver_0 (by omega) (c_isBegun h hi (fun z => (hio z).1) (by omega) (fun hI hB => ⟨_, rfl, rfl, by decide, fun _ => ⟨hI, ?_⟩, fun hor => ?_⟩) (fun hno => ⟨_, rfl, rfl, by decide, fun z => absurd rfl z, fun _ => hK 0 (Or.inl rfl) ⟨fun z => absurd z (by decide), fun z => absurd ⟨z.1, z.2.1, z.2.2.1⟩ hno⟩⟩))
  all_goals
    have ov := ((hio hI).2 hB).2.2.2.2.1
    obtain ⟨⟨_, u2, _⟩, S1, _⟩ := hin i hI.1 hI.2
    have hm := hW.2.1
    have hrow := (p1 _ ov.1 ov.2.1).1
    have hk1 := kR_1 (k := w.gRw 0 (w.gIn i).2.1) (a := w.gRw 3 (w.gIn i).2.1) ov.2.2 (hW.2.2 _ ov.1 ov.2.1).2.1.2.2.2
    have ea := S1.1
  · rw [u2, hrow]
    refine ⟨⟨ov.1, by omega⟩, fun a b => hK 1 (Or.inr rfl) ⟨fun _ => ⟨hI.1, hI.2, hB, hk1.mp a, by omega⟩, fun _ => rfl⟩⟩
  · rw [u2, hrow] at hor
    refine hK 0 (Or.inl rfl) ⟨fun z => absurd z (by decide), fun ⟨_, _, _, z1, z2⟩ => ?_⟩
    have := hk1.mpr z1
    rcases hor with q | q | q
    · exact absurd q (by decide)
    · exact absurd this q.2
    · exact absurd (by rw [ea, z2]; rfl) q.2.2
theorem c_R_end {i : Int} (h : RW M w) (hJo : jOk w.gJr) (hW : WFP w.gRw w.gM) (hio : 0 ≤ i ∧ i < 16 → insOk w.gRw w.gM w.gWa (w.gIn i)) (hi : im_i32 i) (hd : 6 ≤ d)
    (hKd : w.gJr.2.2.2.2 ≠ 0 → ∀ M', (∀ x, x < 6952 ∨ 7080 < x → M' x = M x) → RW M' w → M' 6952 0 = 2 → K (.inl (some (vI 0))) e M')
    (hK : w.gJr.2.2.2.2 = 0 → ∀ M' v, (∀ x, x < 6952 ∨ 7080 < x → M' x = M x) → RW M' (enO w 0 i).2 → M' 6952 0 = tc12 (enO w 0 i).1 → (tc12 (enO w 0 i).1 = 0 → v = (enO w 0 i).1) → K (.inl (some (vI v))) e M') : im_T g d 347 0 [some (.ref 6952), some (vI i), none] [] e M K := by
  obtain ⟨_, ⟨_, _, hin⟩, _, _, _, ⟨_, _, _, _, j4⟩, _⟩ := id h
  have he : entO 0 w.gJr 4 1 i 0 0 z0 0 = jwO w.gJr 4 1 i 0 0 z0 0 := if_pos rfl
  have ei := entO_i (ag := 0) (J := w.gJr) (kd := 4) (many := 1) (a := i) (b := 0) (c := 0) (t := z0) (n := 0)
  rw [he] at ei
  unfold enO at hK
  rw [he] at hK
  have fin : ∀ x6 : Int, (x6 = 0 ∨ x6 = 1) → (x6 = 1 ↔ 0 ≤ i ∧ i < 16) → im_T g (d - 1) 348 0 [some (.ref 6952), some (vI i)] [] e M (im_ri (fun x5 e_ M4 => e = e_ ∧ im_T g (d - 1) 264 0 [some (.ref 6952), some (vI 2), some (vI x6), some (vI x5), some (vI 1)] [] e M4 (im_ri (fun x7 e_ M6 => e = e_ ∧ (im_i32 x7) ∧ ((¬ x7 = 0 → im_T g (d - 1) 307 0 [some (.ref 6952), some (vI 4), some (vI 1), some (vL i), none, some (vL 0), none, some (vL 0), none, some (vI 0), none, none, none, none] [] e M6 (im_ri (fun x11 e_ M10 => e = e_ ∧ (im_i32 x11) ∧ ((((¬ x11 = (-100) → (0 ≤ i ∧ i < 16) ∧ ((¬ (M10 6994 i) = 0 → ((x11 < 0 → K (.inl (some (vI x11))) e (im_u M10 6994 i 1)))))) ∧ (x11 = (-100) → K (.inl (some (vI 0))) e (im_u M10 6952 0 2)))) ∧ ((((¬ x11 = (-100)) ∧ ((M10 6994 i) = 0)) ∨ ((¬ x11 = (-100)) ∧ (¬ (M10 6994 i) = 0) ∧ (0 ≤ x11))) → (0 ≤ i ∧ i < 16) ∧ K (.inl (some (vI x11))) e (im_u M10 6994 i 0)))))) ∧ (x7 = 0 → K (.inl (some (vI 0))) e M6)))))) := by
    intro x6 h6 e6
    refine c_risOver h hW hio hi (by omega) (fun x5 h5 e5 => ⟨_, rfl, rfl, ?_⟩)
    refine c_may (by decide) h6 h5 (Or.inr rfl) (fun x hx => ⟨_, rfl, rfl, by split <;> decide, fun hne => ?_, fun heq => ?_⟩)
    · rw [j4] at hx
      have hx0 : x = 0 := by
        by_cases z : x = 0
        · exact z
        · rw [if_neg z] at hne; exact absurd rfl hne
      have hz : w.gJr.2.2.2.2 = 0 := by
        by_cases z : w.gJr.2.2.2.2 = 0
        · exact z
        · rw [if_pos z] at hx; omega
      rw [if_neg (Decidable.not_not.mpr hz)] at hx
      have h6' : x6 = 1 := by rcases h6 with z | z; rw [if_pos z] at hx; omega; exact z
      have h5' : x5 = 1 := by rcases h5 with z | z; rw [if_neg (by omega), if_pos z] at hx; omega; exact z
      obtain ⟨q1, q2, q3, q4⟩ := e5.mp h5'
      have hK := hK hz
      rw [if_neg (Decidable.not_not.mpr ⟨q1, q2⟩), if_neg (by omega), if_neg (Decidable.not_not.mpr q4)] at hK
      have W1 : RW (im_u M 6952 0 x) w := h.cd (cdf M x).1 (cdf M x).2
      obtain ⟨_, ⟨_, _, hin1⟩, _, _, _, j1, _⟩ := id W1
      have hc1 : im_u M 6952 0 x 6952 0 = 0 := by rw [im_rds]; exact hx0
      have f1 : ∀ y, y < 6952 ∨ 7080 < y → im_u M 6952 0 x y = M y := fun y hy => im_u_ne _ _ _ (by omega)
      generalize im_u M 6952 0 x = M1 at W1 hin1 j1 hc1 f1
      refine c_rwr (J := w.gJr) (t := z0) (n := 0) (kd := 4) (many := 1) j1 hJo hz (by decide) (by decide) (Or.inl ⟨rfl, rfl⟩) (by decide) (fun i a b => by omega) (by constructor <;> omega) (by decide) (by decide) (by omega) (fun M2 g1 g2 j2 => ⟨_, rfl, rfl, ?_, ?_⟩)
      · split
        · decide
        · constructor <;> omega
      · have W2 := W1.jr (fun x a b => g1 x a b) g2 j2
        have f2 : ∀ y, y < 6952 ∨ 7080 < y → M2 y = M y := fun y hy => (g1 y (by omega) (by omega)).trans (f1 y hy)
        have hc2 : M2 6952 0 = 0 := by rw [g2 0 (by decide)]; exact hc1
        obtain ⟨_, ⟨_, _, hin2⟩, _⟩ := id W2
        have e94 : M2 6994 i = 1 := by have := (hin2 i q1 q2).1.1; rw [this]; exact q3
        rw [e94]
        by_cases hne : (jwO w.gJr 4 1 i 0 0 z0 0).1 = 0
        · rw [if_neg (Decidable.not_not.mpr hne)] at hK
          rw [if_neg (by omega), hne]
          refine ⟨⟨fun _ => ⟨⟨q1, q2⟩, fun _ z => absurd z (by decide)⟩, fun z => absurd z (by decide)⟩, fun _ => ⟨⟨q1, q2⟩, ?_⟩⟩
          have W3 := W2.ins (M' := im_u M2 6994 i 0) (i := i) (I := (0, (w.gIn i).2)) (fun x a b => im_u_ne _ _ _ (by omega)) (fun _ _ => im_rdn _ _ _ _ (by decide)) (fun k k0 k1 => by
            have hk' := hin2 k k0 k1
            obtain ⟨⟨u1, u2, u3⟩, S1, S2, S3, S4, S5⟩ := hk'
            have ex : ∀ x, x ≠ 6994 → im_u M2 6994 i 0 x = M2 x := fun x hx => im_u_ne _ _ _ hx
            unfold upI
            by_cases hik : k = i
            · rw [if_pos hik]
              subst hik
              exact ⟨⟨im_rds _ _ _ _, by rw [ex 6995 (by decide)]; exact u2, by rw [ex 6996 (by decide)]; exact u3⟩, SB2_congr S1 (ex _ (by decide)) (ex _ (by decide)) (ex _ (by decide)) (ex _ (by decide)), SB2_congr S2 (ex _ (by decide)) (ex _ (by decide)) (ex _ (by decide)) (ex _ (by decide)), SB1_congr S3 (ex _ (by decide)) (ex _ (by decide)) (ex _ (by decide)), SB1_congr S4 (ex _ (by decide)) (ex _ (by decide)) (ex _ (by decide)), S5⟩
            · rw [if_neg hik]
              exact ⟨⟨by rw [im_rdx, if_neg hik]; exact u1, by rw [ex 6995 (by decide)]; exact u2, by rw [ex 6996 (by decide)]; exact u3⟩, SB2_congr S1 (ex _ (by decide)) (ex _ (by decide)) (ex _ (by decide)) (ex _ (by decide)), SB2_congr S2 (ex _ (by decide)) (ex _ (by decide)) (ex _ (by decide)) (ex _ (by decide)), SB1_congr S3 (ex _ (by decide)) (ex _ (by decide)) (ex _ (by decide)), SB1_congr S4 (ex _ (by decide)) (ex _ (by decide)) (ex _ (by decide)), S5⟩)
          exact hK _ 0 (fun x hx => by rw [im_u_ne _ _ _ (by omega)]; exact f2 x hx) W3 (by rw [im_rdn _ _ _ _ (by decide), hc2]; rfl) (fun _ => rfl)
        · rw [if_pos hne] at hK
          by_cases h103 : (jwO w.gJr 4 1 i 0 0 z0 0).1 = -103
          · rw [if_pos h103]
            refine ⟨⟨fun z => absurd rfl z, fun _ => hK _ 0 (fun x hx => by rw [im_u_ne _ _ _ (by omega)]; exact f2 x hx) (W2.cd (cdf M2 2).1 (cdf M2 2).2) (by rw [im_rds, h103]; rfl) (fun z => ?_)⟩, fun z => by omega⟩
            rw [h103] at z; exact absurd z (by decide)
          · rw [if_neg h103]
            have h10 : (jwO w.gJr 4 1 i 0 0 z0 0).1 = -10 := by omega
            refine ⟨⟨fun _ => ⟨⟨q1, q2⟩, fun _ _ => ?_⟩, fun z => by omega⟩, fun z => by omega⟩
            have same : im_u M2 6994 i 1 = M2 := by
              funext x j
              by_cases hx : x = 6994
              · subst hx
                rw [im_rdx]
                split
                · rename_i hik; rw [hik, e94]
                · rfl
              · rw [im_u_ne _ _ _ hx]
            rw [same]
            exact hK M2 _ f2 W2 (by rw [hc2, h10]; rfl) (fun _ => rfl)
    · rw [j4] at hx
      have hx0 : x ≠ 0 := fun z => by rw [if_pos z] at heq; exact absurd heq (by decide)
      have W1 : RW (im_u M 6952 0 x) w := h.cd (cdf M x).1 (cdf M x).2
      have f1 : ∀ y, y < 6952 ∨ 7080 < y → im_u M 6952 0 x y = M y := fun y hy => im_u_ne _ _ _ (by omega)
      by_cases hz : w.gJr.2.2.2.2 = 0
      · have hK := hK hz
        rw [if_neg (Decidable.not_not.mpr hz)] at hx
        by_cases hI : 0 ≤ i ∧ i < 16
        · rw [if_neg (Decidable.not_not.mpr hI)] at hK
          have h6' := e6.mpr hI
          have h5' : x5 = 0 := by
            rcases h5 with z | z
            · exact z
            · rw [if_neg (by omega), if_neg (by omega), if_neg (by decide)] at hx; exact absurd hx hx0
          rw [if_neg (by omega), if_pos h5'] at hx
          have fin2 := hK
          by_cases hb : (w.gIn i).1 = 0
          · rw [if_pos hb] at hK
            exact hK _ 0 f1 W1 (by rw [im_rds, hx]; rfl) (fun z => absurd z (show tc12 (-103) ≠ 0 by decide))
          · rw [if_neg hb] at hK
            have hno : ¬ ovr w i := fun z => by
              have := (hio hI).1
              have := e5.mpr ⟨hI.1, hI.2, by omega, z⟩
              omega
            rw [if_pos hno] at hK
            exact hK _ 0 f1 W1 (by rw [im_rds, hx]; rfl) (fun z => absurd z (show tc12 (-103) ≠ 0 by decide))
        · rw [if_pos hI] at hK
          have h6' : x6 = 0 := by
            rcases h6 with z | z
            · exact z
            · exact absurd (e6.mp z) hI
          rw [if_pos h6'] at hx
          exact hK _ 0 f1 W1 (by rw [im_rds, hx]; rfl) (fun z => absurd z (show tc12 (-101) ≠ 0 by decide))
      · rw [if_pos hz] at hx
        exact hKd hz _ f1 W1 (by rw [im_rds]; exact hx)
  refine b_end_0 (by omega) ⟨hi, c_isIn (by constructor <;> omega) (by decide) (by decide) (fun hI => ⟨_, rfl, rfl, fin 1 (Or.inr rfl) ⟨fun _ => by omega, fun _ => rfl⟩⟩) (fun hI => ⟨_, rfl, rfl, fin 0 (Or.inl rfl) ⟨fun z => absurd z (by decide), fun z => by omega⟩⟩)⟩
end RPUB3
