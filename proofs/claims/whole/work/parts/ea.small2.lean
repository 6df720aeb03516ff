/-! SHORT CALLS: trim and fuse on the reference, peek on both sides -/
section SMALL2
variable {g : im_g} {d : Nat} {e : im_E} {M : im_M} {K : im_K} {w : Wd}
theorem c_R_trim {n : Int} (h : RW M w) (hn : im_i32 n) (hd : 1 ≤ d)
    (hKt : ∀ M', (∀ z, z < 6952 ∨ 7080 < z → M' z = M z) → RW M' w → (w.gJr.2.2.2.2 ≠ 0 ∧ M' 6952 0 = 1) ∨ (w.gJr.2.2.2.2 = 0 ∧ n < 0 ∧ M' 6952 0 = 2) → K (.inl (some (vI 0))) e M')
    (hK : w.gJr.2.2.2.2 = 0 → 0 ≤ n → ∀ M', (∀ z, z < 6952 ∨ 7080 < z → M' z = M z) → RW M' ((w.sTp w.gTp).sTn (min w.gTn n)) → M' 6952 0 = 0 → K (.inl (some (vI (min w.gTn n)))) e M') : im_T g d 265 0 [some (.ref 6952), some (vI n)] [] e M K := by
  obtain ⟨⟨⟨t1, t2, t3⟩, _, _⟩, _, _, _, _, ⟨_, _, _, _, j4⟩, _⟩ := id h
  refine b_trim_0 hd ⟨hn, fun x3 h3 => c_may (by decide) (Or.inr rfl) (by omega) (Or.inr rfl) (fun x hx => ⟨_, rfl, rfl, by split <;> decide, fun h0 => ?_, fun x14 h14 => ?_⟩)⟩
  · have hx0 : x ≠ 0 := fun z => by rw [if_pos z] at h0; exact absurd h0 (by decide)
    rw [j4, if_neg (show ¬ (1 : Int) = 0 by decide), if_neg (show ¬ (1 : Int) = 0 by decide)] at hx
    refine hKt _ (fun z hz => im_u_ne _ _ _ (by omega)) (h.cd (cdf M x).1 (cdf M x).2) ?_
    rw [im_rds]
    by_cases c : w.gJr.2.2.2.2 ≠ 0
    · rw [if_pos c] at hx; exact Or.inl ⟨c, hx⟩
    · rw [if_neg c] at hx
      by_cases c3 : x3 = 0
      · rw [if_pos c3] at hx; exact Or.inr ⟨Decidable.not_not.mp c, by omega, hx⟩
      · rw [if_neg c3] at hx; exact absurd hx hx0
  · rw [j4, if_neg (show ¬ (1 : Int) = 0 by decide), if_neg (show ¬ (1 : Int) = 0 by decide)] at hx
    rw [im_rdk _ _ _ (by decide), t1] at h14
    have hx0 : x = 0 := by
      by_cases z : x = 0
      · exact z
      · rw [if_neg z] at h14; omega
    have hz : w.gJr.2.2.2.2 = 0 := by
      by_cases z : w.gJr.2.2.2.2 = 0
      · exact z
      · rw [if_pos z] at hx; omega
    rw [if_neg (Decidable.not_not.mpr hz)] at hx
    have hn0 : 0 ≤ n := by
      by_cases z : x3 = 0
      · rw [if_pos z] at hx; omega
      · omega
    have hmin : x14 = min w.gTn n := by omega
    rw [hmin]
    have W1 : RW (im_u M 6952 0 x) w := h.cd (cdf M x).1 (cdf M x).2
    refine ⟨by constructor <;> omega, hK hz hn0 _ (fun z hz' => by rw [im_u_ne _ _ _ (by omega), im_u_ne _ _ _ (by omega)]) (W1.tape (fun y a _ => im_u_ne _ _ _ a) (fun k hk => im_rdk _ _ _ hk.1) ⟨im_rds _ _ _ _, fun i i0 i1 => ?_, by omega, by omega⟩) (by rw [im_rdk _ _ _ (by decide), im_rds]; exact hx0)⟩
    rw [im_rdn _ _ _ _ (by decide), im_rdn _ _ _ _ (by decide)]
    exact t2 i i0 (by omega)
theorem c_R_fuse {b : Int} (h : RW M w) (hb : im_i32 b) (hd : 1 ≤ d)
    (hKt : ∀ M', (∀ z, z < 6952 ∨ 7080 < z → M' z = M z) → RW M' w → (w.gJr.2.2.2.2 ≠ 0 ∧ M' 6952 0 = 2) ∨ (w.gJr.2.2.2.2 = 0 ∧ b < -1 ∧ M' 6952 0 = 1) → K (.inl none) e M')
    (hK : w.gJr.2.2.2.2 = 0 → -1 ≤ b → ∀ M', (∀ z, z < 6952 ∨ 7080 < z → M' z = M z) → RW M' (fuW w b) → M' 6952 0 = 0 → K (.inl none) e M') : im_T g d 440 0 [some (.ref 6952), some (vI b)] [] e M K := by
  obtain ⟨_, _, _, _, _, ⟨j0, j1, j2, j3, j4⟩, _⟩ := id h
  refine b_fuse_0 hd ⟨hb, fun x3 h3 => c_may (by decide) (by omega) (Or.inr rfl) (Or.inr rfl) (fun x hx => ⟨_, rfl, rfl, by split <;> decide, fun h0 => ?_, fun h0 => ?_⟩)⟩
  · have hx0 : x ≠ 0 := fun z => by rw [if_pos z] at h0; exact absurd h0 (by decide)
    rw [j4, if_neg (show ¬ (1 : Int) = 0 by decide), if_neg (show ¬ (1 : Int) = 0 by decide)] at hx
    refine hKt _ (fun z hz => im_u_ne _ _ _ (by omega)) (h.cd (cdf M x).1 (cdf M x).2) ?_
    rw [im_rds]
    by_cases c : w.gJr.2.2.2.2 ≠ 0
    · rw [if_pos c] at hx; exact Or.inl ⟨c, hx⟩
    · rw [if_neg c] at hx
      by_cases c3 : x3 = 0
      · rw [if_pos c3] at hx; exact Or.inr ⟨Decidable.not_not.mp c, by omega, hx⟩
      · rw [if_neg c3] at hx; exact absurd hx hx0
  · have hx0 : x = 0 := by
      by_cases z : x = 0
      · exact z
      · rw [if_neg z] at h0; exact absurd rfl h0
    rw [j4, if_neg (show ¬ (1 : Int) = 0 by decide), if_neg (show ¬ (1 : Int) = 0 by decide)] at hx
    have hz : w.gJr.2.2.2.2 = 0 := by
      by_cases z : w.gJr.2.2.2.2 = 0
      · exact z
      · rw [if_pos z] at hx; omega
    rw [if_neg (Decidable.not_not.mpr hz)] at hx
    have hb1 : -1 ≤ b := by
      by_cases z : x3 = 0
      · rw [if_pos z] at hx; omega
      · omega
    have W1 : RW (im_u M 6952 0 x) w := h.cd (cdf M x).1 (cdf M x).2
    refine hK hz hb1 _ (fun z hz' => by rw [im_u_ne _ _ _ (by omega), im_u_ne _ _ _ (by omega)]) (W1.jr (fun y a _ => im_u_ne _ _ _ a) (fun k hk => im_rdk _ _ _ (by omega)) ⟨fun y a c => ?_, ?_, ?_, im_rds _ _ _ _, ?_⟩) (by rw [im_rdk _ _ _ (by decide), im_rds]; exact hx0)
    · rw [im_rdn _ _ _ _ (by decide), im_rdn _ _ _ _ (by decide)]; exact j0 y a c
    · rw [im_rdk _ _ _ (by decide), im_rdk _ _ _ (by decide)]; exact j1
    · rw [im_rdk _ _ _ (by decide), im_rdk _ _ _ (by decide)]; exact j2
    · rw [im_rdk _ _ _ (by decide), im_rdk _ _ _ (by decide)]; exact j4
theorem c_P_peek {i : Int} (h : CW M e w 0) (hi : im_i32 i) (hd : 1 ≤ d) (hKp : ¬ (0 ≤ i ∧ i < 16384) → K (.inr xP) (e ++ [im_ex]) M) (hK : 0 ≤ i ∧ i < 16384 → K (.inl (some (vI (w.gJr.1 i)))) e M) : im_T g d 252 0 [some (.ref 0), some (vI i)] [] e M K := by
  obtain ⟨_, _, _, _, _, ⟨j0, _⟩, _⟩ := id h
  refine k_P_peek_0 hd (k_P_needPlace_0 ⟨hi, fun h0 => ⟨by decide, fun h1 => Or.inl ⟨rfl, rfl, ⟨h0, h1⟩, ?_⟩⟩, fun hh => Or.inr ⟨_, rfl, hKp (by omega)⟩⟩)
  have hj := j0 i h0 h1
  rw [xiand_255, show M 2069 i % 256 = w.gJr.1 i from by omega]
  exact hK ⟨h0, h1⟩
theorem c_R_peek {i : Int} (h : RW M w) (hi : im_i32 i) (hd : 1 ≤ d) (hKp : ¬ (0 ≤ i ∧ i < 16384) → ∀ M', (∀ z, z < 6952 ∨ 7080 < z → M' z = M z) → RW M' w → M' 6952 0 = 1 → K (.inl (some (vI 0))) e M') (hK : 0 ≤ i ∧ i < 16384 → ∀ M', (∀ z, z < 6952 ∨ 7080 < z → M' z = M z) → RW M' w → M' 6952 0 = 0 → K (.inl (some (vI (w.gJr.1 i)))) e M') : im_T g d 441 0 [some (.ref 6952), some (vI i)] [] e M K := by
  obtain ⟨_, _, _, _, _, ⟨j0, _⟩, _⟩ := id h
  refine b_peek_0 hd ⟨hi, c_isIn (by constructor <;> omega) (by decide) (by decide) (fun hI => ⟨_, rfl, rfl, by decide, fun x6 h6 => ⟨fun _ => ⟨hI.1, by omega⟩, fun x14 h14 => ?_⟩⟩) (fun hI => ⟨_, rfl, rfl, by decide, fun x6 h6 => ⟨fun z => by omega, fun x14 h14 => ?_⟩⟩)⟩
  · have e6 : x6 = 0 := by omega
    rw [e6] at h14 ⊢
    have : x14 = w.gJr.1 i := by have := j0 i hI.1 (by omega); omega
    rw [this]
    exact hK ⟨hI.1, by omega⟩ _ (fun z hz => im_u_ne _ _ _ (by omega)) (h.cd (cdf M 0).1 (cdf M 0).2) (im_rds _ _ _ _)
  · have e6 : x6 = 1 := by omega
    rw [e6] at h14 ⊢
    have : x14 = 0 := by omega
    rw [this]
    exact hKp (by omega) _ (fun z hz => im_u_ne _ _ _ (by omega)) (h.cd (cdf M 1).1 (cdf M 1).2) (im_rds _ _ _ _)
end SMALL2
