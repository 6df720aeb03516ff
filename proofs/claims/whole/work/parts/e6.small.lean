/-! THE SHORT CALLS of both sides -/
section SMALLC
variable {g : im_g} {d : Nat} {e : im_E} {M : im_M} {K : im_K} {w : Wd}
theorem c_P_fault {p : Int} (h : CW M e w 0) (hp : im_i32 p) (hK : K (.inl (some (vI (if p = 0 then w.gFc else w.gFp)))) e M) : im_T g d 19 0 [some (.ref 0), some (vI p)] [] e M K := by
  obtain ⟨⟨_, _, ⟨f1, f2⟩, _⟩, _⟩ := h
  refine k_P_fault_0 ⟨hp, fun x hx => ?_⟩
  rw [f1, f2] at hx
  have : x = if p = 0 then w.gFc else w.gFp := by split <;> omega
  rw [this]; exact hK
theorem c_P_size (h : CW M e w 0) (hd : 1 ≤ d) (hd0 : w.gJr.2.2.2.2 ≠ 0 → K (.inr xS) (e ++ [im_ex]) M) (hK : w.gJr.2.2.2.2 = 0 → K (.inl (some (vI w.gOn))) e M) : im_T g d 157 0 [some (.ref 0)] [] e M K := by
  have ho := h.1.2.1.1
  refine k_P_size_0 hd (c_needPower h hd0 (fun hz => ⟨rfl, ?_⟩))
  rw [ho]; exact hK hz
theorem c_P_wallets (h : CW M e w 0) (hd : 1 ≤ d) (hd0 : w.gJr.2.2.2.2 ≠ 0 → K (.inr xS) (e ++ [im_ex]) M) (hK : w.gJr.2.2.2.2 = 0 → K (.inl (some (vI w.gWa.1))) e M) : im_T g d 235 0 [some (.ref 0)] [] e M K := by
  have hw : M 76 4 = w.gWa.1 := by obtain ⟨π, ⟨q, _⟩, _⟩ := h.2.2.1.2.1; exact q
  refine k_P_wallets_0 hd (c_needPower h hd0 (fun hz => ⟨rfl, ?_⟩))
  rw [hw]; exact hK hz
theorem c_P_tries (h : CW M e w 0) (hd : 1 ≤ d) (hd0 : w.gJr.2.2.2.2 ≠ 0 → K (.inr xS) (e ++ [im_ex]) M) (hK : w.gJr.2.2.2.2 = 0 → K (.inl (some (vI w.gMd))) e M) : im_T g d 248 0 [some (.ref 0)] [] e M K := by
  have hw := h.2.2.2.2.1.1
  refine k_P_tries_0 hd (c_needPower h hd0 (fun hz => ⟨rfl, ?_⟩))
  rw [hw]; exact hK hz
def fuW (w : Wd) (b : Int) : Wd := w.sJr (w.gJr.1, w.gJr.2.1, w.gJr.2.2.1, b, w.gJr.2.2.2.2)
def cuW (w : Wd) : Wd := w.sJr (w.gJr.1, w.gJr.2.1, w.gJr.2.2.1, w.gJr.2.2.2.1, 1)
theorem c_P_fuse {b : Int} (h : CW M e w 0) (hb : im_i32 b) (hd : 1 ≤ d) (hd0 : w.gJr.2.2.2.2 ≠ 0 → K (.inr xS) (e ++ [im_ex]) M) (hKa : w.gJr.2.2.2.2 = 0 → b < -1 → K (.inr xA) (e ++ [im_ex]) M) (hK : w.gJr.2.2.2.2 = 0 → -1 ≤ b → ∀ M', (∀ x, 6952 ≤ x → M' x = M x) → CW M' e (fuW w b) 0 → K (.inl none) e M') : im_T g d 250 0 [some (.ref 0), some (vI b)] [] e M K := by
  obtain ⟨_, _, _, _, _, ⟨j0, j1, j2, j3, j4⟩, _⟩ := id h
  refine k_P_fuse_0 hd (c_needPower h hd0 (fun hz => ⟨rfl, hb, fun x hx => k_P_needArgument_0 ⟨by constructor <;> omega, fun hne => Or.inl ⟨rfl, rfl, ?_⟩, fun he => Or.inr ⟨_, rfl, hKa hz (by omega)⟩⟩⟩))
  refine hK hz (by omega) _ (fun x hx => im_u_ne _ _ _ (by omega)) (h.jr (fun x hx => im_u_ne _ _ _ (by omega)) ⟨?_, ?_, ?_, im_rds _ _ _ _, ?_⟩)
  · rw [im_u_ne _ _ _ (by decide)]; exact j0
  · rw [im_rdk _ _ _ (by decide)]; exact j1
  · rw [im_rdk _ _ _ (by decide)]; exact j2
  · rw [im_rdk _ _ _ (by decide)]; exact j4
theorem c_P_cut (h : CW M e w 0) (hd : 1 ≤ d) (hd0 : w.gJr.2.2.2.2 ≠ 0 → K (.inr xS) (e ++ [im_ex]) M) (hK : w.gJr.2.2.2.2 = 0 → ∀ M', (∀ x, 6952 ≤ x → M' x = M x) → CW M' e (cuW w) 0 → K (.inl none) e M') : im_T g d 256 0 [some (.ref 0)] [] e M K := by
  obtain ⟨_, _, _, _, _, ⟨j0, j1, j2, j3, j4⟩, _⟩ := id h
  refine k_P_cut_0 hd (c_needPower h hd0 (fun hz => ⟨rfl, ?_⟩))
  refine hK hz _ (fun x hx => im_u_ne _ _ _ (by omega)) (h.jr (fun x hx => im_u_ne _ _ _ (by omega)) ⟨?_, ?_, ?_, ?_, im_rds _ _ _ _⟩)
  · rw [im_u_ne _ _ _ (by decide)]; exact j0
  · rw [im_rdk _ _ _ (by decide)]; exact j1
  · rw [im_rdk _ _ _ (by decide)]; exact j2
  · rw [im_rdk _ _ _ (by decide)]; exact j3
theorem c_P_trim {n : Int} (h : CW M e w 0) (hn : im_i32 n) (hd : 1 ≤ d) (hd0 : w.gJr.2.2.2.2 ≠ 0 → K (.inr xS) (e ++ [im_ex]) M) (hKa : w.gJr.2.2.2.2 = 0 → n < 0 → K (.inr xA) (e ++ [im_ex]) M) (hK : w.gJr.2.2.2.2 = 0 → 0 ≤ n → ∀ M', (∀ x, 6952 ≤ x → M' x = M x) → CW M' e ((w.sTp w.gTp).sTn (min w.gTn n)) 0 → K (.inl (some (vI (min w.gTn n)))) e M') : im_T g d 155 0 [some (.ref 0), some (vI n)] [] e M K := by
  obtain ⟨⟨⟨t1, t2, t3⟩, _⟩, _, _, _, _, _, _, a1⟩ := id h
  refine k_P_trim_0 hd (c_needPower h hd0 (fun hz => ⟨rfl, hn, fun h0 => ?_, fun h0 => hKa hz h0⟩))
  rw [t1]
  refine hK hz h0 _ (fun x hx => im_u_ne _ _ _ (by omega)) (h.tape (fun x a b => im_u_ne _ _ _ a) ⟨im_rds _ _ _ _, ?_, by omega, by omega⟩ (by rw [im_rdk _ _ _ (by decide)]; exact a1))
  rw [im_u_ne _ _ _ (by decide)]
  exact fun i i0 i1 => t2 i i0 (by omega)
/-- the reference: one number is told -/
theorem c_R_tell {y : Int} (h : RW M w) (hK : ∀ x M', (∀ z, z < 6952 ∨ 7080 < z → M' z = M z) → RW M' w → M' 6952 0 = (if w.gJr.2.2.2.2 ≠ 0 then 1 else 0) → (∀ k, k ≠ 0 → M' 6952 k = M 6952 k) → (x = if w.gJr.2.2.2.2 ≠ 0 then 0 else 1) → K (.inl (some (vI x))) e M') : im_T g d 264 0 [some (.ref 6952), some (vI 1), some (vI 1), some (vI 1), some (vI 1)] [] e M K := by
  obtain ⟨_, _, _, _, _, ⟨_, _, _, _, j4⟩, _⟩ := id h
  refine c_may (by decide) (Or.inr rfl) (Or.inr rfl) (Or.inr rfl) (fun x hx => ?_)
  rw [j4, if_neg (show ¬ (1 : Int) = 0 by decide), if_neg (show ¬ (1 : Int) = 0 by decide), if_neg (show ¬ (1 : Int) = 0 by decide)] at hx
  refine hK _ _ (fun z hz => im_u_ne _ _ _ (by omega)) (h.cd (cdf M x).1 (cdf M x).2) (by rw [im_rds]; exact hx) (fun k hk => im_rdk _ _ _ hk) ?_
  rw [hx]
  by_cases c : w.gJr.2.2.2.2 ≠ 0
  · rw [if_pos c, if_pos c]; rfl
  · rw [if_neg c, if_neg c]; rfl
theorem c_R_size (h : RW M w) (hd : 1 ≤ d) (hK : ∀ M' v, (∀ z, z < 6952 ∨ 7080 < z → M' z = M z) → RW M' w → M' 6952 0 = (if w.gJr.2.2.2.2 ≠ 0 then 1 else 0) → (w.gJr.2.2.2.2 = 0 → v = w.gOn) → K (.inl (some (vI v))) e M') : im_T g d 266 0 [some (.ref 6952)] [] e M K := by
  refine b_size_0 hd (c_R_tell (y := 0) h (fun x M1 f W c0 fk hx => ⟨_, rfl, rfl, by rw [hx]; split <;> decide, fun v hv => hK M1 v f W c0 (fun z => ?_)⟩))
  rw [hx, if_neg (Decidable.not_not.mpr z)] at hv
  have := W.1.2.1.1
  omega
theorem c_R_wallets (h : RW M w) (hd : 1 ≤ d) (hK : ∀ M' (v : Int), (∀ z, z < 6952 ∨ 7080 < z → M' z = M z) → RW M' w → M' 6952 0 = (if w.gJr.2.2.2.2 ≠ 0 then 1 else 0) → (w.gJr.2.2.2.2 = 0 → v = w.gWa.1) → K (.inl (some (vI v))) e M') : im_T g d 427 0 [some (.ref 6952)] [] e M K := by
  refine b_wallets_0 hd (c_R_tell (y := 0) h (fun x M1 f W c0 fk hx => ⟨_, rfl, rfl, by rw [hx]; split <;> decide, fun v hv => hK M1 v f W c0 (fun z => ?_)⟩))
  rw [hx, if_neg (Decidable.not_not.mpr z)] at hv
  have := W.2.2.1.2.1.1
  omega
theorem c_R_tries (h : RW M w) (hd : 1 ≤ d) (hK : ∀ M' v, (∀ z, z < 6952 ∨ 7080 < z → M' z = M z) → RW M' w → M' 6952 0 = (if w.gJr.2.2.2.2 ≠ 0 then 1 else 0) → (w.gJr.2.2.2.2 = 0 → v = w.gMd) → K (.inl (some (vI v))) e M') : im_T g d 439 0 [some (.ref 6952)] [] e M K := by
  refine b_tries_0 hd (c_R_tell (y := 0) h (fun x M1 f W c0 fk hx => ⟨_, rfl, rfl, by rw [hx]; split <;> decide, fun v hv => hK M1 v f W c0 (fun z => ?_)⟩))
  rw [hx, if_neg (Decidable.not_not.mpr z)] at hv
  have := W.2.2.2.2.1
  omega
theorem c_R_cut (h : RW M w) (hd : 1 ≤ d) (hKd : w.gJr.2.2.2.2 ≠ 0 → ∀ M', (∀ z, z < 6952 ∨ 7080 < z → M' z = M z) → RW M' w → M' 6952 0 = 1 → K (.inl none) e M') (hK : w.gJr.2.2.2.2 = 0 → ∀ M', (∀ z, z < 6952 ∨ 7080 < z → M' z = M z) → RW M' (cuW w) → M' 6952 0 = 0 → K (.inl none) e M') : im_T g d 443 0 [some (.ref 6952)] [] e M K := by
  refine b_cut_0 hd (c_R_tell (y := 0) h (fun x M1 f W c0 fk hx => ⟨_, rfl, rfl, by rw [hx]; split <;> decide, fun h0 => ?_, fun h0 => ?_⟩))
  · have hz : w.gJr.2.2.2.2 ≠ 0 := fun z => by rw [hx, if_neg (Decidable.not_not.mpr z)] at h0; exact absurd h0 (by decide)
    rw [if_pos hz] at c0
    exact hKd hz M1 f W c0
  · have hz : w.gJr.2.2.2.2 = 0 := by
      by_cases z : w.gJr.2.2.2.2 = 0
      · exact z
      · rw [hx, if_pos z] at h0; exact absurd rfl h0
    rw [if_neg (Decidable.not_not.mpr hz)] at c0
    obtain ⟨_, _, _, _, _, ⟨j0, j1, j2, j3, j4⟩, _⟩ := id W
    refine hK hz _ (fun z hz' => by rw [im_u_ne _ _ _ (by omega)]; exact f z hz') (W.jr (fun x a b => im_u_ne _ _ _ a) (fun k hk => im_rdk _ _ _ (by omega)) ⟨fun x a b => ?_, ?_, ?_, ?_, im_rds _ _ _ _⟩) ?_
    · rw [im_rdn _ _ _ _ (by decide)]; exact j0 x a b
    · rw [im_rdk _ _ _ (by decide)]; exact j1
    · rw [im_rdk _ _ _ (by decide)]; exact j2
    · rw [im_rdk _ _ _ (by decide)]; exact j3
    · rw [im_rdk _ _ _ (by decide)]; exact c0
theorem c_R_fault {p : Int} (h : RW M w) (hp : im_i32 p) (hK : ∀ M', (∀ z, z < 6952 ∨ 7080 < z → M' z = M z) → RW M' w → M' 6952 0 = 0 → K (.inl (some (vI (if p = 0 then w.gFc else w.gFp)))) e M') : im_T g d 313 0 [some (.ref 6952), some (vI p)] [] e M K := by
  obtain ⟨⟨_, _, ⟨f1, f2⟩⟩, _⟩ := id h
  refine b_fault_0 ⟨hp, fun x hx => ?_⟩
  rw [f1, f2] at hx
  have : x = if p = 0 then w.gFc else w.gFp := by split <;> omega
  rw [this]
  exact hK _ (fun z hz => im_u_ne _ _ _ (by omega)) (h.cd (cdf M 0).1 (cdf M 0).2) (im_rds _ _ _ _)
end SMALLC
