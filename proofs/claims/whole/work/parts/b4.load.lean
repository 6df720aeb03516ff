/-! a number of the class's digits is taken -/
theorem S126_0 {g : im_g} : im_D g 126 0 (.iload_n 0) 1 := im_D.of (by decide +kernel)
theorem S126_1 {g : im_g} : im_D g 126 1 (.iload_n 1) 2 := im_D.of (by decide +kernel)
theorem S126_2 {g : im_g} : im_D g 126 2 (.if_icmp .ge 7) 5 := im_D.of (by decide +kernel)
theorem S126_5 {g : im_g} : im_D g 126 5 (.iconst (-1)) 6 := im_D.of (by decide +kernel)
theorem S126_6 {g : im_g} : im_D g 126 6 (.goto 13) 9 := im_D.of (by decide +kernel)
theorem S126_9 {g : im_g} : im_D g 126 9 (.iload_n 0) 10 := im_D.of (by decide +kernel)
theorem S126_10 {g : im_g} : im_D g 126 10 (.iload_n 1) 11 := im_D.of (by decide +kernel)
theorem S126_11 {g : im_g} : im_D g 126 11 (.if_icmp .ne 7) 14 := im_D.of (by decide +kernel)
theorem S126_14 {g : im_g} : im_D g 126 14 (.iconst 0) 15 := im_D.of (by decide +kernel)
theorem S126_15 {g : im_g} : im_D g 126 15 (.goto 4) 18 := im_D.of (by decide +kernel)
theorem S126_18 {g : im_g} : im_D g 126 18 (.iconst 1) 19 := im_D.of (by decide +kernel)
theorem S126_19 {g : im_g} : im_D g 126 19 .ireturn 20 := im_D.of (by decide +kernel)
section LOAD
variable {g : im_g} {d : Nat} {e : im_E} {M M0 : im_M} {K : im_K}
theorem c_icmp {x y : Int} (hx : im_i32 x) (hy : im_i32 y) (hK : K (.inl (some (vI (cmpI x y)))) e M) : im_T g d 126 0 [some (vI x), some (vI y)] [] e M K := by
  refine im_ld (q := 1) (i := 0) (v := vI x) S126_0 rfl rfl rfl ?_
  refine im_ld (q := 2) (i := 1) (v := vI y) S126_1 rfl rfl rfl ?_
  refine im_icmp (q := 5) (t := 9) S126_2 rfl hx hy (fun h => ?_) (fun h => ?_)
  · have h : y ≤ x := h
    refine im_ld (q := 10) (i := 0) (v := vI x) S126_9 rfl rfl rfl ?_
    refine im_ld (q := 11) (i := 1) (v := vI y) S126_10 rfl rfl rfl ?_
    refine im_icmp (q := 14) (t := 18) S126_11 rfl hx hy (fun h2 => ?_) (fun h2 => ?_)
    · have h2 : x ≠ y := h2
      refine im_iconst (q := 19) S126_18 ?_
      refine im_iret (q := 20) S126_19 rfl ?_
      unfold cmpI at hK
      rw [if_neg (by omega), if_neg h2] at hK
      exact hK
    · have h2 : ¬ x ≠ y := h2
      refine im_iconst (q := 15) S126_14 ?_
      refine im_goto (q := 18) (t := 19) S126_15 rfl ?_
      refine im_iret (q := 20) S126_19 rfl ?_
      unfold cmpI at hK
      rw [if_neg (by omega), if_pos (by omega)] at hK
      exact hK
  · have h : ¬ y ≤ x := h
    refine im_iconst (q := 6) S126_5 ?_
    refine im_goto (q := 9) (t := 19) S126_6 rfl ?_
    refine im_iret (q := 20) S126_19 rfl ?_
    unfold cmpI at hK
    rw [if_pos (by omega)] at hK
    exact hK
theorem l_load {q n : Nat} {p : Int} (hq : im_num e q) (hn : M0 q 1 = n) (hn34 : n ≤ 34) (hp0 : 0 ≤ p) (hp : p + 1 + n ≤ 32836)
    (hK : ∀ M', (∀ x, x ≠ q + 1 → M' x = M0 x) → (∀ i : Int, 0 ≤ i → i < n → M' (q + 1) i = M0 22 (p + 1 + i)) → K (.inl (some (vI (p + 1 + n)))) e M') :
    ∀ (j k : Nat) (M : im_M), k + j = n → (∀ x, x ≠ q + 1 → M x = M0 x) → (∀ i : Int, 0 ≤ i → i < k → M (q + 1) i = M0 22 (p + 1 + i)) → im_T g d 125 53 [some (.ref 13), some (vI p), some (.ref q), some (vI k)] [] e M K := by
  have h22 := nm_22 hq
  intro j
  induction j with
  | zero =>
    intro k M hk hF hc
    obtain rfl : k = n := by omega
    have q1 : M q 1 = k := by rw [hF q (by omega)]; exact hn
    refine k_Pool_load_53 hq ?_
    rw [q1]
    exact ⟨by constructor <;> omega, fun z => absurd z (by omega), fun _ => hK M hF hc⟩
  | succ j ih =>
    intro k M hk hF hc
    have q1 : M q 1 = n := by rw [hF q (by omega)]; exact hn
    have q2 : M 22 = M0 22 := hF _ (fun z => h22.2 z.symm)
    refine k_Pool_load_53 hq ?_
    rw [q1, q2]
    refine ⟨by constructor <;> omega, fun _ => ⟨by constructor <;> omega, fun _ => ⟨by constructor <;> omega, by constructor <;> omega, ?_⟩⟩, fun z => by omega⟩
    refine ih (k + 1) _ (by omega) (fun x hx => (im_u_ne _ _ _ hx).trans (hF x hx)) (fun i i0 i1 => ?_)
    by_cases hi : i = k
    · subst hi; rw [im_rds]
    · rw [im_rdk _ _ _ (by omega)]; exact hc i i0 (by omega)
theorem c_load {q : Nat} {p v p' : Int} (hq : im_num e q) (h : dgs M p v p') (hd : 1 ≤ d) (hK : ∀ M', NF q M M' → cn M' q v → K (.inl (some (vI p'))) e M') : im_T g d 125 0 [some (.ref 13), some (vI p), some (.ref q), none] [] e M K := by
  have h22 := nm_22 hq
  obtain ⟨k, h1, h2, h3, h4, h5, h7, h8, h9⟩ := h
  refine k_Pool_load_0 hq hd (c_clear hq (fun M1 hF hc => ⟨rfl, rfl, ?_⟩))
  have e22 : M1 22 = M 22 := hF 22 (fun z => h22.1 z.symm)
  rw [e22]
  have hab : (if 0 ≤ M 22 p then M 22 p else -(M 22 p)) = k := by
    by_cases c : 0 ≤ M 22 p
    · rw [if_pos c]; omega
    · rw [if_neg c]; omega
  rw [hab, show min (k : Int) 34 = k by omega]
  refine ⟨by constructor <;> omega, fun _ _ => ⟨by constructor <;> omega, by constructor <;> omega, ?_⟩, fun z => by omega⟩
  rw [im_rdn _ _ _ _ (fun z => h22.1 z.symm), e22]
  refine c_icmp (by constructor <;> omega) (by decide) ⟨_, rfl, rfl, ?_⟩
  have hcm : cmpI (M 22 p) 0 = sg (M 22 p) := rfl
  have hs3 : sg (M 22 p) = 0 ∧ k = 0 ∨ (sg (M 22 p) = 1 ∨ sg (M 22 p) = -1) ∧ 0 < k := by
    unfold sg
    rcases h7 with ⟨z1, z2⟩ | ⟨z1, z2⟩
    · rw [if_neg (by omega), if_pos z1]; exact Or.inl ⟨rfl, z2⟩
    · refine Or.inr ⟨?_, z2⟩
      by_cases c : M 22 p < 0
      · rw [if_pos c]; exact Or.inr rfl
      · rw [if_neg c, if_neg (by omega)]; exact Or.inl rfl
  rw [hcm]
  refine ⟨by constructor <;> omega, ?_⟩
  refine l_load (M0 := im_u (im_u M1 q 1 k) q 0 (sg (M 22 p))) (n := k) hq (by rw [im_rdk _ _ _ (by decide), im_rds]) h1 h2 (by omega) (fun M' hF' hc' => ?_) k 0 _ (by omega) (fun _ _ => rfl) (fun i i0 i1 => by omega)
  have e0 : M' q 0 = sg (M 22 p) := by rw [hF' q (by omega), im_rds]
  have e1 : M' q 1 = k := by rw [hF' q (by omega), im_rdk _ _ _ (by decide), im_rds]
  have hcs : ∀ i : Int, 0 ≤ i → i < k → M 22 (p + 1 + i) = M' (q + 1) (0 + i) := fun i i0 i1 => by
    rw [Int.zero_add, hc' i i0 i1, im_u_ne _ _ _ (fun z => h22.1 z.symm), im_u_ne _ _ _ (fun z => h22.1 z.symm), e22]
  have hk := hK M' (fun x x1 x2 => by rw [hF' x x2, im_u_ne _ _ _ x1, im_u_ne _ _ _ x1]; exact hF x x1) ⟨k, e1, h1, ⟨dok_congr hcs h5.1, fun hn => ?_⟩, by rw [e0]; exact hs3, by rw [e0, ← dv_congr hcs]; exact h8, h9⟩
  · rw [h3] at hk; exact hk
  · rw [← hcs _ (by omega) (by omega)]; exact h5.2 hn
end LOAD
