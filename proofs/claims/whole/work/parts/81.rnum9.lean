section RNUM10
variable {g : im_g} {d : Nat} {e : im_E} {M M0 : im_M} {K : im_K}
theorem c_placeAt {j W V : Int} {m : Nat} (hm1 : 1 ≤ m) (hj : 0 ≤ j) (hjm : j + m < 72) (hU : dok 1000000000 (M 6956) j (m + 1)) (hL : dok 1000000000 (M 6957) 0 m) (hhalf : 1000000000 ≤ 2 * M 6957 ((m : Int) - 1))
    (hWe : dv 1000000000 (M 6956) j (m + 1) = W) (hVe : dv 1000000000 (M 6957) 0 m = V) (hWV : W < 1000000000 * V) (hd : 2 ≤ d)
    (hK : ∀ (M' : im_M) (q : Int), (∀ b, b ≠ 6956 → M' b = M b) → (∀ i, i < j ∨ j + m < i → M' 6956 i = M 6956 i) → dok 1000000000 (M' 6956) j (m + 1) → 0 ≤ q → q < 1000000000 → dv 1000000000 (M' 6956) j (m + 1) = W - q * V → W - q * V < V → K (.inl (some (vL q))) e M') :
    im_T g d 400 0 [some (.ref 6952), some (vI j), some (vI m), none, none, none, none, none, none] [] e M K := by
  generalize hv1 : M 6957 ((m : Int) - 1) = v1 at hhalf
  generalize htwo : M 6956 (j + m) * 1000000000 + M 6956 (j + m - 1) = two
  have hl1 := hL ((m : Int) - 1) (by omega) (by omega)
  have hu1 := hU m (by omega) (by omega)
  have hu2 := hU ((m : Int) - 1) (by omega) (by omega)
  rw [Int.zero_add, hv1] at hl1
  rw [show j + ((m : Int) - 1) = j + m - 1 from by omega] at hu2
  obtain ⟨k, rfl⟩ : ∃ k, m = k + 1 := ⟨m - 1, by omega⟩
  have hVd := dv_succ 1000000000 (M 6957) 0 k
  have hWd := dv_add 1000000000 (M 6956) j k 2
  rw [hVe, Int.zero_add, show (k : Int) = ((k + 1 : Nat) : Int) - 1 from by omega, hv1] at hVd
  rw [hWe, dv_two] at hWd
  have htw2 : M 6956 (j + k) + M 6956 (j + k + 1) * 1000000000 = two := by
    rw [← htwo, show j + ((k + 1 : Nat) : Int) = j + k + 1 from by omega, show j + (k : Int) + 1 - 1 = j + k from by omega]; omega
  rw [htw2] at hWd
  have b1 := dv_bd (B := 1000000000) (by decide) (hL.le (k := k) (by omega))
  have b2 := dv_bd (B := 1000000000) (by decide) (hU.le (k := k) (by omega))
  have hp := bpow_pos (B := 1000000000) (by decide) k
  have hVq : V = v1 * 1000000000 ^ k + dv 1000000000 (M 6957) 0 k := by rw [hVd]; omega
  have hWq : W = two * 1000000000 ^ k + dv 1000000000 (M 6956) j k := by rw [hWd, Int.mul_comm]; omega
  have htw : two < (v1 + 1) * 1000000000 := by
    apply Decidable.byContradiction
    intro z
    have h1 : (v1 + 1) * 1000000000 * 1000000000 ^ k ≤ two * 1000000000 ^ k := Int.mul_le_mul_of_nonneg_right (by omega) (by omega)
    have h2 : (v1 + 1) * 1000000000 * 1000000000 ^ k = 1000000000 * (v1 * 1000000000 ^ k) + 1000000000 * 1000000000 ^ k := by
      rw [Int.mul_comm (v1 + 1), Int.mul_assoc, Int.add_mul, Int.one_mul, Int.mul_add]
    omega
  have hq1 : two / v1 ≤ 1000000001 := by
    have : two / v1 < 1000000002 := (Int.ediv_lt_iff_lt_mul (by omega)).mpr (by omega)
    omega
  have hmod := Int.emod_nonneg two (show v1 ≠ 0 by omega)
  have hmod2 := Int.emod_lt_of_pos two (show 0 < v1 by omega)
  refine b_placeAt_0 ?_
  rw [htwo, hv1]
  refine ⟨by constructor <;> omega, by constructor <;> omega, by constructor <;> omega, by constructor <;> omega, by omega, by omega, ?_⟩
  rw [Int.tdiv_eq_ediv_of_nonneg (by omega), Int.tmod_eq_emod_of_nonneg (by omega)]
  refine l_placeAt (two := two) (W := W) (V := V) (v1 := v1) hm1 hj hjm hU hL hv1 hhalf hWe hVe hWV htwo.symm hd hK 1000000000 (two / v1) (two % v1) (by omega) (Int.ediv_nonneg (by omega) (by omega)) hq1 hmod (by omega) ?_ (Or.inr (by omega)) ?_
  · have := Int.mul_ediv_add_emod two v1
    rw [Int.mul_comm]; omega
  · intro q' q0 hq'
    exact (Int.le_ediv_iff_mul_le (by omega)).mpr (kn_le (B := 1000000000) hp hVq hWq b1.1 b2.2 q0 hq')
theorem dv_app (B : Int) (f : Int → Int) (n k : Nat) : dv B f 0 (n + k) = dv B f 0 n + B ^ n * dv B f n k := by
  have := dv_add B f 0 n k
  rwa [Int.zero_add] at this
/-- the quotient's places, from the highest on -/
theorem l_by {a b r A V : Int} {n m many : Nat} (hm1 : 1 ≤ m) (hn : n < 71) (hmn : many = 0 ∨ many + m = n + 1) (hL : dok 1000000000 (M0 6957) 0 m) (hhalf : 1000000000 ≤ 2 * M0 6957 ((m : Int) - 1)) (hVe : dv 1000000000 (M0 6957) 0 m = V) (hd : 3 ≤ d)
    (hK : ∀ (M : im_M), (∀ w, w ≠ 6956 → w ≠ 6958 → M w = M0 w) → dok 1000000000 (M 6958) 0 many → (many = 0 ∨ (∃ R, 0 ≤ R ∧ R < V ∧ A = dv 1000000000 (M 6958) 0 many * V + R)) → im_T g (d - 1) 397 0 [some (.ref 6952), some (vI r), some (vI many), none] [] e M (im_r0 (fun e_ M3 => e = e_ ∧ (0 ≤ a ∧ a < 1100000) ∧ (0 ≤ b ∧ b < 1100000) ∧ im_T g (d - 1) 292 0 [some (.ref 6952), some (vI r), some (vI (9 * many)), some (vI ((M3 6955 a) * (M3 6955 b))), none] [] e M3 (im_ri (fun x9 e_ M8 => e = e_ ∧ K (.inl (some (vI x9))) e M8))))) :
    ∀ (j : Nat) (M : im_M), j ≤ many → (∀ w, w ≠ 6956 → w ≠ 6958 → M w = M0 w) → dok 1000000000 (M 6956) 0 (n + 1) → dok 1000000000 (M 6958) j (many - j) → (many = 0 ∨ (A = dv 1000000000 (M 6958) j (many - j) * V * 1000000000 ^ j + dv 1000000000 (M 6956) 0 (j + m) ∧ dv 1000000000 (M 6956) j m < V)) → im_T g d 398 103 [some (.ref 6952), some (vI a), some (vI b), none, some (vI m), none, none, some (vI r), some (vI many), some (vI ((j : Int) - 1))] [] e M K := by
  intro j
  induction j with
  | zero =>
    intro M hj hF hU hQ hI
    refine b_by_103 (by omega) ⟨by constructor <;> omega, fun _ => hK M hF hQ ?_, fun z => absurd z (by omega)⟩
    rcases hmn with y | y
    · exact Or.inl y
    · rcases hI with z | ⟨h1, h2⟩
      · exact Or.inl z
      · refine Or.inr ⟨dv 1000000000 (M 6956) 0 m, dv_pos (by decide) (hU.le (by omega)), h2, ?_⟩
        rw [Nat.zero_add, Int.pow_zero, Int.mul_one, Nat.sub_zero] at h1
        exact h1
  | succ j ih =>
    intro M hj hF hU hQ hI
    have hmn : many + m = n + 1 := by omega
    obtain ⟨h1, h2⟩ : A = dv 1000000000 (M 6958) ((j + 1 : Nat) : Int) (many - (j + 1)) * V * 1000000000 ^ (j + 1) + dv 1000000000 (M 6956) 0 (j + 1 + m) ∧ dv 1000000000 (M 6956) ((j + 1 : Nat) : Int) m < V := by
      rcases hI with z | z
      · omega
      · exact z
    rw [show ((j + 1 : Nat) : Int) - 1 = (j : Int) from by omega]
    have e57 : M 6957 = M0 6957 := hF _ (by decide) (by decide)
    have hUw : dok 1000000000 (M 6956) j (m + 1) := hU.at j (m + 1) (by omega) (by omega)
    have hu0 := hUw 0 (by decide) (by omega)
    rw [Int.add_zero] at hu0
    have hWc := dv_cons 1000000000 (M 6956) j m
    rw [show (j : Int) + 1 = ((j + 1 : Nat) : Int) from by omega] at hWc
    refine b_by_103 (by omega) ⟨by constructor <;> omega, fun z => absurd z (by omega), fun _ => ?_⟩
    refine c_placeAt (W := dv 1000000000 (M 6956) j (m + 1)) (V := V) hm1 (by omega) (by omega) hUw (by rw [e57]; exact hL) (by rw [e57]; exact hhalf) rfl (by rw [e57]; exact hVe) (by omega) (by omega) (fun M1 q hF1 hs1 hd1 q0 q1 hv1 hlt => ⟨_, rfl, rfl, by constructor <;> omega, by constructor <;> omega, ?_⟩)
    have e58 : M1 6958 = M 6958 := hF1 _ (by decide)
    have e1 : im_u M1 6958 (j : Int) q 6958 = im_up (M 6958) (j : Int) q := by rw [im_u_eq, e58]
    have e2 : im_u M1 6958 (j : Int) q 6956 = M1 6956 := im_u_ne _ _ _ (by decide)
    have hsub : many - j = (many - (j + 1)) + 1 := by omega
    -- the window's highest place is 0 now
    have hVb := dv_bd (B := 1000000000) (by decide) hL
    rw [hVe] at hVb
    have htop : M1 6956 (j + m) = 0 := by
      have h5 := dv_succ 1000000000 (M1 6956) j m
      have h6 := dv_pos (B := 1000000000) (by decide) (hd1.le (k := m) (by omega))
      have h7 := hd1 m (by omega) (by omega)
      apply Decidable.byContradiction
      intro z
      have h8 : 1 * 1000000000 ^ m ≤ M1 6956 (j + m) * 1000000000 ^ m := Int.mul_le_mul_of_nonneg_right (by omega) (Int.le_of_lt (bpow_pos (by decide) m))
      omega
    have hwin : dv 1000000000 (M1 6956) j m = dv 1000000000 (M1 6956) j (m + 1) := by
      rw [dv_succ, htop, Int.zero_mul, Int.add_zero]
    refine ih _ (by omega) (fun w h h' => (im_u_ne _ _ _ h').trans ((hF1 w h).trans (hF w h h'))) ?_ ?_ (Or.inr ⟨?_, ?_⟩)
    · rw [e2]
      intro i i0 i1
      rw [Int.zero_add]
      by_cases hi : i < j ∨ (j : Int) + m < i
      · rw [hs1 i hi]
        have := hU i i0 i1
        rwa [Int.zero_add] at this
      · have := hd1 (i - j) (by omega) (by omega)
        rwa [show (j : Int) + (i - j) = i from by omega] at this
    · rw [e1, hsub]
      intro i i0 i1
      by_cases hi : i = 0
      · subst hi; rw [Int.add_zero, im_up_eq]; exact ⟨q0, q1⟩
      · rw [im_up_ne _ _ (by omega)]
        have := hQ (i - 1) (by omega) (by omega)
        rwa [show ((j + 1 : Nat) : Int) + (i - 1) = (j : Int) + i from by omega] at this
    · rw [e1, e2, hsub, dv_cons, im_up_eq, dv_congr (f' := M 6958) (o := (j : Int) + 1) (o' := ((j + 1 : Nat) : Int)) (fun i i0 i1 => by rw [im_up_ne _ _ (by omega), show (j : Int) + 1 + i = ((j + 1 : Nat) : Int) + i from by omega])]
      have h9 := dv_app 1000000000 (M 6956) j (m + 1)
      have h10 := dv_app 1000000000 (M1 6956) j m
      rw [hwin, hv1, dv_congr (f := M1 6956) (f' := M 6956) (o := 0) (o' := 0) (n := j) (fun i i0 i1 => by rw [Int.zero_add]; exact hs1 i (by omega))] at h10
      rw [h1, h10, show j + 1 + m = j + (m + 1) from by omega, h9]
      generalize dv 1000000000 (M 6958) ((j + 1 : Nat) : Int) (many - (j + 1)) = Q
      generalize dv 1000000000 (M 6956) 0 j = X
      generalize dv 1000000000 (M 6956) (j : Int) (m + 1) = W
      rw [Int.pow_succ]
      generalize (1000000000 : Int) ^ j = P
      have a1 : (q + 1000000000 * Q) * V * P = P * (q * V) + Q * V * (P * 1000000000) := by
        rw [Int.add_mul, Int.add_mul, Int.mul_comm (q * V) P, Int.mul_assoc 1000000000, Int.mul_assoc 1000000000, Int.mul_comm 1000000000, Int.mul_assoc]
      rw [a1, Int.mul_sub]
      omega
    · rw [e2, hwin]
      omega
end RNUM10
