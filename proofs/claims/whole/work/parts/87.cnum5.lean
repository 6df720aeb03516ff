/-! divide -/
section CNUM5
variable {g : im_g} {d : Nat} {e : im_E} {M M0 : im_M} {K : im_K}
theorem l_ds {a n : Nat} {A V : Int} (ha : im_num e a) (hn34 : n ≤ 34) (hV0 : 0 < V) (hVB : V < 1000000000)
    (hK : ∀ M', (∀ b, b ≠ a + 1 → M' b = M0 b) → dok 1000000000 (M' (a + 1)) 0 n → dv 1000000000 (M' (a + 1)) 0 n = A / V → K (.inl none) e M') :
    ∀ (j : Nat) (l : Int) (M : im_M), j ≤ n → (∀ b, b ≠ a + 1 → M b = M0 b) → dok 1000000000 (M (a + 1)) 0 n → 0 ≤ l → l < V → A = dv 1000000000 (M (a + 1)) j (n - j) * V * 1000000000 ^ j + l * 1000000000 ^ j + dv 1000000000 (M (a + 1)) 0 j → im_T g d 132 15 [some (.ref a), some (vI V), some (vL l), none, some (vI ((j : Int) - 1)), none, none] [] e M K := by
  intro j
  induction j with
  | zero =>
    intro l M hj hF hdk l0 l1 hA
    refine k_Num_divideShort_15 ha ⟨by constructor <;> omega, fun _ => hK M hF hdk ?_, fun z => absurd z (by omega)⟩
    rw [Int.pow_zero, Int.mul_one, Int.mul_one, Nat.sub_zero] at hA
    have hA : A = dv 1000000000 (M (a + 1)) 0 n * V + l := by
      have : dv 1000000000 (M (a + 1)) 0 0 = 0 := rfl
      rw [this] at hA
      show A = dv 1000000000 (M (a + 1)) ((0 : Nat) : Int) n * V + l
      omega
    have h4 := Int.ediv_emod_unique (a := A) (b := V) (r := l) (q := dv 1000000000 (M (a + 1)) 0 n) hV0
    have h5 : l + V * dv 1000000000 (M (a + 1)) 0 n = A := by rw [Int.mul_comm V]; omega
    exact (h4.mpr ⟨h5, l0, l1⟩).1.symm
  | succ j ih =>
    intro l M hj hF hdk l0 l1 hA
    rw [show ((j + 1 : Nat) : Int) - 1 = (j : Int) from by omega]
    have hr := hdk j (by omega) (by omega)
    rw [Int.zero_add] at hr
    generalize hve : l * 1000000000 + M (a + 1) j = v
    have hv0 : 0 ≤ v := by omega
    have hvV : v < 1000000000 * V := by omega
    have hq0 : 0 ≤ v / V := Int.ediv_nonneg hv0 (by omega)
    have hq1 : v / V < 1000000000 := Int.ediv_lt_of_lt_mul hV0 hvV
    have hm0 := Int.emod_nonneg v (show V ≠ 0 by omega)
    have hm1 := Int.emod_lt_of_pos v hV0
    have hme := Int.mul_ediv_add_emod v V
    refine k_Num_divideShort_15 ha ?_
    rw [hve, Int.tdiv_eq_ediv_of_nonneg hv0, Int.tmod_eq_emod_of_nonneg hv0]
    refine ⟨by constructor <;> omega, fun z => absurd z (by omega), fun _ => ⟨by constructor <;> omega, by constructor <;> omega, by constructor <;> omega, by omega, by constructor <;> omega, by omega, ?_⟩⟩
    refine ih (v % V) _ (by omega) (fun b hb => (im_u_ne _ _ _ hb).trans (hF b hb)) ?_ hm0 hm1 ?_
    · rw [im_u_eq]
      intro i i0 i1
      rw [Int.zero_add]
      by_cases hi : i = j
      · subst hi; rw [im_up_eq]; exact ⟨hq0, hq1⟩
      · rw [im_up_ne _ _ hi]
        have := hdk i i0 i1
        rwa [Int.zero_add] at this
    · rw [im_u_eq, show n - j = n - (j + 1) + 1 from by omega, dv_cons, im_up_eq, dv_congr (f := im_up (M (a + 1)) j (v / V)) (f' := M (a + 1)) (o := (j : Int) + 1) (o' := ((j + 1 : Nat) : Int)) (fun i i0 i1 => by rw [im_up_ne _ _ (by omega), show (j : Int) + 1 + i = ((j + 1 : Nat) : Int) + i from by omega]), dv_congr (f := im_up (M (a + 1)) j (v / V)) (f' := M (a + 1)) (o := 0) (o' := 0) (n := j) (fun i i0 i1 => by rw [im_up_ne _ _ (by omega)])]
      rw [hA, dv_s0]
      generalize dv 1000000000 (M (a + 1)) ((j + 1 : Nat) : Int) (n - (j + 1)) = Q
      generalize dv 1000000000 (M (a + 1)) 0 j = X
      rw [Int.pow_succ]
      generalize (1000000000 : Int) ^ j = P
      have a1 : (v / V + 1000000000 * Q) * V * P = v / V * V * P + Q * V * (P * 1000000000) := by
        rw [Int.add_mul, Int.add_mul, Int.mul_assoc 1000000000, Int.mul_assoc 1000000000, Int.mul_comm 1000000000, Int.mul_assoc (Q * V)]
      have a2 : v * P = v / V * V * P + v % V * P := by rw [← Int.add_mul, Int.mul_comm (v / V)]; rw [hme]
      have a3 : v * P = l * (P * 1000000000) + M (a + 1) j * P := by rw [← hve, Int.add_mul, Int.mul_assoc, Int.mul_comm 1000000000 P]
      rw [a1]
      omega
theorem c_ds {a n : Nat} {V : Int} (ha : im_num e a) (hn : M a 1 = n) (hn34 : n ≤ 34) (hV0 : 0 < V) (hVB : V < 1000000000) (hdk : dok 1000000000 (M (a + 1)) 0 n)
    (hK : ∀ M', (∀ b, b ≠ a + 1 → M' b = M b) → dok 1000000000 (M' (a + 1)) 0 n → dv 1000000000 (M' (a + 1)) 0 n = dv 1000000000 (M (a + 1)) 0 n / V → K (.inl none) e M') : im_T g d 132 0 [some (.ref a), some (vI V), none, none, none, none, none] [] e M K := by
  refine k_Num_divideShort_0 ha ⟨by constructor <;> omega, fun _ => ?_, fun z => absurd z (by omega)⟩
  rw [hn]
  refine l_ds (M0 := M) ha hn34 hV0 hVB hK n 0 M (Nat.le_refl _) (fun _ _ => rfl) hdk (by decide) hV0 ?_
  rw [Nat.sub_self]
  show _ = 0 * V * _ + 0 * _ + _
  rw [Int.zero_mul, Int.zero_mul]
  omega
/-- the quotient's limbs, from the highest on -/
theorem l_dl {a : Nat} {A V : Int} {n m many : Nat} (ha : im_num e a) (hm1 : 1 ≤ m) (hn34 : n ≤ 34) (hmn : many + m = n + 1) (hmm : many ≤ 34) (hL : dok 1000000000 (M0 933) 36 m) (hhalf : 1000000000 ≤ 2 * M0 933 (36 + m - 1)) (hVe : dv 1000000000 (M0 933) 36 m = V) (hd : 1 ≤ d)
    (hK : ∀ (M : im_M), (∀ w, w ≠ 933 → w ≠ a + 1 → M w = M0 w) → dok 1000000000 (M (a + 1)) 0 many → (∃ R, 0 ≤ R ∧ R < V ∧ A = dv 1000000000 (M (a + 1)) 0 many * V + R) → K (.inl none) e (im_u M a 1 many)) :
    ∀ (j : Nat) (M : im_M), j ≤ many → (∀ w, w ≠ 933 → w ≠ a + 1 → M w = M0 w) → (∀ i, 36 ≤ i → M 933 i = M0 933 i) → dok 1000000000 (M 933) 0 (n + 1) → dok 1000000000 (M (a + 1)) j (many - j) → A = dv 1000000000 (M (a + 1)) j (many - j) * V * 1000000000 ^ j + dv 1000000000 (M 933) 0 (j + m) → dv 1000000000 (M 933) j m < V → im_T g d 133 55 [some (.ref a), none, some (.ref 933), some (vI m), none, none, some (vI ((many : Int) - 1)), some (vI ((j : Int) - 1))] [] e M K := by
  have na := im_num_933 ha
  intro j
  induction j with
  | zero =>
    intro M hj hF h36 hU hQ h1 h2
    refine k_Num_divideLong_55 ha hd ⟨by constructor <;> omega, fun _ => ⟨by constructor <;> omega, ?_⟩, fun z => absurd z (by omega)⟩
    rw [show (many : Int) - 1 + 1 = (many : Int) from by omega]
    refine hK M hF hQ ⟨dv 1000000000 (M 933) 0 m, dv_pos (by decide) (hU.le (by omega)), h2, ?_⟩
    rw [Nat.zero_add, Int.pow_zero, Int.mul_one, Nat.sub_zero] at h1
    exact h1
  | succ j ih =>
    intro M hj hF h36 hU hQ h1 h2
    rw [show ((j + 1 : Nat) : Int) - 1 = (j : Int) from by omega]
    have e36 : ∀ i : Int, 0 ≤ i → i < m → M0 933 (36 + i) = M 933 (36 + i) := fun i i0 i1 => (h36 _ (by omega)).symm
    have hUw : dok 1000000000 (M 933) j (m + 1) := hU.at j (m + 1) (by omega) (by omega)
    have hu0 := hUw 0 (by decide) (by omega)
    rw [Int.add_zero] at hu0
    have hWc := dv_cons 1000000000 (M 933) j m
    rw [show (j : Int) + 1 = ((j + 1 : Nat) : Int) from by omega] at hWc
    refine k_Num_divideLong_55 ha hd ⟨by constructor <;> omega, fun z => absurd z (by omega), fun _ => ?_⟩
    refine c_take (W := dv 1000000000 (M 933) j (m + 1)) (V := V) hm1 (by omega) (by omega) hUw (dok_congr e36 hL) (by rw [h36 _ (by omega)]; exact hhalf) rfl ((dv_congr e36).symm.trans hVe) (by omega) (fun M1 q hF1 hs1 hd1 q0 q1 hv1 hlt => ⟨_, rfl, rfl, by constructor <;> omega, by constructor <;> omega, ?_⟩)
    have e58 : M1 (a + 1) = M (a + 1) := hF1 _ na.2
    have e1 : im_u M1 (a + 1) (j : Int) q (a + 1) = im_up (M (a + 1)) (j : Int) q := by rw [im_u_eq, e58]
    have e2 : im_u M1 (a + 1) (j : Int) q 933 = M1 933 := im_u_ne _ _ _ (Ne.symm na.2)
    have hsub : many - j = (many - (j + 1)) + 1 := by omega
    have hVb := dv_bd (B := 1000000000) (by decide) hL
    rw [hVe] at hVb
    have htop : M1 933 (j + m) = 0 := by
      have h5 := dv_succ 1000000000 (M1 933) j m
      have h6 := dv_pos (B := 1000000000) (by decide) (hd1.le (k := m) (by omega))
      have h7 := hd1 m (by omega) (by omega)
      apply Decidable.byContradiction
      intro z
      have h8 : 1 * 1000000000 ^ m ≤ M1 933 (j + m) * 1000000000 ^ m := Int.mul_le_mul_of_nonneg_right (by omega) (Int.le_of_lt (bpow_pos (by decide) m))
      omega
    have hwin : dv 1000000000 (M1 933) j m = dv 1000000000 (M1 933) j (m + 1) := by
      rw [dv_succ, htop, Int.zero_mul, Int.add_zero]
    refine ih _ (by omega) (fun w h h' => (im_u_ne _ _ _ h').trans ((hF1 w h).trans (hF w h h'))) (fun i hi => by rw [e2, hs1 i (by omega)]; exact h36 i hi) ?_ ?_ ?_ ?_
    · rw [e2]
      intro i i0 i1
      rw [Int.zero_add]
      by_cases hi : i < j ∨ (j : Int) + m < i
      · rw [hs1 i hi]
        have := hU i i0 i1
        rwa [Int.zero_add] at this
      · have := hd1 (i - j) (by omega) (by omega)
        rwa [show (j : Int) + (i - j) = i from by omega] at this
    · rw [e1, hsub]
      intro i i0 i1
      by_cases hi : i = 0
      · subst hi; rw [Int.add_zero, im_up_eq]; exact ⟨q0, q1⟩
      · rw [im_up_ne _ _ (by omega)]
        have := hQ (i - 1) (by omega) (by omega)
        rwa [show ((j + 1 : Nat) : Int) + (i - 1) = (j : Int) + i from by omega] at this
    · rw [e1, e2, hsub, dv_cons, im_up_eq, dv_congr (f' := M (a + 1)) (o := (j : Int) + 1) (o' := ((j + 1 : Nat) : Int)) (fun i i0 i1 => by rw [im_up_ne _ _ (by omega), show (j : Int) + 1 + i = ((j + 1 : Nat) : Int) + i from by omega])]
      have h9 := dv_app 1000000000 (M 933) j (m + 1)
      have h10 := dv_app 1000000000 (M1 933) j m
      rw [hwin, hv1, dv_congr (f := M1 933) (f' := M 933) (o := 0) (o' := 0) (n := j) (fun i i0 i1 => by rw [Int.zero_add]; exact hs1 i (by omega))] at h10
      rw [h1, h10, show j + 1 + m = j + (m + 1) from by omega, h9]
      generalize dv 1000000000 (M (a + 1)) ((j + 1 : Nat) : Int) (many - (j + 1)) = Q
      generalize dv 1000000000 (M 933) 0 j = X
      generalize dv 1000000000 (M 933) (j : Int) (m + 1) = W
      rw [Int.pow_succ]
      generalize (1000000000 : Int) ^ j = P
      have a1 : (q + 1000000000 * Q) * V * P = P * (q * V) + Q * V * (P * 1000000000) := by
        rw [Int.add_mul, Int.add_mul, Int.mul_comm (q * V) P, Int.mul_assoc 1000000000, Int.mul_assoc 1000000000, Int.mul_comm 1000000000, Int.mul_assoc]
      rw [a1, Int.mul_sub]
      omega
    · rw [e2, hwin]
      omega
theorem c_dl {a p n m : Nat} (ha : im_num e a) (hp : im_num e p) (hne : a ≠ p) (hn : M a 1 = n) (hm : M p 1 = m) (hn34 : n ≤ 34) (hmn : m ≤ n) (hm2 : 2 ≤ m) (da : dok 1000000000 (M (a + 1)) 0 n) (db : dnf 1000000000 (M (p + 1)) 0 m) (hd : 2 ≤ d)
    (hK : ∀ M', (∀ w, w ≠ 933 → w ≠ a + 1 → w ≠ a → M' w = M w) → M' a 0 = M a 0 → M' a 1 = (n : Int) - m + 1 → dok 1000000000 (M' (a + 1)) 0 (n - m + 1) → dv 1000000000 (M' (a + 1)) 0 (n - m + 1) = dv 1000000000 (M (a + 1)) 0 n / dv 1000000000 (M (p + 1)) 0 m → K (.inl none) e M') : im_T g d 133 0 [some (.ref a), some (.ref p), some (.ref 933), none, none, none, none, none] [] e M K := by
  have na := im_num_933 ha
  have np := im_num_933 hp
  have hBp := dnf_pos (B := 1000000000) (by decide) db (by omega)
  have htop : 1 ≤ M (p + 1) ((m : Int) - 1) ∧ M (p + 1) ((m : Int) - 1) < 1000000000 := by
    have h1 := db.1 ((m : Int) - 1) (by omega) (by omega)
    have h2 := db.2 (by omega)
    rw [Int.zero_add] at h1 h2
    omega
  have hAn := (dv_bd (B := 1000000000) (by decide) da)
  generalize hA : dv 1000000000 (M (a + 1)) 0 n = A at *
  generalize hBv : dv 1000000000 (M (p + 1)) 0 m = Bv at *
  generalize hve : M (p + 1) ((m : Int) - 1) = v at *
  refine k_Num_divideLong_0 ha hp (by omega) ?_
  rw [hm, hve, show max 1 (v + 1) = v + 1 from by omega, Int.tdiv_eq_ediv_of_nonneg (by decide)]
  generalize hfe : 1000000000 / (v + 1) = f
  have hf0 : 0 ≤ f := by rw [← hfe]; exact Int.ediv_nonneg (by decide) (by omega)
  have hf1 : f < 1000000000 := by rw [← hfe]; exact Int.ediv_lt_of_lt_mul (by omega) (by omega)
  have hhalf := kn_half (B := 1000000000) (v := v) (s := f) (by decide) (by decide) (by omega) hfe.symm htop.2
  have hfpos : 1 ≤ f := by
    apply Decidable.byContradiction
    intro z
    have : f = 0 := by omega
    rw [this, Int.zero_mul] at hhalf
    omega
  refine ⟨by constructor <;> omega, by constructor <;> omega, by omega, ?_⟩
  refine c_scaleInto (n := n) ha hn hn34 da hf0 hf1 (by decide) (by omega) (fun M3 hF3 hs3 hd3 hv3 => ⟨rfl, rfl, ?_⟩)
  rw [hA] at hv3
  have e3 : M3 (p + 1) = M (p + 1) := hF3 _ np.2
  refine c_scaleInto (n := m) hp (by rw [hF3 _ np.1]; exact hm) (by omega) (by rw [e3]; exact db.1) hf0 hf1 (by decide) (by omega) (fun M4 hF4 hs4 hd4 hv4 => ⟨rfl, rfl, ?_⟩)
  rw [e3, hBv] at hv4
  have q1 : M4 a 1 = n := by rw [hF4 _ na.1, hF3 _ na.1]; exact hn
  rw [q1]
  have hlow : ∀ i : Int, 0 ≤ i → i < ((n + 1 : Nat) : Int) → M3 933 (0 + i) = M4 933 (0 + i) := fun i i0 i1 => (hs4 _ (by omega)).symm
  have hsmall : f * Bv < 1000000000 ^ m := by
    obtain ⟨k, hk⟩ : ∃ k, m = k + 1 := ⟨m - 1, by omega⟩
    subst hk
    have h2 := dv_s0 1000000000 (M (p + 1)) k
    rw [show (k : Int) = ((k + 1 : Nat) : Int) - 1 from by omega, hve, hBv] at h2
    have h3 := dv_bd (B := 1000000000) (by decide) (db.1.le (k := k) (by omega))
    have h4 : Bv ≤ (v + 1) * 1000000000 ^ k - 1 := by rw [Int.add_mul, Int.one_mul]; omega
    have h5 : f * Bv ≤ f * ((v + 1) * 1000000000 ^ k - 1) := Int.mul_le_mul_of_nonneg_left h4 hf0
    have h6 : f * (v + 1) ≤ 1000000000 := by rw [← hfe]; exact Int.ediv_mul_le _ (by omega)
    have h7 : f * (v + 1) * 1000000000 ^ k ≤ 1000000000 * 1000000000 ^ k := Int.mul_le_mul_of_nonneg_right h6 (Int.le_of_lt (bpow_pos (by decide) k))
    rw [Int.mul_sub, ← Int.mul_assoc, Int.mul_one] at h5
    rw [Int.pow_succ, Int.mul_comm (1000000000 ^ k)]
    omega
  have hlz : M4 933 (36 + m) = 0 := by
    have h2 := dv_succ 1000000000 (M4 933) 36 m
    rw [hv4] at h2
    have h3 := dv_pos (B := 1000000000) (by decide) (hd4.le (k := m) (by omega))
    have h4 := hd4 m (by omega) (by omega)
    apply Decidable.byContradiction
    intro z
    have h5 : 1 * 1000000000 ^ m ≤ M4 933 (36 + m) * 1000000000 ^ m := Int.mul_le_mul_of_nonneg_right (by omega) (Int.le_of_lt (bpow_pos (by decide) m))
    omega
  have hVe : dv 1000000000 (M4 933) 36 m = f * Bv := by
    have h2 := dv_succ 1000000000 (M4 933) 36 m
    rw [hlz, Int.zero_mul, Int.add_zero, hv4] at h2
    exact h2.symm
  have hfB : f * 1000000000 ^ (m - 1) ≤ f * Bv := Int.mul_le_mul_of_nonneg_left hBp hf0
  have hhalf4 : 1000000000 ≤ 2 * M4 933 (36 + m - 1) := by
    obtain ⟨k, hk⟩ : ∃ k, m = k + 1 := ⟨m - 1, by omega⟩
    subst hk
    have h2 := dv_succ 1000000000 (M4 933) 36 k
    rw [hVe] at h2
    have h2b := dv_s0 1000000000 (M (p + 1)) k
    rw [show (k : Int) = ((k + 1 : Nat) : Int) - 1 from by omega, hve, hBv] at h2b
    rw [show (36 : Int) + (k : Int) = 36 + ((k + 1 : Nat) : Int) - 1 from by omega] at h2
    have h3 := dv_bd (B := 1000000000) (by decide) (hd4.le (k := k) (by omega))
    have h4 := dv_bd (B := 1000000000) (by decide) (db.1.le (k := k) (by omega))
    have h5 : f * (v * 1000000000 ^ k) ≤ f * Bv := Int.mul_le_mul_of_nonneg_left (by omega) hf0
    have hp := bpow_pos (B := 1000000000) (by decide) k
    have h6 : f * v ≤ M4 933 (36 + ((k + 1 : Nat) : Int) - 1) := by
      apply Decidable.byContradiction
      intro z
      have h7 : (M4 933 (36 + ((k + 1 : Nat) : Int) - 1) + 1) * 1000000000 ^ k ≤ f * v * 1000000000 ^ k := Int.mul_le_mul_of_nonneg_right (by omega) (Int.le_of_lt hp)
      rw [Int.add_mul, Int.one_mul, Int.mul_assoc f] at h7
      omega
    omega
  have hmany : (n : Int) - m = ((n - m + 1 : Nat) : Int) - 1 := by omega
  rw [hmany]
  have hd3' : dok 1000000000 (M4 933) 0 (n + 1) := dok_congr hlow hd3
  have hv3' : dv 1000000000 (M4 933) 0 (n + 1) = f * A := (dv_congr hlow).symm.trans hv3
  refine l_dl (M0 := M4) (A := f * A) (V := f * Bv) (n := n) (many := n - m + 1) ha (by omega) hn34 (by omega) (by omega) (hd4.le (by omega)) hhalf4 hVe (by omega) (fun M5 hF5 hd5 hI => ?_) (n - m + 1) M4 (Nat.le_refl _) (fun _ _ _ => rfl) (fun _ _ => rfl) hd3' (by rw [Nat.sub_self]; exact fun i i0 i1 => by omega) ?_ ?_
  · have hQ : dv 1000000000 (M5 (a + 1)) 0 (n - m + 1) = A / Bv := by
      obtain ⟨R, r0, r1, hR⟩ := hI
      generalize dv 1000000000 (M5 (a + 1)) 0 (n - m + 1) = Q at *
      have h1 : f * (A - Q * Bv) = R := by
        have : Q * (f * Bv) = f * (Q * Bv) := Int.mul_left_comm _ _ _
        rw [Int.mul_sub]; omega
      have h2 : 0 ≤ A - Q * Bv := by
        apply Decidable.byContradiction
        intro z
        have : f * (A - Q * Bv) ≤ f * (-1) := Int.mul_le_mul_of_nonneg_left (by omega) hf0
        omega
      have h3 : A - Q * Bv < Bv := by
        apply Decidable.byContradiction
        intro z
        have : f * Bv ≤ f * (A - Q * Bv) := Int.mul_le_mul_of_nonneg_left (by omega) hf0
        omega
      have hBv0 : 0 < Bv := by have := bpow_pos (B := 1000000000) (by decide) (m - 1); omega
      have h4 := Int.ediv_emod_unique (a := A) (b := Bv) (r := A - Q * Bv) (q := Q) hBv0
      have h5 : A - Q * Bv + Bv * Q = A := by rw [Int.mul_comm Q]; omega
      exact (h4.mpr ⟨h5, h2, h3⟩).1.symm
    clear hI
    refine hK _ (fun w h1 h2 h3 => ?_) ?_ ?_ ?_ ?_
    · rw [im_u_ne _ _ _ h3, hF5 w h1 h2, hF4 w h1, hF3 w h1]
    · rw [im_rdk _ _ _ (by decide), hF5 a na.1 (by omega), hF4 a na.1, hF3 a na.1]
    · rw [im_rds]; omega
    · rw [im_u_ne _ _ _ (by omega)]; exact hd5
    · rw [im_u_ne _ _ _ (by omega)]; exact hQ
  · rw [Nat.sub_self, show n - m + 1 + m = n + 1 from by omega, hv3']
    show f * A = 0 * _ * _ + _
    rw [Int.zero_mul, Int.zero_mul, Int.zero_add]
  · have h1 := dv_app 1000000000 (M4 933) (n - m + 1) m
    rw [show n - m + 1 + m = n + 1 from by omega, hv3'] at h1
    have h2 := dv_pos (B := 1000000000) (by decide) (hd3'.le (k := n - m + 1) (by omega))
    have hp := bpow_pos (B := 1000000000) (by decide) (n - m + 1)
    apply Decidable.byContradiction
    intro z
    have h3 : 1000000000 ^ (n - m + 1) * (f * 1000000000 ^ (m - 1)) ≤ 1000000000 ^ (n - m + 1) * dv 1000000000 (M4 933) ((n - m + 1 : Nat) : Int) m := Int.mul_le_mul_of_nonneg_left (by omega) (by omega)
    have h4 : (1000000000 : Int) ^ (n - m + 1) * (f * 1000000000 ^ (m - 1)) = f * 1000000000 ^ n := by
      rw [Int.mul_left_comm, ← Int.pow_add, show n - m + 1 + (m - 1) = n from by omega]
    have h5 : f * A ≤ f * (1000000000 ^ n - 1) := Int.mul_le_mul_of_nonneg_left (by omega) hf0
    rw [Int.mul_sub, Int.mul_one] at h5
    omega
theorem c_div {a p : Nat} {va vb : Int} (ha : im_num e a) (hp : im_num e p) (hne : a ≠ p) (hva : cn M a va) (hvb : cn M p vb) (hd : 3 ≤ d)
    (hK : ∀ M', NR a M M' → cn M' a (va.tdiv vb) → K (.inl none) e M') : im_T g d 131 0 [some (.ref a), some (.ref p), some (.ref 933)] [] e M K := by
  obtain ⟨n, a1, a2, a3, a4, a5, a6⟩ := hva
  obtain ⟨m, b1, b2, b3, b4, b5, b6⟩ := hvb
  have na := im_num_933 ha
  have np := im_num_933 hp
  have hap : a ≠ p + 1 := im_num_ne ha hp
  have pa := dv_pos (B := 1000000000) (by decide) a3.1
  have pb := dv_pos (B := 1000000000) (by decide) b3.1
  refine k_Num_divide_0 ha hp (by omega) ⟨fun h0 => ?_, fun h0 => ?_⟩
  · refine c_clear ha (fun M' hF' hcn => ⟨rfl, rfl, hK M' (fun y y1 y2 y3 => hF' y y1) ?_⟩)
    rw [b5, h0, Int.zero_mul, Int.tdiv_zero]
    exact hcn
  · have hsb : M p 0 = 1 ∨ M p 0 = -1 := by omega
    have hm1 : 1 ≤ m := by omega
    have hbpos := dnf_pos (B := 1000000000) (by decide) b3 (by omega)
    have hbp := bpow_pos (B := 1000000000) (by decide) (m - 1)
    have ev : va.tdiv vb = M a 0 * M p 0 * (dv 1000000000 (M (a + 1)) 0 n / dv 1000000000 (M (p + 1)) 0 m) := by
      rw [a5, b5]
      refine tdiv_sg ?_ hsb pa pb
      rcases a4 with ⟨z, rfl⟩ | ⟨z, _⟩
      · exact Or.inl ⟨z, rfl⟩
      · exact Or.inr z
    refine c_csize ha hp a1 b1 a2 b2 a3 b3 ⟨_, rfl, rfl, ?_⟩
    unfold cmpI
    refine ⟨by (repeat' split) <;> constructor <;> omega, fun z => ?_, fun z => ?_⟩
    · have hge : dv 1000000000 (M (p + 1)) 0 m ≤ dv 1000000000 (M (a + 1)) 0 n := by
        apply Decidable.byContradiction
        intro w
        rw [if_pos (by omega)] at z
        omega
      have hsa : M a 0 = 1 ∨ M a 0 = -1 := by
        rcases a4 with ⟨_, w⟩ | ⟨w, _⟩
        · exfalso
          subst w
          have : dv 1000000000 (M (a + 1)) 0 0 = 0 := rfl
          omega
        · exact w
      have hs3 : M a 0 * M p 0 = 1 ∨ M a 0 * M p 0 = -1 := by
        rcases hsa with w | w <;> rcases hsb with u | u <;> rw [w, u] <;> decide
      have hL : dv 1000000000 (M (a + 1)) 0 n < LIM := by
        have := (sm_s hsa pa).mp (by rw [← a5]; exact a6)
        exact this
      generalize hs : M a 0 * M p 0 = s at *
      have hpp : im_u M a 0 s (p + 1) = M (p + 1) := im_u_ne _ _ _ (Ne.symm hap)
      have hpl : im_u M a 0 s (a + 1) = M (a + 1) := im_u_ne _ _ _ (by omega)
      have hpv : im_u M a 0 s p = M p := im_u_ne _ _ _ (Ne.symm hne)
      have hq0 := Int.ediv_nonneg pa pb
      have hq1 := Int.ediv_le_self (dv 1000000000 (M (p + 1)) 0 m) pa
      rw [hpv, hpp, b1]
      refine ⟨by constructor <;> omega, fun h1 => ?_, fun h1 => ?_⟩
      · refine c_dl (n := n) (m := m) ha hp hne (by rw [im_rdk _ _ _ (by decide)]; exact a1) (by rw [hpv]; exact b1) a2 (dnf_le a3.1 b3 hge) (by omega) (by rw [hpl]; exact a3.1) (by rw [hpp]; exact b3) (by omega) (fun M1 hF1 g0 g1 gd gv => ⟨rfl, rfl, ?_⟩)
        rw [hpl, hpp] at gv
        rw [im_rds] at g0
        have hfr : ∀ M', (∀ x, x ≠ a → M' x = M1 x) → NR a M M' := fun M' h y y1 y2 y3 => by rw [h y y1, hF1 y y3 y2 y1, im_u_ne _ _ _ y1]
        refine c_settle (n := n - m + 1) (s := s) ha (by omega) (fun w => by omega) (by omega) (by rw [g1]; have := dnf_le a3.1 b3 hge; omega) g0 gd gv (fun hsm M' hF' hcn => ⟨_, rfl, rfl, hK M' (hfr M' hF') ?_⟩) (fun hsm M' hF' hcn => absurd ((sm_s hs3 hq0).mpr (by omega)) hsm)
        rw [ev]; exact hcn
      · have hm : m = 1 := by omega
        subst hm
        have eV : M (p + 1) 0 = dv 1000000000 (M (p + 1)) 0 1 := by
          rw [dv_s0]; show M (p + 1) 0 = 0 + M (p + 1) 0 * 1; omega
        have hlb := (dv_bd (B := 1000000000) (by decide) b3.1).2
        rw [eV]
        refine c_ds (n := n) ha (by rw [im_rdk _ _ _ (by decide)]; exact a1) a2 (by omega) (by rw [show (1000000000 : Int) ^ 1 = 1000000000 from by decide] at hlb; exact hlb) (by rw [hpl]; exact a3.1) (fun M1 hF1 gd gv => ⟨rfl, rfl, ?_⟩)
        rw [hpl] at gv
        have g0 : M1 a 0 = s := by rw [hF1 a (by omega), im_rds]
        have g1 : M1 a 1 = n := by rw [hF1 a (by omega), im_rdk _ _ _ (by decide)]; exact a1
        have hfr : ∀ M', (∀ x, x ≠ a → M' x = M1 x) → NR a M M' := fun M' h y y1 y2 y3 => by rw [h y y1, hF1 y y2, im_u_ne _ _ _ y1]
        refine c_settle (n := n) (s := s) ha (by omega) (fun w => by omega) a2 g1 g0 gd gv (fun hsm M' hF' hcn => ⟨_, rfl, rfl, hK M' (hfr M' hF') ?_⟩) (fun hsm M' hF' hcn => absurd ((sm_s hs3 hq0).mpr (by omega)) hsm)
        rw [ev]; exact hcn
    · have hlt : dv 1000000000 (M (a + 1)) 0 n < dv 1000000000 (M (p + 1)) 0 m := by
        apply Decidable.byContradiction
        intro w
        rw [if_neg w] at z
        split at z <;> omega
      refine c_clear ha (fun M' hF' hcn => ⟨rfl, rfl, hK M' (fun y y1 y2 y3 => hF' y y1) ?_⟩)
      rw [ev, Int.ediv_eq_zero_of_lt pa hlt, Int.mul_zero]
      exact hcn
end CNUM5
