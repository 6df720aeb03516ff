/-! by: the quotient -/
theorem tdiv_sg {sa sb A B : Int} (ha : (sa = 0 ∧ A = 0) ∨ sa = 1 ∨ sa = -1) (hb : sb = 1 ∨ sb = -1) (hA : 0 ≤ A) (hB : 0 ≤ B) : (sa * A).tdiv (sb * B) = sa * sb * (A / B) := by
  have h0 := Int.tdiv_eq_ediv_of_nonneg (b := B) hA
  rcases ha with ⟨h1, h2⟩ | h1 | h1 <;> rcases hb with h3 | h3 <;> subst h1 <;> subst h3
  · subst h2; simp
  · subst h2; simp
  · rw [Int.one_mul, Int.one_mul, h0, Int.one_mul, Int.one_mul]
  · rw [Int.one_mul, Int.neg_mul, Int.one_mul, Int.tdiv_neg, h0, Int.one_mul, Int.neg_mul, Int.one_mul]
  · rw [Int.neg_mul, Int.one_mul, Int.one_mul, Int.neg_tdiv, h0, Int.mul_one, Int.neg_mul, Int.one_mul]
  · rw [Int.neg_mul, Int.one_mul, Int.neg_mul, Int.one_mul, Int.neg_tdiv, Int.tdiv_neg, h0, Int.neg_neg]
    show _ = (-1 * -1) * _
    rw [show (-1 : Int) * -1 = 1 from rfl, Int.one_mul]
section RNUM11
variable {g : im_g} {d : Nat} {e : im_E} {M M0 : im_M} {K : im_K}
theorem c_by {a b va vb : Int} {na nb : Nat} (hra : rn (M 6955) a na va) (hrb : rn (M 6955) b nb vb) (ha0 : 0 ≤ a) (hb0 : 0 ≤ b) (hal : a + 2 + na ≤ M 6952 7) (hbl : b + 2 + nb ≤ M 6952 7) (hna : na ≤ 300) (hnb : nb ≤ 300) (hr : M 6952 7 + 650 ≤ 1100000) (h8 : M 6952 8 = 0 ∨ M 6952 8 = 1) (hd : 4 ≤ d) (hK : ∀ (M' : im_M) (n' : Nat), RF [6956, 6957, 6958] [7, 8] (M 6952 7) M M' → rn (M' 6955) (M 6952 7) n' (va.tdiv vb) → n' ≤ 309 → M' 6952 7 = M 6952 7 + 2 + n' → (M' 6952 8 = if M 6952 8 = 0 ∧ n' ≤ 300 then 0 else 1) → K (.inl (some (vI (M 6952 7)))) e M') : im_T g d 398 0 [some (.ref 6952), some (vI a), some (vI b), none, none, none, none, none, none, none] [] e M K := by
  obtain ⟨a1, a2, a3, a4⟩ := id hra
  obtain ⟨b1, b2, b3, b4⟩ := id hrb
  have da := dv_bd (B := 10) (by decide) a2.1
  have db := dv_bd (B := 10) (by decide) b2.1
  refine b_by_0 (by omega) ⟨by constructor <;> omega, fun hne => ?_, fun h0 => ?_⟩
  · have hsb : M 6955 b = 1 ∨ M 6955 b = -1 := by omega
    have hnb1 : 1 ≤ nb := by omega
    refine c_places (w := 6956) hra sf_6956 (by decide) ha0 (by omega) (by omega) (by omega) (fun M1 hF1 hd1 hv1 hz1 => ⟨_, rfl, rfl, ?_⟩)
    have e1 : M1 6955 = M 6955 := hF1 _ (by decide)
    refine c_places (w := 6957) (by rw [e1]; exact hrb) sf_6957 (by decide) hb0 (by omega) (by omega) (by omega) (fun M2 hF2 hd2 hv2 hz2 => ⟨_, rfl, rfl, ?_⟩)
    rw [e1] at hv2
    have e2 : M2 6956 = M1 6956 := hF2 _ (by decide)
    generalize hA : dv 10 (M 6955) (a + 2) na = A at *
    generalize hBv : dv 10 (M 6955) (b + 2) nb = Bv at *
    have hn71 : (na + 8) / 9 < 71 := by omega
    have hm71 : (nb + 8) / 9 < 71 := by omega
    have hm1 : 1 ≤ (nb + 8) / 9 := by omega
    -- the divisor's highest place is not 0
    have htop : 1 ≤ M2 6957 ((((nb + 8) / 9 : Nat) : Int) - 1) ∧ M2 6957 ((((nb + 8) / 9 : Nat) : Int) - 1) < 1000000000 := by
      have h1 := hd2 ((((nb + 8) / 9 : Nat) : Int) - 1) (by omega) (by omega)
      rw [Int.zero_add] at h1
      refine ⟨?_, h1.2⟩
      apply Decidable.byContradiction
      intro z
      obtain ⟨k, hk⟩ : ∃ k, (nb + 8) / 9 = k + 1 := ⟨(nb + 8) / 9 - 1, by omega⟩
      rw [hk] at h1 z hd2 hv2
      rw [show ((k + 1 : Nat) : Int) - 1 = k from by omega] at h1 z
      have h2 := dv_succ 1000000000 (M2 6957) 0 k
      rw [Int.zero_add, show M2 6957 k = 0 from by omega, Int.zero_mul, Int.add_zero, hv2] at h2
      have h3 := dv_bd (B := 1000000000) (by decide) (hd2.le (k := k) (by omega))
      have h4 := dnf_pos (B := 10) (by decide) b2 (by omega)
      have h5 : (1000000000 : Int) ^ k = 10 ^ (9 * k) := by rw [Int.pow_mul, p9]
      have h6 := bpow_le (B := 10) (by decide) (n := 9 * k) (m := nb - 1) (by omega)
      omega
    generalize hnn : (na + 8) / 9 = n at *
    generalize hmm : (nb + 8) / 9 = m at *
    have hBp : 1000000000 ^ (m - 1) ≤ Bv := by
      have := dnf_pos (B := 1000000000) (by decide) (f := M2 6957) (o := 0) (n := m) ⟨hd2, fun _ => by rw [Int.zero_add]; omega⟩ (by omega)
      omega
    generalize hve : M2 6957 ((m : Int) - 1) = v at *
    refine ⟨by constructor <;> omega, by constructor <;> omega, by omega, ?_⟩
    rw [Int.tdiv_eq_ediv_of_nonneg (by decide)]
    generalize hfe : 1000000000 / (v + 1) = f
    have hf0 : 0 ≤ f := by rw [← hfe]; exact Int.ediv_nonneg (by decide) (by omega)
    have hf1 : f ≤ 1000000000 := by rw [← hfe]; exact Int.ediv_le_self _ (by decide)
    have hhalf := kn_half (B := 1000000000) (v := v) (s := f) (by decide) (by decide) (by omega) hfe.symm htop.2
    have hfpos : 1 ≤ f := by
      apply Decidable.byContradiction
      intro z
      have : f = 0 := by omega
      rw [this, Int.zero_mul] at hhalf
      omega
    have hz1' : M2 6956 n = 0 := by rw [e2]; exact hz1
    refine c_scale (w := 6956) sf_6956 (by omega) hf0 hf1 (by rw [e2]; exact hd1) hz1' (fun M3 hF3 hd3 hv3 => ⟨rfl, rfl, ?_⟩)
    rw [e2, hv1] at hv3
    have e3 : M3 6957 = M2 6957 := hF3 _ (by decide)
    refine c_scale (w := 6957) sf_6957 (by omega) hf0 hf1 (by rw [e3]; exact hd2) (by rw [e3]; exact hz2) (fun M4 hF4 hd4 hv4 => ⟨rfl, rfl, ?_⟩)
    rw [e3, hv2] at hv4
    have e4 : M4 6956 = M3 6956 := hF4 _ (by decide)
    have e5 : M4 6955 = M 6955 := (hF4 _ (by decide)).trans ((hF3 _ (by decide)).trans ((hF2 _ (by decide)).trans e1))
    have e6 : M4 6952 = M 6952 := (hF4 _ (by decide)).trans ((hF3 _ (by decide)).trans ((hF2 _ (by decide)).trans (hF1 _ (by decide))))
    -- f * Bv goes in m places
    have hsmall : f * Bv < 1000000000 ^ m := by
      obtain ⟨k, hk⟩ : ∃ k, m = k + 1 := ⟨m - 1, by omega⟩
      subst hk
      have h2 := dv_succ 1000000000 (M2 6957) 0 k
      rw [Int.zero_add, show (k : Int) = ((k + 1 : Nat) : Int) - 1 from by omega, hve, hv2] at h2
      have h3 := dv_bd (B := 1000000000) (by decide) (hd2.le (k := k) (by omega))
      have h4 : Bv ≤ (v + 1) * 1000000000 ^ k - 1 := by rw [Int.add_mul, Int.one_mul]; omega
      have h5 : f * Bv ≤ f * ((v + 1) * 1000000000 ^ k - 1) := Int.mul_le_mul_of_nonneg_left h4 hf0
      have h6 : f * (v + 1) ≤ 1000000000 := by rw [← hfe]; exact Int.ediv_mul_le _ (by omega)
      have h7 : f * (v + 1) * 1000000000 ^ k ≤ 1000000000 * 1000000000 ^ k := Int.mul_le_mul_of_nonneg_right h6 (Int.le_of_lt (bpow_pos (by decide) k))
      rw [Int.mul_sub, ← Int.mul_assoc, Int.mul_one] at h5
      rw [Int.pow_succ, Int.mul_comm (1000000000 ^ k)]
      omega
    have hlz : M4 6957 m = 0 := by
      have h2 := dv_succ 1000000000 (M4 6957) 0 m
      rw [Int.zero_add, hv4] at h2
      have h3 := dv_pos (B := 1000000000) (by decide) (hd4.le (k := m) (by omega))
      have h4 := hd4 m (by omega) (by omega)
      rw [Int.zero_add] at h4
      apply Decidable.byContradiction
      intro z
      have h5 : 1 * 1000000000 ^ m ≤ M4 6957 m * 1000000000 ^ m := Int.mul_le_mul_of_nonneg_right (by omega) (Int.le_of_lt (bpow_pos (by decide) m))
      omega
    have hVe : dv 1000000000 (M4 6957) 0 m = f * Bv := by
      have h2 := dv_succ 1000000000 (M4 6957) 0 m
      rw [Int.zero_add, hlz, Int.zero_mul, Int.add_zero, hv4] at h2
      exact h2.symm
    have hfB : f * 1000000000 ^ (m - 1) ≤ f * Bv := Int.mul_le_mul_of_nonneg_left hBp hf0
    have hhalf4 : 1000000000 ≤ 2 * M4 6957 ((m : Int) - 1) := by
      obtain ⟨k, hk⟩ : ∃ k, m = k + 1 := ⟨m - 1, by omega⟩
      subst hk
      have h2 := dv_succ 1000000000 (M4 6957) 0 k
      rw [Int.zero_add, hVe] at h2
      have h2b := dv_succ 1000000000 (M2 6957) 0 k
      rw [Int.zero_add, show (k : Int) = ((k + 1 : Nat) : Int) - 1 from by omega, hve, hv2] at h2b
      rw [show (k : Int) = ((k + 1 : Nat) : Int) - 1 from by omega] at h2
      have h3 := dv_bd (B := 1000000000) (by decide) (hd4.le (k := k) (by omega))
      have h4 := dv_bd (B := 1000000000) (by decide) (hd2.le (k := k) (by omega))
      have h5 : f * (v * 1000000000 ^ k) ≤ f * Bv := Int.mul_le_mul_of_nonneg_left (by omega) hf0
      have hp := bpow_pos (B := 1000000000) (by decide) k
      have h6 : f * v ≤ M4 6957 (((k + 1 : Nat) : Int) - 1) := by
        apply Decidable.byContradiction
        intro z
        have h7 : (M4 6957 (((k + 1 : Nat) : Int) - 1) + 1) * 1000000000 ^ k ≤ f * v * 1000000000 ^ k := Int.mul_le_mul_of_nonneg_right (by omega) (Int.le_of_lt hp)
        rw [Int.add_mul, Int.one_mul, Int.mul_assoc f] at h7
        omega
      omega
    refine ⟨by constructor <;> omega, by constructor <;> omega, fun x hx => ?_⟩
    obtain ⟨many, hmany, hmn⟩ : ∃ many : Nat, x = many ∧ ((many = 0 ∧ n < m) ∨ (many + m = n + 1 ∧ 1 ≤ many)) := ⟨x.toNat, by omega, by omega⟩
    subst hmany
    have hAn : A < 1000000000 ^ n := by
      have h1 := dv_bd (B := 1000000000) (by decide) hd1
      omega
    rw [e6]
    refine l_by (M0 := M4) (A := f * A) (V := f * Bv) (n := n) hm1 hn71 (by omega) (hd4.le (by omega)) hhalf4 hVe (by omega) (fun M5 hF5 hd5 hI => ?_) many M4 (Nat.le_refl _) (fun _ _ _ => rfl) (by rw [e4]; exact hd3) (fun i i0 i1 => by omega) ?_
    · have e7 : M5 6955 = M 6955 := (hF5 _ (by decide) (by decide)).trans e5
      have e8 : M5 6952 = M 6952 := (hF5 _ (by decide) (by decide)).trans e6
      -- the quotient
      have hQ : dv 1000000000 (M5 6958) 0 many = A / Bv := by
        rcases hI with z | ⟨R, r0, r1, hR⟩
        · subst z
          have : n < m := by omega
          have h1 := bpow_le (B := 1000000000) (by decide) (n := n) (m := m - 1) (by omega)
          rw [Int.ediv_eq_zero_of_lt (by omega) (by omega)]
          rfl
        · generalize dv 1000000000 (M5 6958) 0 many = Q at *
          have h1 : f * (A - Q * Bv) = R := by
            have : Q * (f * Bv) = f * (Q * Bv) := Int.mul_left_comm _ _ _
            rw [Int.mul_sub]; omega
          have h2 : 0 ≤ A - Q * Bv := by
            apply Decidable.byContradiction
            intro z
            have : f * (A - Q * Bv) ≤ f * (-1) := Int.mul_le_mul_of_nonneg_left (by omega) hf0
            omega
          have h3 : A - Q * Bv < Bv := by
            apply Decidable.byContradiction
            intro z
            have : f * Bv ≤ f * (A - Q * Bv) := Int.mul_le_mul_of_nonneg_left (by omega) hf0
            omega
          have hBv0 : 0 < Bv := by have := bpow_pos (B := 1000000000) (by decide) (m - 1); omega
          have h4 := Int.ediv_emod_unique (a := A) (b := Bv) (r := A - Q * Bv) (q := Q) hBv0
          have h5 : A - Q * Bv + Bv * Q = A := by rw [Int.mul_comm Q]; omega
          exact (h4.mpr ⟨h5, h2, h3⟩).1.symm
      clear hI
      refine c_layFound hd5 (by omega) (by omega) (by omega) (fun M6 hF6 hd6 hv6 => ⟨rfl, rfl, by constructor <;> omega, by constructor <;> omega, ?_⟩)
      have f0 : M6 6955 a = M 6955 a := (hF6.2.2 _ (by omega)).trans (by rw [e7])
      have f1 : M6 6955 b = M 6955 b := (hF6.2.2 _ (by omega)).trans (by rw [e7])
      rw [f0, f1, show 9 * (many : Int) = ((9 * many : Nat) : Int) from by omega]
      have hsg : M 6955 a * M 6955 b = 1 ∨ M 6955 a * M 6955 b = -1 ∨ M 6955 a * M 6955 b = 0 := by
        rcases a3 with ⟨z, _⟩ | ⟨z | z, _⟩ <;> rcases hsb with w | w <;> rw [z, w] <;> decide
      rw [hQ] at hv6
      have hsa0 : M 6955 a = 0 → A = 0 := fun z => by
        have : na = 0 := by omega
        subst this
        rw [← hA]; rfl
      refine c_close (by omega) hsg (by omega) hd6 (fun z => ?_) (fun M' k hF9 hn' hk ht h9 => ⟨_, rfl, rfl, hK M' k ?_ ?_ (by omega) ht ?_⟩)
      · rw [hv6]
        have : M 6955 a = 0 := by
          rcases Int.mul_eq_zero.mp z with w | w
          · exact w
          · omega
        rw [hsa0 this, Int.zero_ediv]
      · have hA5 : RF [6956, 6957, 6958] [7, 8] (M 6952 7) M M5 := by
          refine ⟨fun w h h' h'' => ?_, fun k hk => by rw [e8], fun i hi => by rw [e7]⟩
          simp only [List.mem_cons, List.not_mem_nil, or_false, not_or] at h
          rw [hF5 w h.1 h.2.2, hF4 w h.2.1, hF3 w h.1, hF2 w h.2.1, hF1 w h.1]
        have hB5 : RF [6956, 6957, 6958] [7, 8] (M 6952 7) M5 M6 := hF6.mono (by decide) (by decide) (by omega)
        exact (hA5.trans hB5).trans (hF9.mono (by decide) (by decide) (Int.le_refl _))
      · rw [hv6] at hn'
        rw [a4, b4, tdiv_sg (by
          rcases a3 with ⟨z, _⟩ | ⟨z | z, _⟩
          · exact Or.inl ⟨z, hsa0 z⟩
          · exact Or.inr (Or.inl z)
          · exact Or.inr (Or.inr z)) hsb (by omega) (by omega)]
        exact hn'
      · rw [h9, hF6.2.1 8 (by decide), e8]
    · by_cases hz : many = 0
      · exact Or.inl hz
      · have hmn : many + m = n + 1 := by omega
        have hT := dv_app 1000000000 (M3 6956) many m
        rw [hmn, hv3] at hT
        refine Or.inr ⟨?_, ?_⟩
        · rw [Nat.sub_self, e4, hmn, hv3]
          show f * A = 0 * _ * _ + _
          rw [Int.zero_mul, Int.zero_mul, Int.zero_add]
        · rw [e4]
          have h2 := dv_pos (B := 1000000000) (by decide) (hd3.le (k := many) (by omega))
          have h3 : f * A < f * 1000000000 ^ n := Int.mul_lt_mul_of_pos_left hAn (by omega)
          have h4 : (1000000000 : Int) ^ n = 1000000000 ^ many * 1000000000 ^ (m - 1) := by rw [← Int.pow_add]; congr 1; omega
          apply Decidable.byContradiction
          intro z
          have hp := bpow_pos (B := 1000000000) (by decide) many
          have h5 : 1000000000 ^ many * (f * 1000000000 ^ (m - 1)) ≤ 1000000000 ^ many * dv 1000000000 (M3 6956) many m := Int.mul_le_mul_of_nonneg_left (by omega) (by omega)
          rw [h4, Int.mul_left_comm] at h3
          omega
  · refine c_zero (by omega) (by omega) (fun M' hF hn ht => ⟨_, rfl, rfl, hK M' 0 (hF.mono (by decide) (by decide) (Int.le_refl _)) ?_ (by decide) (by omega) ?_⟩)
    · rw [b4, h0, Int.zero_mul, Int.tdiv_zero]; exact hn
    · rw [hF.2.1 8 (by decide)]
      split <;> omega
end RNUM11
