section RNUM3
variable {g : im_g} {d : Nat} {e : im_E} {M M0 : im_M} {K : im_K}
theorem dg_rng {f : Int → Int} {r k : Int} {n : Nat} (h : f (r + 1) = n) (hd : dok 10 f (r + 2) n) (hk : 0 ≤ k) : 0 ≤ dg f r k ∧ dg f r k ≤ 9 := by
  have := dg_dok h hd (k.toNat + 1) k hk (by omega)
  rw [Int.zero_add] at this
  omega
theorem l_sizes {a b : Int} {na nb N : Nat} (ha0 : 0 ≤ a) (hb0 : 0 ≤ b) (ha : M 6955 (a + 1) = na) (hb : M 6955 (b + 1) = nb) (hda : dok 10 (M 6955) (a + 2) na) (hdb : dok 10 (M 6955) (b + 2) nb) (hal : a + 2 + na ≤ 1100000) (hbl : b + 2 + nb ≤ 1100000) (hN : N ≤ 100000) (hd : 1 ≤ d) (hK : K (.inl (some (vI (cmpI (dv 10 (dg (M 6955) a) 0 N) (dv 10 (dg (M 6955) b) 0 N))))) e M) : ∀ (k : Nat), k ≤ N → (∀ i : Int, k ≤ i → i < N → dg (M 6955) a i = dg (M 6955) b i) → im_T g d 303 44 [some (.ref 6952), some (vI a), some (vI b), none, some (vI ((k : Int) - 1))] [] e M K := by
  intro k
  induction k with
  | zero =>
    intro hk hs
    refine b_sizes_44 hd ⟨by constructor <;> omega, fun _ => ?_, fun z => absurd z (by omega)⟩
    have e1 : dv 10 (dg (M 6955) a) 0 N = dv 10 (dg (M 6955) b) 0 N := dv_congr (fun i i0 i1 => by rw [Int.zero_add]; exact hs i (by omega) i1)
    rw [e1] at hK
    unfold cmpI at hK
    rw [if_neg (by omega), if_pos rfl] at hK
    exact hK
  | succ k ih =>
    intro hk hs
    rw [show ((k + 1 : Nat) : Int) - 1 = (k : Int) from by omega]
    have ra := dg_rng (k := k) ha hda (by omega)
    have rb := dg_rng (k := k) hb hdb (by omega)
    refine b_sizes_44 hd ⟨by constructor <;> omega, fun z => absurd z (by omega), fun _ => ?_⟩
    refine c_digit ha0 (by omega) (by omega) (by omega) (by omega) ⟨_, rfl, rfl, ?_⟩
    refine c_digit hb0 (by omega) (by omega) (by omega) (by omega) ⟨_, rfl, rfl, ?_⟩
    refine ⟨by constructor <;> omega, by constructor <;> omega, fun heq => ?_, fun hne => ?_⟩
    · exact ih (by omega) (fun i i0 i1 => by
        by_cases hi : i = k
        · subst hi; exact heq
        · exact hs i (by omega) i1)
    · refine c_digit ha0 (by omega) (by omega) (by omega) (by omega) ⟨_, rfl, rfl, ?_⟩
      refine c_digit hb0 (by omega) (by omega) (by omega) (by omega) ⟨_, rfl, rfl, ?_⟩
      refine ⟨by constructor <;> omega, by constructor <;> omega, fun x hx => ?_⟩
      have hA := dg_dok ha hda N
      have hB := dg_dok hb hdb N
      have e1 : x = cmpI (dv 10 (dg (M 6955) a) 0 N) (dv 10 (dg (M 6955) b) 0 N) := by
        unfold cmpI
        rcases Int.lt_or_gt_of_ne hne with hl | hl
        · have h5 := dv_lt (B := 10) (by decide) (k := k) (n := N) (by omega) hA hB (by rw [Int.zero_add]; exact hl) (fun i i0 i1 => by rw [Int.zero_add]; exact hs i (by omega) i1)
          rw [if_pos h5]
          omega
        · have h5 := dv_lt (B := 10) (by decide) (k := k) (n := N) (by omega) hB hA (by rw [Int.zero_add]; exact hl) (fun i i0 i1 => by rw [Int.zero_add]; exact (hs i (by omega) i1).symm)
          rw [if_neg (by omega), if_neg (by omega)]
          omega
      rw [e1]
      exact hK
theorem c_sizes {a b : Int} {na nb : Nat} (ha0 : 0 ≤ a) (hb0 : 0 ≤ b) (ha : M 6955 (a + 1) = na) (hb : M 6955 (b + 1) = nb) (hda : dok 10 (M 6955) (a + 2) na) (hdb : dok 10 (M 6955) (b + 2) nb) (hal : a + 2 + na ≤ 1100000) (hbl : b + 2 + nb ≤ 1100000) (hna : na ≤ 100000) (hnb : nb ≤ 100000) (hd : 1 ≤ d) (hK : K (.inl (some (vI (cmpI (dv 10 (M 6955) (a + 2) na) (dv 10 (M 6955) (b + 2) nb))))) e M) : im_T g d 303 0 [some (.ref 6952), some (vI a), some (vI b), none, none] [] e M K := by
  refine b_sizes_0 ⟨by constructor <;> omega, by constructor <;> omega, fun x hx => ?_⟩
  have hx : x = ((max na nb : Nat) : Int) := by omega
  subst hx
  refine l_sizes (N := max na nb) ha0 hb0 ha hb hda hdb hal hbl (by omega) hd ?_ _ (Nat.le_refl _) (fun i i0 i1 => by omega)
  rw [dg_dv ha (by omega), dg_dv hb (by omega)]
  exact hK
theorem c_order {a b va vb : Int} {na nb : Nat} (hra : rn (M 6955) a na va) (hrb : rn (M 6955) b nb vb) (ha0 : 0 ≤ a) (hb0 : 0 ≤ b) (hal : a + 2 + na ≤ 1100000) (hbl : b + 2 + nb ≤ 1100000) (hna : na ≤ 100000) (hnb : nb ≤ 100000) (hd : 2 ≤ d) (hK : K (.inl (some (vI (cmpI va vb)))) e M) : im_T g d 302 0 [some (.ref 6952), some (vI a), some (vI b)] [] e M K := by
  have sa := rn_sg hra
  have sb := rn_sg hrb
  obtain ⟨a1, a2, a3, a4⟩ := hra
  obtain ⟨b1, b2, b3, b4⟩ := hrb
  have da := dv_bd (B := 10) (by decide) a2.1
  have db := dv_bd (B := 10) (by decide) b2.1
  refine b_order_0 (by omega) ⟨by constructor <;> omega, by constructor <;> omega, fun heq => ⟨fun hp => ?_, fun hn => ?_⟩, fun x hx => ?_⟩
  · refine c_sizes ha0 hb0 a1 b1 a2.1 b2.1 hal hbl hna hnb (by omega) ⟨_, rfl, rfl, ?_⟩
    have e1 : cmpI va vb = cmpI (dv 10 (M 6955) (a + 2) na) (dv 10 (M 6955) (b + 2) nb) := by
      rw [← heq] at b3 b4
      rcases a3 with ⟨z, z2⟩ | ⟨z | z, z2⟩
      · subst z2
        rcases b3 with ⟨w, w2⟩ | ⟨w | w, w2⟩
        · subst w2; rw [a4, b4, z]; simp [dv]
        · omega
        · omega
      · rw [a4, b4, z, Int.one_mul, Int.one_mul]
      · omega
    rw [← e1]
    exact hK
  · refine c_sizes hb0 ha0 b1 a1 b2.1 a2.1 hbl hal hnb hna (by omega) ⟨_, rfl, rfl, ?_⟩
    have e1 : cmpI va vb = cmpI (dv 10 (M 6955) (b + 2) nb) (dv 10 (M 6955) (a + 2) na) := by
      rw [← heq] at b4
      have z : M 6955 a = -1 := by omega
      rw [a4, b4, z]
      unfold cmpI
      rw [Int.neg_mul, Int.one_mul, Int.neg_mul, Int.one_mul]
      by_cases h1 : dv 10 (M 6955) (b + 2) nb < dv 10 (M 6955) (a + 2) na
      · rw [if_pos (by omega), if_pos h1]
      · rw [if_neg (by omega), if_neg h1]
        by_cases h2 : dv 10 (M 6955) (b + 2) nb = dv 10 (M 6955) (a + 2) na
        · rw [if_pos (by omega), if_pos h2]
        · rw [if_neg (by omega), if_neg h2]
    rw [← e1]
    exact hK
  · have e1 : x = cmpI va vb := by
      rw [sa, sb] at hx
      unfold sg at hx
      unfold cmpI
      (repeat' split at hx) <;> (repeat' split) <;> omega
    rw [e1]
    exact hK
theorem c_zero (h0 : 0 ≤ M 6952 7) (h1 : M 6952 7 + 2 ≤ 1100000) (hK : ∀ M', RF [] [7] (M 6952 7) M M' → rn (M' 6955) (M 6952 7) 0 0 → M' 6952 7 = M 6952 7 + 2 → K (.inl (some (vI (M 6952 7)))) e M') : im_T g d 386 0 [some (.ref 6952), none] [] e M K := by
  refine b_zero_0 ⟨by constructor <;> omega, by constructor <;> omega, by constructor <;> omega, ?_⟩
  refine hK _ ((((RF.rf _ _ _ _).pool (by omega) _).pool (by omega) _).fld (by decide) _) ?_ (im_rds _ _ _ _)
  have e1 : im_u (im_u (im_u M 6955 (M 6952 7) 0) 6955 (M 6952 7 + 1) 0) 6952 7 (M 6952 7 + 2) 6955 (M 6952 7) = 0 := by
    rw [im_rdn _ _ _ _ (by decide), im_rdk _ _ _ (by omega), im_rds]
  refine ⟨by rw [im_rdn _ _ _ _ (by decide), im_rds]; rfl, ⟨fun i i0 i1 => by omega, fun z => by omega⟩, Or.inl ⟨e1, rfl⟩, ?_⟩
  rw [e1, Int.zero_mul]
theorem c_minus {r v : Int} {n : Nat} (hr : rn (M 6955) r n v) (h1 : 0 ≤ r) (h2 : r + 2 + n ≤ M 6952 7) (h4 : M 6952 7 + n + 2 ≤ 1100000) (hd : 1 ≤ d) (hK : ∀ M', RF [] [7] (M 6952 7) M M' → rn (M' 6955) (M 6952 7) n (-v) → M' 6952 7 = M 6952 7 + n + 2 → K (.inl (some (vI (M 6952 7)))) e M') : im_T g d 393 0 [some (.ref 6952), some (vI r), none] [] e M K := by
  refine b_minus_0 hd (c_copyOf hr h1 h2 h4 (fun M' hF hrn ht => ⟨_, rfl, rfl, ?_⟩))
  obtain ⟨r1, r2, r3, r4⟩ := id hrn
  refine ⟨by constructor <;> omega, by constructor <;> omega, hK _ (hF.pool (by omega) _) ?_ ((im_rdn _ _ _ _ (by decide)).trans ht)⟩
  have hs : ∀ i : Int, 0 ≤ i → i < n → M' 6955 (M 6952 7 + 2 + i) = im_u M' 6955 (M 6952 7) (-(M' 6955 (M 6952 7))) 6955 (M 6952 7 + 2 + i) := fun i i0 i1 => (im_rdk _ _ _ (by omega)).symm
  refine ⟨(im_rdk _ _ _ (by omega)).trans r1, ⟨dok_congr hs r2.1, fun hn => ?_⟩, ?_, ?_⟩
  · rw [← hs _ (by omega) (by omega)]; exact r2.2 hn
  · rw [im_rds]; omega
  · rw [im_rds, ← dv_congr hs, r4, Int.neg_mul]
end RNUM3
