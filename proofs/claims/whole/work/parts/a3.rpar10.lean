section RPAR10
variable {g : im_g} {d : Nat} {e : im_E} {M M0 : im_M} {K : im_K} {lo kp pk a p q ty nm v m lw : Int} {x : en} {r L : List en} {R : Rw}
theorem NL_use {M3 : im_M} (h : NH M0 M lo kp pk a p q ty nm x r R m lw L) (hb : bgn x.1 ty) (hb2 : ty ≠ 34 ∧ ty ≠ 35) (hmu : ¬ much R lo m x.2.1) (hN : NL M M3 m x.2.1 x.2.2.1 (kR ty 0)) (hKs : KSR e K M0 lo kp pk q ty nm v (x :: r, R, m, lw)) : M3 6952 17 = q ∧ stR (im_u M3 6952 14 q) L ∧ (∀ M5, SR (im_u M3 6952 14 q) M5 → stR M5 (rst (nodR R m ty nm v x.2.1 x.2.2.1) false (shE ty m ++ r)) → K (.inl none) e M5) := by
  obtain ⟨n1, n2, n3, n4, n5, n6, n7, n8, n9⟩ := id hN
  obtain ⟨hJ, ht, hty, hkw, hw, hq2, hc29, hap, h38, hlo4, hLl, hL, hx, h37⟩ := id h
  have hT := hJ.2.2.1
  refine ⟨(n4 17 (by decide) (by decide)).trans ht.2.2.2.1, ⟨?_, ?_⟩, fun M5 hS gs => ?_⟩
  · rw [im_rdk _ _ _ (by decide), n4 45 (by decide) (by decide)]; exact hJ.2.2.2.2.1.1
  · exact stkR_congr L hJ.2.2.2.2.1.2 (fun y i b c _ _ => by rw [im_rdn _ _ _ _ (by omega), n1 y (by omega) (by omega)])
  · refine NL_fin h hb hmu hN hKs (M4 := im_u M3 6952 14 q) (fun y b _ _ _ => im_u_ne _ _ _ b) (fun y i b _ => im_rdn _ _ _ _ (by omega)) (fun i _ => im_rdn _ _ _ _ (by decide)) (fun k _ b => im_rdk _ _ _ b) (im_rds _ _ _ _) ?_ ?_ (fun z => absurd z hb2.1) hS gs
    · rw [im_rdk _ _ _ (by decide), n4 7 (by decide) (by decide)]; omega
    · rw [im_rdn _ _ _ _ (by decide), if_neg hb2.2]; exact n8.1
theorem c_readValue {dp nt : Int} {t : Int → Int} (h : NH M0 M lo kp pk a p q ty nm x r R m lw L) (hx9 : x.1 = 118) (hdp : dp = deepOf R x.2.1)
    (hrt : rtx M t nt) (hpq : ty = 34 → p < q) (hqn : ty = 34 → q ≤ nt) (hwd : ty = 34 → wrd t p q 34 nm v) (h8 : M 6952 8 = 0 ∨ M 6952 8 = 1) (hkp : 0 ≤ kp) (hkp2 : kp + 3 * a + 302 ≤ 1100000)
    (hd : 3 ≤ d) (hKf : KFR e K M0 lo kp pk p ty nm v (x :: r, R, m, lw)) (hKs : KSR e K M0 lo kp pk q ty nm v (x :: r, R, m, lw)) : im_T g d 289 0 [some (.ref 6952), some (vI x.2.1), some (vI x.2.2.1), some (vI dp), none, none] [] e M K := by
  obtain ⟨hJ, ht, hty, hkw, hw, hq2, hc29, hap, h38, hlo4, hLl, hL, hx, h37⟩ := id h
  have rr2 := rk_2 hty.1 hty.2
  have r4 : rk ty = 1 ↔ ty = 34 := (rk_vals ty).2.2.2.1
  have r5 : rk ty = 4 ↔ ty = 35 := (rk_vals ty).2.2.2.2.1
  have hdb := NH_dp h
  rw [← hdp] at hdb
  have hm5 : m ≤ 5000 := hw.2.2.2.1
  have hm0 : 0 ≤ m := by have : lo ≤ m := hw.2.1; have := hw.1; omega
  have hT := hJ.2.2.1
  have i32m : im_i32 m := by constructor <;> omega
  have i32d : im_i32 dp := by constructor <;> omega
  have i32d1 : im_i32 (dp + 1) := by constructor <;> omega
  obtain ⟨hdeep, h1m, h3m, hrr⟩ := NH_row (v := v) h
  rw [← hdp] at hdeep h1m
  have s3 : ∀ M3 M4 : im_M, NL M M3 m x.2.1 x.2.2.1 (kR ty 0) → (∀ y, y ≠ 6952 → y ≠ 6955 → y ≠ 6961 → y ≠ 6968 → M4 y = M3 y) → (∀ k, k ≠ 7 → k ≠ 14 → M4 6952 k = M3 6952 k) → stR M4 L := fun M3 M4 hN b1 b2 => ⟨by rw [b2 45 (by decide) (by decide), hN.2.2.2.1 45 (by decide) (by decide)]; exact hJ.2.2.2.2.1.1, stkR_congr L hJ.2.2.2.2.1.2 (fun y i b c _ _ => by rw [b1 y (by omega) (by omega) (by omega) (by omega), hN.1 y (by omega) (by omega)])⟩
  refine b_readValue_0 (by omega) ?_
  rw [ht.2.1]
  refine ⟨fun n1 n4 h22 => ?_, fun w hww => ⟨fun hw0 => ?_, fun hw0 => ?_⟩⟩
  · have ht33 := rr2.mp h22
    have e18 : M 6952 18 = nm := ht.2.2.2.2.1 (Or.inl ht33)
    rw [e18]
    refine c_valueOf ht33.1 ht33.2 (hkw ht33.1 ht33.2) (fun w w1 w2 => ⟨_, rfl, rfl, ?_⟩)
    by_cases hin : ¬ (6 ≤ ty ∧ ty ≤ 16)
    · have hw0 := w2 hin
      subst hw0
      exact ⟨by decide, fun z => absurd rfl z, fun _ => c_ft hJ ht hty.1 hty.2 (fun c1 c2 => stp_n4 hx h37 (fun z => hin (by unfold bgn at z; omega))) (by omega) hKf⟩
    have hin := Decidable.of_not_not hin
    have hwk := w1 hin
    have hb : bgn x.1 ty := by unfold bgn; omega
    have hwb : 22 ≤ w ∧ w ≤ 32 := by
      rw [hwk]; unfold kR
      rw [if_neg (by omega), if_neg (by omega), if_neg (by omega), if_pos (by omega)]; omega
    refine ⟨by constructor <;> omega, fun _ => c_nl h hb (by constructor <;> omega) hdp i32d (by omega) hKf (fun hmu M3 hN => ?_), fun z => by omega⟩
    obtain ⟨q17, s4, fin⟩ := NL_use h hb (by omega) hmu (hwk ▸ hN) hKs
    refine ⟨fun _ => ⟨fun _ => c_use q17 ⟨rfl, rfl, ?_⟩, fun z => by omega⟩, fun z => by omega⟩
    generalize nodR R m ty nm v x.2.1 x.2.2.1 = R' at fin hdeep h1m h3m hrr
    generalize im_u M3 6952 14 q = M4 at s4 fin
    clear w1 w2 hb hwb e18 h22 rr2 r4 r5 n1 n4 hN s3
    have hc : ty = 6 ∨ ty = 7 ∨ ty = 8 ∨ ty = 9 ∨ ty = 10 ∨ ty = 11 ∨ ty = 12 ∨ ty = 13 ∨ ty = 14 ∨ ty = 15 ∨ ty = 16 := by omega
    rcases hc with z | z | z | z | z | z | z | z | z | z | z
    · subst z
      have hwk : w = 22 := hwk
      subst hwk
      refine ⟨⟨fun _ h24 h27 => by omega, fun z => absurd z (by decide)⟩, fun _ => ⟨⟨fun _ n22 n28 => by omega, fun z => absurd z (by decide)⟩, fun _ => ?_⟩⟩
      refine c_pushR (4, m, 2, 0) s4 (by omega) (Or.inl rfl) rfl rfl (fun z => absurd (show (4 : Int) ≤ 3 ∨ (4 : Int) = 8 ∨ (4 : Int) = 10 from z) (by decide)) (by decide) i32m (by decide) i32d (fun P1 hS1 hst1 => ⟨rfl, rfl, ?_⟩)
      refine c_pushR (4, m, 1, 0) hst1 (by show L.length + 1 < 29999; omega) (Or.inl rfl) rfl rfl (fun z => absurd (show (4 : Int) ≤ 3 ∨ (4 : Int) = 8 ∨ (4 : Int) = 10 from z) (by decide)) (by decide) i32m (by decide) i32d (fun P2 hS2 hst2 => ⟨rfl, rfl, ?_⟩)
      refine fin _ (hS1.trans hS2) ?_
      have hl : rst R' false (shE 6 m ++ r) = ((4, m, 1, 0) : en) :: ((4, m, 2, 0) : en) :: rst R' false r := rfl
      rw [hl, hrr]; exact hst2
    · subst z
      have hwk : w = 23 := hwk
      subst hwk
      refine ⟨⟨fun _ h24 h27 => by omega, fun z => absurd z (by decide)⟩, fun _ => ⟨⟨fun n23 _ _ => absurd rfl n23, fun _ => ?_⟩, fun z => by omega⟩⟩
      refine c_pushR (2, m, 1, dp + 1) s4 (by omega) (Or.inl rfl) rfl rfl (fun _ => rfl) (by decide) i32m (by decide) i32d1 (fun P1 hS1 hst1 => ⟨rfl, rfl, ?_⟩)
      refine fin _ hS1 ?_
      have hl : rst R' false (shE 7 m ++ r) = ((2, m, 1, deepOf R' m) : en) :: rst R' false r := rfl
      rw [hl, hdeep, hrr]; exact hst1
    · subst z
      have hwk : w = 24 := hwk
      subst hwk
      refine ⟨⟨fun _ _ _ => ?_, fun z => absurd z (by decide)⟩, fun z => by omega⟩
      refine c_pushR (2, m, 2, dp + 1) s4 (by omega) (Or.inl rfl) rfl rfl (fun _ => rfl) (by decide) i32m (by decide) i32d1 (fun P1 hS1 hst1 => ⟨rfl, rfl, ?_⟩)
      refine c_pushR (2, m, 1, dp + 1) hst1 (by show L.length + 1 < 29999; omega) (Or.inl rfl) rfl rfl (fun _ => rfl) (by decide) i32m (by decide) i32d1 (fun P2 hS2 hst2 => ⟨rfl, rfl, ?_⟩)
      refine fin _ (hS1.trans hS2) ?_
      have hl : rst R' false (shE 8 m ++ r) = ((2, m, 1, deepOf R' m) : en) :: ((2, m, 2, deepOf R' m) : en) :: rst R' false r := rfl
      rw [hl, hdeep, hrr]; exact hst2
    · subst z
      have hwk : w = 25 := hwk
      subst hwk
      refine ⟨⟨fun _ _ _ => ?_, fun z => absurd z (by decide)⟩, fun z => by omega⟩
      refine c_pushR (2, m, 2, dp + 1) s4 (by omega) (Or.inl rfl) rfl rfl (fun _ => rfl) (by decide) i32m (by decide) i32d1 (fun P1 hS1 hst1 => ⟨rfl, rfl, ?_⟩)
      refine c_pushR (2, m, 1, dp + 1) hst1 (by show L.length + 1 < 29999; omega) (Or.inl rfl) rfl rfl (fun _ => rfl) (by decide) i32m (by decide) i32d1 (fun P2 hS2 hst2 => ⟨rfl, rfl, ?_⟩)
      refine fin _ (hS1.trans hS2) ?_
      have hl : rst R' false (shE 9 m ++ r) = ((2, m, 1, deepOf R' m) : en) :: ((2, m, 2, deepOf R' m) : en) :: rst R' false r := rfl
      rw [hl, hdeep, hrr]; exact hst2
    · subst z
      have hwk : w = 26 := hwk
      subst hwk
      refine ⟨⟨fun _ _ _ => ?_, fun z => absurd z (by decide)⟩, fun z => by omega⟩
      refine c_pushR (2, m, 2, dp + 1) s4 (by omega) (Or.inl rfl) rfl rfl (fun _ => rfl) (by decide) i32m (by decide) i32d1 (fun P1 hS1 hst1 => ⟨rfl, rfl, ?_⟩)
      refine c_pushR (2, m, 1, dp + 1) hst1 (by show L.length + 1 < 29999; omega) (Or.inl rfl) rfl rfl (fun _ => rfl) (by decide) i32m (by decide) i32d1 (fun P2 hS2 hst2 => ⟨rfl, rfl, ?_⟩)
      refine fin _ (hS1.trans hS2) ?_
      have hl : rst R' false (shE 10 m ++ r) = ((2, m, 1, deepOf R' m) : en) :: ((2, m, 2, deepOf R' m) : en) :: rst R' false r := rfl
      rw [hl, hdeep, hrr]; exact hst2
    · subst z
      have hwk : w = 27 := hwk
      subst hwk
      refine ⟨⟨fun _ _ _ => ?_, fun z => absurd z (by decide)⟩, fun z => by omega⟩
      refine c_pushR (2, m, 2, dp + 1) s4 (by omega) (Or.inl rfl) rfl rfl (fun _ => rfl) (by decide) i32m (by decide) i32d1 (fun P1 hS1 hst1 => ⟨rfl, rfl, ?_⟩)
      refine c_pushR (2, m, 1, dp + 1) hst1 (by show L.length + 1 < 29999; omega) (Or.inl rfl) rfl rfl (fun _ => rfl) (by decide) i32m (by decide) i32d1 (fun P2 hS2 hst2 => ⟨rfl, rfl, ?_⟩)
      refine fin _ (hS1.trans hS2) ?_
      have hl : rst R' false (shE 11 m ++ r) = ((2, m, 1, deepOf R' m) : en) :: ((2, m, 2, deepOf R' m) : en) :: rst R' false r := rfl
      rw [hl, hdeep, hrr]; exact hst2
    · subst z
      have hwk : w = 28 := hwk
      subst hwk
      refine ⟨⟨fun _ h24 h27 => by omega, fun z => absurd z (by decide)⟩, fun _ => ⟨⟨fun _ n22 n28 => by omega, fun z => absurd z (by decide)⟩, fun _ => ?_⟩⟩
      refine c_pushR (4, m, 2, 0) s4 (by omega) (Or.inl rfl) rfl rfl (fun z => absurd (show (4 : Int) ≤ 3 ∨ (4 : Int) = 8 ∨ (4 : Int) = 10 from z) (by decide)) (by decide) i32m (by decide) i32d (fun P1 hS1 hst1 => ⟨rfl, rfl, ?_⟩)
      refine c_pushR (4, m, 1, 0) hst1 (by show L.length + 1 < 29999; omega) (Or.inl rfl) rfl rfl (fun z => absurd (show (4 : Int) ≤ 3 ∨ (4 : Int) = 8 ∨ (4 : Int) = 10 from z) (by decide)) (by decide) i32m (by decide) i32d (fun P2 hS2 hst2 => ⟨rfl, rfl, ?_⟩)
      refine fin _ (hS1.trans hS2) ?_
      have hl : rst R' false (shE 12 m ++ r) = ((4, m, 1, 0) : en) :: ((4, m, 2, 0) : en) :: rst R' false r := rfl
      rw [hl, hrr]; exact hst2
    · subst z
      have hwk : w = 29 := hwk
      subst hwk
      refine ⟨⟨fun _ h24 h27 => by omega, fun z => absurd z (by decide)⟩, fun _ => ⟨⟨fun _ _ _ => ⟨fun _ => ?_, fun z => absurd z (by decide)⟩, fun z => absurd z (by decide)⟩, fun z => by omega⟩⟩
      refine fin _ (SR.rf _) ?_
      have hl : rst R' false (shE 13 m ++ r) = rst R' false r := rfl
      rw [hl, hrr]; exact s4
    · subst z
      have hwk : w = 30 := hwk
      subst hwk
      refine ⟨⟨fun _ h24 h27 => by omega, fun z => absurd z (by decide)⟩, fun _ => ⟨⟨fun _ _ _ => ⟨fun _ => ?_, fun z => absurd z (by decide)⟩, fun z => absurd z (by decide)⟩, fun z => by omega⟩⟩
      refine fin _ (SR.rf _) ?_
      have hl : rst R' false (shE 14 m ++ r) = rst R' false r := rfl
      rw [hl, hrr]; exact s4
    · subst z
      have hwk : w = 31 := hwk
      subst hwk
      refine ⟨⟨fun _ h24 h27 => by omega, fun z => absurd z (by decide)⟩, fun _ => ⟨⟨fun _ _ _ => ⟨fun z => absurd rfl z, fun _ => ?_⟩, fun z => absurd z (by decide)⟩, fun z => by omega⟩⟩
      refine c_pushR (4, m, 1, 0) s4 (by omega) (Or.inl rfl) rfl rfl (fun z => absurd (show (4 : Int) ≤ 3 ∨ (4 : Int) = 8 ∨ (4 : Int) = 10 from z) (by decide)) (by decide) i32m (by decide) i32d (fun P1 hS1 hst1 => ⟨rfl, rfl, ?_⟩)
      refine fin _ hS1 ?_
      have hl : rst R' false (shE 15 m ++ r) = ((4, m, 1, 0) : en) :: rst R' false r := rfl
      rw [hl, hrr]; exact hst1
    · subst z
      have hwk : w = 32 := hwk
      subst hwk
      refine ⟨⟨fun z => absurd rfl z, fun _ => ?_⟩, fun z => by omega⟩
      refine c_pushR (2, m, 3, dp + 1) s4 (by omega) (Or.inl rfl) rfl rfl (fun _ => rfl) (by decide) i32m (by decide) i32d1 (fun P1 hS1 hst1 => ⟨rfl, rfl, ?_⟩)
      refine c_pushR (2, m, 2, dp + 1) hst1 (by show L.length + 1 < 29999; omega) (Or.inl rfl) rfl rfl (fun _ => rfl) (by decide) i32m (by decide) i32d1 (fun P2 hS2 hst2 => ⟨rfl, rfl, ?_⟩)
      refine c_pushR (3, m, 1, dp + 1) hst2 (by show L.length + 1 + 1 < 29999; omega) (Or.inl rfl) rfl rfl (fun _ => rfl) (by decide) i32m (by decide) i32d1 (fun P3 hS3 hst3 => ⟨rfl, rfl, ?_⟩)
      refine fin _ ((hS1.trans hS2).trans hS3) ?_
      have hl : rst R' false (shE 16 m ++ r) = ((3, m, 1, deepOf R' m) : en) :: ((2, m, 2, deepOf R' m) : en) :: ((2, m, 3, deepOf R' m) : en) :: rst R' false r := rfl
      rw [hl, hdeep, hrr]; exact hst3
  · have hc : (ty = 35 ∧ w = 21) ∨ (ty = 34 ∧ w = 20) := by
      rcases hww with z | z | z
      · omega
      · exact Or.inl ⟨r5.mp z.2.1, z.2.2⟩
      · exact Or.inr ⟨r4.mp z.1, z.2⟩
    have hb : bgn x.1 ty := by unfold bgn; omega
    have hwk : w = kR ty 0 := by
      rcases hc with z | z
      · rw [z.1, z.2]; rfl
      · rw [z.1, z.2]; rfl
    refine c_nl h hb (by constructor <;> omega) hdp i32d (by omega) hKf (fun hmu M3 hN => ?_)
    have hN' : NL M M3 m x.2.1 x.2.2.1 (kR ty 0) := hwk ▸ hN
    obtain ⟨n1, n2, n3, n4, n5, n6, n7, n8, n9⟩ := id hN'
    have q17 : M3 6952 17 = q := (n4 17 (by decide) (by decide)).trans ht.2.2.2.1
    have e7 : M3 6952 7 = M 6952 7 := n4 7 (by decide) (by decide)
    rcases hc with ⟨h35, hw21⟩ | ⟨h34, hw20⟩
    · subst hw21
      have e18 : M3 6952 18 = nm := (n4 18 (by decide) (by decide)).trans (ht.2.2.2.2.1 (Or.inr (Or.inl h35)))
      rw [e18]
      refine ⟨fun _ => ⟨fun z => absurd rfl z, fun _ => ⟨by constructor <;> omega, c_use (q := q) ((im_rdn _ _ _ _ (by decide)).trans q17) ⟨rfl, rfl, ?_⟩⟩⟩, fun z => absurd z (by decide)⟩
      refine ⟨⟨fun _ h24 h27 => by omega, fun z => absurd z (by decide)⟩, fun _ => ⟨⟨fun _ _ _ => ⟨fun _ => ?_, fun z => absurd z (by decide)⟩, fun z => absurd z (by decide)⟩, fun z => by omega⟩⟩
      have b1 : ∀ y, y ≠ 6952 → y ≠ 6955 → y ≠ 6961 → y ≠ 6968 → im_u (im_u M3 6961 m nm) 6952 14 q y = M3 y := fun y b _ c _ => by rw [im_u_ne _ _ _ b, im_u_ne _ _ _ c]
      have b2 : ∀ k, k ≠ 7 → k ≠ 14 → im_u (im_u M3 6961 m nm) 6952 14 q 6952 k = M3 6952 k := fun k _ b => by rw [im_rdk _ _ _ b, im_rdn _ _ _ _ (by decide)]
      refine NL_fin h hb hmu hN' hKs (M4 := im_u (im_u M3 6961 m nm) 6952 14 q) b1 (fun y i b c => ?_) (fun i _ => by rw [im_rdn _ _ _ _ (by decide), im_rdn _ _ _ _ (by decide)]) b2 (im_rds _ _ _ _) ?_ ?_ (fun z => by omega) (SR.rf _) ?_
      · rw [im_rdn _ _ _ _ (by omega)]
        by_cases hy : y = 6961
        · subst hy; exact im_rdk _ _ _ c
        · exact im_rdn _ _ _ _ hy
      · rw [im_rdk _ _ _ (by decide), im_rdn _ _ _ _ (by decide), e7]; omega
      · rw [im_rdn _ _ _ _ (by decide), im_rds, if_pos h35]
      · subst h35
        have hl : rst (nodR R m 35 nm v x.2.1 x.2.2.1) false (shE 35 m ++ r) = rst (nodR R m 35 nm v x.2.1 x.2.2.1) false r := rfl
        rw [hl, hrr]
        exact s3 M3 _ hN' b1 b2
    · subst hw20
      refine ⟨fun z => absurd rfl z, fun _ => ?_⟩
      have hpq' := hpq h34
      have hrt3 : rtx M3 t nt := by
        obtain ⟨c1, c2, c3, c4⟩ := hrt
        exact ⟨(n4 13 (by decide) (by decide)).trans c1, c2, c3, fun i i0 i1 => by rw [n1 6959 (by decide) (by decide)]; exact c4 i i0 i1⟩
      refine c_tokenNumber hrt3 ((n4 16 (by decide) (by decide)).trans ht.2.2.1) q17 (by omega) hpq' (hqn h34) (hwd h34) (by rw [n4 8 (by decide) (by decide)]; exact h8) (by rw [e7]; omega) (by rw [e7]; omega) (by omega) (fun M1 k hF hrn hk300 h7 h8' => ⟨_, rfl, rfl, by constructor <;> omega, by rw [e7]; constructor <;> omega, ?_⟩)
      have hkl := tn_len hrn (hwd h34) hpq'
      rw [e7] at hF hrn h7 ⊢
      have hf : ∀ k, k ≠ 7 → M1 6952 k = M3 6952 k := fun k hk7 => by
        by_cases hk8 : k = 8
        · subst hk8; exact h8'
        · exact hF.2.1 k (fun z => by rcases List.mem_cons.mp z with z | z; exact hk7 z; rcases List.mem_cons.mp z with z | z; exact hk8 z; cases z)
      have hm1 : ∀ y, y ≠ 6955 → y ≠ 6952 → M1 y = M3 y := fun y hy hy2 => hF.1 y (fun z => by cases z) hy hy2
      refine ⟨fun _ => c_use (q := q) ((im_rdn _ _ _ _ (by decide)).trans ((hf 17 (by decide)).trans q17)) ⟨rfl, rfl, ?_⟩, fun z => absurd z (by decide)⟩
      refine ⟨⟨fun _ h24 h27 => by omega, fun z => absurd z (by decide)⟩, fun _ => ⟨⟨fun _ _ _ => ⟨fun _ => ?_, fun z => absurd z (by decide)⟩, fun z => absurd z (by decide)⟩, fun z => by omega⟩⟩
      generalize hM4 : im_u (im_u M1 6968 m (M 6952 7)) 6952 14 q = M4
      have b1 : ∀ y, y ≠ 6952 → y ≠ 6955 → y ≠ 6961 → y ≠ 6968 → M4 y = M3 y := fun y b b' _ c => by rw [← hM4, im_u_ne _ _ _ b, im_u_ne _ _ _ c, hm1 y b' b]
      have b2 : ∀ k, k ≠ 7 → k ≠ 14 → M4 6952 k = M3 6952 k := fun k b' b => by rw [← hM4, im_rdk _ _ _ b, im_rdn _ _ _ _ (by decide), hf k b']
      have b7 : M4 6952 7 = M 6952 7 + 2 + k := by rw [← hM4, im_rdk _ _ _ (by decide), im_rdn _ _ _ _ (by decide)]; exact h7
      have b55 : M4 6955 = M1 6955 := by rw [← hM4, im_u_ne _ _ _ (by decide), im_u_ne _ _ _ (by decide)]
      have b68 : M4 6968 m = M 6952 7 := by rw [← hM4, im_rdn _ _ _ _ (by decide), im_rds]
      refine NL_fin h hb hmu hN' hKs (M4 := M4) b1 (fun y i b c => ?_) (fun i hi => by rw [b55]; exact hF.2.2 i hi) b2 (by rw [← hM4, im_rds]) (by rw [b7]; omega) ?_ (fun _ => ?_) (SR.rf _) ?_
      · rw [← hM4, im_rdn _ _ _ _ (by omega)]
        by_cases hy : y = 6968
        · subst hy; rw [im_rdk _ _ _ c, hm1 6968 (by decide) (by decide)]
        · rw [im_rdn _ _ _ _ hy, hm1 y (by omega) (by omega)]
      · rw [← hM4, im_rdn _ _ _ _ (by decide), im_rdn _ _ _ _ (by decide), hm1 6961 (by decide) (by decide), if_neg (by omega)]; exact n8.1
      · rw [b7, b68]
        exact ⟨k, by rw [b55]; exact hrn, by omega, by omega, hk300⟩
      · subst h34
        have hl : rst (nodR R m 34 nm v x.2.1 x.2.2.1) false (shE 34 m ++ r) = rst (nodR R m 34 nm v x.2.1 x.2.2.1) false r := rfl
        rw [hl, hrr]
        exact s3 M3 _ hN' b1 b2
  · refine c_ft hJ ht hty.1 hty.2 (fun c1 c2 => stp_n4 hx h37 (fun z => ?_)) (by omega) hKf
    rcases hww with u | u | u
    · have a1 : ty ≠ 34 := fun z => u.1 (r4.mpr z)
      have a2 : ty ≠ 35 := fun z => u.2.1 (r5.mpr z)
      have a3 : ¬ (0 ≤ ty ∧ ty ≤ 33) := fun z => u.2.2.1 (rr2.mpr z)
      unfold bgn at z; omega
    · omega
    · omega
end RPAR10
