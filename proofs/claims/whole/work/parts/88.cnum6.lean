/-! setTime, asTime, setDigits -/
def asT (v : Int) : Int := if 0 ≤ v ∧ v ≤ 1000000000000000 then v else -1
section CNUM6
variable {g : im_g} {d : Nat} {e : im_E} {M M0 : im_M} {K : im_K}
theorem dv_one (B : Int) (f : Int → Int) : dv B f 0 1 = f 0 := by
  rw [dv_s0, Int.pow_zero]; show 0 + f 0 * 1 = f 0; omega
theorem dv_2 (B : Int) (f : Int → Int) : dv B f 0 2 = f 0 + f 1 * B := by
  rw [dv_s0, dv_one, Int.pow_succ, Int.pow_zero, Int.one_mul]; rfl
theorem sm_le {v : Int} (h0 : 0 ≤ v) (h1 : v < 1000000000000000000) : sm v := by
  have := LIM_eq
  have hp := bpow_le (B := 1000000000) (by decide) (n := 2) (m := 33) (by decide)
  rw [show (1000000000 : Int) ^ 2 = 1000000000000000000 from by decide] at hp
  unfold sm
  generalize (1000000000 : Int) ^ 33 = P at *
  omega
theorem c_setTime {a : Nat} {t : Int} (ha : im_num e a) (h0 : 0 ≤ t) (h1 : t < 1000000000000000000) (hd : 1 ≤ d) (hK : ∀ M', NF a M M' → cn M' a t → K (.inl none) e M') : im_T g d 127 0 [some (.ref a), some (vL t), none, none, none] [] e M K := by
  refine k_Num_setTime_0 ha hd (k_Num_clear_0 ha ⟨rfl, rfl, ?_⟩)
  generalize hM1 : im_u (im_u M a 0 0) a 1 0 = M1
  have f1 : M1 a 1 = 0 := by rw [← hM1, im_rds]
  have hF1 : NF a M M1 := by rw [← hM1]; exact ((NF.rf _ _).o _ _).o _ _
  by_cases ht : t = 0
  · subst ht
    refine k_Num_setTime_6 ha ⟨by constructor <;> omega, fun z => absurd z (by omega), fun _ x hx => hK _ (hF1.o _ _) (cn_z ?_ ?_)⟩
    · rw [im_rds]; omega
    · rw [im_rdk _ _ _ (by decide)]; exact f1
  · refine k_Num_setTime_6 ha ?_
    rw [f1, Int.tdiv_eq_ediv_of_nonneg h0, Int.tmod_eq_emod_of_nonneg h0]
    refine ⟨by constructor <;> omega, fun _ _ => ⟨by constructor <;> omega, by constructor <;> omega, by rw [im_rdn _ _ _ _ (by omega), f1]; constructor <;> omega, ?_⟩, fun z => absurd z (by omega)⟩
    rw [im_rdn _ _ _ _ (by omega), f1]
    generalize hM2 : im_u (im_u M1 (a + 1) 0 (t % 1000000000)) a 1 (0 + 1) = M2
    have g1 : M2 a 1 = 1 := by rw [← hM2, im_rds]; rfl
    have gl : M2 (a + 1) = im_up (M1 (a + 1)) 0 (t % 1000000000) := by rw [← hM2, im_u_ne _ _ _ (by omega), im_u_eq]
    have hF2 : NF a M M2 := by rw [← hM2]; exact (hF1.l _ _).o _ _
    by_cases hq : t / 1000000000 = 0
    · rw [hq]
      refine k_Num_setTime_6 ha ⟨by constructor <;> omega, fun z => absurd z (by omega), fun _ x hx => hK _ (hF2.o _ _) ?_⟩
      have hx : x = 1 := by omega
      subst hx
      have hl : im_u M2 a 0 1 (a + 1) = im_up (M1 (a + 1)) 0 (t % 1000000000) := by rw [im_u_ne _ _ _ (by omega), gl]
      refine ⟨1, ?_, by decide, ⟨fun i i0 i1 => ?_, fun _ => ?_⟩, Or.inr ⟨Or.inl (im_rds _ _ _ _), by decide⟩, ?_, sm_le h0 h1⟩
      · rw [im_rdk _ _ _ (by decide)]; exact g1
      · rw [hl, show (0 : Int) + i = 0 from by omega, im_up_eq]; omega
      · rw [hl, show (0 : Int) + (((1 : Nat) : Int) - 1) = 0 from rfl, im_up_eq]; omega
      · rw [im_rds, hl, dv_one, im_up_eq]; omega
    · refine k_Num_setTime_6 ha ?_
      rw [g1, Int.tdiv_eq_ediv_of_nonneg (by omega), Int.tmod_eq_emod_of_nonneg (by omega)]
      refine ⟨by constructor <;> omega, fun _ _ => ⟨by constructor <;> omega, by constructor <;> omega, by rw [im_rdn _ _ _ _ (by omega), g1]; constructor <;> omega, ?_⟩, fun z => absurd z (by omega)⟩
      rw [im_rdn _ _ _ _ (by omega), g1]
      generalize hM3 : im_u (im_u M2 (a + 1) 1 (t / 1000000000 % 1000000000)) a 1 (1 + 1) = M3
      have k1 : M3 a 1 = 2 := by rw [← hM3, im_rds]; rfl
      have kl : M3 (a + 1) = im_up (im_up (M1 (a + 1)) 0 (t % 1000000000)) 1 (t / 1000000000 % 1000000000) := by rw [← hM3, im_u_ne _ _ _ (by omega), im_u_eq, gl]
      have hF3 : NF a M M3 := by rw [← hM3]; exact (hF2.l _ _).o _ _
      rw [show t / 1000000000 / 1000000000 = 0 from by omega]
      refine k_Num_setTime_6 ha ⟨by constructor <;> omega, fun z => absurd z (by omega), fun _ x hx => hK _ (hF3.o _ _) ?_⟩
      have hx : x = 1 := by omega
      subst hx
      have hl : im_u M3 a 0 1 (a + 1) = im_up (im_up (M1 (a + 1)) 0 (t % 1000000000)) 1 (t / 1000000000 % 1000000000) := by rw [im_u_ne _ _ _ (by omega), kl]
      refine ⟨2, ?_, by decide, ⟨fun i i0 i1 => ?_, fun _ => ?_⟩, Or.inr ⟨Or.inl (im_rds _ _ _ _), by decide⟩, ?_, sm_le h0 h1⟩
      · rw [im_rdk _ _ _ (by decide)]; exact k1
      · rw [hl]
        by_cases hi : i = 1
        · subst hi; rw [show (0 : Int) + 1 = 1 from rfl, im_up_eq]; omega
        · rw [show (0 : Int) + i = 0 from by omega, im_up_ne _ _ (by decide), im_up_eq]; omega
      · rw [hl, show (0 : Int) + (((2 : Nat) : Int) - 1) = 1 from rfl, im_up_eq]; omega
      · rw [im_rds, hl, dv_2, im_up_eq, im_up_ne _ _ (by decide), im_up_eq]; omega
theorem c_asTime {a : Nat} {v : Int} (ha : im_num e a) (hv : cn M a v) (hK : K (.inl (some (vL (asT v)))) e M) : im_T g d 64 0 [some (.ref a), none, none, none] [] e M K := by
  have hsg := cn_sg hv
  obtain ⟨n, a1, a2, a3, a4, a5, a6⟩ := hv
  unfold asT at hK
  refine k_Num_asTime_0 ha ⟨fun c1 c2 => ?_, fun c => ?_⟩
  · rw [a1] at c2 ⊢
    have hn : n = 0 ∨ n = 1 ∨ n = 2 := by omega
    rcases hn with rfl | rfl | rfl
    · have hv0 : v = 0 := by rw [a5]; show M a 0 * 0 = 0; rw [Int.mul_zero]
      rw [if_pos (by omega), hv0] at hK
      refine k_Num_asTime_28 ha ⟨by constructor <;> omega, ⟨fun _ => by constructor <;> omega, fun z => absurd z (by omega)⟩, fun x hx => ?_⟩
      have : x = 0 := by omega
      rw [this]; exact hK
    · have r0 := a3.1 0 (by decide) (by decide)
      rw [Int.zero_add] at r0
      have hv0 : v = M (a + 1) 0 := by rw [a5, dv_one]; have : M a 0 = 1 := by omega
                                       rw [this, Int.one_mul]
      refine k_Num_asTime_28 ha ⟨by constructor <;> omega, ⟨fun z => absurd z (by decide), fun _ => ⟨by constructor <;> decide, ?_⟩⟩, fun x hx => absurd hx (by simp)⟩
      refine k_Num_asTime_28 ha ⟨by constructor <;> omega, ⟨fun _ => ?_, fun z => absurd z (by decide)⟩, fun x hx => ?_⟩
      · show im_i64 (0 * 1000000000 + M (a + 1) 0)
        constructor <;> omega
      · have : x = v := by
          rw [hv0]
          have e1 : (((1 : Nat) : Int) - 1) = 0 := rfl
          rw [e1] at hx
          omega
        rw [this]
        rw [if_pos (by omega)] at hK
        exact hK
    · have r0 := a3.1 0 (by decide) (by decide)
      have r1 := a3.1 1 (by decide) (by decide)
      rw [Int.zero_add] at r0 r1
      have hv0 : v = M (a + 1) 0 + M (a + 1) 1 * 1000000000 := by rw [a5, dv_2]; have : M a 0 = 1 := by omega
                                                                  rw [this, Int.one_mul]
      refine k_Num_asTime_28 ha ⟨by constructor <;> omega, ⟨fun z => absurd z (by decide), fun _ => ⟨by constructor <;> decide, ?_⟩⟩, fun x hx => absurd hx (by simp)⟩
      refine k_Num_asTime_28 ha ⟨by constructor <;> omega, ⟨fun z => absurd z (by decide), fun _ => ⟨by constructor <;> decide, ?_⟩⟩, fun x hx => absurd hx (by simp)⟩
      have e1 : (((2 : Nat) : Int) - 1) = 1 := rfl
      rw [e1, show (1 : Int) + -1 = 0 from rfl]
      refine k_Num_asTime_28 ha ⟨by constructor <;> omega, ⟨fun _ => by constructor <;> omega, fun z => absurd z (by decide)⟩, fun x hx => ?_⟩
      have : x = if 0 ≤ v ∧ v ≤ 1000000000000000 then v else -1 := by
        split <;> omega
      rw [this]; exact hK
  · have : ¬ (0 ≤ v ∧ v ≤ 1000000000000000) := by
      rcases c with z | ⟨z, w⟩
      · unfold sg at hsg
        split at hsg
        · omega
        · split at hsg <;> omega
      · rw [a1] at w
        have h1 := dnf_pos (B := 1000000000) (by decide) a3 (by omega)
        have h2 := bpow_le (B := 1000000000) (by decide) (n := 2) (m := n - 1) (by omega)
        rw [show (1000000000 : Int) ^ 2 = 1000000000000000000 from by decide] at h2
        have : M a 0 = 1 := by omega
        rw [this, Int.one_mul] at a5
        omega
    rw [if_neg this] at hK
    exact hK
/-- a text's digits, from its end backwards -/
def tdg (f : Int → Int) (to i : Int) : Int := f (to - 1 - i) - 48
theorem l_sdI {a p : Nat} {np : Nat} {from' to mi lo hi : Int} {k : Nat} (ha : im_num e a) (hs : (im_sh0 ++ e)[p]? = some (0, np, [])) (hnp : np ≤ 2147483647) (hlo0 : 0 ≤ lo) (hhi : hi ≤ np) (hhl : hi - lo ≤ 9) (hlh : lo ≤ hi) (hto : to = hi + 9 * k) (hdg : ∀ i, lo ≤ i → i < hi → 48 ≤ M p i ∧ M p i ≤ 57) (hk : M a 1 = k) (hk34 : k < 34)
    (hK : ∀ v, v = dv 10 (tdg (M p) to) (9 * k) (hi - lo).toNat → 0 ≤ v → v < 1000000000 → im_T g d 46 8 [some (.ref a), some (.ref p), some (vI from'), none, some (vI mi), some (vI (hi + -9)), none, none] [] e (im_u (im_u M (a + 1) k v) a 1 (k + 1)) K) :
    ∀ (j : Nat) (i v : Int), i + j = hi → lo ≤ i → v = dv 10 (tdg (M p) to) (to - i) (i - lo).toNat → im_T g d 46 37 [some (.ref a), some (.ref p), some (vI from'), none, some (vI mi), some (vI hi), some (vI v), some (vI i)] [] e M K := by
  have hdok : ∀ i, lo ≤ i → i ≤ hi → dok 10 (tdg (M p) to) (to - i) (i - lo).toNat := by
    intro i i0 i1 x x0 x1
    unfold tdg
    have := hdg (to - 1 - (to - i + x)) (by omega) (by omega)
    omega
  intro j
  induction j with
  | zero =>
    intro i v hj hi0 hv
    obtain rfl : i = hi := by omega
    have hb := dv_bd (B := 10) (by decide) (hdok i hi0 (by omega))
    have h9 := bpow_le (B := 10) (by decide) (n := (i - lo).toNat) (m := 9) (by omega)
    rw [show (10 : Int) ^ 9 = 1000000000 from by decide] at h9
    refine k_Num_setDigits_37 ha hs hnp ?_
    rw [hk, im_rdn _ _ _ _ (by omega), hk]
    refine ⟨by constructor <;> omega, by constructor <;> omega, fun _ => ⟨by constructor <;> omega, by constructor <;> omega, by constructor <;> omega, hK v ?_ (by omega) (by omega)⟩, fun z => absurd z (by omega)⟩
    rw [hv]
    congr 1
    omega
  | succ j ih =>
    intro i v hj hi0 hv
    have hb := dv_bd (B := 10) (by decide) (hdok i hi0 (by omega))
    have hdi := hdg i hi0 (by omega)
    refine k_Num_setDigits_37 ha hs hnp ⟨by constructor <;> omega, by constructor <;> omega, fun z => absurd z (by omega), fun _ => ⟨by constructor <;> omega, ?_⟩⟩
    refine ih (i + 1) _ (by omega) (by omega) ?_
    rw [show (i + 1 - lo).toNat = (i - lo).toNat + 1 from by omega, dv_cons, hv, show to - (i + 1) + 1 = to - i from by omega]
    unfold tdg
    rw [show to - 1 - (to - (i + 1)) = i from by omega]
    omega
/-- the number that a text's digits spell, without needless zeros -/
theorem l_sd {a p : Nat} {np : Nat} {from' to mi : Int} {N : Nat} (ha : im_num e a) (hs : (im_sh0 ++ e)[p]? = some (0, np, [])) (hnp : np ≤ 2147483647) (hpa : p ≠ a) (hpl : p ≠ a + 1) (hf0 : 0 ≤ from') (hN : to = from' + N) (hN3 : N ≤ 300) (hto : to ≤ np) (hdg : ∀ i, from' ≤ i → i < to → 48 ≤ M0 p i ∧ M0 p i ≤ 57) (hnz : 0 < N → M0 p from' ≠ 48) (hmi : mi = 0 ∨ mi = 1)
    (hK : ∀ M', NF a M0 M' → cn M' a ((if mi = 0 then 1 else -1) * dv 10 (tdg (M0 p) to) 0 N) → K (.inl none) e M') :
    ∀ (j k : Nat) (M : im_M), k + j = (N + 8) / 9 → NF a M0 M → M a 1 = k → dok 1000000000 (M (a + 1)) 0 k → dv 1000000000 (M (a + 1)) 0 k = dv 10 (tdg (M0 p) to) 0 (min (9 * k) N) → im_T g d 46 8 [some (.ref a), some (.ref p), some (vI from'), none, some (vI mi), some (vI (to - 9 * k)), none, none] [] e M K := by
  have hdokA : dok 10 (tdg (M0 p) to) 0 N := by
    intro x x0 x1
    unfold tdg
    have := hdg (to - 1 - (0 + x)) (by omega) (by omega)
    omega
  intro j
  induction j with
  | zero =>
    intro k M hk hF h1 hdk hv
    rw [show min (9 * k) N = N from by omega] at hv
    have hdn : dnf 10 (tdg (M0 p) to) 0 N := ⟨hdokA, fun h => by
      unfold tdg
      rw [show to - 1 - (0 + ((N : Int) - 1)) = from' from by omega]
      have := hnz h
      omega⟩
    have hpos := dnf_pos (B := 10) (by decide) hdn
    have hbd := dv_bd (B := 10) (by decide) hdokA
    refine k_Num_setDigits_8 ha hs hnp ?_
    rw [h1]
    refine ⟨by constructor <;> omega, by constructor <;> omega, fun z => absurd z (by omega), fun _ => ⟨fun _ => by constructor <;> omega, fun x hx => hK _ (hF.o _ _) ?_⟩⟩
    have hl : im_u M a 0 x (a + 1) = M (a + 1) := im_u_ne _ _ _ (by omega)
    have hxs : x = if k = 0 then 0 else if mi = 0 then 1 else -1 := by
      by_cases hk0 : k = 0
      · rw [if_pos hk0]; omega
      · rw [if_neg hk0]; split <;> omega
    have hlim : (10 : Int) ^ N ≤ LIM := by unfold LIM; exact bpow_le (by decide) hN3
    refine ⟨k, ?_, by omega, ⟨by rw [hl]; exact hdk, fun hk0 => ?_⟩, ?_, ?_, ?_⟩
    · rw [im_rdk _ _ _ (by decide)]; exact h1
    · rw [hl]
      intro z
      obtain ⟨q, rfl⟩ : ∃ q, k = q + 1 := ⟨k - 1, by omega⟩
      rw [show (0 : Int) + (((q + 1 : Nat) : Int) - 1) = q from by omega] at z
      rw [dv_s0, z, Int.zero_mul, Int.add_zero] at hv
      have h3 := (dv_bd (B := 1000000000) (by decide) (hdk.le (k := q) (by omega))).2
      have h4 := hpos (by omega)
      have h5 : (1000000000 : Int) ^ q = 10 ^ (9 * q) := by rw [Int.pow_mul, p9]
      have h6 := bpow_le (B := 10) (by decide) (n := 9 * q) (m := N - 1) (by omega)
      omega
    · rw [im_rds, hxs]
      by_cases hk0 : k = 0
      · rw [if_pos hk0]; exact Or.inl ⟨rfl, hk0⟩
      · rw [if_neg hk0]; exact Or.inr ⟨by split <;> omega, by omega⟩
    · rw [im_rds, hl, hv, hxs]
      by_cases hk0 : k = 0
      · have : N = 0 := by omega
        subst this
        show _ * 0 = _ * 0
        rw [Int.mul_zero, Int.mul_zero]
      · rw [if_neg hk0]
    · unfold sm
      split
      · rw [Int.one_mul]; omega
      · rw [Int.neg_mul, Int.one_mul]; omega
  | succ j ih =>
    intro k M hk hF h1 hdk hv
    have ep : M p = M0 p := hF p hpa hpl
    refine k_Num_setDigits_8 ha hs hnp ?_
    rw [h1]
    refine ⟨by constructor <;> omega, by constructor <;> omega, fun _ _ => ⟨by constructor <;> omega, ?_⟩, fun z => absurd z (by omega)⟩
    generalize hlo : max from' (to - 9 * (k : Int) - 9) = lo
    refine l_sdI (lo := lo) (to := to) (k := k) ha hs hnp (by omega) (by omega) (by omega) (by omega) (by omega) (fun i i0 i1 => by rw [ep]; exact hdg i (by omega) (by omega)) h1 (by omega) (fun v hve v0 v1 => ?_) ((to - 9 * (k : Int)) - lo).toNat lo 0 (by omega) (by omega) (by rw [show (lo - lo).toNat = 0 from by omega]; rfl)
    rw [ep] at hve
    rw [show to - 9 * (k : Int) + -9 = to - 9 * ((k + 1 : Nat) : Int) from by omega, show (k : Int) + 1 = ((k + 1 : Nat) : Int) from by omega]
    refine ih (k + 1) _ (by omega) ((hF.l _ _).o _ _) (im_rds _ _ _ _) ?_ ?_
    · rw [im_u_ne _ _ _ (by omega), im_u_eq]; exact im_up_dok0 hdk v0 v1
    · rw [im_u_ne _ _ _ (by omega), im_u_eq, im_up_dv0, hv, hve, show min (9 * (k + 1)) N = 9 * k + (to - 9 * (k : Int) - lo).toNat from by omega, dv_add 10 _ 0 (9 * k), show min (9 * k) N = 9 * k from by omega, Int.zero_add, show ((9 * k : Nat) : Int) = 9 * (k : Int) from by omega, Int.mul_comm]
      congr 2
      rw [Int.pow_mul, p9]
theorem c_sd {a p : Nat} {np : Nat} {from' to mi : Int} {N : Nat} (ha : im_num e a) (hs : (im_sh0 ++ e)[p]? = some (0, np, [])) (hnp : np ≤ 2147483647) (hpa : p ≠ a) (hpl : p ≠ a + 1) (hf0 : 0 ≤ from') (hN : to = from' + N) (hN3 : N ≤ 300) (hto : to ≤ np) (hdg : ∀ i, from' ≤ i → i < to → 48 ≤ M p i ∧ M p i ≤ 57) (hnz : 0 < N → M p from' ≠ 48) (hmi : mi = 0 ∨ mi = 1)
    (hK : ∀ M', NF a M M' → cn M' a ((if mi = 0 then 1 else -1) * dv 10 (tdg (M p) to) 0 N) → K (.inl none) e M') : im_T g d 46 0 [some (.ref a), some (.ref p), some (vI from'), some (vI to), some (vI mi), none, none, none] [] e M K := by
  refine k_Num_setDigits_0 ha hs hnp ?_
  have := l_sd (g := g) (d := d) (M0 := M) (K := K) ha hs hnp hpa hpl hf0 hN hN3 hto hdg hnz hmi hK ((N + 8) / 9) 0 (im_u M a 1 0) (by omega) ((NF.rf _ _).o _ _) (im_rds _ _ _ _) (fun i i0 i1 => by omega) (by rw [show min (9 * 0) N = 0 from by omega]; rfl)
  rw [show to - 9 * ((0 : Nat) : Int) = to from by omega] at this
  exact this
end CNUM6
