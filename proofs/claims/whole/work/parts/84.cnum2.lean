/-- the limbs, zeros above -/
def cg (f : Int → Int) (n : Nat) (i : Int) : Int := if i < n then f i else 0
theorem cg_dv {f : Int → Int} {n N : Nat} (hN : n ≤ N) : dv 1000000000 (cg f n) 0 N = dv 1000000000 f 0 n := by
  obtain ⟨k, rfl⟩ : ∃ k, N = n + k := ⟨N - n, by omega⟩
  rw [dv_zeros (fun i h0 h1 => by unfold cg; rw [if_neg (by omega)])]
  exact dv_congr (fun i h0 h1 => by unfold cg; rw [if_pos (by omega)])
theorem cg_rng {f : Int → Int} {n : Nat} (h : dok 1000000000 f 0 n) {k : Int} (hk : 0 ≤ k) : 0 ≤ cg f n k ∧ cg f n k < 1000000000 := by
  unfold cg
  split
  · have := h k hk (by omega)
    rw [Int.zero_add] at this
    exact this
  · decide
theorem im_up_dv0 {B : Int} {f : Int → Int} {x : Int} {k : Nat} : dv B (im_up f k x) 0 (k + 1) = dv B f 0 k + x * B ^ k := by
  have := im_up_dv (B := B) (f := f) (o := 0) (x := x) (k := k)
  rwa [Int.zero_add] at this
theorem im_up_dok0 {B : Int} {f : Int → Int} {x : Int} {k : Nat} (h : dok B f 0 k) (h0 : 0 ≤ x) (h1 : x < B) : dok B (im_up f k x) 0 (k + 1) := by
  have := im_up_dok (B := B) (f := f) (o := 0) (x := x) (k := k) h h0 h1
  rwa [Int.zero_add] at this
section CNUM2
variable {g : im_g} {d : Nat} {e : im_E} {M M0 : im_M} {K : im_K}
theorem l_grow {a p n m N : Nat} {s : Int} (ha : im_num e a) (hp : im_num e p) (hne : a ≠ p) (hn : M0 a 1 = n) (hm : M0 p 1 = m) (hN : N = max n m) (hn34 : n ≤ 34) (hm34 : m ≤ 34) (da : dok 1000000000 (M0 (a + 1)) 0 n) (db : dok 1000000000 (M0 (p + 1)) 0 m) (hs : s = if M0 a 0 = 0 then M0 p 0 else M0 a 0) (hs3 : s = 1 ∨ s = -1 ∨ s = 0) (hs0 : s = 0 → dv 1000000000 (M0 (a + 1)) 0 n + dv 1000000000 (M0 (p + 1)) 0 m = 0) (hLa : dv 1000000000 (M0 (a + 1)) 0 n < LIM) (hLb : dv 1000000000 (M0 (p + 1)) 0 m < LIM) (hd : 1 ≤ d)
    (hK1 : sm (s * (dv 1000000000 (M0 (a + 1)) 0 n + dv 1000000000 (M0 (p + 1)) 0 m)) → ∀ M', NF a M0 M' → cn M' a (s * (dv 1000000000 (M0 (a + 1)) 0 n + dv 1000000000 (M0 (p + 1)) 0 m)) → K (.inl (some (vI 1))) e M')
    (hK0 : ¬ sm (s * (dv 1000000000 (M0 (a + 1)) 0 n + dv 1000000000 (M0 (p + 1)) 0 m)) → ∀ M', NF a M0 M' → cn M' a 0 → K (.inl (some (vI 0))) e M') :
    ∀ (j k : Nat) (c : Int) (M : im_M), k + j = N → (∀ x, x ≠ a + 1 → M x = M0 x) → (∀ i : Int, k ≤ i → M (a + 1) i = M0 (a + 1) i) → dok 1000000000 (M (a + 1)) 0 k → (c = 0 ∨ c = 1) → dv 1000000000 (M (a + 1)) 0 k + c * 1000000000 ^ k = dv 1000000000 (cg (M0 (a + 1)) n) 0 k + dv 1000000000 (cg (M0 (p + 1)) m) 0 k → im_T g d 97 17 [some (.ref a), some (.ref p), some (vI N), some (vI c), some (vI k), none] [] e M K := by
  have hpa : p ≠ a + 1 := im_num_ne hp ha
  have hap : a ≠ p + 1 := im_num_ne ha hp
  intro j
  induction j with
  | zero =>
    intro k c M hk hF hR hdk hc hI
    obtain rfl : k = N := by omega
    rw [cg_dv (by omega), cg_dv (by omega)] at hI
    have hM1 : M (a + 1) = M (a + 1) := rfl
    refine k_Num_grow_17 ha hp hd ⟨by constructor <;> omega, by constructor <;> omega, ⟨fun _ => ⟨by constructor <;> omega, fun c1 c2 => ⟨by constructor <;> omega, ?_, fun x hx => ?_⟩, fun c1 x hx => ?_⟩, fun z => absurd z (by omega)⟩, fun x hx => by omega⟩
    · rw [im_rdn _ _ _ _ (by omega), im_rds]
      constructor <;> omega
    · have q1 : im_u (im_u M a 1 k) (a + 1) k c a 0 = M0 a 0 := by rw [im_rdn _ _ _ _ (by omega), im_rdk _ _ _ (by decide), hF _ (by omega)]
      have q3 : im_u (im_u M a 1 k) (a + 1) k c a 1 = k := by rw [im_rdn _ _ _ _ (by omega), im_rds]
      have q2 : ∀ z, im_u (im_u (im_u M a 1 k) (a + 1) k c) a 1 z p 0 = M0 p 0 := fun z => by rw [im_rdn _ _ _ _ (Ne.symm hne), im_rdn _ _ _ _ hpa, im_rdn _ _ _ _ (Ne.symm hne), hF _ hpa]
      rw [q1, q2] at hx
      have hx : x = s := by rw [hs]; split <;> omega
      subst hx
      obtain rfl : c = 1 := by omega
      refine ⟨by constructor <;> omega, ?_⟩
      rw [q3]
      have q4 : im_u (im_u (im_u (im_u M a 1 k) (a + 1) k 1) a 1 (k + 1)) a 0 x (a + 1) = im_up (M (a + 1)) k 1 := by
        rw [im_u_ne _ _ _ (by omega), im_u_ne _ _ _ (by omega), im_u_eq, im_u_ne _ _ _ (by omega)]
      refine c_settle (n := k + 1) (s := x) (D := dv 1000000000 (M0 (a + 1)) 0 n + dv 1000000000 (M0 (p + 1)) 0 m) ha hs3 hs0 (by omega) ?_ (im_rds _ _ _ _) ?_ ?_ (fun hsm M' hF' hcn => ⟨_, rfl, rfl, by decide, hK1 hsm M' (fun y y1 y2 => ?_) hcn⟩) (fun hsm M' hF' hcn => ⟨_, rfl, rfl, by decide, hK0 hsm M' (fun y y1 y2 => ?_) hcn⟩)
      · rw [im_rdk _ _ _ (by decide), im_rds]; omega
      · rw [q4]; exact im_up_dok0 hdk (by decide) (by decide)
      · rw [q4, im_up_dv0]; exact hI
      · rw [hF' y y1, im_u_ne _ _ _ y1, im_u_ne _ _ _ y1, im_u_ne _ _ _ y2, im_u_ne _ _ _ y1]; exact hF y y2
      · rw [hF' y y1, im_u_ne _ _ _ y1, im_u_ne _ _ _ y1, im_u_ne _ _ _ y2, im_u_ne _ _ _ y1]; exact hF y y2
    · have q1 : M a 0 = M0 a 0 := by rw [hF _ (by omega)]
      have q2 : im_u M a 1 k p 0 = M0 p 0 := by rw [im_rdn _ _ _ _ (Ne.symm hne), hF _ hpa]
      rw [q1, q2] at hx
      have hx : x = s := by rw [hs]; split <;> omega
      subst hx
      have hc0 : c = 0 := by
        rcases hc with z | z
        · exact z
        · exfalso
          have hk34 : k = 34 := by omega
          subst hk34
          rw [z, Int.one_mul] at hI
          have := (dv_bd (B := 1000000000) (by decide) hdk).1
          have e34 : (1000000000 : Int) ^ 34 = 1000000000 ^ 33 * 1000000000 := Int.pow_succ _ _
          have hp := bpow_pos (B := 1000000000) (by decide) 33
          rw [LIM_eq] at hLa hLb
          rw [e34] at hI
          generalize (1000000000 : Int) ^ 33 = P at *
          omega
      subst hc0
      rw [Int.zero_mul, Int.add_zero] at hI
      refine ⟨by constructor <;> omega, ?_⟩
      have q4 : im_u (im_u M a 1 k) a 0 x (a + 1) = M (a + 1) := by
        rw [im_u_ne _ _ _ (by omega), im_u_ne _ _ _ (by omega)]
      refine c_settle (n := k) (s := x) (D := dv 1000000000 (M0 (a + 1)) 0 n + dv 1000000000 (M0 (p + 1)) 0 m) ha hs3 hs0 (by omega) ?_ (im_rds _ _ _ _) ?_ ?_ (fun hsm M' hF' hcn => ⟨_, rfl, rfl, by decide, hK1 hsm M' (fun y y1 y2 => ?_) hcn⟩) (fun hsm M' hF' hcn => ⟨_, rfl, rfl, by decide, hK0 hsm M' (fun y y1 y2 => ?_) hcn⟩)
      · rw [im_rdk _ _ _ (by decide), im_rds]
      · rw [q4]; exact hdk
      · rw [q4]; exact hI
      · rw [hF' y y1, im_u_ne _ _ _ y1, im_u_ne _ _ _ y1]; exact hF y y2
      · rw [hF' y y1, im_u_ne _ _ _ y1, im_u_ne _ _ _ y1]; exact hF y y2
  | succ j ih =>
    intro k c M hk hF hR hdk hc hI
    have q1 : M a 1 = n := by rw [hF _ (by omega)]; exact hn
    have q2 : M p 1 = m := by rw [hF _ hpa]; exact hm
    have q3 : M (a + 1) k = M0 (a + 1) k := hR k (by omega)
    have q4 : M (p + 1) k = M0 (p + 1) k := by rw [hF _ (by omega)]
    have r1 := cg_rng da (k := k) (by omega)
    have r2 := cg_rng db (k := k) (by omega)
    refine k_Num_grow_17 ha hp hd ⟨by constructor <;> omega, by constructor <;> omega, ⟨fun z => absurd z (by omega), fun _ _ => by constructor <;> omega⟩, fun x hx => ⟨fun _ => by constructor <;> omega, fun y hy => ?_⟩⟩
    have hx : x = cg (M0 (a + 1)) n k := by unfold cg; rw [q1, q3] at hx; split <;> omega
    have hy : y = cg (M0 (p + 1)) m k := by unfold cg; rw [q2, q4] at hy; split <;> omega
    rw [← hx] at r1
    rw [← hy] at r2
    refine ⟨by constructor <;> omega, fun w hw => ⟨by constructor <;> omega, by constructor <;> omega, ?_⟩⟩
    have e1 : ((k : Int) + 1) = ((k + 1 : Nat) : Int) := by omega
    rw [e1]
    refine ih (k + 1) w _ (by omega) (fun z hz => (im_u_ne _ _ _ hz).trans (hF z hz)) (fun i hi => (im_rdk _ _ _ (by omega)).trans (hR i (by omega))) ?_ (by omega) ?_
    · rw [im_u_eq]
      exact im_up_dok0 hdk (by omega) (by omega)
    · rw [im_u_eq, im_up_dv0, dv_s0, dv_s0, ← hx, ← hy, Int.pow_succ]
      have h1 := cstep (B := 1000000000) (v := c + x + y) (q := w) (m := c + x + y - w * 1000000000) (P := 1000000000 ^ k) (by omega)
      rw [Int.add_mul, Int.add_mul] at h1
      omega
theorem c_growR {a p n m : Nat} {s : Int} (ha : im_num e a) (hp : im_num e p) (hne : a ≠ p) (hn : M a 1 = n) (hm : M p 1 = m) (hn34 : n ≤ 34) (hm34 : m ≤ 34) (da : dok 1000000000 (M (a + 1)) 0 n) (db : dok 1000000000 (M (p + 1)) 0 m) (hs : s = if M a 0 = 0 then M p 0 else M a 0) (hs3 : s = 1 ∨ s = -1 ∨ s = 0) (hs0 : s = 0 → dv 1000000000 (M (a + 1)) 0 n + dv 1000000000 (M (p + 1)) 0 m = 0) (hLa : dv 1000000000 (M (a + 1)) 0 n < LIM) (hLb : dv 1000000000 (M (p + 1)) 0 m < LIM) (hd : 1 ≤ d)
    (hK1 : sm (s * (dv 1000000000 (M (a + 1)) 0 n + dv 1000000000 (M (p + 1)) 0 m)) → ∀ M', NF a M M' → cn M' a (s * (dv 1000000000 (M (a + 1)) 0 n + dv 1000000000 (M (p + 1)) 0 m)) → K (.inl (some (vI 1))) e M')
    (hK0 : ¬ sm (s * (dv 1000000000 (M (a + 1)) 0 n + dv 1000000000 (M (p + 1)) 0 m)) → ∀ M', NF a M M' → cn M' a 0 → K (.inl (some (vI 0))) e M') : im_T g d 97 0 [some (.ref a), some (.ref p), none, none, none, none] [] e M K := by
  refine k_Num_grow_0 ha hp ?_
  have e1 : max (M a 1) (M p 1) = ((max n m : Nat) : Int) := by rw [hn, hm]; omega
  rw [e1]
  exact l_grow (M0 := M) ha hp hne hn hm rfl hn34 hm34 da db hs hs3 hs0 hLa hLb hd hK1 hK0 (max n m) 0 0 M (by omega) (fun _ _ => rfl) (fun _ _ => rfl) (fun i i0 i1 => by omega) (Or.inl rfl) (by show (0 : Int) + 0 * _ = 0 + 0; rw [Int.zero_mul])
/-- both not below 0 -/
theorem c_grow {a p : Nat} {va vb : Int} (ha : im_num e a) (hp : im_num e p) (hne : a ≠ p) (hva : cn M a va) (hvb : cn M p vb) (ga : 0 ≤ va) (gb : 0 ≤ vb) (hd : 1 ≤ d)
    (hK1 : sm (va + vb) → ∀ M', NF a M M' → cn M' a (va + vb) → K (.inl (some (vI 1))) e M')
    (hK0 : ¬ sm (va + vb) → ∀ M', NF a M M' → cn M' a 0 → K (.inl (some (vI 0))) e M') : im_T g d 97 0 [some (.ref a), some (.ref p), none, none, none, none] [] e M K := by
  have sa := cn_sg hva
  have sb := cn_sg hvb
  obtain ⟨n, a1, a2, a3, a4, a5, a6⟩ := hva
  obtain ⟨m, b1, b2, b3, b4, b5, b6⟩ := hvb
  have pa := (dv_bd (B := 1000000000) (by decide) a3.1).1
  have pb := (dv_bd (B := 1000000000) (by decide) b3.1).1
  unfold sg at sa sb
  have ea : dv 1000000000 (M (a + 1)) 0 n = va := by
    rcases a4 with ⟨z, rfl⟩ | ⟨z | z, hn⟩
    · rw [a5, z, Int.zero_mul]; rfl
    · rw [a5, z, Int.one_mul]
    · rw [if_neg (by omega)] at sa; split at sa <;> omega
  have eb : dv 1000000000 (M (p + 1)) 0 m = vb := by
    rcases b4 with ⟨z, rfl⟩ | ⟨z | z, hn⟩
    · rw [b5, z, Int.zero_mul]; rfl
    · rw [b5, z, Int.one_mul]
    · rw [if_neg (by omega)] at sb; split at sb <;> omega
  have es : (if M a 0 = 0 then M p 0 else M a 0) * (va + vb) = va + vb := by
    by_cases h1 : va = 0
    · by_cases h2 : vb = 0
      · rw [h1, h2]; simp
      · rw [if_neg (by omega), if_neg (by omega)] at sb
        rw [if_neg (by omega), if_pos h1] at sa
        rw [if_pos sa, sb, Int.one_mul]
    · rw [if_neg (by omega), if_neg (by omega)] at sa
      rw [if_neg (by omega), sa, Int.one_mul]
  refine c_growR (s := if M a 0 = 0 then M p 0 else M a 0) ha hp hne a1 b1 a2 b2 a3.1 b3.1 rfl (by split <;> omega) ?_ (by rw [ea]; exact a6.2) (by rw [eb]; exact b6.2) hd ?_ ?_
  · intro h; rw [ea, eb, ← es, h, Int.zero_mul]
  · rw [ea, eb, es]; exact hK1
  · rw [ea, eb, es]; exact hK0
theorem l_shrink {a p q n m : Nat} {s : Int} (ha : im_num e a) (hp : im_num e p) (hq : im_num e q) (hn : M0 p 1 = n) (hm : M0 q 1 = m) (hn34 : n ≤ 34) (hmn : m ≤ n) (da : dok 1000000000 (M0 (p + 1)) 0 n) (db : dok 1000000000 (M0 (q + 1)) 0 m) (hs : M0 a 0 = s) (hs3 : s = 1 ∨ s = -1 ∨ s = 0) (hs0 : s = 0 → dv 1000000000 (M0 (p + 1)) 0 n - dv 1000000000 (M0 (q + 1)) 0 m = 0) (hge : dv 1000000000 (M0 (q + 1)) 0 m ≤ dv 1000000000 (M0 (p + 1)) 0 n) (hL : dv 1000000000 (M0 (p + 1)) 0 n < LIM) (hd : 1 ≤ d)
    (hK : ∀ M', NF a M0 M' → cn M' a (s * (dv 1000000000 (M0 (p + 1)) 0 n - dv 1000000000 (M0 (q + 1)) 0 m)) → K (.inl none) e M') :
    ∀ (j k : Nat) (c : Int) (M : im_M), k + j = n → (∀ x, x ≠ a + 1 → M x = M0 x) → (∀ i : Int, k ≤ i → M (a + 1) i = M0 (a + 1) i) → dok 1000000000 (M (a + 1)) 0 k → (c = 0 ∨ c = 1) → dv 1000000000 (M (a + 1)) 0 k + dv 1000000000 (cg (M0 (q + 1)) m) 0 k = dv 1000000000 (M0 (p + 1)) 0 k + c * 1000000000 ^ k → im_T g d 120 11 [some (.ref a), some (.ref p), some (.ref q), some (vI n), some (vI c), some (vI k), none] [] e M K := by
  have hqa : q ≠ a + 1 := im_num_ne hq ha
  have hpos := (dv_bd (B := 1000000000) (by decide) db).1
  intro j
  induction j with
  | zero =>
    intro k c M hk hF hR hdk hc hI
    obtain rfl : k = n := by omega
    rw [cg_dv hmn] at hI
    have hb := dv_bd (B := 1000000000) (by decide) hdk
    have hpw := bpow_pos (B := 1000000000) (by decide) k
    have hc0 : c = 0 := by
      rcases hc with z | z
      · exact z
      · rw [z, Int.one_mul] at hI; omega
    subst hc0
    rw [Int.zero_mul, Int.add_zero] at hI
    refine k_Num_shrink_11 ha hp hq hd ⟨by constructor <;> omega, by constructor <;> omega, ⟨fun _ => ?_, fun z => absurd z (by omega)⟩, fun x hx => by omega⟩
    have q4 : im_u M a 1 k (a + 1) = M (a + 1) := im_u_ne _ _ _ (by omega)
    refine c_settle (n := k) (s := s) (D := dv 1000000000 (M0 (p + 1)) 0 k - dv 1000000000 (M0 (q + 1)) 0 m) ha hs3 hs0 (by omega) (im_rds _ _ _ _) ?_ (by rw [q4]; exact hdk) (by rw [q4]; omega) (fun hsm M' hF' hcn => ⟨_, rfl, rfl, hK M' (fun y y1 y2 => ?_) hcn⟩) (fun hsm M' hF' hcn => absurd ?_ hsm)
    · rw [im_rdk _ _ _ (by decide), hF _ (by omega)]; exact hs
    · rw [hF' y y1, im_u_ne _ _ _ y1]; exact hF y y2
    · unfold sm
      have := LIM_pos
      rcases hs3 with w | w | w
      · rw [w, Int.one_mul]; omega
      · rw [w, Int.neg_mul, Int.one_mul]; omega
      · rw [w, Int.zero_mul]; omega
  | succ j ih =>
    intro k c M hk hF hR hdk hc hI
    have q2 : M q 1 = m := by rw [hF _ hqa]; exact hm
    have hany : ∀ x, M x k = M0 x k := fun x => by
      by_cases hx : x = a + 1
      · subst hx; exact hR k (by omega)
      · rw [hF x hx]
    have r1 := da k (by omega) (by omega)
    rw [Int.zero_add] at r1
    have r2 := cg_rng db (k := k) (by omega)
    refine k_Num_shrink_11 ha hp hq hd ⟨by constructor <;> omega, by constructor <;> omega, ⟨fun z => absurd z (by omega), fun _ => by constructor <;> omega⟩, fun x hx => ?_⟩
    have hx : x = cg (M0 (q + 1)) m k := by unfold cg; rw [q2, hany] at hx; split <;> omega
    rw [← hx] at r2
    rw [hany (p + 1)]
    refine ⟨by constructor <;> omega, fun w hw => ⟨by constructor <;> omega, by constructor <;> omega, ?_⟩⟩
    have e1 : ((k : Int) + 1) = ((k + 1 : Nat) : Int) := by omega
    rw [e1]
    refine ih (k + 1) w _ (by omega) (fun z hz => (im_u_ne _ _ _ hz).trans (hF z hz)) (fun i hi => (im_rdk _ _ _ (by omega)).trans (hR i (by omega))) ?_ (by omega) ?_
    · rw [im_u_eq]
      exact im_up_dok0 hdk (by omega) (by omega)
    · rw [im_u_eq, im_up_dv0, dv_s0, dv_s0, ← hx, Int.pow_succ]
      have h1 := cstep (B := 1000000000) (v := M0 (p + 1) k - c - x) (q := -w) (m := M0 (p + 1) k - c - x + w * 1000000000) (P := 1000000000 ^ k) (by omega)
      rw [Int.sub_mul, Int.sub_mul, Int.neg_mul] at h1
      omega
theorem c_shrink {a p q n m : Nat} {s : Int} (ha : im_num e a) (hp : im_num e p) (hq : im_num e q) (hn : M p 1 = n) (hm : M q 1 = m) (hn34 : n ≤ 34) (hmn : m ≤ n) (da : dok 1000000000 (M (p + 1)) 0 n) (db : dok 1000000000 (M (q + 1)) 0 m) (hs : M a 0 = s) (hs3 : s = 1 ∨ s = -1 ∨ s = 0) (hs0 : s = 0 → dv 1000000000 (M (p + 1)) 0 n - dv 1000000000 (M (q + 1)) 0 m = 0) (hge : dv 1000000000 (M (q + 1)) 0 m ≤ dv 1000000000 (M (p + 1)) 0 n) (hL : dv 1000000000 (M (p + 1)) 0 n < LIM) (hd : 1 ≤ d)
    (hK : ∀ M', NF a M M' → cn M' a (s * (dv 1000000000 (M (p + 1)) 0 n - dv 1000000000 (M (q + 1)) 0 m)) → K (.inl none) e M') : im_T g d 120 0 [some (.ref a), some (.ref p), some (.ref q), none, none, none, none] [] e M K := by
  refine k_Num_shrink_0 ha hp hq ?_
  rw [hn]
  exact l_shrink (M0 := M) ha hp hq hn hm hn34 hmn da db hs hs3 hs0 hge hL hd hK n 0 0 M (by omega) (fun _ _ => rfl) (fun _ _ => rfl) (fun i i0 i1 => by omega) (Or.inl rfl) (by show (0 : Int) + 0 = 0 + 0 * _; rw [Int.zero_mul])
theorem dnf_le {f f' : Int → Int} {n m : Nat} (h1 : dok 1000000000 f 0 n) (h2 : dnf 1000000000 f' 0 m) (h : dv 1000000000 f' 0 m ≤ dv 1000000000 f 0 n) : m ≤ n := by
  apply Decidable.byContradiction
  intro z
  have := dnf_lt (B := 1000000000) (by decide) h1 h2 (by omega)
  omega
theorem c_add {a p : Nat} {va vb f : Int} (ha : im_num e a) (hp : im_num e p) (hne : a ≠ p) (hva : cn M a va) (hvb : cn M p vb) (hf : f = 1 ∨ f = -1) (hd : 2 ≤ d)
    (hK1 : sm (va + f * vb) → ∀ M', NF a M M' → cn M' a (va + f * vb) → K (.inl (some (vI 1))) e M')
    (hK0 : ¬ sm (va + f * vb) → ∀ M', NF a M M' → cn M' a 0 → K (.inl (some (vI 0))) e M') : im_T g d 129 0 [some (.ref a), some (.ref p), some (vI f), none] [] e M K := by
  have hva' := hva
  obtain ⟨n, a1, a2, a3, a4, a5, a6⟩ := hva
  obtain ⟨m, b1, b2, b3, b4, b5, b6⟩ := hvb
  have pa := (dv_bd (B := 1000000000) (by decide) a3.1).1
  have pb := (dv_bd (B := 1000000000) (by decide) b3.1).1
  have hap : a ≠ p + 1 := im_num_ne ha hp
  generalize hs2 : M p 0 * f = s2
  have ef : f * vb = s2 * dv 1000000000 (M (p + 1)) 0 m := by rw [b5, ← Int.mul_assoc, Int.mul_comm f, hs2]
  have s23 : s2 = 1 ∨ s2 = -1 ∨ s2 = 0 := by
    rw [← hs2]
    rcases b4 with ⟨z, _⟩ | ⟨z | z, _⟩ <;> rcases hf with w | w <;> rw [z, w] <;> decide
  have hlb : dv 1000000000 (M (p + 1)) 0 m < LIM := by
    have := LIM_pos
    unfold sm at b6
    rcases b4 with ⟨z, rfl⟩ | ⟨z | z, _⟩
    · exact this
    · rw [z, Int.one_mul] at b5; omega
    · rw [z, Int.neg_mul, Int.one_mul] at b5; omega
  have hla : dv 1000000000 (M (a + 1)) 0 n < LIM := by
    have := LIM_pos
    unfold sm at a6
    rcases a4 with ⟨z, rfl⟩ | ⟨z | z, _⟩
    · exact this
    · rw [z, Int.one_mul] at a5; omega
    · rw [z, Int.neg_mul, Int.one_mul] at a5; omega
  refine k_Num_add_0 ha hp (by omega) ?_
  rw [hs2]
  refine ⟨by constructor <;> omega, ⟨fun c1 c2 c3 => ?_, fun c1 => ?_⟩, fun c1 => ?_⟩
  · have h4 : M a 0 = -s2 := by omega
    have ea : va = -(s2 * dv 1000000000 (M (a + 1)) 0 n) := by rw [a5, h4, Int.neg_mul]
    refine c_csize ha hp a1 b1 a2 b2 a3 b3 ⟨_, rfl, rfl, ?_⟩
    unfold cmpI
    refine ⟨by (repeat' split) <;> constructor <;> omega, fun z => ?_, fun z => ?_⟩
    · have hlt : dv 1000000000 (M (a + 1)) 0 n < dv 1000000000 (M (p + 1)) 0 m := by
        apply Decidable.byContradiction
        intro w
        rw [if_neg w] at z
        split at z <;> omega
      have hpp : im_u M a 0 s2 (p + 1) = M (p + 1) := im_u_ne _ _ _ (Ne.symm hap)
      have hpl : im_u M a 0 s2 (a + 1) = M (a + 1) := im_u_ne _ _ _ (by omega)
      have ev : s2 * (dv 1000000000 (M (p + 1)) 0 m - dv 1000000000 (M (a + 1)) 0 n) = va + f * vb := by rw [ef, ea, Int.mul_sub]; omega
      have hsm : sm (va + f * vb) := by
        rw [← ev]; unfold sm
        have := LIM_pos
        rcases s23 with w | w | w
        · rw [w, Int.one_mul]; omega
        · rw [w, Int.neg_mul, Int.one_mul]; omega
        · omega
      refine c_shrink (n := m) (m := n) (s := s2) ha hp ha (by rw [im_rdn _ _ _ _ (Ne.symm hne)]; exact b1) (by rw [im_rdk _ _ _ (by decide)]; exact a1) b2 (dnf_le b3.1 a3 (by omega)) (by rw [hpp]; exact b3.1) (by rw [hpl]; exact a3.1) (im_rds _ _ _ _) s23 (fun w => by omega) (by rw [hpp, hpl]; omega) (by rw [hpp]; exact hlb) (by omega) (fun M' hF hcn => ⟨rfl, rfl, hK1 hsm M' (fun y y1 y2 => (hF y y1 y2).trans (im_u_ne _ _ _ y1)) ?_⟩)
      rw [hpp, hpl, ev] at hcn
      exact hcn
    · have hge : dv 1000000000 (M (p + 1)) 0 m ≤ dv 1000000000 (M (a + 1)) 0 n := by
        apply Decidable.byContradiction
        intro w
        rw [if_pos (by omega)] at z
        omega
      have ev : -s2 * (dv 1000000000 (M (a + 1)) 0 n - dv 1000000000 (M (p + 1)) 0 m) = va + f * vb := by rw [ef, ea, Int.mul_sub, Int.neg_mul, Int.neg_mul]; omega
      have hsm : sm (va + f * vb) := by
        rw [← ev]; unfold sm
        have := LIM_pos
        rcases s23 with w | w | w
        · rw [w, Int.neg_mul, Int.one_mul]; omega
        · rw [w, Int.neg_neg, Int.one_mul]; omega
        · omega
      refine c_shrink (n := n) (m := m) (s := -s2) ha ha hp a1 b1 a2 (dnf_le a3.1 b3 (by omega)) a3.1 b3.1 h4 (by omega) (fun w => by omega) hge hla (by omega) (fun M' hF hcn => ⟨rfl, rfl, hK1 hsm M' hF ?_⟩)
      rw [ev] at hcn
      exact hcn
  · have ez : va + f * vb = va := by rw [ef, c1, Int.zero_mul, Int.add_zero]
    rw [ez] at hK1
    exact hK1 a6 M (NF.rf _ _) hva'
  · have hs20 : s2 ≠ 0 := by omega
    have hpp : im_u M a 0 s2 (p + 1) = M (p + 1) := im_u_ne _ _ _ (Ne.symm hap)
    have hpl : im_u M a 0 s2 (a + 1) = M (a + 1) := im_u_ne _ _ _ (by omega)
    have ev : s2 * (dv 1000000000 (M (a + 1)) 0 n + dv 1000000000 (M (p + 1)) 0 m) = va + f * vb := by
      rw [ef, a5, Int.mul_add]
      rcases a4 with ⟨z, rfl⟩ | ⟨_, _⟩
      · rw [z, Int.zero_mul]; show s2 * 0 + _ = _; rw [Int.mul_zero]
      · rw [show M a 0 = s2 from by omega]
    refine c_growR (n := n) (m := m) (s := s2) ha hp hne (by rw [im_rdk _ _ _ (by decide)]; exact a1) (by rw [im_rdn _ _ _ _ (Ne.symm hne)]; exact b1) a2 b2 (by rw [hpl]; exact a3.1) (by rw [hpp]; exact b3.1) (by rw [im_rds, if_neg hs20]) s23 (fun w => absurd w hs20) (by rw [hpl]; exact hla) (by rw [hpp]; exact hlb) (by omega) (fun hsm M' hF hcn => ⟨_, rfl, rfl, by decide, ?_⟩) (fun hsm M' hF hcn => ⟨_, rfl, rfl, by decide, ?_⟩)
    · rw [hpp, hpl, ev] at hsm hcn
      exact hK1 hsm M' (fun y y1 y2 => (hF y y1 y2).trans (im_u_ne _ _ _ y1)) hcn
    · rw [hpp, hpl, ev] at hsm
      exact hK0 hsm M' (fun y y1 y2 => (hF y y1 y2).trans (im_u_ne _ _ _ y1)) hcn
end CNUM2
