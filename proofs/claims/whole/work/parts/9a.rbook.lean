/-! THE REFERENCE'S BOOKS: where an entry is -/
section RBOOK
variable {g : im_g} {d : Nat} {e : im_E} {M M0 : im_M} {K : im_K}
theorem l_accountAt {k : Nat} {A B : Int → Int} {a b p : Int} (hk : M 6952 85 = k) (hkb : k ≤ 40) (hn : ∀ i : Nat, i < k → M 7011 i = A i ∧ M 7012 i = B i) (ha : im_i64 a) (hb : im_i64 b) (hp : posn k A B a b p) (hK : K (.inl (some (vI p))) e M) : ∀ (j : Nat) (i : Int), i + j = p → 0 ≤ i → im_T g d 375 3 [some (.ref 6952), some (vL a), none, some (vL b), none, some (vI i)] [] e M K := by
  obtain ⟨p1, p2, p3, p4⟩ := hp
  intro j
  induction j with
  | zero =>
    intro i hi h0
    obtain rfl : i = p := by omega
    refine b_accountAt_3 ?_
    rw [hk]
    refine ⟨by constructor <;> omega, fun c => ⟨by constructor <;> omega, ha, fun _ _ => hb⟩, fun c => ?_, fun _ => hK⟩
    have hik : i < k := by omega
    have h5 := hn i.toNat (by omega)
    rw [show ((i.toNat : Nat) : Int) = i from by omega] at h5
    have h4 := p4 hik
    unfold lt2 at h4
    omega
  | succ j ih =>
    intro i hi h0
    have h5 := hn i.toNat (by omega)
    rw [show ((i.toNat : Nat) : Int) = i from by omega] at h5
    have h3 := p3 i h0 (by omega)
    unfold lt2 at h3
    refine b_accountAt_3 ?_
    rw [hk, h5.1, h5.2]
    exact ⟨by constructor <;> omega, fun c => ⟨by constructor <;> omega, ha, fun _ _ => hb⟩, fun c => ih (i + 1) (by omega) (by omega), fun c => by omega⟩
theorem c_accountAt {k : Nat} {A B : Int → Int} {a b p : Int} (hk : M 6952 85 = k) (hkb : k ≤ 40) (hn : ∀ i : Nat, i < k → M 7011 i = A i ∧ M 7012 i = B i) (ha : im_i64 a) (hb : im_i64 b) (hp : posn k A B a b p) (hK : K (.inl (some (vI p))) e M) : im_T g d 375 0 [some (.ref 6952), some (vL a), none, some (vL b), none, none] [] e M K :=
  b_accountAt_0 (l_accountAt hk hkb hn ha hb hp hK p.toNat 0 (by have := hp.1; omega) (Int.le_refl _))
theorem c_hasAccount {k : Nat} {A B : Int → Int} {a b p : Int} (hk : M 6952 85 = k) (hkb : k ≤ 40) (hn : ∀ i : Nat, i < k → M 7011 i = A i ∧ M 7012 i = B i) (ha : im_i64 a) (hb : im_i64 b) (hp : posn k A B a b p) (hd : 1 ≤ d) (hK1 : has2 k A B a b p → K (.inl (some (vI 1))) e M) (hK0 : ¬ has2 k A B a b p → K (.inl (some (vI 0))) e M) : im_T g d 376 0 [some (.ref 6952), some (vL a), none, some (vL b), none, none] [] e M K := by
  have p1 := hp.1
  have p2 := hp.2.1
  refine b_hasAccount_0 hd (c_accountAt hk hkb hn ha hb hp ⟨_, rfl, rfl, ?_⟩)
  rw [hk]
  refine ⟨by constructor <;> omega, fun c => ⟨by constructor <;> omega, ha, fun c1 => ⟨hb, fun c2 => ?_⟩⟩, fun c => hK0 (fun z => ?_)⟩
  · have h5 := hn p.toNat (by omega)
    rw [show ((p.toNat : Nat) : Int) = p from by omega] at h5
    exact hK1 ⟨c, by omega, by omega⟩
  · obtain ⟨z1, z2, z3⟩ := z
    have h5 := hn p.toNat (by omega)
    rw [show ((p.toNat : Nat) : Int) = p from by omega] at h5
    omega
theorem l_choiceAt {k : Nat} {A B : Int → Int} {a b p : Int} (hk : M 6952 89 = k) (hkb : k ≤ 40) (hn : ∀ i : Nat, i < k → M 7014 i = A i ∧ M 7015 i = B i) (ha : im_i64 a) (hb : im_i64 b) (hp : posn k A B a b p) (hK : K (.inl (some (vI p))) e M) : ∀ (j : Nat) (i : Int), i + j = p → 0 ≤ i → im_T g d 388 3 [some (.ref 6952), some (vL a), none, some (vL b), none, some (vI i)] [] e M K := by
  obtain ⟨p1, p2, p3, p4⟩ := hp
  intro j
  induction j with
  | zero =>
    intro i hi h0
    obtain rfl : i = p := by omega
    refine b_choiceAt_3 ?_
    rw [hk]
    refine ⟨by constructor <;> omega, fun c => ⟨by constructor <;> omega, ha, fun _ _ => hb⟩, fun c => ?_, fun _ => hK⟩
    have hik : i < k := by omega
    have h5 := hn i.toNat (by omega)
    rw [show ((i.toNat : Nat) : Int) = i from by omega] at h5
    have h4 := p4 hik
    unfold lt2 at h4
    omega
  | succ j ih =>
    intro i hi h0
    have h5 := hn i.toNat (by omega)
    rw [show ((i.toNat : Nat) : Int) = i from by omega] at h5
    have h3 := p3 i h0 (by omega)
    unfold lt2 at h3
    refine b_choiceAt_3 ?_
    rw [hk, h5.1, h5.2]
    exact ⟨by constructor <;> omega, fun c => ⟨by constructor <;> omega, ha, fun _ _ => hb⟩, fun c => ih (i + 1) (by omega) (by omega), fun c => by omega⟩
theorem c_choiceAt {k : Nat} {A B : Int → Int} {a b p : Int} (hk : M 6952 89 = k) (hkb : k ≤ 40) (hn : ∀ i : Nat, i < k → M 7014 i = A i ∧ M 7015 i = B i) (ha : im_i64 a) (hb : im_i64 b) (hp : posn k A B a b p) (hK : K (.inl (some (vI p))) e M) : im_T g d 388 0 [some (.ref 6952), some (vL a), none, some (vL b), none, none] [] e M K :=
  b_choiceAt_0 (l_choiceAt hk hkb hn ha hb hp hK p.toNat 0 (by have := hp.1; omega) (Int.le_refl _))
theorem c_hasChoice {k : Nat} {A B : Int → Int} {a b p : Int} (hk : M 6952 89 = k) (hkb : k ≤ 40) (hn : ∀ i : Nat, i < k → M 7014 i = A i ∧ M 7015 i = B i) (ha : im_i64 a) (hb : im_i64 b) (hp : posn k A B a b p) (hd : 1 ≤ d) (hK1 : has2 k A B a b p → K (.inl (some (vI 1))) e M) (hK0 : ¬ has2 k A B a b p → K (.inl (some (vI 0))) e M) : im_T g d 387 0 [some (.ref 6952), some (vL a), none, some (vL b), none, none] [] e M K := by
  have p1 := hp.1
  have p2 := hp.2.1
  refine b_hasChoice_0 hd (c_choiceAt hk hkb hn ha hb hp ⟨_, rfl, rfl, ?_⟩)
  rw [hk]
  refine ⟨by constructor <;> omega, fun c => ⟨by constructor <;> omega, ha, fun c1 => ⟨hb, fun c2 => ?_⟩⟩, fun c => hK0 (fun z => ?_)⟩
  · have h5 := hn p.toNat (by omega)
    rw [show ((p.toNat : Nat) : Int) = p from by omega] at h5
    exact hK1 ⟨c, by omega, by omega⟩
  · obtain ⟨z1, z2, z3⟩ := z
    have h5 := hn p.toNat (by omega)
    rw [show ((p.toNat : Nat) : Int) = p from by omega] at h5
    omega
/-- names alone -/
def z0 (_ : Int) : Int := 0
theorem l_letAt {k : Nat} {A : Int → Int} {a p : Int} (hk : M 6952 93 = k) (hkb : k ≤ 40) (hn : ∀ i : Nat, i < k → M 7017 i = A i) (ha : im_i64 a) (hp : posn k A z0 a 0 p) (hK : K (.inl (some (vI p))) e M) : ∀ (j : Nat) (i : Int), i + j = p → 0 ≤ i → im_T g d 390 2 [some (.ref 6952), some (vL a), none, some (vI i)] [] e M K := by
  obtain ⟨p1, p2, p3, p4⟩ := hp
  intro j
  induction j with
  | zero =>
    intro i hi h0
    obtain rfl : i = p := by omega
    refine b_letAt_2 ?_
    rw [hk]
    refine ⟨by constructor <;> omega, fun c => ⟨by constructor <;> omega, ha, fun c2 => ?_⟩, fun _ => hK⟩
    have h5 := hn i.toNat (by omega)
    rw [show ((i.toNat : Nat) : Int) = i from by omega] at h5
    have h4 := p4 c
    unfold lt2 at h4
    omega
  | succ j ih =>
    intro i hi h0
    have h5 := hn i.toNat (by omega)
    rw [show ((i.toNat : Nat) : Int) = i from by omega] at h5
    have h3 := p3 i h0 (by omega)
    unfold lt2 z0 at h3
    refine b_letAt_2 ?_
    rw [hk, h5]
    exact ⟨by constructor <;> omega, fun c => ⟨by constructor <;> omega, ha, fun _ => ih (i + 1) (by omega) (by omega)⟩, fun c => by omega⟩
theorem c_letAt {k : Nat} {A : Int → Int} {a p : Int} (hk : M 6952 93 = k) (hkb : k ≤ 40) (hn : ∀ i : Nat, i < k → M 7017 i = A i) (ha : im_i64 a) (hp : posn k A z0 a 0 p) (hK : K (.inl (some (vI p))) e M) : im_T g d 390 0 [some (.ref 6952), some (vL a), none, none] [] e M K :=
  b_letAt_0 (l_letAt hk hkb hn ha hp hK p.toNat 0 (by have := hp.1; omega) (Int.le_refl _))
theorem c_hasLet {k : Nat} {A : Int → Int} {a p : Int} (hk : M 6952 93 = k) (hkb : k ≤ 40) (hn : ∀ i : Nat, i < k → M 7017 i = A i) (ha : im_i64 a) (hp : posn k A z0 a 0 p) (hd : 1 ≤ d) (hK1 : has2 k A z0 a 0 p → K (.inl (some (vI 1))) e M) (hK0 : ¬ has2 k A z0 a 0 p → K (.inl (some (vI 0))) e M) : im_T g d 389 0 [some (.ref 6952), some (vL a), none, none] [] e M K := by
  have p1 := hp.1
  have p2 := hp.2.1
  refine b_hasLet_0 hd (c_letAt hk hkb hn ha hp ⟨_, rfl, rfl, ?_⟩)
  rw [hk]
  refine ⟨by constructor <;> omega, fun c => ⟨by constructor <;> omega, ha, fun c1 => ?_⟩, fun c => hK0 (fun z => ?_)⟩
  · have h5 := hn p.toNat (by omega)
    rw [show ((p.toNat : Nat) : Int) = p from by omega] at h5
    exact hK1 ⟨c, by omega, rfl⟩
  · obtain ⟨z1, z2, z3⟩ := z
    have h5 := hn p.toNat (by omega)
    rw [show ((p.toNat : Nat) : Int) = p from by omega] at h5
    omega
theorem l_parameterAt {k : Nat} {A : Int → Int} {a p : Int} (hk : M 6952 62 = k) (hkb : k ≤ 20) (hn : ∀ i : Nat, i < k → M 6992 i = A i) (ha : im_i64 a) (hp : posn k A z0 a 0 p) (hK : K (.inl (some (vI p))) e M) : ∀ (j : Nat) (i : Int), i + j = p → 0 ≤ i → im_T g d 337 2 [some (.ref 6952), some (vL a), none, some (vI i)] [] e M K := by
  obtain ⟨p1, p2, p3, p4⟩ := hp
  intro j
  induction j with
  | zero =>
    intro i hi h0
    obtain rfl : i = p := by omega
    refine b_parameterAt_2 ?_
    rw [hk]
    refine ⟨by constructor <;> omega, fun c => ⟨by constructor <;> omega, ha, fun c2 => ?_⟩, fun _ => hK⟩
    have h5 := hn i.toNat (by omega)
    rw [show ((i.toNat : Nat) : Int) = i from by omega] at h5
    have h4 := p4 c
    unfold lt2 at h4
    omega
  | succ j ih =>
    intro i hi h0
    have h5 := hn i.toNat (by omega)
    rw [show ((i.toNat : Nat) : Int) = i from by omega] at h5
    have h3 := p3 i h0 (by omega)
    unfold lt2 z0 at h3
    refine b_parameterAt_2 ?_
    rw [hk, h5]
    exact ⟨by constructor <;> omega, fun c => ⟨by constructor <;> omega, ha, fun _ => ih (i + 1) (by omega) (by omega)⟩, fun c => by omega⟩
theorem c_parameterAt {k : Nat} {A : Int → Int} {a p : Int} (hk : M 6952 62 = k) (hkb : k ≤ 20) (hn : ∀ i : Nat, i < k → M 6992 i = A i) (ha : im_i64 a) (hp : posn k A z0 a 0 p) (hK : K (.inl (some (vI p))) e M) : im_T g d 337 0 [some (.ref 6952), some (vL a), none, none] [] e M K :=
  b_parameterAt_0 (l_parameterAt hk hkb hn ha hp hK p.toNat 0 (by have := hp.1; omega) (Int.le_refl _))
theorem c_hasParameter {k : Nat} {A : Int → Int} {a p : Int} (hk : M 6952 62 = k) (hkb : k ≤ 20) (hn : ∀ i : Nat, i < k → M 6992 i = A i) (ha : im_i64 a) (hp : posn k A z0 a 0 p) (hd : 1 ≤ d) (hK1 : has2 k A z0 a 0 p → K (.inl (some (vI 1))) e M) (hK0 : ¬ has2 k A z0 a 0 p → K (.inl (some (vI 0))) e M) : im_T g d 336 0 [some (.ref 6952), some (vL a), none, none] [] e M K := by
  have p1 := hp.1
  have p2 := hp.2.1
  refine b_hasParameter_0 hd (c_parameterAt hk hkb hn ha hp ⟨_, rfl, rfl, ?_⟩)
  rw [hk]
  refine ⟨by constructor <;> omega, fun c => ⟨by constructor <;> omega, ha, fun c1 => ?_⟩, fun c => hK0 (fun z => ?_)⟩
  · have h5 := hn p.toNat (by omega)
    rw [show ((p.toNat : Nat) : Int) = p from by omega] at h5
    exact hK1 ⟨c, by omega, rfl⟩
  · obtain ⟨z1, z2, z3⟩ := z
    have h5 := hn p.toNat (by omega)
    rw [show ((p.toNat : Nat) : Int) = p from by omega] at h5
    omega
/-- a number as a time -/
def tolP (v t : Int) : Prop := im_i64 t ∧ (0 ≤ v ∧ v ≤ 1000000000000000 → t = v) ∧ (¬ (0 ≤ v ∧ v ≤ 1000000000000000) → ¬ (0 ≤ t ∧ t ≤ 1000000000000000))
theorem l_toLong {r v : Int} {n : Nat} (hr0 : 0 ≤ r) (hrl : r + 2 + n ≤ 1100000) (hn : n ≤ 17) (hd1 : dok 10 (M 6955) (r + 2) n) (hv : v = dv 10 (M 6955) (r + 2) n) (hK : K (.inl (some (vL v))) e M) : ∀ (k : Nat) (w : Int), k ≤ n → w = dv 10 (M 6955) (r + 2 + k) (n - k) → im_T g d 298 44 [some (.ref 6952), some (vI r), some (vL w), none, some (vI ((k : Int) - 1))] [] e M K := by
  intro k
  induction k with
  | zero =>
    intro w hk hw
    rw [show r + 2 + ((0 : Nat) : Int) = r + 2 from by omega, Nat.sub_zero, ← hv] at hw
    rw [← hw] at hK
    exact b_toLong_44 ⟨by constructor <;> omega, fun _ => hK, fun z => absurd z (by omega)⟩
  | succ k ih =>
    intro w hk hw
    rw [show ((k + 1 : Nat) : Int) - 1 = (k : Int) from by omega]
    refine b_toLong_44 ⟨by constructor <;> omega, fun z => absurd z (by omega), fun _ => ⟨by constructor <;> omega, ?_⟩⟩
    rw [show (k : Int) + -1 = (k : Int) - 1 from by omega]
    refine ih _ (by omega) ?_
    rw [show n - k = n - (k + 1) + 1 from by omega, dv_cons, hw, show r + 2 + (k : Int) + 1 = r + 2 + ((k + 1 : Nat) : Int) from by omega]
    omega
theorem c_toLong {r v : Int} {n : Nat} (hr : rn (M 6955) r n v) (hr0 : 0 ≤ r) (hrl : r + 2 + n ≤ 1100000) (hK : ∀ t, tolP v t → K (.inl (some (vL t))) e M) : im_T g d 298 0 [some (.ref 6952), some (vI r), none, none, none] [] e M K := by
  have hsz := rn_size hr
  obtain ⟨h1, h2, h3, h4⟩ := hr
  have hb := dv_bd (B := 10) (by decide) h2.1
  refine b_toLong_0 ?_
  rw [h1]
  refine ⟨by constructor <;> omega, fun hs => ⟨by constructor <;> omega, fun hn => ?_, fun hn => hK _ ⟨by constructor <;> decide, fun z => ?_, fun _ => by omega⟩⟩, fun hs => hK _ ⟨by constructor <;> decide, fun z => ?_, fun _ => by omega⟩⟩
  · have h17 : n ≤ 17 := by omega
    have hp : (10 : Int) ^ n ≤ 10 ^ 17 := bpow_le (by decide) h17
    rw [show (10 : Int) ^ 17 = 100000000000000000 from by decide] at hp
    have hvd : v = dv 10 (M 6955) (r + 2) n := by
      rcases h3 with ⟨z, rfl⟩ | ⟨z | z, _⟩
      · rw [h4, z, Int.zero_mul]; rfl
      · rw [h4, z, Int.one_mul]
      · omega
    refine l_toLong hr0 hrl h17 h2.1 hvd (hK v ⟨by constructor <;> omega, fun _ => rfl, fun z => z⟩) n 0 (Nat.le_refl _) ?_
    rw [Nat.sub_self]; rfl
  · exfalso
    have h6 := hsz.2.2 (by omega)
    have hp : (10 : Int) ^ 17 ≤ 10 ^ (n - 1) := bpow_le (by decide) (by omega)
    rw [show (10 : Int) ^ 17 = 100000000000000000 from by decide] at hp
    omega
  · exfalso
    have hm : M 6955 r = -1 := by omega
    rw [hm, Int.neg_mul, Int.one_mul] at h4
    have h5 := dnf_pos (B := 10) (by decide) h2 (by omega)
    have hp := bpow_pos (B := 10) (by decide) (n - 1)
    omega
theorem l_ofLong {r v : Int} (hr : M0 6952 7 = r) (hr0 : 0 ≤ r) (hr1 : r + 22 ≤ 1100000) (h8 : M0 6952 8 = 0 ∨ M0 6952 8 = 1) (hd : 1 ≤ d)
    (hK : ∀ (M' : im_M) (k : Nat), RF [] [7, 8] r M0 M' → rn (M' 6955) r k v → k ≤ 19 → M' 6952 7 = r + 2 + k → M' 6952 8 = M0 6952 8 → K (.inl (some (vI r))) e M') :
    ∀ (j n : Nat) (w : Int) (M : im_M), n + j = 19 → 0 ≤ w → w ≤ 9223372036854775807 → w < 10 ^ j → RF [] [] r M0 M → dok 10 (M 6955) (r + 2) n → dv 10 (M 6955) (r + 2) n + w * 10 ^ n = v → im_T g d 391 11 [some (.ref 6952), none, none, some (vI r), some (vI n), some (vL w), none] [] e M K := by
  intro j
  have hend : ∀ (n : Nat) (M : im_M), n ≤ 19 → RF [] [] r M0 M → dok 10 (M 6955) (r + 2) n → dv 10 (M 6955) (r + 2) n = v → im_T g d 391 11 [some (.ref 6952), none, none, some (vI r), some (vI n), some (vL 0), none] [] e M K := by
    intro n M hn hF hdk hv
    have f8 : M 6952 8 = M0 6952 8 := hF.2.1 8 (by decide)
    refine b_ofLong_11 hd ⟨by constructor <;> omega, fun _ => ?_, fun z => absurd z (by omega)⟩
    refine c_close hr0 (Or.inl rfl) (by omega) hdk (fun z => by omega) (fun M' k' hF' hr' hk' ht' h8' => ⟨_, rfl, rfl, hK M' k' ((hF.mono (by decide) (by decide) (Int.le_refl _)).trans hF') ?_ (by omega) ht' ?_⟩)
    · rw [Int.one_mul, hv] at hr'; exact hr'
    · rw [h8', f8]
      rcases h8 with z | z
      · rw [z, if_pos ⟨rfl, by omega⟩]
      · rw [z, if_neg (by omega)]
  induction j with
  | zero =>
    intro n w M hn w0 hbig w1 hF hdk hv
    rw [Int.pow_zero] at w1
    have hw : w = 0 := by omega
    subst hw
    rw [Int.zero_mul, Int.add_zero] at hv
    exact hend n M (by omega) hF hdk hv
  | succ j ih =>
    intro n w M hn w0 hbig w1 hF hdk hv
    by_cases hw : w = 0
    · subst hw
      rw [Int.zero_mul, Int.add_zero] at hv
      exact hend n M (by omega) hF hdk hv
    · refine b_ofLong_11 hd ?_
      rw [Int.tdiv_eq_ediv_of_nonneg w0, Int.tmod_eq_emod_of_nonneg w0]
      refine ⟨by constructor <;> omega, fun z => absurd z (by omega), fun _ => ⟨by constructor <;> omega, by constructor <;> omega, ?_⟩⟩
      rw [show (n : Int) + 1 = ((n + 1 : Nat) : Int) from by omega]
      rw [Int.pow_succ] at w1
      refine ih (n + 1) (w / 10) _ (by omega) (by omega) (by omega) (by omega) (hF.pool (by omega) _) ?_ ?_
      · rw [im_u_eq]; exact im_up_dok hdk (by omega) (by omega)
      · rw [im_u_eq, im_up_dv, Int.pow_succ, ← hv]
        have h1 := cstep (B := 10) (v := w) (q := w / 10) (m := w % 10) (P := 10 ^ n) (by omega)
        omega
theorem c_ofLong {v : Int} (hv0 : 0 ≤ v) (hv1 : v ≤ 9223372036854775807) (hr0 : 0 ≤ M 6952 7) (hr1 : M 6952 7 + 22 ≤ 1100000) (h8 : M 6952 8 = 0 ∨ M 6952 8 = 1) (hd : 1 ≤ d)
    (hK : ∀ (M' : im_M) (k : Nat), RF [] [7, 8] (M 6952 7) M M' → rn (M' 6955) (M 6952 7) k v → k ≤ 19 → M' 6952 7 = M 6952 7 + 2 + k → M' 6952 8 = M 6952 8 → K (.inl (some (vI (M 6952 7)))) e M') : im_T g d 391 0 [some (.ref 6952), some (vL v), none, none, none, none, none] [] e M K :=
  b_ofLong_0 (l_ofLong (M0 := M) rfl hr0 hr1 h8 hd hK 19 0 v M (by omega) hv0 hv1 (by rw [show (10 : Int) ^ 19 = 10000000000000000000 from by decide]; omega) (RF.rf _ _ _ _) (fun i i0 i1 => by omega) (by show (0 : Int) + v * 1 = v; omega))
end RBOOK
