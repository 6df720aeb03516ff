/-! isName: a long that spells a name -/
def lod (b : Int) : Prop := (97 ≤ b ∧ b ≤ 122) ∨ (48 ≤ b ∧ b ≤ 57)
def hbt (v : Int) (m : Nat) : Int := v / 2 ^ (8 * m)
def nmV (v : Int) : Prop := ∃ m : Nat, m ≤ 7 ∧ 97 ≤ hbt v m ∧ hbt v m ≤ 122 ∧ (∀ k : Nat, k < m → lod (hbt v k % 256)) ∧ kwr v (-1)
theorem hbt_s (v : Int) (m : Nat) : hbt v (m + 1) = hbt v m / 256 := by
  unfold hbt
  rw [show 8 * (m + 1) = 8 * m + 8 from by omega, Int.pow_add, ← Int.ediv_ediv_of_nonneg (Int.le_of_lt (bpow_pos (by decide) _))]
  rfl
theorem hbt_0 (v : Int) : hbt v 0 = v := by
  unfold hbt
  rw [Nat.mul_zero, Int.pow_zero, Int.ediv_one]
theorem hbt_nn {v : Int} (h : 0 ≤ v) (m : Nat) : 0 ≤ hbt v m := Int.ediv_nonneg h (Int.le_of_lt (bpow_pos (by decide) _))
theorem hbt_big {v : Int} {m k : Nat} (h : 1 ≤ hbt v m) (hk : k < m) : 256 ≤ hbt v k := by
  obtain ⟨j, rfl⟩ : ∃ j, m = k + 1 + j := ⟨m - k - 1, by omega⟩
  induction j with
  | zero => rw [Nat.add_zero, hbt_s] at h; omega
  | succ j ih =>
    refine ih ?_ (by omega)
    rw [show k + 1 + (j + 1) = (k + 1 + j) + 1 from by omega, hbt_s] at h
    omega
theorem hbt_zero {v : Int} {m k : Nat} (h : hbt v m = 0) (hk : m ≤ k) : hbt v k = 0 := by
  obtain ⟨j, rfl⟩ : ∃ j, k = m + j := ⟨k - m, by omega⟩
  induction j with
  | zero => exact h
  | succ j ih => rw [show m + (j + 1) = (m + j) + 1 from by omega, hbt_s, ih (by omega)]; rfl
theorem xlushr_b {v : Int} (h0 : 0 ≤ v) (h1 : v ≤ 9223372036854775807) {m : Nat} (hm : m ≤ 7) : xlushr v (8 * (m : Int)) = hbt v m := by
  have hle : v / 2 ^ (8 * m) ≤ v := Int.ediv_le_self _ h0
  have := xlushr_n (v := v) (k := 8 * m) (by omega) (by rw [show v % 18446744073709551616 = v from by omega]; omega)
  rw [show v % 18446744073709551616 = v from by omega] at this
  rw [show (8 * (m : Int)) = ((8 * m : Nat) : Int) from by omega, this]
  rfl
theorem xlshr_b {v : Int} (h0 : 0 ≤ v) (h1 : v ≤ 9223372036854775807) {m : Nat} (hm : m ≤ 7) : xlshr v (8 * (m : Int)) = hbt v m := by
  rw [show (8 * (m : Int)) = ((8 * m : Nat) : Int) from by omega, xlshr_n (by omega) h1 (by omega)]
  rfl
section ISNAME
variable {g : im_g} {d : Nat} {e : im_E} {M M0 : im_M} {K : im_K}
theorem l_isn39 {v : Int} {m : Nat} (h0 : 0 ≤ v) (h1 : v ≤ 9223372036854775807) (hm : m ≤ 7) (hL : 97 ≤ hbt v m ∧ hbt v m ≤ 122) (hkw : ∀ i, 0 ≤ i → i < 34 → M 3 i = kwv i) (hd : 1 ≤ d) (hK1 : nmV v → K (.inl (some (vI 1))) e M) (hK0 : ¬ nmV v → K (.inl (some (vI 0))) e M) :
    ∀ (k : Nat), k ≤ m → (∀ i : Nat, k ≤ i → i < m → lod (hbt v i % 256)) → im_T g d 95 39 [some (.ref 2), some (vL v), none, none, some (vI (8 * (k : Int) - 8)), none] [] e M K := by
  have huniq : ∀ m' : Nat, 97 ≤ hbt v m' → hbt v m' ≤ 122 → m' = m := by
    intro m' a b
    rcases Nat.lt_trichotomy m' m with z | z | z
    · have := hbt_big (v := v) (m := m) (k := m') (by omega) z; omega
    · exact z
    · have := hbt_big (v := v) (m := m') (k := m) (by omega) z; omega
  intro k
  induction k with
  | zero =>
    intro _ ha
    refine k_Reader_isName_39 hd ⟨by constructor <;> omega, fun _ => ?_, fun z => absurd z (by omega)⟩
    refine c_keyword (by constructor <;> omega) hkw (fun r hr => ⟨_, rfl, rfl, ?_, fun x hx => ?_⟩)
    · have : -1 ≤ r ∧ r < 34 := by rcases hr with ⟨w, _⟩ | ⟨w1, w2, _⟩ <;> omega
      constructor <;> omega
    · by_cases hr1 : r = -1
      · have : x = 1 := by omega
        rw [this]
        rw [hr1] at hr
        exact hK1 ⟨m, hm, hL.1, hL.2, fun i hi => ha i (by omega) hi, hr⟩
      · have : x = 0 := by omega
        rw [this]
        refine hK0 (fun z => ?_)
        obtain ⟨_, _, _, _, _, w⟩ := z
        exact hr1 (kwr_uniq hr w)
  | succ k ih =>
    intro hk ha
    have e1 : 8 * ((k + 1 : Nat) : Int) - 8 = 8 * (k : Int) := by omega
    rw [e1]
    have hnn := hbt_nn h0 k
    have hrest : ∀ (hl : lod (hbt v k % 256)), im_T g d 95 39 [some (.ref 2), some (vL v), none, none, some (vI (8 * (k : Int) + -8)), none] [] e M K := fun hl => by
      rw [show 8 * (k : Int) + -8 = 8 * (k : Int) - 8 from by omega]
      refine ih (by omega) (fun i i0 i1 => ?_)
      by_cases hi : i = k
      · subst hi; exact hl
      · exact ha i (by omega) i1
    refine k_Reader_isName_39 hd ?_
    rw [xlushr_b h0 h1 (by omega), xiand_255]
    refine ⟨by constructor <;> omega, fun z => absurd z (by omega), fun _ => ?_⟩
    refine c_isLetter (by constructor <;> omega) (fun hc => ⟨_, rfl, rfl, by constructor <;> omega, fun _ => hrest (Or.inl hc), fun z => absurd z (by decide)⟩) (fun hc => ⟨_, rfl, rfl, by constructor <;> omega, fun z => absurd rfl z, fun _ => ?_⟩)
    refine c_isDigit (by constructor <;> omega) (fun hc2 => ⟨_, rfl, rfl, by constructor <;> omega, fun _ => hrest (Or.inr hc2), fun z => absurd z (by decide)⟩) (fun hc2 => ⟨_, rfl, rfl, by constructor <;> omega, fun z => absurd rfl z, fun _ => hK0 (fun z => ?_)⟩)
    obtain ⟨m', a, b, c, f, _⟩ := z
    obtain rfl := huniq m' b c
    have := f k (by omega)
    unfold lod at this
    omega
theorem l_isn3 {v : Int} (h0 : 0 ≤ v) (h1 : v ≤ 9223372036854775807) (hkw : ∀ i, 0 ≤ i → i < 34 → M 3 i = kwv i) (hd : 2 ≤ d) (hK1 : nmV v → K (.inl (some (vI 1))) e M) (hK0 : ¬ nmV v → K (.inl (some (vI 0))) e M) :
    ∀ (m : Nat), m ≤ 7 → hbt v (m + 1) = 0 → im_T g d 95 3 [some (.ref 2), some (vL v), none, some (vI (8 * (m : Int))), none, none] [] e M K := by
  intro m
  induction m with
  | zero =>
    intro hm hz
    have hnn := hbt_nn h0 0
    rw [hbt_s] at hz
    refine k_Reader_isName_3 (by omega) ?_
    rw [xlushr_b h0 h1 hm]
    refine ⟨by constructor <;> omega, fun z => absurd z (by omega), fun _ => ?_⟩
    refine c_isLetter (by constructor <;> omega) (fun hc => ⟨_, rfl, rfl, by constructor <;> omega, fun _ => ?_, fun z => absurd z (by decide)⟩) (fun hc => ⟨_, rfl, rfl, by constructor <;> omega, fun z => absurd rfl z, fun _ => hK0 (fun z => ?_)⟩)
    · exact l_isn39 h0 h1 hm hc hkw (by omega) hK1 hK0 0 (Nat.le_refl _) (fun i i0 i1 => by omega)
    · obtain ⟨m', a, b, c, _⟩ := z
      by_cases hm' : m' = 0
      · subst hm'; omega
      · have := hbt_big (v := v) (m := m') (k := 0) (by omega) (by omega)
        omega
  | succ m ih =>
    intro hm hz
    have hnn := hbt_nn h0 (m + 1)
    have hz2 := hz
    rw [hbt_s] at hz
    refine k_Reader_isName_3 (by omega) ?_
    rw [xlushr_b h0 h1 hm]
    refine ⟨by constructor <;> omega, fun _ hq => ?_, fun hor => ?_⟩
    · rw [show 8 * ((m + 1 : Nat) : Int) + -8 = 8 * (m : Int) from by omega]
      exact ih (by omega) hq
    · refine c_isLetter (by constructor <;> omega) (fun hc => ⟨_, rfl, rfl, by constructor <;> omega, fun _ => ?_, fun z => absurd z (by decide)⟩) (fun hc => ⟨_, rfl, rfl, by constructor <;> omega, fun z => absurd rfl z, fun _ => hK0 (fun z => ?_)⟩)
      · exact l_isn39 h0 h1 hm hc hkw (by omega) hK1 hK0 (m + 1) (Nat.le_refl _) (fun i i0 i1 => by omega)
      · obtain ⟨m', a, b, c, _⟩ := z
        rcases Nat.lt_trichotomy m' (m + 1) with w | w | w
        · have := hbt_big (v := v) (m := m + 1) (k := m') (by omega) w
          omega
        · subst w; omega
        · have := hbt_zero hz2 (show m + 1 + 1 ≤ m' from w)
          omega
theorem c_isName {v : Int} (hv : im_i64 v) (hkw : ∀ i, 0 ≤ i → i < 34 → M 3 i = kwv i) (hd : 2 ≤ d) (hK1 : nmV v → K (.inl (some (vI 1))) e M) (hK0 : ¬ nmV v → K (.inl (some (vI 0))) e M) : im_T g d 95 0 [some (.ref 2), some (vL v), none, none, none, none] [] e M K := by
  refine k_Reader_isName_0 ?_
  have hv1 := hv.1
  have hv2 := hv.2
  by_cases h0 : 0 ≤ v
  · have := l_isn3 (g := g) (d := d) (K := K) h0 (by omega) hkw hd hK1 hK0 7 (by omega) (by
      unfold hbt
      exact Int.ediv_eq_zero_of_lt h0 (by show v < 18446744073709551616; omega))
    exact this
  · have hx : xlushr v 56 = v % 18446744073709551616 / 2 ^ 56 := xlushr_n (k := 56) (by decide) (by show v % 18446744073709551616 / 72057594037927936 < _; omega)
    have hx2 : v % 18446744073709551616 / 2 ^ 56 = v % 18446744073709551616 / 72057594037927936 := rfl
    rw [hx2] at hx
    refine k_Reader_isName_3 (by omega) ?_
    rw [hx]
    refine ⟨by constructor <;> omega, fun _ z => by omega, fun _ => ?_⟩
    refine c_isLetter (by constructor <;> omega) (fun hc => by omega) (fun hc => ⟨_, rfl, rfl, by constructor <;> omega, fun z => absurd rfl z, fun _ => hK0 (fun z => ?_)⟩)
    obtain ⟨m, a, b, _⟩ := z
    unfold hbt at b
    have : v / 2 ^ (8 * m) < 0 := Int.ediv_neg_of_neg_of_pos (by omega) (bpow_pos (by decide) _)
    omega
/-- the reference's isName -/
theorem l_rn66 {v : Int} {m : Nat} (h0 : 0 ≤ v) (h1 : v ≤ 9223372036854775807) (hm : m ≤ 7) (htop : 1 ≤ hbt v m ∧ hbt v m < 256) (hkr : kwr v (-1)) (hd : 1 ≤ d) (hK1 : nmV v → K (.inl (some (vI 1))) e M) (hK0 : ¬ nmV v → K (.inl (some (vI 0))) e M) :
    ∀ (j k : Nat) (c : Int), k + j = m + 1 → ((c = 1 ∧ (97 ≤ hbt v m ∧ hbt v m ≤ 122) ∧ ∀ i : Nat, i < k → lod (hbt v i % 256)) ∨ (c = 0 ∧ ¬ nmV v)) → im_T g d 333 66 [some (vL v), none, some (vI ((m : Int) + 1)), some (vI c), some (vI k), none, none] [] e M K := by
  have huniq : ∀ m' : Nat, 97 ≤ hbt v m' → hbt v m' ≤ 122 → m' = m := by
    intro m' a b
    rcases Nat.lt_trichotomy m' m with z | z | z
    · have := hbt_big (v := v) (m := m) (k := m') (by omega) z; omega
    · exact z
    · have := hbt_big (v := v) (m := m') (k := m) (by omega) z; omega
  intro j
  induction j with
  | zero =>
    intro k c hk hc
    refine b_isName_66 hd ⟨by constructor <;> omega, by constructor <;> omega, fun _ => ⟨by omega, ?_⟩, fun z => absurd z (by omega)⟩
    rcases hc with ⟨c1, c2, c3⟩ | ⟨c1, c2⟩
    · rw [c1]; exact hK1 ⟨m, hm, c2.1, c2.2, fun i hi => c3 i (by omega), hkr⟩
    · rw [c1]; exact hK0 c2
  | succ j ih =>
    intro k c hk hc
    have hnn := hbt_nn h0 k
    refine b_isName_66 hd ?_
    rw [xlshr_b h0 h1 (by omega), xland_255]
    refine ⟨by constructor <;> omega, by constructor <;> omega, fun z => absurd z (by omega), fun _ => ⟨by constructor <;> omega, fun hc0 => ?_, fun hc1 => ?_⟩⟩
    · refine ih (k + 1) 0 (by omega) (Or.inr ⟨rfl, ?_⟩)
      rcases hc with ⟨c1, _⟩ | ⟨_, c2⟩
      · omega
      · exact c2
    · obtain ⟨c1, c2, c3⟩ : c = 1 ∧ (97 ≤ hbt v m ∧ hbt v m ≤ 122) ∧ ∀ i : Nat, i < k → lod (hbt v i % 256) := by
        rcases hc with h | ⟨h, _⟩
        · exact h
        · exact absurd h hc1
      have hgo : ∀ hl : lod (hbt v k % 256), im_T g d 333 66 [some (vL v), none, some (vI ((m : Int) + 1)), some (vI 1), some (vI ((k : Int) + 1)), none, none] [] e M K := fun hl => by
        rw [show (k : Int) + 1 = ((k + 1 : Nat) : Int) from by omega]
        refine ih (k + 1) 1 (by omega) (Or.inl ⟨rfl, c2, fun i hi => ?_⟩)
        by_cases hik : i = k
        · subst hik; exact hl
        · exact c3 i (by omega)
      refine c_isIn (by constructor <;> omega) (by constructor <;> decide) (by constructor <;> decide) (fun hcA => ⟨_, rfl, rfl, by constructor <;> omega, fun _ => hgo (Or.inl hcA), fun z => absurd z (by decide)⟩) (fun hcA => ⟨_, rfl, rfl, by constructor <;> omega, fun z => absurd rfl z, fun _ => ?_⟩)
      refine c_isIn (by constructor <;> omega) (by constructor <;> decide) (by constructor <;> decide) (fun hc2 => ⟨_, rfl, rfl, by constructor <;> omega, fun z => absurd z (by decide), fun _ => hgo (Or.inr hc2)⟩) (fun hc2 => ⟨_, rfl, rfl, by constructor <;> omega, fun _ => ?_, fun z => absurd rfl z⟩)
      rw [show (k : Int) + 1 = ((k + 1 : Nat) : Int) from by omega]
      refine ih (k + 1) 0 (by omega) (Or.inr ⟨rfl, fun z => ?_⟩)
      obtain ⟨m', a, b, c', f, _⟩ := z
      obtain rfl := huniq m' b c'
      by_cases hkm : k < m'
      · have := f k hkm
        unfold lod at this
        omega
      · obtain rfl : k = m' := by omega
        clear hc ih
        omega
theorem l_rn18 {v : Int} (h0 : 0 < v) (h1 : v ≤ 9223372036854775807) (hkr : kwr v (-1)) (hd : 1 ≤ d) (hK1 : nmV v → K (.inl (some (vI 1))) e M) (hK0 : ¬ nmV v → K (.inl (some (vI 0))) e M) :
    ∀ (m : Nat), m ≤ 7 → hbt v (m + 1) = 0 → im_T g d 333 18 [some (vL v), none, some (vI ((m : Int) + 1)), none, none, none, none] [] e M K := by
  intro m
  have hstep : ∀ (m : Nat), m ≤ 7 → hbt v (m + 1) = 0 → hbt v m ≠ 0 → im_T g (d - 1) 268 0 [some (vL (hbt v m % 256)), none, some (vL 97), none, some (vL 122), none] [] e M (im_ri (fun x3 e_ M2 => e = e_ ∧ im_T g d 333 66 [some (vL v), none, some (vI ((m : Int) + 1)), some (vI x3), some (vI 0), none, none] [] e M2 K)) := by
    intro m hm hz hne
    have hnn := hbt_nn (v := v) (by omega) m
    rw [hbt_s] at hz
    have hlt : 1 ≤ hbt v m ∧ hbt v m < 256 := by omega
    have hmod : hbt v m % 256 = hbt v m := by omega
    rw [hmod]
    refine c_isIn (by constructor <;> omega) (by constructor <;> decide) (by constructor <;> decide) (fun hc => ⟨_, rfl, rfl, ?_⟩) (fun hc => ⟨_, rfl, rfl, ?_⟩)
    · exact l_rn66 (by omega) h1 hm hlt hkr hd hK1 hK0 (m + 1) 0 1 (by omega) (Or.inl ⟨rfl, hc, fun i hi => by omega⟩)
    · refine l_rn66 (by omega) h1 hm hlt hkr hd hK1 hK0 (m + 1) 0 0 (by omega) (Or.inr ⟨rfl, fun z => ?_⟩)
      obtain ⟨m', a, b, c, _⟩ := z
      rcases Nat.lt_trichotomy m' m with w | w | w
      · have := hbt_big (v := v) (m := m) (k := m') (by omega) w; omega
      · subst w; omega
      · have := hbt_big (v := v) (m := m') (k := m) (by omega) w; omega
  induction m with
  | zero =>
    intro hm hz
    have e0 := hbt_0 v
    have hz' := hz
    rw [hbt_s] at hz'
    refine b_isName_18 hd ?_
    rw [show (8 * ((((0 : Nat) : Int) + 1) - 1)) = 8 * ((0 : Nat) : Int) from by omega, xlshr_b (by omega) h1 hm, xland_255]
    exact ⟨fun _ => hstep 0 hm hz (by omega), fun z => by omega⟩
  | succ m ih =>
    intro hm hz
    have hnn := hbt_nn (v := v) (by omega) (m + 1)
    have hz' := hz
    rw [hbt_s] at hz'
    refine b_isName_18 hd ?_
    rw [show (8 * ((((m + 1 : Nat) : Int) + 1) - 1)) = 8 * ((m + 1 : Nat) : Int) from by omega, xlshr_b (by omega) h1 hm, xland_255]
    refine ⟨fun hne => hstep (m + 1) hm hz (by omega), fun z => ?_⟩
    rw [show ((m + 1 : Nat) : Int) + 1 + -1 = (m : Int) + 1 from by omega]
    exact ih (by omega) (by omega)
theorem c_isNameR {v : Int} (hv : im_i64 v) (hd : 1 ≤ d) (hK1 : nmV v → K (.inl (some (vI 1))) e M) (hK0 : ¬ nmV v → K (.inl (some (vI 0))) e M) : im_T g d 333 0 [some (vL v), none, none, none, none, none, none] [] e M K := by
  have hv1 := hv.1
  have hv2 := hv.2
  obtain ⟨r, hr⟩ := kwr_ex v
  refine b_isName_0 hd ⟨hv, fun h0 => hK0 (fun z => ?_), fun h0 => ?_⟩
  · obtain ⟨m, a, b, _⟩ := z
    unfold hbt at b
    have : v / 2 ^ (8 * m) ≤ 0 := by
      by_cases hz : v = 0
      · rw [hz, Int.zero_ediv]; omega
      · have := Int.ediv_neg_of_neg_of_pos (show v < 0 by omega) (bpow_pos (B := 2) (by decide) (8 * m))
        omega
    omega
  · refine c_isKeyword hv hr (fun hr1 => ⟨_, rfl, rfl, by constructor <;> omega, fun z => absurd z (by decide), fun _ => hK0 (fun z => ?_)⟩) (fun hr1 => ⟨_, rfl, rfl, by constructor <;> omega, fun _ => ?_, fun z => absurd rfl z⟩)
    · obtain ⟨_, _, _, _, _, w⟩ := z
      exact hr1 (kwr_uniq hr w)
    · rw [hr1] at hr
      have := l_rn18 (g := g) (d := d) (e := e) (M := M) (K := K) h0 (by omega) hr hd hK1 hK0 7 (by omega) (by
        unfold hbt
        exact Int.ediv_eq_zero_of_lt (by omega) (by show v < 18446744073709551616; omega))
      exact this
end ISNAME
