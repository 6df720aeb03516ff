/-! layFound, times -/
theorem dign {x : Int} {G : Int → Int} {o : Int} : ∀ (n : Nat), (∀ t : Nat, t < n → G (o + t) = (x / 10 ^ t) % 10) → dv 10 G o n = x - 10 ^ n * (x / 10 ^ n) := by
  intro n
  induction n with
  | zero => intro _; show 0 = x - 1 * (x / 1); rw [Int.ediv_one]; omega
  | succ n ih =>
    intro hG
    have hp := bpow_pos (B := 10) (by decide) n
    rw [dv_succ, ih (fun t ht => hG t (by omega)), hG n (by omega), Int.pow_succ, ← Int.ediv_ediv_of_nonneg (by omega)]
    generalize x / 10 ^ n = q
    generalize (10 : Int) ^ n = P
    have h1 : q % 10 = q - 10 * (q / 10) := by omega
    have h2 : (q - 10 * (q / 10)) * P = P * q - P * (10 * (q / 10)) := by rw [Int.sub_mul, Int.mul_comm q P, Int.mul_comm (10 * (q / 10)) P]
    rw [h1, h2, Int.mul_assoc]
    omega
theorem dig9 {x : Int} (h0 : 0 ≤ x) (h1 : x < 1000000000) {G : Int → Int} {o : Int} (hG : ∀ t : Nat, t < 9 → G (o + t) = (x / 10 ^ t) % 10) : dv 10 G o 9 = x := by
  rw [dign 9 hG, p9, Int.ediv_eq_zero_of_lt h0 h1, Int.mul_zero, Int.sub_zero]
def lfG (F : Int → Int) (k : Int) : Int := (F (k / 9) / 10 ^ (k % 9).toNat) % 10
theorem lfG_dv {F : Int → Int} {n : Nat} (hF : dok 1000000000 F 0 n) : dv 10 (lfG F) 0 (9 * n) = dv 1000000000 F 0 n := by
  rw [dv_grp, p9]
  refine dv_congr (fun i i0 i1 => ?_)
  rw [Int.zero_add]
  have := hF i i0 i1
  rw [Int.zero_add] at this
  refine dig9 this.1 this.2 (fun t ht => ?_)
  unfold lfG
  rw [show (((9 : Nat) : Int) * i + (t : Int)) / 9 = i from by omega, show ((((9 : Nat) : Int) * i + (t : Int)) % 9).toNat = t from by omega]
section RNUM7
variable {g : im_g} {d : Nat} {e : im_E} {M M0 : im_M} {K : im_K}
theorem l_lay {r : Int} {n : Nat} (hF0 : dok 1000000000 (M0 6958) 0 n) (hr : 0 ≤ r) (hn : n ≤ 72) (hr2 : r + 2 + 9 * n ≤ 1100000) (hK : ∀ M', RF [6958] [] (r + 2) M0 M' → (∀ i : Int, 0 ≤ i → i < 9 * n → M' 6955 (r + 2 + i) = lfG (M0 6958) i) → K (.inl none) e M') : ∀ (j k : Nat) (M : im_M), k + j = 9 * n → RF [6958] [] (r + 2) M0 M → (∀ i : Int, 0 ≤ i → i < k → M 6955 (r + 2 + i) = lfG (M0 6958) i) → (∀ i : Int, (k : Int) / 9 < i → M 6958 i = M0 6958 i) → M 6958 ((k : Int) / 9) = M0 6958 ((k : Int) / 9) / 10 ^ (k % 9) → im_T g d 397 2 [some (.ref 6952), some (vI r), some (vI n), some (vI k)] [] e M K := by
  intro j
  induction j with
  | zero =>
    intro k M hk hF hg ho hq
    exact b_layFound_2 ⟨by constructor <;> omega, by constructor <;> omega, fun _ => hK M hF (fun i i0 i1 => hg i i0 (by omega)), fun z => absurd z (by omega)⟩
  | succ j ih =>
    intro k M hk hF hg ho hq
    have hx := hF0 ((k : Int) / 9) (by omega) (by omega)
    rw [Int.zero_add] at hx
    have hp := bpow_pos (B := 10) (by decide) (k % 9)
    have hy0 : 0 ≤ M0 6958 ((k : Int) / 9) / 10 ^ (k % 9) := Int.ediv_nonneg hx.1 (by omega)
    have hy1 : M0 6958 ((k : Int) / 9) / 10 ^ (k % 9) < 1000000000 := by
      have := Int.ediv_le_self (10 ^ (k % 9)) hx.1
      omega
    refine b_layFound_2 ⟨by constructor <;> omega, by constructor <;> omega, fun z => absurd z (by omega), fun _ => ?_⟩
    rw [Int.tdiv_eq_ediv_of_nonneg (show (0 : Int) ≤ k by omega), hq, Int.tdiv_eq_ediv_of_nonneg hy0, Int.tmod_eq_emod_of_nonneg hy0]
    refine ⟨by constructor <;> omega, by constructor <;> omega, by constructor <;> omega, by constructor <;> omega, ?_⟩
    refine ih (k + 1) _ (by omega) ((hF.pool (by omega) _).arr (by decide) (by decide) (by decide) _ _) (fun i i0 i1 => ?_) (fun i i0 => ?_) ?_
    · rw [im_rdn _ _ _ _ (by decide)]
      by_cases hi : i = k
      · subst hi
        rw [im_rds]
        unfold lfG
        rw [show ((k : Int) % 9).toNat = k % 9 from by omega]
      · rw [im_rdk _ _ _ (by omega)]
        exact hg i i0 (by omega)
    · rw [im_rdk _ _ _ (by omega), im_rdn _ _ _ _ (by decide)]
      exact ho i (by omega)
    · by_cases h8 : k % 9 = 8
      · rw [show ((k + 1 : Nat) : Int) / 9 = (k : Int) / 9 + 1 from by omega, im_rdk _ _ _ (by omega), im_rdn _ _ _ _ (by decide), ho _ (by omega), show (k + 1) % 9 = 0 from by omega, Int.pow_zero, Int.ediv_one]
      · rw [show ((k + 1 : Nat) : Int) / 9 = (k : Int) / 9 from by omega, im_rds, show (k + 1) % 9 = k % 9 + 1 from by omega, Int.pow_succ, Int.ediv_ediv_of_nonneg (by omega)]
theorem c_layFound {r : Int} {n : Nat} (hF0 : dok 1000000000 (M 6958) 0 n) (hr : 0 ≤ r) (hn : n ≤ 72) (hr2 : r + 2 + 9 * n ≤ 1100000) (hK : ∀ M', RF [6958] [] (r + 2) M M' → dok 10 (M' 6955) (r + 2) (9 * n) → dv 10 (M' 6955) (r + 2) (9 * n) = dv 1000000000 (M 6958) 0 n → K (.inl none) e M') : im_T g d 397 0 [some (.ref 6952), some (vI r), some (vI n), none] [] e M K := by
  refine b_layFound_0 (l_lay (M0 := M) hF0 hr hn hr2 (fun M' hF hg => hK M' hF ?_ ?_) (9 * n) 0 M (by omega) (RF.rf _ _ _ _) (fun i i0 i1 => by omega) (fun i i0 => rfl) ?_)
  · intro i i0 i1
    rw [hg i i0 (by omega)]
    unfold lfG
    omega
  · rw [← lfG_dv hF0]
    exact dv_congr (fun i i0 i1 => by rw [Int.zero_add]; exact hg i i0 (by omega))
  · show M 6958 (0 / 9) = M 6958 (0 / 9) / 10 ^ 0
    rw [Int.pow_zero, Int.ediv_one]
abbrev BB : Int := 1000000000
theorem BBv : BB = 1000000000 := rfl
/-- a row of a product -/
theorem l_timesI {a b : Int} {n m i : Nat} {X : Int} (hU : dok BB (M0 6956) 0 n) (hL : dok BB (M0 6957) 0 m) (hnm : n + m ≤ 71) (hi : i < n)
    (hK : ∀ (M : im_M), (∀ w, w ≠ 6958 → M w = M0 w) → dok BB (M 6958) 0 (n + m) → dv BB (M 6958) 0 (i + m + 1) = X + M0 6956 i * (BB ^ i * dv BB (M0 6957) 0 m) → im_T g d 395 50 [some (.ref 6952), some (vI a), some (vI b), some (vI n), some (vI m), some (vI ((i : Int) + 1)), none, none, none, none, none] [] e M K) :
    ∀ (j k : Nat) (c : Int) (M : im_M), k + j = m → (∀ w, w ≠ 6958 → M w = M0 w) → dok BB (M 6958) 0 (n + m) → 0 ≤ c → c < BB → dv BB (M 6958) 0 (i + m) + c * BB ^ (i + k) = X + M0 6956 i * (BB ^ i * dv BB (M0 6957) 0 k) → im_T g d 395 62 [some (.ref 6952), some (vI a), some (vI b), some (vI n), some (vI m), some (vI i), some (vL c), none, some (vI k), none, none] [] e M K := by
  intro j
  induction j with
  | zero =>
    intro k c M hk hF hdk c0 c1 hv
    have hk : k = m := by omega
    subst hk
    have hBv := BBv
    refine b_times_62 ⟨by constructor <;> omega, by constructor <;> omega, fun _ => ⟨by constructor <;> omega, by constructor <;> omega, ?_⟩, fun z => absurd z (by omega)⟩
    have e1 : im_u M 6958 ((i : Int) + (k : Int)) c 6958 = im_up (M 6958) (0 + ((i + k : Nat) : Int)) c := by rw [im_u_eq]; congr 1; omega
    refine hK _ (fun w hw => (im_u_ne _ _ _ hw).trans (hF w hw)) ?_ ?_
    · rw [e1]; exact dok_set hdk c0 c1
    · rw [e1, im_up_dv]; exact hv
  | succ j ih =>
    intro k c M hk hF hdk c0 c1 hv
    have hBv := BBv
    have hu := hU i (by omega) (by omega)
    have hl := hL k (by omega) (by omega)
    have hf := hdk ((i + k : Nat) : Int) (by omega) (by omega)
    rw [Int.zero_add] at hu hl hf
    have e56 : M 6956 = M0 6956 := hF _ (by decide)
    have e57 : M 6957 = M0 6957 := hF _ (by decide)
    have hij : ((i + k : Nat) : Int) = (i : Int) + (k : Int) := by omega
    rw [hij] at hf
    have hb := mul_bd (B := BB) (by decide) hf hu hl ⟨c0, c1⟩
    refine b_times_62 ⟨by constructor <;> omega, by constructor <;> omega, fun z => absurd z (by omega), fun _ => ?_⟩
    rw [e56, e57]
    have hBB : BB * BB = 1000000000000000000 := by decide
    rw [hBB] at hb
    generalize hve : M 6958 ((i : Int) + (k : Int)) + M0 6956 i * M0 6957 k + c = v at hb
    rw [Int.tdiv_eq_ediv_of_nonneg hb.1, Int.tmod_eq_emod_of_nonneg hb.1]
    refine ⟨by constructor <;> omega, by constructor <;> omega, by constructor <;> omega, by constructor <;> omega, by constructor <;> omega, ?_⟩
    have e1 : im_u M 6958 ((i : Int) + (k : Int)) (v % 1000000000) 6958 = im_up (M 6958) (0 + ((i + k : Nat) : Int)) (v % 1000000000) := by rw [im_u_eq]; congr 1; omega
    refine ih (k + 1) (v / 1000000000) _ (by omega) (fun w hw => (im_u_ne _ _ _ hw).trans (hF w hw)) ?_ (by omega) (by omega) ?_
    · rw [e1]; exact dok_set hdk (by omega) (by omega)
    · rw [e1, dv_set (by omega), dv_succ, Int.zero_add, Int.zero_add, hij, ← Nat.add_assoc, Int.pow_succ]
      have h5 := mul_step (B := BB) (P := BB ^ (i + k)) (q := v / 1000000000) (m := v % 1000000000) hve.symm (by rw [BBv]; omega)
      have h6 : M0 6956 i * (M0 6957 k * BB ^ (i + k)) = M0 6956 i * (BB ^ i * (M0 6957 k * BB ^ k)) := by
        rw [Int.pow_add, Int.mul_left_comm (M0 6957 k)]
      rw [Int.mul_add, Int.mul_add]
      omega
theorem l_timesO {a b : Int} {n m : Nat} (hU : dok BB (M0 6956) 0 n) (hL : dok BB (M0 6957) 0 m) (hnm : n + m ≤ 71)
    (hK : ∀ (M : im_M), (∀ w, w ≠ 6958 → M w = M0 w) → dok BB (M 6958) 0 (n + m) → dv BB (M 6958) 0 (n + m) = dv BB (M0 6956) 0 n * dv BB (M0 6957) 0 m → im_T g (d - 1) 397 0 [some (.ref 6952), some (vI (M 6952 7)), some (vI ((n : Int) + m)), none] [] e M (im_r0 (fun e_ M5 => e = e_ ∧ (0 ≤ a ∧ a < 1100000) ∧ (0 ≤ b ∧ b < 1100000) ∧ im_T g (d - 1) 292 0 [some (.ref 6952), some (vI (M 6952 7)), some (vI (9 * ((n : Int) + m))), some (vI ((M5 6955 a) * (M5 6955 b))), none] [] e M5 (im_ri (fun x11 e_ M10 => e = e_ ∧ K (.inl (some (vI x11))) e M10))))) (hd : 1 ≤ d) :
    ∀ (j i : Nat) (M : im_M), i + j = n → (∀ w, w ≠ 6958 → M w = M0 w) → dok BB (M 6958) 0 (n + m) → dv BB (M 6958) 0 (i + m) = dv BB (M0 6956) 0 i * dv BB (M0 6957) 0 m → im_T g d 395 50 [some (.ref 6952), some (vI a), some (vI b), some (vI n), some (vI m), some (vI i), none, none, none, none, none] [] e M K := by
  intro j
  induction j with
  | zero =>
    intro i M hi hF hdk hv
    have hi : i = n := by omega
    subst hi
    exact b_times_50 hd ⟨by constructor <;> omega, by constructor <;> omega, fun _ => hK M hF hdk hv, fun z => absurd z (by omega)⟩
  | succ j ih =>
    intro i M hi hF hdk hv
    refine b_times_50 hd ⟨by constructor <;> omega, by constructor <;> omega, fun z => absurd z (by omega), fun _ => ?_⟩
    refine l_timesI (M0 := M0) (X := dv BB (M0 6956) 0 i * dv BB (M0 6957) 0 m) hU hL hnm (by omega) (fun M1 hF1 hd1 hv1 => ?_) m 0 0 M (by omega) hF hdk (by decide) (by decide) ?_
    · refine ih (i + 1) M1 (by omega) hF1 hd1 ?_
      rw [show i + 1 + m = i + m + 1 from by omega, hv1, dv_succ, Int.zero_add, Int.add_mul, Int.mul_assoc]
    · show _ + 0 * _ = _ + _ * (_ * 0)
      rw [Int.zero_mul, Int.mul_zero, Int.mul_zero, Int.add_zero, Int.add_zero]
      exact hv
theorem l_timesZ {a b : Int} {n m : Nat} (hnm : n + m ≤ 71) (hK : ∀ (M : im_M), (∀ w, w ≠ 6958 → M w = M0 w) → (∀ i : Int, 0 ≤ i → i < n + m → M 6958 i = 0) → im_T g d 395 50 [some (.ref 6952), some (vI a), some (vI b), some (vI n), some (vI m), some (vI 0), none, none, none, none, none] [] e M K) :
    ∀ (j k : Nat) (M : im_M), k + j = n + m → (∀ w, w ≠ 6958 → M w = M0 w) → (∀ i : Int, 0 ≤ i → i < k → M 6958 i = 0) → im_T g d 395 24 [some (.ref 6952), some (vI a), some (vI b), some (vI n), some (vI m), some (vI k), none, none, none, none, none] [] e M K := by
  intro j
  induction j with
  | zero =>
    intro k M hk hF hz
    exact b_times_24 ⟨by constructor <;> omega, by constructor <;> omega, fun _ => hK M hF (fun i i0 i1 => hz i i0 (by omega)), fun z => absurd z (by omega)⟩
  | succ j ih =>
    intro k M hk hF hz
    refine b_times_24 ⟨by constructor <;> omega, by constructor <;> omega, fun z => absurd z (by omega), fun _ => ⟨by constructor <;> omega, ?_⟩⟩
    refine ih (k + 1) _ (by omega) (fun w hw => (im_u_ne _ _ _ hw).trans (hF w hw)) (fun i i0 i1 => ?_)
    by_cases h : i = k
    · subst h; rw [im_rds]
    · rw [im_rdk _ _ _ h]; exact hz i i0 (by omega)
/-- times: the product, at the top of the pool -/
theorem c_times {a b va vb : Int} {na nb : Nat} (hra : rn (M 6955) a na va) (hrb : rn (M 6955) b nb vb) (ha0 : 0 ≤ a) (hb0 : 0 ≤ b) (hal : a + 2 + na ≤ M 6952 7) (hbl : b + 2 + nb ≤ M 6952 7) (hna : na ≤ 300) (hnb : nb ≤ 300) (hr : M 6952 7 + 650 ≤ 1100000) (hd : 2 ≤ d) (hK : ∀ (M' : im_M) (n' : Nat), RF [6956, 6957, 6958] [7, 8] (M 6952 7) M M' → rn (M' 6955) (M 6952 7) n' (va * vb) → n' ≤ 612 → M' 6952 7 = M 6952 7 + 2 + n' → (M' 6952 8 = if M 6952 8 = 0 ∧ n' ≤ 300 then 0 else 1) → K (.inl (some (vI (M 6952 7)))) e M') : im_T g d 395 0 [some (.ref 6952), some (vI a), some (vI b), none, none, none, none, none, none, none, none] [] e M K := by
  obtain ⟨a1, a2, a3, a4⟩ := id hra
  obtain ⟨b1, b2, b3, b4⟩ := id hrb
  refine b_times_0 (by omega) (c_places (w := 6956) hra sf_6956 (by decide) ha0 (by omega) (by omega) (by omega) (fun M1 hF1 hd1 hv1 _ => ⟨_, rfl, rfl, ?_⟩))
  have e1 : M1 6955 = M 6955 := hF1 _ (by decide)
  refine c_places (w := 6957) (by rw [e1]; exact hrb) sf_6957 (by decide) hb0 (by omega) (by omega) (by omega) (fun M2 hF2 hd2 hv2 _ => ⟨_, rfl, rfl, ?_⟩)
  have e2 : M2 6956 = M1 6956 := hF2 _ (by decide)
  have e3 : M2 6955 = M 6955 := (hF2 _ (by decide)).trans e1
  have e4 : M2 6952 = M 6952 := (hF2 _ (by decide)).trans (hF1 _ (by decide))
  rw [e1] at hv2
  generalize hn : (na + 8) / 9 = n at *
  generalize hm : (nb + 8) / 9 = m at *
  refine l_timesZ (M0 := M2) (by omega) (fun M3 hF3 hz3 => ?_) (n + m) 0 M2 (by omega) (fun _ _ => rfl) (fun i i0 i1 => by omega)
  refine l_timesO (M0 := M2) (by rw [e2]; exact hd1) hd2 (by omega) (fun M4 hF4 hd4 hv4 => ?_) (by omega) n 0 M3 (by omega) hF3 (fun i i0 i1 => by rw [Int.zero_add, hz3 i i0 (by omega)]; decide) ?_
  · have e5 : M4 6952 = M 6952 := (hF4 _ (by decide)).trans e4
    have e6 : M4 6955 = M 6955 := (hF4 _ (by decide)).trans e3
    rw [show (n : Int) + m = ((n + m : Nat) : Int) from by omega, e5]
    refine c_layFound hd4 (by omega) (by omega) (by omega) (fun M5 hF5 hd5 hv5 => ⟨rfl, rfl, by constructor <;> omega, by constructor <;> omega, ?_⟩)
    have f0 : M5 6955 a = M 6955 a := (hF5.2.2 _ (by omega)).trans (by rw [e6])
    have f1 : M5 6955 b = M 6955 b := (hF5.2.2 _ (by omega)).trans (by rw [e6])
    rw [f0, f1, show 9 * ((n + m : Nat) : Int) = ((9 * (n + m) : Nat) : Int) from by omega]
    have hsg : M 6955 a * M 6955 b = 1 ∨ M 6955 a * M 6955 b = -1 ∨ M 6955 a * M 6955 b = 0 := by
      rcases a3 with ⟨z, _⟩ | ⟨z | z, _⟩ <;> rcases b3 with ⟨w, _⟩ | ⟨w | w, _⟩ <;> rw [z, w] <;> decide
    have hval : dv 10 (M5 6955) (M 6952 7 + 2) (9 * (n + m)) = dv 10 (M 6955) (a + 2) na * dv 10 (M 6955) (b + 2) nb := by
      rw [hv5, hv4, e2, hv1, hv2]
    refine c_close (by omega) hsg (by omega) hd5 (fun z => ?_) (fun M' k hF9 hn' hk ht h9 => ⟨_, rfl, rfl, hK M' k ?_ ?_ (by omega) ht ?_⟩)
    · rw [hval]
      rcases Int.mul_eq_zero.mp z with w | w
      · have : na = 0 := by omega
        subst this; show 0 * _ = _; rw [Int.zero_mul]
      · have : nb = 0 := by omega
        subst this; show _ * 0 = _; rw [Int.mul_zero]
    · have hA : RF [6956, 6957, 6958] [7, 8] (M 6952 7) M M4 := by
        refine ⟨fun w h h' h'' => ?_, fun k hk => by rw [e5], fun i hi => by rw [e6]⟩
        simp only [List.mem_cons, List.not_mem_nil, or_false, not_or] at h
        rw [hF4 w h.2.2, hF2 w h.2.1, hF1 w h.1]
      have hB : RF [6956, 6957, 6958] [7, 8] (M 6952 7) M4 M5 := hF5.mono (by decide) (by decide) (by omega)
      exact (hA.trans hB).trans (hF9.mono (by decide) (by decide) (Int.le_refl _))
    · rw [hval] at hn'
      have : va * vb = M 6955 a * M 6955 b * (dv 10 (M 6955) (a + 2) na * dv 10 (M 6955) (b + 2) nb) := by
        rw [a4, b4, Int.mul_assoc, Int.mul_assoc, Int.mul_left_comm (dv 10 (M 6955) (a + 2) na)]
      rw [this]; exact hn'
    · rw [h9, hF5.2.1 8 (by decide), e5]
  · show dv BB (M3 6958) 0 (0 + m) = 0 * _
    rw [Int.zero_mul, Nat.zero_add]
    have := dv_zeros (B := BB) (f := M3 6958) (o := 0) (n := 0) (k := m) (fun i i0 i1 => by rw [Int.zero_add]; exact hz3 i (by omega) (by omega))
    rw [Nat.zero_add] at this
    exact this
end RNUM7
