/-! TOKENS: what class and reference read in a text. t: the bytes 0..255, n: how many. -/
def brk (x : Int) : Prop := x = 40 ∨ x = 41 ∨ x = 91 ∨ x = 93
def pak (t : Int → Int) (f : Int) : Nat → Int
  | 0 => 0
  | k + 1 => pak t f k * 256 + t (f + k)
def kwl : List Int := [427021005669, 7364985, 26982, 2003330414, 7103860, 107148485161588, 1751477348, 7234919, 6382692, 7566690, 7173484, 6580598, 109300197582190, 495873782388, 6647396, 7697253, 1668247140, 6385252, 28530, 7237492, 426953896805, 26469, 26484, 27749, 27764, 25969, 1953658213, 439721161573, 28259031251642740, 109300196926309, 121424973489785, 1667330917, 29807, 1768846447]
def kwv (i : Int) : Int := kwl.getD i.toNat 0
/-- the keyword's number, or -1 -/
def kwr (v r : Int) : Prop := (r = -1 ∧ ∀ i, 0 ≤ i → i < 34 → kwv i ≠ v) ∨ (0 ≤ r ∧ r < 34 ∧ kwv r = v)
theorem kwv_inj : ∀ i j : Fin 34, kwv (i : Nat) = kwv (j : Nat) → i = j := by decide +kernel
theorem kwr_uniq {v r r' : Int} (h : kwr v r) (h' : kwr v r') : r = r' := by
  rcases h with ⟨a, b⟩ | ⟨a, b, c⟩ <;> rcases h' with ⟨a', b'⟩ | ⟨a', b', c'⟩
  · omega
  · exact absurd c' (b r' a' b')
  · exact absurd c (b' r a b)
  · have := kwv_inj ⟨r.toNat, by omega⟩ ⟨r'.toNat, by omega⟩ (by
      show kwv ((r.toNat : Nat) : Int) = kwv ((r'.toNat : Nat) : Int)
      rw [Int.toNat_of_nonneg a, Int.toNat_of_nonneg a', c, c'])
    have h2 : r.toNat = r'.toNat := congrArg Fin.val this
    omega
theorem kwr_ex (v : Int) : ∃ r, kwr v r := by
  by_cases h : ∃ i : Int, 0 ≤ i ∧ i < 34 ∧ kwv i = v
  · obtain ⟨i, h1, h2, h3⟩ := h
    exact ⟨i, Or.inr ⟨h1, h2, h3⟩⟩
  · exact ⟨-1, Or.inl ⟨rfl, fun i i0 i1 i2 => h ⟨i, i0, i1, i2⟩⟩⟩
def nmT (t : Int → Int) (f q : Int) : Prop := 1 ≤ q - f ∧ q - f ≤ 8 ∧ (97 ≤ t f ∧ t f ≤ 122) ∧ ∀ i, f ≤ i → i < q → ((97 ≤ t i ∧ t i ≤ 122) ∨ (48 ≤ t i ∧ t i ≤ 57))
def dgT (t : Int → Int) (f q : Int) : Prop := f < q ∧ ∀ i, f ≤ i → i < q → 48 ≤ t i ∧ t i ≤ 57
def sgn (t : Int → Int) (p : Int) : Int := if t p = 45 then p + 1 else p
def ask (t : Int → Int) (p : Int) : Int := if t p = 63 then p + 1 else p
def zrT (t : Int → Int) (f q z : Int) : Prop := f ≤ z ∧ z ≤ q ∧ (∀ i, f ≤ i → i < z → t i = 48) ∧ (z < q → t z ≠ 48)
def nval (t : Int → Int) (p q z : Int) : Int := (if t p = 45 then -1 else 1) * dv 10 (tdg t q) 0 (q - z).toNat
def wrd (t : Int → Int) (p q ty nm v : Int) : Prop :=
  (dgT t (sgn t p) q ∧ ∃ z, zrT t (sgn t p) q z ∧ ((300 < q - z ∧ ty = -2) ∨ (q - z ≤ 300 ∧ ty = 34 ∧ v = nval t p q z)))
  ∨ (¬ dgT t (sgn t p) q ∧ ¬ nmT t (ask t p) q ∧ ty = -1)
  ∨ (¬ dgT t (sgn t p) q ∧ nmT t (ask t p) q ∧ nm = pak t (ask t p) (q - ask t p).toNat ∧ ∃ r, kwr nm r ∧ ((t p = 63 ∧ r = -1 ∧ ty = 35) ∨ (t p = 63 ∧ r ≠ -1 ∧ ty = -1) ∨ (t p ≠ 63 ∧ r = -1 ∧ ty = 36) ∨ (t p ≠ 63 ∧ r ≠ -1 ∧ ty = r)))
def tkn (t : Int → Int) (n a p q ty nm v : Int) : Prop := a ≤ p ∧ p ≤ n ∧ (∀ i, a ≤ i → i < p → t i ≤ 32) ∧
  ((p = n ∧ q = n ∧ ty = 41) ∨ (p < n ∧ 32 < t p ∧ ((brk (t p) ∧ q = p + 1 ∧ ty = (if t p = 40 then 37 else if t p = 41 then 38 else if t p = 91 then 39 else 40)) ∨ (¬ brk (t p) ∧ p < q ∧ q ≤ n ∧ (∀ i, p ≤ i → i < q → 32 < t i ∧ ¬ brk (t i)) ∧ (q < n → t q ≤ 32 ∨ brk (t q)) ∧ wrd t p q ty nm v))))
/-- the class's bytes -/
def txt (B t : Int → Int) (n : Int) : Prop := ∀ i, 0 ≤ i → i < n → (0 ≤ t i ∧ t i < 128 ∧ B i = t i) ∨ (128 ≤ t i ∧ t i < 256 ∧ B i = t i - 256)
theorem pak_rng {t : Int → Int} {f : Int} : ∀ k : Nat, (∀ i, f ≤ i → i < f + k → 0 ≤ t i ∧ t i < 256) → 0 ≤ pak t f k ∧ pak t f k < 256 ^ k := by
  intro k
  induction k with
  | zero => intro _; exact ⟨Int.le_refl 0, by show (0 : Int) < 256 ^ 0; decide⟩
  | succ k ih =>
    intro h
    have h1 := ih (fun i i0 i1 => h i i0 (by omega))
    have h2 := h (f + k) (by omega) (by omega)
    show 0 ≤ pak t f k * 256 + t (f + k) ∧ pak t f k * 256 + t (f + k) < 256 ^ (k + 1)
    rw [Int.pow_succ]
    omega
section TOK
variable {g : im_g} {d : Nat} {e : im_E} {M M0 : im_M} {K : im_K}
theorem c_isLetter {x : Int} (h : im_i32 x) (h1 : 97 ≤ x ∧ x ≤ 122 → K (.inl (some (vI 1))) e M) (h0 : ¬ (97 ≤ x ∧ x ≤ 122) → K (.inl (some (vI 0))) e M) : im_T g d 48 0 [some (vI x)] [] e M K :=
  k_Reader_isLetter_0 ⟨h, fun a b => h1 ⟨a, b⟩, fun a => h0 (by omega)⟩
theorem c_isDigit {x : Int} (h : im_i32 x) (h1 : 48 ≤ x ∧ x ≤ 57 → K (.inl (some (vI 1))) e M) (h0 : ¬ (48 ≤ x ∧ x ≤ 57) → K (.inl (some (vI 0))) e M) : im_T g d 44 0 [some (vI x)] [] e M K :=
  k_Reader_isDigit_0 ⟨h, fun a b => h1 ⟨a, b⟩, fun a => h0 (by omega)⟩
theorem c_isBlank {x : Int} (h1 : x % 256 ≤ 32 → K (.inl (some (vI 1))) e M) (h0 : 32 < x % 256 → K (.inl (some (vI 0))) e M) : im_T g d 41 0 [some (vI x)] [] e M K := by
  refine k_Reader_isBlank_0 ?_
  rw [xiand_255]
  intro y hy
  rcases hy with ⟨a, b⟩ | ⟨a, b⟩
  · rw [b]; exact h0 a
  · rw [b]; exact h1 a
theorem l_keyword {v : Int} (hv : im_i64 v) (hw : ∀ i, 0 ≤ i → i < 34 → M 3 i = kwv i) (hK : ∀ r, kwr v r → K (.inl (some (vI r))) e M) : ∀ (j k : Nat), k + j = 34 → (∀ i : Int, 0 ≤ i → i < k → kwv i ≠ v) → im_T g d 49 2 [some (.ref 2), some (vL v), none, some (vI k)] [] e M K := by
  intro j
  induction j with
  | zero =>
    intro k hk hn
    exact k_Reader_keyword_2 ⟨by constructor <;> omega, fun _ => hK (-1) (Or.inl ⟨rfl, fun i i0 i1 => hn i i0 (by omega)⟩), fun z => absurd z (by omega)⟩
  | succ j ih =>
    intro k hk hn
    refine k_Reader_keyword_2 ⟨by constructor <;> omega, fun z => absurd z (by omega), fun _ => ⟨by constructor <;> omega, hv, fun hne => ?_, fun heq => ?_⟩⟩
    · refine ih (k + 1) (by omega) (fun i i0 i1 => ?_)
      by_cases hi : i = k
      · subst hi; rw [← hw _ (by omega) (by omega)]; exact hne
      · exact hn i i0 (by omega)
    · exact hK k (Or.inr ⟨by omega, by omega, by rw [← hw _ (by omega) (by omega)]; exact heq⟩)
theorem c_keyword {v : Int} (hv : im_i64 v) (hw : ∀ i, 0 ≤ i → i < 34 → M 3 i = kwv i) (hK : ∀ r, kwr v r → K (.inl (some (vI r))) e M) : im_T g d 49 0 [some (.ref 2), some (vL v), none, none] [] e M K :=
  k_Reader_keyword_0 (l_keyword hv hw hK 34 0 (by omega) (fun i i0 i1 => by omega))
/-- pack -/
theorem l_pack {b nb : Nat} {t : Int → Int} {n f q : Int} (hsh : (im_sh0 ++ e)[b]? = some (0, nb, [])) (hnb : nb ≤ 2147483647) (hb2 : b ≠ 2) (hb : M0 2 1 = b) (hnn : n ≤ nb) (ht : txt (M0 b) t n) (hf0 : 0 ≤ f) (hq : q ≤ n) (hq8 : q - f ≤ 8) (hfq : f < q) (hL : 97 ≤ t f ∧ t f ≤ 122) (hd : 1 ≤ d)
    (hK1 : nmT t f q → ∀ M', (∀ x, x ≠ 2 → M' x = M0 x) → (∀ k, k ≠ 6 → M' 2 k = M0 2 k) → M' 2 6 = pak t f (q - f).toNat → K (.inl (some (vI 1))) e M')
    (hK0 : ¬ nmT t f q → ∀ M', (∀ x, x ≠ 2 → M' x = M0 x) → (∀ k, k ≠ 6 → M' 2 k = M0 2 k) → K (.inl (some (vI 0))) e M') :
    ∀ (j k : Nat) (M : im_M), f + k + j = q → (∀ x, x ≠ 2 → M x = M0 x) → (∀ k, k ≠ 6 → M 2 k = M0 2 k) → M 2 6 = pak t f k → (∀ i, f ≤ i → i < f + k → ((97 ≤ t i ∧ t i ≤ 122) ∨ (48 ≤ t i ∧ t i ≤ 57))) → im_T g d 47 34 [some (.ref 2), none, some (vI q), some (vI (f + k))] [] e M K := by
  intro j
  induction j with
  | zero =>
    intro k M hk hF hF2 h6 ha
    have hi : ∀ i, f ≤ i → i < q → ((97 ≤ t i ∧ t i ≤ 122) ∨ (48 ≤ t i ∧ t i ≤ 57)) := fun i i0 i1 => ha i i0 (by omega)
    refine k_Reader_pack_34 hd ⟨by constructor <;> omega, by constructor <;> omega, fun _ => hK1 ⟨by omega, by omega, hL, hi⟩ M hF hF2 ?_, fun z => absurd z (by omega)⟩
    rw [h6, show (q - f).toNat = k from by omega]
  | succ j ih =>
    intro k M hk hF hF2 h6 ha
    have hB := ht (f + k) (by omega) (by omega)
    have eb : M b = M0 b := hF b hb2
    have e1 : M 2 1 = b := (hF2 1 (by decide)).trans hb
    have hpr := pak_rng (t := t) (f := f) k (fun i i0 i1 => by have := ha i i0 i1; omega)
    have hk7 : k ≤ 7 := by omega
    have hpw : (256 : Int) ^ k ≤ 256 ^ 7 := bpow_le (by decide) hk7
    rw [show (256 : Int) ^ 7 = 72057594037927936 from by decide] at hpw
    have hp55 : pak t f k < 36028797018963968 := by
      by_cases hk0 : k = 0
      · subst hk0; show (0 : Int) < _; decide
      · obtain ⟨k', rfl⟩ : ∃ k', k = k' + 1 := ⟨k - 1, by omega⟩
        -- the first byte is less than 128
        have hgen : ∀ m : Nat, m ≤ k' → pak t f (m + 1) < 128 * 256 ^ m := by
          intro m
          induction m with
          | zero => intro _; show 0 * 256 + t (f + ((0 : Nat) : Int)) < 128 * 256 ^ 0; rw [Int.pow_zero, show f + ((0 : Nat) : Int) = f from by omega]; omega
          | succ m ihm =>
            intro hm
            have h1 := ihm (by omega)
            have h2 := ha (f + ((m + 1 : Nat) : Int)) (by omega) (by omega)
            show pak t f (m + 1) * 256 + t (f + ((m + 1 : Nat) : Int)) < _
            rw [Int.pow_succ]
            omega
        have h3 := hgen k' (Nat.le_refl _)
        have h4 : (256 : Int) ^ k' ≤ 256 ^ 6 := bpow_le (by decide) (by omega)
        rw [show (256 : Int) ^ 6 = 281474976710656 from by decide] at h4
        omega
    have hstep : ∀ (hc : (97 ≤ t (f + k) ∧ t (f + k) ≤ 122) ∨ (48 ≤ t (f + k) ∧ t (f + k) ≤ 57)), im_T g d 47 34 [some (.ref 2), none, some (vI q), some (vI (f + k + 1))] [] e (im_u M 2 6 (xlor (xlshl (M 2 6) 8) (M b (f + k)))) K := by
      intro hc
      rw [h6, eb, show M0 b (f + k) = t (f + k) from by omega, xlor_8 hpr.1 hp55 (by omega) (by omega), show f + (k : Int) + 1 = f + ((k + 1 : Nat) : Int) from by omega]
      refine ih (k + 1) _ (by omega) (fun x hx => (im_u_ne _ _ _ hx).trans (hF x hx)) (fun x hx => (im_rdk _ _ _ hx).trans (hF2 x hx)) (im_rds _ _ _ _) (fun i i0 i1 => ?_)
      by_cases hi : i = f + k
      · subst hi; exact hc
      · exact ha i i0 (by omega)
    have hbad : ¬ ((97 ≤ t (f + k) ∧ t (f + k) ≤ 122) ∨ (48 ≤ t (f + k) ∧ t (f + k) ≤ 57)) → K (.inl (some (vI 0))) e M := fun hc => hK0 (fun z => hc (z.2.2.2 (f + k) (by omega) (by omega))) M hF hF2
    refine k_Reader_pack_34 hd ⟨by constructor <;> omega, by constructor <;> omega, fun z => absurd z (by omega), fun _ => ⟨b, e1, nb, ⟨hsh, hnb⟩, by constructor <;> omega, ?_⟩⟩
    refine c_isLetter (by rw [eb]; constructor <;> omega) (fun hc => ⟨_, rfl, rfl, by constructor <;> omega, fun _ => ⟨b, e1, nb, ⟨hsh, hnb⟩, by constructor <;> omega, hstep (by rw [eb] at hc; omega)⟩, fun z => absurd z (by decide)⟩) (fun hc => ⟨_, rfl, rfl, by constructor <;> omega, fun z => absurd rfl z, fun _ => ⟨b, e1, nb, ⟨hsh, hnb⟩, by constructor <;> omega, ?_⟩⟩)
    rw [eb] at hc
    refine c_isDigit (by rw [eb]; constructor <;> omega) (fun hc2 => ⟨_, rfl, rfl, by constructor <;> omega, fun _ => ⟨b, e1, nb, ⟨hsh, hnb⟩, by constructor <;> omega, hstep (by rw [eb] at hc2; omega)⟩, fun z => absurd z (by decide)⟩) (fun hc2 => ⟨_, rfl, rfl, by constructor <;> omega, fun z => absurd rfl z, fun _ => hbad ?_⟩)
    rw [eb] at hc2
    omega
theorem c_pack {b nb : Nat} {t : Int → Int} {n f q : Int} (hsh : (im_sh0 ++ e)[b]? = some (0, nb, [])) (hnb : nb ≤ 2147483647) (hb2 : b ≠ 2) (hb : M 2 1 = b) (hnn : n ≤ nb) (ht : txt (M b) t n) (hf0 : 0 ≤ f) (hq0 : 0 ≤ q) (hq : q ≤ n) (hfq' : f ≤ q) (hd : 1 ≤ d)
    (hK1 : nmT t f q → ∀ M', (∀ x, x ≠ 2 → M' x = M x) → (∀ k, k ≠ 6 → M' 2 k = M 2 k) → M' 2 6 = pak t f (q - f).toNat → K (.inl (some (vI 1))) e M')
    (hK0 : ¬ nmT t f q → ∀ M', (∀ x, x ≠ 2 → M' x = M x) → (∀ k, k ≠ 6 → M' 2 k = M 2 k) → K (.inl (some (vI 0))) e M') : im_T g d 47 0 [some (.ref 2), some (vI f), some (vI q), none] [] e M K := by
  refine k_Reader_pack_0 hd ⟨by constructor <;> omega, by constructor <;> omega, fun c1 => ⟨by constructor <;> omega, fun c2 => ⟨b, hb, nb, ⟨hsh, hnb⟩, by constructor <;> omega, ?_⟩⟩, fun c => hK0 (fun z => ?_) M (fun _ _ => rfl) (fun _ _ => rfl)⟩
  · have hB := ht f (by omega) (by omega)
    refine c_isLetter (by constructor <;> omega) (fun hc => ⟨_, rfl, rfl, by constructor <;> omega, fun _ => ?_, fun z => absurd z (by decide)⟩) (fun hc => ⟨_, rfl, rfl, by constructor <;> omega, fun z => absurd rfl z, fun _ => hK0 (fun z => ?_) M (fun _ _ => rfl) (fun _ _ => rfl)⟩)
    · have := l_pack (g := g) (d := d) (M0 := M) (K := K) hsh hnb hb2 hb hnn ht hf0 hq c2 c1 (by omega) hd hK1 hK0 (q - f).toNat 0 (im_u M 2 6 0) (by omega) (fun x hx => im_u_ne _ _ _ hx) (fun x hx => im_rdk _ _ _ hx) (im_rds _ _ _ _) (fun i i0 i1 => by omega)
      rw [show f + ((0 : Nat) : Int) = f from by omega] at this
      exact this
    · have := z.2.2.1; omega
  · have h1 := z.1
    have h2 := z.2.1
    omega
end TOK
