/-! ABOUT on the class -/
/-- how many different ones there are -/
def nwQ (κ : Int → Option (Int × Int)) (r n : Int) : Prop := κ n ≠ none ∧ ∀ x, r ≤ x → x < n → κ x ≠ κ n
noncomputable def dC (κ : Int → Option (Int × Int)) (r : Int) : Nat → Int
  | 0 => 0
  | j + 1 => dC κ r j + ifq (nwQ κ r (r + j)) 1 0
theorem dC_b (κ : Int → Option (Int × Int)) (r : Int) (j : Nat) : 0 ≤ dC κ r j ∧ dC κ r j ≤ j := by
  induction j with
  | zero => exact ⟨Int.le_refl _, Int.le_refl _⟩
  | succ j ih =>
    show 0 ≤ dC κ r j + ifq (nwQ κ r (r + j)) 1 0 ∧ dC κ r j + ifq (nwQ κ r (r + j)) 1 0 ≤ _
    by_cases c : nwQ κ r (r + j)
    · rw [ifq_pos c]; omega
    · rw [ifq_neg c]; omega
def kP (R : Rw) (n : Int) : Option (Int × Int) := if pnm R n = 0 then none else some (pnm R n, 0)
def kA (R : Rw) (n : Int) : Option (Int × Int) := if R 0 n = 28 then some (R 4 n, R 6 n) else if R 0 n = 1 ∧ R 3 n = 1 then some (R 5 n, R 6 n) else none
def laT (R : Rw) (r : Int) : Nat → Int
  | 0 => -1
  | j + 1 => if R 0 (r + j) = 3 ∧ R 5 (r + j) = 0 then max (laT R r j) (R 4 (r + j)) else laT R r j
def nwM (R : Rw) (r : Int) : Nat → Int
  | 0 => 0
  | j + 1 => max (nwM R r j) (R 2 (r + j))
noncomputable def abV (R : Rw) (m r q : Int) : Int := if q = 0 then laT R r (eN R m r - r).toNat else if q = 1 then eN R m r - r else if q = 2 then dC (kP R) r (eN R m r - r).toNat else if q = 3 then nwM R r (eN R m r - r).toNat else dC (kA R) r (eN R m r - r).toNat
theorem laT_b {R : Rw} {m r : Int} (hW : WFP R m) (hr : 0 ≤ r) : ∀ j : Nat, r + j ≤ m → -1 ≤ laT R r j ∧ laT R r j ≤ 1000000000000000 := by
  intro j
  induction j with
  | zero => intro _; exact ⟨Int.le_refl _, by show (-1 : Int) ≤ _; decide⟩
  | succ j ih =>
    intro h
    have := ih (by omega)
    have hn := (hW.2.2 (r + j) (by omega) (by omega)).2.1
    show -1 ≤ (if R 0 (r + j) = 3 ∧ R 5 (r + j) = 0 then max (laT R r j) (R 4 (r + j)) else laT R r j) ∧ (if R 0 (r + j) = 3 ∧ R 5 (r + j) = 0 then max (laT R r j) (R 4 (r + j)) else laT R r j) ≤ _
    by_cases c : R 0 (r + j) = 3 ∧ R 5 (r + j) = 0
    · have := (hn.2.2.1 c.1).1
      rw [if_pos c]; omega
    · rw [if_neg c]; exact this
section ABOUTC
variable {g : im_g} {d : Nat} {e : im_E} {M : im_M} {K : im_K} {R : Rw} {m E : Int}
theorem l_latest {r e1 : Int} (hC : CP M R m E) (hW : WFP R m) (hr : 0 ≤ r ∧ r < m) (he : M 15 r = e1) (he2 : r < e1 ∧ e1 ≤ m) (hK : K (.inl (some (vL (laT R r (e1 - r).toNat)))) e M) : ∀ (j k : Nat), r + k + j = e1 → im_T g d 190 7 [some (.ref 13), some (vI r), some (vL (laT R r k)), none, some (vI (r + k))] [] e M K := by
  have m5 := hW.2.1
  intro j
  induction j with
  | zero =>
    intro k hk
    have ek : k = (e1 - r).toNat := by omega
    refine k_Pool_latestTime_7 ⟨⟨hr.1, by omega⟩, by constructor <;> omega, ⟨fun _ => by rw [ek]; exact hK, fun z => by omega⟩, fun z => by omega⟩
  | succ j ih =>
    intro k hk
    have hrow := (hC.2 (r + k) (by omega) (by omega)).1
    have hb := laT_b hW hr.1 k (by omega)
    have hs : laT R r (k + 1) = if R 0 (r + k) = 3 ∧ R 5 (r + k) = 0 then max (laT R r k) (R 4 (r + k)) else laT R r k := rfl
    have := ih (k + 1) (by omega)
    rw [hs, show (r + ((k + 1 : Nat) : Int)) = r + k + 1 by omega] at this
    refine k_Pool_latestTime_7 ?_
    rw [he, hrow.1, hrow.2.2.2.1, hrow.2.2.2.2.1]
    refine ⟨⟨hr.1, by omega⟩, by constructor <;> omega, ⟨fun z => by omega, fun _ => ⟨⟨by omega, by omega⟩, fun c1 c2 => ⟨by constructor <;> omega, ?_⟩⟩⟩, fun hor => ?_⟩
    · rw [if_pos ⟨c1, c2⟩] at this; exact this
    · rw [if_neg (by omega)] at this; exact this
theorem l_nested {r e1 : Int} (hC : CP M R m E) (hm : m ≤ 5000) (hr : 0 ≤ r ∧ r < m) (h2 : ∀ j, r ≤ j → j < m → im_i32 (R 2 j)) (he : M 15 r = e1) (he2 : r < e1 ∧ e1 ≤ m) (hK : K (.inl (some (vI (nwM R r (e1 - r).toNat)))) e M) : ∀ (j k : Nat), r + k + j = e1 → im_i32 (nwM R r k) → im_T g d 192 4 [some (.ref 13), some (vI r), some (vI (nwM R r k)), some (vI (r + k))] [] e M K := by
  intro j
  induction j with
  | zero =>
    intro k hk hb
    have ek : k = (e1 - r).toNat := by omega
    refine k_Pool_nestedWhens_4 ⟨⟨hr.1, by omega⟩, by constructor <;> omega, fun _ => by rw [ek]; exact hK, fun z => by omega⟩
  | succ j ih =>
    intro k hk hb
    have hrow := (hC.2 (r + k) (by omega) (by omega)).1
    have h2k := h2 (r + k) (by omega) (by omega)
    have hs : nwM R r (k + 1) = max (nwM R r k) (R 2 (r + k)) := rfl
    have := ih (k + 1) (by omega) (by rw [hs]; constructor <;> omega)
    rw [hs, show (r + ((k + 1 : Nat) : Int)) = r + k + 1 by omega] at this
    refine k_Pool_nestedWhens_4 ?_
    rw [he, hrow.2.2.1]
    exact ⟨⟨hr.1, by omega⟩, by constructor <;> omega, fun z => by omega, fun _ => ⟨⟨by omega, by omega⟩, hb, this⟩⟩
theorem c_pparA {n : Int} (hC : CP M R m E) (hm : m ≤ 5000) (hn : 0 ≤ n ∧ n < m) (hK : K (.inl (some (vL (pnm R n)))) e M) : im_T g d 87 0 [some (.ref 13), some (vI n)] [] e M K := by
  have hrow := (hC.2 n hn.1 hn.2).1
  refine k_Pool_parameterAt_0 ?_
  rw [hrow.1, hrow.2.2.2.1, hrow.2.2.2.2.1]
  refine ⟨⟨hn.1, by omega⟩, fun x hx => ?_⟩
  have : x = pnm R n := by
    unfold pnm
    by_cases c1 : R 0 n = 35
    · rw [if_pos c1]; omega
    · rw [if_neg c1]
      by_cases c2 : R 0 n = 3
      · rw [if_pos c2]; omega
      · rw [if_neg c2]; omega
  rw [this]; exact hK
theorem l_par38 {r n dd : Int} (hC : CP M R m E) (hm : m ≤ 5000) (hr : 0 ≤ r ∧ r ≤ n) (hn : n < m) (hmx : ∀ j, 0 ≤ j → j < m → im_i64 (pnm R j)) (hd : 2 ≤ d) (hdd : 0 ≤ dd ∧ dd ≤ 5000) (hK : im_T g d 191 4 [some (.ref 13), some (vI r), some (vI (dd + ifq (nwQ (kP R) r n) 1 0)), some (vI (n + 1)), none, none, none, none] [] e M K) :
    ∀ (j : Nat) (x b : Int), x + j = n → r ≤ x → (b = 0 ∨ b = 1) → (b = 1 ↔ (pnm R n ≠ 0 ∧ ∀ y, r ≤ y → y < x → pnm R y ≠ pnm R n)) → im_T g d 191 38 [some (.ref 13), some (vI r), some (vI dd), some (vI n), some (vL (pnm R n)), none, some (vI b), some (vI x)] [] e M K := by
  have fin : ∀ (x b : Int), (b = 0 ∨ b = 1) → (b = 1 ↔ nwQ (kP R) r n) → im_i32 b ∧ ((∀ x11 : Int, (((b = 0) ∧ x11 = 0) ∨ ((¬ b = 0) ∧ x11 = 1)) → im_T g d 191 4 [some (.ref 13), some (vI r), some (vI (dd + x11)), some (vI (n + 1)), none, none, none, none] [] e M K)) := by
    intro x b hb hiff
    refine ⟨by rcases hb with z | z <;> rw [z] <;> decide, fun x11 h11 => ?_⟩
    have : x11 = ifq (nwQ (kP R) r n) 1 0 := by
      by_cases c : nwQ (kP R) r n
      · rw [ifq_pos c]; have := hiff.mpr c; omega
      · rw [ifq_neg c]; have : b ≠ 1 := fun z => c (hiff.mp z); omega
    rw [this]; exact hK
  have conv : ∀ x : Int, r ≤ x → x ≤ n → x = n → ((pnm R n ≠ 0 ∧ ∀ y, r ≤ y → y < x → pnm R y ≠ pnm R n) ↔ nwQ (kP R) r n) := by
    intro x _ _ hx
    subst hx
    unfold nwQ kP
    refine ⟨fun ⟨h1, h2⟩ => ⟨(by rw [if_neg h1]; intro z; cases z), fun y y1 y2 => ?_⟩, fun ⟨h1, h2⟩ => ?_⟩
    · rw [if_neg h1]
      by_cases c : pnm R y = 0
      · rw [if_pos c]; intro z; cases z
      · rw [if_neg c]; intro z; injection z with z; injection z with z _; exact h2 y y1 y2 z
    · have h1' : pnm R x ≠ 0 := fun z => h1 (by rw [if_pos z])
      refine ⟨h1', fun y y1 y2 z => ?_⟩
      have := h2 y y1 y2
      rw [z] at this
      exact this rfl
  intro j
  induction j with
  | zero =>
    intro x b hx hrx hb hiff
    have hxn : x = n := by omega
    refine k_Pool_parametersOf_38 (by omega) ⟨by constructor <;> omega, by constructor <;> omega, fun z => by omega, fun _ => fin x b hb (hiff.trans (conv x hrx (by omega) hxn))⟩
  | succ j ih =>
    intro x b hx hrx hb hiff
    refine k_Pool_parametersOf_38 (by omega) ⟨by constructor <;> omega, by constructor <;> omega, fun _ => ⟨by rcases hb with z | z <;> rw [z] <;> decide, fun hb1 => ?_⟩, fun hor => ?_⟩
    · have hb1' : b = 1 := by omega
      have h0 := hiff.mp hb1'
      refine c_pparA hC hm ⟨by omega, by omega⟩ ⟨_, rfl, rfl, hmx x (by omega) (by omega), hmx n (by omega) hn, fun x20 h20 => ?_⟩
      refine ih (x + 1) x20 (by omega) (by omega) (by omega) ?_
      by_cases c : pnm R x = pnm R n
      · have : x20 = 0 := by omega
        rw [this]
        exact ⟨fun z => absurd z (by decide), fun z => absurd c (z.2 x hrx (by omega))⟩
      · have : x20 = 1 := by omega
        rw [this]
        refine ⟨fun _ => ⟨h0.1, fun y y1 y2 => ?_⟩, fun _ => rfl⟩
        by_cases cy : y = x
        · rw [cy]; exact c
        · exact h0.2 y y1 (by omega)
    · have hb0 : b = 0 := by omega
      have hno : ¬ nwQ (kP R) r n := fun z => by
        have h2 := (conv n (by omega) (by omega) rfl).mpr z
        have := hiff.mpr ⟨h2.1, fun y y1 y2 => h2.2 y y1 (by omega)⟩
        omega
      exact fin x b hb ⟨fun z => by omega, fun z => absurd z hno⟩
theorem l_par4 {r e1 : Int} (hC : CP M R m E) (hm : m ≤ 5000) (hr : 0 ≤ r ∧ r < m) (hmx : ∀ j, 0 ≤ j → j < m → im_i64 (pnm R j)) (he : M 15 r = e1) (he2 : r < e1 ∧ e1 ≤ m) (hd : 2 ≤ d) (hK : K (.inl (some (vI (dC (kP R) r (e1 - r).toNat)))) e M) : ∀ (j k : Nat), r + k + j = e1 → im_T g d 191 4 [some (.ref 13), some (vI r), some (vI (dC (kP R) r k)), some (vI (r + k)), none, none, none, none] [] e M K := by
  intro j
  induction j with
  | zero =>
    intro k hk
    have ek : k = (e1 - r).toNat := by omega
    refine k_Pool_parametersOf_4 (by omega) ⟨⟨hr.1, by omega⟩, by constructor <;> omega, fun _ => by rw [ek]; exact hK, fun z => by omega⟩
  | succ j ih =>
    intro k hk
    have hb := dC_b (kP R) r k
    have := ih (k + 1) (by omega)
    rw [show dC (kP R) r (k + 1) = dC (kP R) r k + ifq (nwQ (kP R) r (r + k)) 1 0 from rfl, show (r + ((k + 1 : Nat) : Int)) = r + k + 1 by omega] at this
    refine k_Pool_parametersOf_4 (by omega) ⟨⟨hr.1, by omega⟩, by constructor <;> omega, fun z => by omega, fun _ => c_pparA hC hm ⟨by omega, by omega⟩ ⟨_, rfl, rfl, hmx _ (by omega) (by omega), fun x9 h9 => ?_⟩⟩
    refine l_par38 hC hm ⟨hr.1, by omega⟩ (by omega) hmx hd (by omega) this k r x9 (by omega) (Int.le_refl _) (by omega) ?_
    by_cases c : pnm R (r + k) = 0
    · have : x9 = 0 := by omega
      rw [this]; exact ⟨fun z => absurd z (by decide), fun z => absurd c z.1⟩
    · have : x9 = 1 := by omega
      rw [this]; exact ⟨fun _ => ⟨c, fun y y1 y2 => by omega⟩, fun _ => rfl⟩
theorem c_gives {n : Int} (hC : CP M R m E) (hm : m ≤ 5000) (hn : 0 ≤ n ∧ n < m) (hK1 : kA R n ≠ none → K (.inl (some (vI 1))) e M) (hK0 : kA R n = none → K (.inl (some (vI 0))) e M) : im_T g d 194 0 [some (.ref 13), some (vI n)] [] e M K := by
  have hrow := (hC.2 n hn.1 hn.2).1
  have h3 : R 0 n = 1 → M 18 n = R 3 n := fun z => hrow.2.2.2.2.2.2.1 (Or.inl z)
  unfold kA at hK1 hK0
  refine k_Pool_givesToAccount_0 ?_
  rw [hrow.1]
  refine ⟨⟨hn.1, by omega⟩, fun hor => hK1 ?_, fun hor => hK0 ?_⟩
  · by_cases c : R 0 n = 28
    · rw [if_pos c]; intro z; cases z
    · have h1 : R 0 n = 1 := by omega
      rw [h3 h1] at hor
      rw [if_neg c, if_pos ⟨h1, by omega⟩]; intro z; cases z
  · rw [if_neg (by omega)]
    by_cases h1 : R 0 n = 1
    · rw [h3 h1] at hor
      rw [if_neg (by omega)]
    · rw [if_neg (by omega)]
theorem c_owner {n : Int} (hC : CP M R m E) (hm : m ≤ 5000) (hn : 0 ≤ n ∧ n < m) (hK : K (.inl (some (vL (if R 0 n = 28 then R 4 n else R 5 n)))) e M) : im_T g d 195 0 [some (.ref 13), some (vI n)] [] e M K := by
  have hrow := (hC.2 n hn.1 hn.2).1
  refine k_Pool_ownerAt_0 ?_
  rw [hrow.1, hrow.2.2.2.1, hrow.2.2.2.2.1]
  refine ⟨⟨hn.1, by omega⟩, fun x hx => ?_⟩
  have : x = if R 0 n = 28 then R 4 n else R 5 n := by split <;> omega
  rw [this]; exact hK
theorem kA_v {n : Int} (h : kA R n ≠ none) : kA R n = some ((if R 0 n = 28 then R 4 n else R 5 n), R 6 n) := by
  unfold kA at h ⊢
  by_cases c : R 0 n = 28
  · rw [if_pos c, if_pos c]
  · rw [if_neg c] at h ⊢
    by_cases c2 : R 0 n = 1 ∧ R 3 n = 1
    · rw [if_pos c2, if_neg c]
    · rw [if_neg c2] at h; exact absurd rfl h
theorem l_acc24 {r n dd : Int} (hC : CP M R m E) (hm : m ≤ 5000) (hr : 0 ≤ r ∧ r ≤ n) (hn : n < m) (hmx : ∀ j, 0 ≤ j → j < m → im_i64 (R 4 j) ∧ im_i64 (R 5 j)) (hd : 2 ≤ d) (hK : im_T g d 193 4 [some (.ref 13), some (vI r), some (vI (dd + ifq (nwQ (kA R) r n) 1 0)), some (vI (n + 1)), none, none] [] e M K) :
    ∀ (j : Nat) (x b : Int), x + j = n → r ≤ x → (b = 0 ∨ b = 1) → (b = 1 ↔ (kA R n ≠ none ∧ ∀ y, r ≤ y → y < x → kA R y ≠ kA R n)) → im_T g d 193 24 [some (.ref 13), some (vI r), some (vI dd), some (vI n), some (vI b), some (vI x)] [] e M K := by
  have fin : ∀ (x b : Int), (b = 0 ∨ b = 1) → (b = 1 ↔ nwQ (kA R) r n) → im_i32 b ∧ ((∀ x11 : Int, (((b = 0) ∧ x11 = 0) ∨ ((¬ b = 0) ∧ x11 = 1)) → im_T g d 193 4 [some (.ref 13), some (vI r), some (vI (dd + x11)), some (vI (n + 1)), none, none] [] e M K)) := by
    intro x b hb hiff
    refine ⟨by rcases hb with z | z <;> rw [z] <;> decide, fun x11 h11 => ?_⟩
    have : x11 = ifq (nwQ (kA R) r n) 1 0 := by
      by_cases c : nwQ (kA R) r n
      · rw [ifq_pos c]; have := hiff.mpr c; omega
      · rw [ifq_neg c]; have : b ≠ 1 := fun z => c (hiff.mp z); omega
    rw [this]; exact hK
  have h64 : ∀ j, 0 ≤ j → j < m → im_i64 (if R 0 j = 28 then R 4 j else R 5 j) := fun j a b => by
    have := hmx j a b
    split
    · exact this.1
    · exact this.2
  intro j
  induction j with
  | zero =>
    intro x b hx hrx hb hiff
    have hxn : x = n := by omega
    rw [hxn] at hiff
    refine k_Pool_accountsOf_24 (by omega) ⟨by constructor <;> omega, by constructor <;> omega, fun z => by omega, fun _ => fin x b hb hiff⟩
  | succ j ih =>
    intro x b hx hrx hb hiff
    refine k_Pool_accountsOf_24 (by omega) ⟨by constructor <;> omega, by constructor <;> omega, fun _ => ⟨by rcases hb with z | z <;> rw [z] <;> decide, fun hb1 => ?_⟩, fun hor => ?_⟩
    · have hb1' : b = 1 := by omega
      have h0 := hiff.mp hb1'
      have nxt1 : kA R x ≠ kA R n → im_T g d 193 24 [some (.ref 13), some (vI r), some (vI dd), some (vI n), some (vI 1), some (vI (x + 1))] [] e M K := fun hne => by
        refine ih (x + 1) 1 (by omega) (by omega) (Or.inr rfl) ⟨fun _ => ⟨h0.1, fun y y1 y2 => ?_⟩, fun _ => rfl⟩
        by_cases cy : y = x
        · rw [cy]; exact hne
        · exact h0.2 y y1 (by omega)
      have nxt0 : kA R x = kA R n → im_T g d 193 24 [some (.ref 13), some (vI r), some (vI dd), some (vI n), some (vI 0), some (vI (x + 1))] [] e M K := fun heq =>
        ih (x + 1) 0 (by omega) (by omega) (Or.inl rfl) ⟨fun z => absurd z (by decide), fun z => absurd heq (z.2 x hrx (by omega))⟩
      refine c_gives hC hm ⟨by omega, by omega⟩ (fun hg => ⟨_, rfl, rfl, by decide, fun z => absurd z (by decide), fun _ => ?_⟩) (fun hg => ⟨_, rfl, rfl, by decide, fun _ => nxt1 (by rw [hg]; exact fun z => h0.1 z.symm), fun z => absurd rfl z⟩)
      refine c_owner hC hm ⟨by omega, by omega⟩ ⟨_, rfl, rfl, c_owner hC hm ⟨by omega, hn⟩ ⟨_, rfl, rfl, h64 x (by omega) (by omega), h64 n (by omega) hn, ?_⟩⟩
      have e21 : ∀ j, 0 ≤ j → j < m → M 21 j = R 6 j := fun j a b => (hC.2 j a b).1.2.2.2.2.2.1
      rw [e21 x (by omega) (by omega), e21 n (by omega) hn]
      have kx := kA_v hg
      have kn := kA_v h0.1
      refine ⟨fun he => ⟨⟨by omega, by omega⟩, ⟨by omega, by omega⟩, fun he2 => nxt0 (by rw [kx, kn, he, he2])⟩, fun hor => nxt1 (fun z => ?_)⟩
      rw [kx, kn] at z
      injection z with z
      injection z with z1 z2
      rcases hor with q | q
      · exact q z1
      · exact q.2 z2
    · have hb0 : b = 0 := by omega
      have hno : ¬ nwQ (kA R) r n := fun z => by
        have := hiff.mpr ⟨z.1, fun y y1 y2 => z.2 y y1 (by omega)⟩
        omega
      exact fin x b hb ⟨fun z => by omega, fun z => absurd z hno⟩
theorem l_acc4 {r e1 : Int} (hC : CP M R m E) (hm : m ≤ 5000) (hr : 0 ≤ r ∧ r < m) (hmx : ∀ j, 0 ≤ j → j < m → im_i64 (R 4 j) ∧ im_i64 (R 5 j)) (he : M 15 r = e1) (he2 : r < e1 ∧ e1 ≤ m) (hd : 2 ≤ d) (hK : K (.inl (some (vI (dC (kA R) r (e1 - r).toNat)))) e M) : ∀ (j k : Nat), r + k + j = e1 → im_T g d 193 4 [some (.ref 13), some (vI r), some (vI (dC (kA R) r k)), some (vI (r + k)), none, none] [] e M K := by
  intro j
  induction j with
  | zero =>
    intro k hk
    have ek : k = (e1 - r).toNat := by omega
    refine k_Pool_accountsOf_4 (by omega) ⟨⟨hr.1, by omega⟩, by constructor <;> omega, fun _ => by rw [ek]; exact hK, fun z => by omega⟩
  | succ j ih =>
    intro k hk
    have := ih (k + 1) (by omega)
    rw [show dC (kA R) r (k + 1) = dC (kA R) r k + ifq (nwQ (kA R) r (r + k)) 1 0 from rfl, show (r + ((k + 1 : Nat) : Int)) = r + k + 1 by omega] at this
    refine k_Pool_accountsOf_4 (by omega) ⟨⟨hr.1, by omega⟩, by constructor <;> omega, fun z => by omega, fun _ => c_gives hC hm ⟨by omega, by omega⟩ (fun hg => ⟨_, rfl, rfl, ?_⟩) (fun hg => ⟨_, rfl, rfl, ?_⟩)⟩
    · exact l_acc24 hC hm ⟨hr.1, by omega⟩ (by omega) hmx hd this k r 1 (by omega) (Int.le_refl _) (Or.inr rfl) ⟨fun _ => ⟨hg, fun y y1 y2 => by omega⟩, fun _ => rfl⟩
    · exact l_acc24 hC hm ⟨hr.1, by omega⟩ (by omega) hmx hd this k r 0 (by omega) (Int.le_refl _) (Or.inl rfl) ⟨fun z => absurd z (by decide), fun z => absurd hg z.1⟩
end ABOUTC
/-- what about asks of the nodes -/
def abH (R : Rw) (m : Int) : Prop := (∀ j, 0 ≤ j → j < m → im_i64 (R 4 j) ∧ im_i64 (R 5 j) ∧ im_i64 (R 6 j)) ∧ (∀ j, 0 ≤ j → j < m → 0 ≤ R 2 j ∧ R 2 j ≤ 5000)
section ABOUTC2
variable {g : im_g} {d : Nat} {e : im_E} {M : im_M} {K : im_K} {w : Wd}
theorem nwM_b {R : Rw} {m r : Int} (h : ∀ j, 0 ≤ j → j < m → 0 ≤ R 2 j ∧ R 2 j ≤ 5000) (hr : 0 ≤ r) : ∀ j : Nat, r + j ≤ m → 0 ≤ nwM R r j ∧ nwM R r j ≤ 5000 := by
  intro j
  induction j with
  | zero => intro _; exact ⟨Int.le_refl _, by show (0 : Int) ≤ 5000; decide⟩
  | succ j ih =>
    intro hj
    have := ih (by omega)
    have h2 := h (r + j) (by omega) (by omega)
    show 0 ≤ max (nwM R r j) (R 2 (r + j)) ∧ max (nwM R r j) (R 2 (r + j)) ≤ 5000
    omega
theorem c_P_about {k q : Int} (h : CW M e w 0) (hW : WFP w.gRw w.gM) (hA : abH w.gRw w.gM) (hk : im_i32 k) (hq : im_i32 q) (hrt : 0 ≤ k ∧ k < 16 → w.gRt k ≠ -1 → 0 ≤ w.gRt k ∧ w.gRt k < w.gM) (hd : 4 ≤ d) (hd0 : w.gJr.2.2.2.2 ≠ 0 → K (.inr xS) (e ++ [im_ex]) M) (hKp : w.gJr.2.2.2.2 = 0 → ¬ (0 ≤ k ∧ k < 16) → K (.inr xP) (e ++ [im_ex]) M) (hKa : w.gJr.2.2.2.2 = 0 → 0 ≤ k ∧ k < 16 → ¬ (0 ≤ q ∧ q ≤ 4) → K (.inr xA) (e ++ [im_ex]) M) (hKs : w.gJr.2.2.2.2 = 0 → 0 ≤ k ∧ k < 16 → 0 ≤ q ∧ q ≤ 4 → w.gRt k = -1 → K (.inr xS) (e ++ [im_ex]) M)
    (hK : w.gJr.2.2.2.2 = 0 → 0 ≤ k ∧ k < 16 → 0 ≤ q ∧ q ≤ 4 → w.gRt k ≠ -1 → K (.inl (some (vL (abV w.gRw w.gM (w.gRt k) q)))) e M) : im_T g d 189 0 [some (.ref 0), some (vI k), some (vI q)] [] e M K := by
  obtain ⟨_, ⟨⟨p1, _, _⟩, rt, _⟩, _⟩ := id h
  have m5 := hW.2.1
  refine k_P_about_0 (by omega) (c_needPower h hd0 (fun hz => ⟨rfl, c_needPl hk (by decide) (fun hI => ⟨rfl, hq, fun q0 q4 => c_needArg (by decide) (fun _ => ⟨rfl, hI, fun x hx => ?_⟩) (fun z => absurd z (by decide)), fun hor => c_needArg (by decide) (fun z => absurd rfl z) (fun _ => hKa hz hI (by omega))⟩) (hKp hz)⟩))
  rw [rt k hI.1 hI.2] at hx
  refine c_needSt (by constructor <;> omega) (fun hne => ⟨rfl, ?_⟩) (fun h0 => hKs hz hI ⟨q0, q4⟩ (by omega))
  have hr : w.gRt k ≠ -1 := by omega
  have hK := hK hz hI ⟨q0, q4⟩ hr
  have hr2 := hrt hI hr
  rw [rt k hI.1 hI.2]
  generalize w.gRt k = r at hK hr2 hr
  have hends := (p1.2 r hr2.1 hr2.2).2
  have heN := eN_eq hends
  unfold abV at hK
  rw [heN] at hK
  have hlt : r < M 15 r ∧ M 15 r ≤ w.gM := ⟨hends.1, hends.2.1⟩
  have hpn : ∀ j, 0 ≤ j → j < w.gM → im_i64 (pnm w.gRw j) := fun j a b => by
    have := hA.1 j a b
    unfold pnm
    split
    · exact this.1
    · split
      · exact this.2.1
      · decide
  have hz0 : (r + ((0 : Nat) : Int)) = r := by omega
  refine ⟨fun z => ?_, fun z => ?_, fun z => ?_, fun z => ?_, fun z => ?_⟩
  · rw [if_pos z] at hK
    have := l_latest (g := g) (d := d - 1) (e := e) (K := im_rl (fun x60 e_ M59 => e = e_ ∧ K (.inl (some (vL x60))) e M59)) p1 hW hr2 rfl hlt ⟨_, rfl, rfl, hK⟩ (M 15 r - r).toNat 0 (by omega)
    rw [hz0] at this
    exact k_Pool_latestTime_0 this
  · rw [if_neg (by omega), if_pos z] at hK
    exact ⟨⟨hr2.1, by omega⟩, by constructor <;> omega, hK⟩
  · rw [if_neg (by omega), if_neg (by omega), if_pos z] at hK
    have hb := dC_b (kP w.gRw) r (M 15 r - r).toNat
    have := l_par4 (g := g) (d := d - 1) (e := e) (K := im_ri (fun x71 e_ M70 => e = e_ ∧ (im_i32 x71) ∧ K (.inl (some (vL x71))) e M70)) p1 m5 hr2 hpn rfl hlt (by omega) ⟨_, rfl, rfl, by constructor <;> omega, hK⟩ (M 15 r - r).toNat 0 (by omega)
    rw [hz0] at this
    exact k_Pool_parametersOf_0 this
  · rw [if_neg (by omega), if_neg (by omega), if_neg (by omega), if_pos z] at hK
    have hb := nwM_b hA.2 hr2.1 (M 15 r - r).toNat (by omega)
    have := l_nested (g := g) (d := d - 1) (e := e) (K := im_ri (fun x77 e_ M76 => e = e_ ∧ (im_i32 x77) ∧ K (.inl (some (vL x77))) e M76)) p1 m5 hr2 (fun j a b => by have := hA.2 j (by omega) b; constructor <;> omega) rfl hlt ⟨_, rfl, rfl, by constructor <;> omega, hK⟩ (M 15 r - r).toNat 0 (by omega) (by show im_i32 0; decide)
    rw [hz0] at this
    exact k_Pool_nestedWhens_0 this
  · rw [if_neg (by omega), if_neg (by omega), if_neg (by omega), if_neg (by omega)] at hK
    have hb := dC_b (kA w.gRw) r (M 15 r - r).toNat
    have := l_acc4 (g := g) (d := d - 1) (e := e) (K := im_ri (fun x83 e_ M82 => e = e_ ∧ (im_i32 x83) ∧ K (.inl (some (vL x83))) e M82)) p1 m5 hr2 (fun j a b => ⟨(hA.1 j a b).1, (hA.1 j a b).2.1⟩) rfl hlt (by omega) ⟨_, rfl, rfl, by constructor <;> omega, hK⟩ (M 15 r - r).toNat 0 (by omega)
    rw [hz0] at this
    exact k_Pool_accountsOf_0 this
end ABOUTC2
