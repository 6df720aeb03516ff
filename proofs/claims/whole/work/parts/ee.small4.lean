/-! SHORT CALLS: payment, warning, told -/
/-- the reference's code of a call that may not be -/
noncomputable def mco (p dk : Int) (A B C : Prop) : Int := ifq (dk ≠ 0) p (ifq (¬ A) 1 (ifq (¬ B) 2 (ifq (¬ C) 3 0)))
theorem mco_0 {p dk : Int} {A B C : Prop} (h1 : dk = 0) (hA : A) (hB : B) (hC : C) : mco p dk A B C = 0 := by
  unfold mco; rw [ifq_neg (Decidable.not_not.mpr h1), ifq_neg (Classical.not_not.mpr hA), ifq_neg (Classical.not_not.mpr hB), ifq_neg (Classical.not_not.mpr hC)]
/-- how many of the first k are not z -/
def cnA (f : Int → Int) (z : Int) : Nat → Int
  | 0 => 0
  | k + 1 => cnA f z k + (if f k = z then 0 else 1)
theorem cnA_b (f : Int → Int) (z : Int) (k : Nat) : 0 ≤ cnA f z k ∧ cnA f z k ≤ k := by
  induction k with
  | zero => exact ⟨Int.le_refl _, Int.le_refl _⟩
  | succ k ih => unfold cnA; split <;> omega
def toV (w : Wd) (p : Int) : Int := if p = 0 then cnA w.gRt (-1) 16 else if p = 1 then cnA (fun i => (w.gIn i).1) 0 16 else if p = 2 then w.gTn else if p = 3 then w.gJr.2.1 else if p = 4 then w.gJr.2.2.1 else if p = 5 then w.gM else if p = 6 then w.gPm.1 else if w.gJr.2.2.2.2 = 0 then 0 else 1
def ntV (ρ : Rl) (p what : Int) : Int := if what = 0 then ρ.2.1 p else if what = 1 then ρ.2.2.1 p else if what = 2 then ρ.2.2.2.1 p else ρ.2.2.2.2.1 p
section SMALL4
variable {g : im_g} {d : Nat} {e : im_E} {M : im_M} {K : im_K} {w : Wd}
theorem c_isInQ {x l h : Int} (hx : im_i64 x) (hl : im_i64 l) (hh : im_i64 h) (hK : ∀ a, (a = 1 ∧ (l ≤ x ∧ x ≤ h)) ∨ (a = 0 ∧ ¬ (l ≤ x ∧ x ≤ h)) → K (.inl (some (vI a))) e M) : im_T g d 268 0 [some (vL x), none, some (vL l), none, some (vL h), none] [] e M K :=
  c_isIn hx hl hh (fun z => hK 1 (Or.inl ⟨rfl, z⟩)) (fun z => hK 0 (Or.inr ⟨rfl, z⟩))
theorem c_mayQ {p a b c : Int} {A B C : Prop} (h : RW M w) (hp : im_i32 p) (hp0 : p ≠ 0) (ha : (a = 1 ∧ A) ∨ (a = 0 ∧ ¬ A)) (hb : (b = 1 ∧ B) ∨ (b = 0 ∧ ¬ B)) (hc : (c = 1 ∧ C) ∨ (c = 0 ∧ ¬ C))
    (hKt : mco p w.gJr.2.2.2.2 A B C ≠ 0 → ∀ M', RW M' w → M' 6952 0 = mco p w.gJr.2.2.2.2 A B C → (∀ z, z ≠ 6952 → M' z = M z) → (∀ k, k ≠ 0 → M' 6952 k = M 6952 k) → K (.inl (some (vI 0))) e M')
    (hK : w.gJr.2.2.2.2 = 0 → A → B → C → ∀ M', RW M' w → M' 6952 0 = 0 → (∀ z, z ≠ 6952 → M' z = M z) → (∀ k, k ≠ 0 → M' 6952 k = M 6952 k) → K (.inl (some (vI 1))) e M') : im_T g d 264 0 [some (.ref 6952), some (vI p), some (vI a), some (vI b), some (vI c)] [] e M K := by
  refine c_mayW h hp (by omega) (by omega) (by omega) (fun x M1 hx W1 e0 ez ek => ?_)
  have hm : x = mco p w.gJr.2.2.2.2 A B C := by
    unfold mco
    by_cases c0 : w.gJr.2.2.2.2 ≠ 0
    · rw [if_pos c0] at hx; rw [ifq_pos c0]; exact hx
    · rw [if_neg c0] at hx; rw [ifq_neg c0]
      rcases ha with ⟨a1, a2⟩ | ⟨a1, a2⟩
      · rw [if_neg (by omega)] at hx; rw [ifq_neg (Classical.not_not.mpr a2)]
        rcases hb with ⟨b1, b2⟩ | ⟨b1, b2⟩
        · rw [if_neg (by omega)] at hx; rw [ifq_neg (Classical.not_not.mpr b2)]
          rcases hc with ⟨c1, c2⟩ | ⟨c1, c2⟩
          · rw [if_neg (by omega)] at hx; rw [ifq_neg (Classical.not_not.mpr c2)]; exact hx
          · rw [if_pos c1] at hx; rw [ifq_pos c2]; exact hx
        · rw [if_pos b1] at hx; rw [ifq_pos b2]; exact hx
      · rw [if_pos a1] at hx; rw [ifq_pos a2]; exact hx
  by_cases c0 : x = 0
  · rw [if_pos c0]
    have hz : w.gJr.2.2.2.2 = 0 := by
      by_cases z : w.gJr.2.2.2.2 = 0
      · exact z
      · rw [if_pos z] at hx; exact absurd (hx.symm.trans c0) hp0
    rw [if_neg (Decidable.not_not.mpr hz)] at hx
    have hA : A := by
      rcases ha with ⟨a1, a2⟩ | ⟨a1, a2⟩
      · exact a2
      · rw [if_pos a1] at hx; exact absurd (hx.symm.trans c0) (by decide)
    rw [if_neg (by omega)] at hx
    have hB : B := by
      rcases hb with ⟨a1, a2⟩ | ⟨a1, a2⟩
      · exact a2
      · rw [if_pos a1] at hx; exact absurd (hx.symm.trans c0) (by decide)
    rw [if_neg (by omega)] at hx
    have hC : C := by
      rcases hc with ⟨a1, a2⟩ | ⟨a1, a2⟩
      · exact a2
      · rw [if_pos a1] at hx; exact absurd (hx.symm.trans c0) (by decide)
    exact hK hz hA hB hC M1 W1 (by rw [e0, c0]) ez ek
  · rw [if_neg c0]
    exact hKt (by rw [← hm]; exact c0) M1 W1 (by rw [e0, hm]) ez ek
theorem c_noted {b : Nat} {ρ : Rl} {p q : Int} (h : CW M e w 0) (hr : rwN e b 60) (hρ : rw6 M b ρ) (hp : im_i32 p) (hq : im_i32 q) (hd : 1 ≤ d) (hd0 : w.gJr.2.2.2.2 ≠ 0 → K (.inr xS) (e ++ [im_ex]) M) (hKp : w.gJr.2.2.2.2 = 0 → ¬ (0 ≤ p ∧ p < ρ.1) → K (.inr xP) (e ++ [im_ex]) M) (hKa : w.gJr.2.2.2.2 = 0 → 0 ≤ p ∧ p < ρ.1 → ¬ (0 ≤ q ∧ q ≤ 3) → K (.inr xA) (e ++ [im_ex]) M)
    (hK : w.gJr.2.2.2.2 = 0 → 0 ≤ p ∧ p < ρ.1 → 0 ≤ q ∧ q ≤ 3 → K (.inl (some (vL (ntV ρ p q)))) e M) : im_T g d 222 0 [some (.ref 0), some (.ref b), some (vI p), some (vI q)] [] e M K := by
  obtain ⟨V, ⟨a1, a2, a3, a4, a5⟩, _⟩ := hρ
  refine k_P_noted_0 hr.1 hd (c_needPower h hd0 (fun hz => ⟨rfl, ?_⟩))
  rw [a1]
  refine c_needPl hp (by constructor <;> omega) (fun hI => ⟨rfl, hq, fun q0 q1 => c_needArg (by decide) (fun _ => ⟨rfl, ?_⟩) (fun z => absurd z (by decide)), fun hor => c_needArg (by decide) (fun z => absurd rfl z) (fun _ => hKa hz hI (by omega))⟩) (hKp hz)
  have ep : ((p.toNat : Nat) : Int) = p := by omega
  obtain ⟨b1, b2, b3, b4⟩ := a4 p.toNat (by omega)
  rw [ep] at b1 b2 b3 b4
  have hK := hK hz hI ⟨q0, q1⟩
  unfold ntV at hK
  rw [b1, b2, b3, b4]
  refine ⟨fun z => ⟨⟨hI.1, by omega⟩, ?_⟩, fun z => ⟨⟨hI.1, by omega⟩, ?_⟩, fun z => ⟨⟨hI.1, by omega⟩, ?_⟩, fun z => ⟨⟨hI.1, by omega⟩, ?_⟩⟩
  · rw [if_pos z] at hK; exact hK
  · rw [if_neg (by omega), if_pos z] at hK; exact hK
  · rw [if_neg (by omega), if_neg (by omega), if_pos z] at hK; exact hK
  · rw [if_neg (by omega), if_neg (by omega), if_neg (by omega)] at hK; exact hK
theorem c_P_payment {p q : Int} (h : CW M e w 0) (hp : im_i32 p) (hq : im_i32 q) (hd : 2 ≤ d) (hd0 : w.gJr.2.2.2.2 ≠ 0 → K (.inr xS) (e ++ [im_ex]) M) (hKp : w.gJr.2.2.2.2 = 0 → ¬ (0 ≤ p ∧ p < w.gPy.1) → K (.inr xP) (e ++ [im_ex]) M) (hKa : w.gJr.2.2.2.2 = 0 → 0 ≤ p ∧ p < w.gPy.1 → ¬ (0 ≤ q ∧ q ≤ 3) → K (.inr xA) (e ++ [im_ex]) M)
    (hK : w.gJr.2.2.2.2 = 0 → 0 ≤ p ∧ p < w.gPy.1 → 0 ≤ q ∧ q ≤ 3 → K (.inl (some (vL (ntV w.gPy p q)))) e M) : im_T g d 221 0 [some (.ref 0), some (vI p), some (vI q)] [] e M K :=
  k_P_payment_0 (by omega) (c_noted h rw_414 h.2.2.2.1.1 hp hq (by omega) (fun z => Or.inr ⟨_, rfl, hd0 z⟩) (fun z z1 => Or.inr ⟨_, rfl, hKp z z1⟩) (fun z z1 z2 => Or.inr ⟨_, rfl, hKa z z1 z2⟩) (fun z z1 z2 => Or.inl ⟨_, rfl, rfl, hK z z1 z2⟩))
theorem c_P_warning {p q : Int} (h : CW M e w 0) (hp : im_i32 p) (hq : im_i32 q) (hd : 2 ≤ d) (hd0 : w.gJr.2.2.2.2 ≠ 0 → K (.inr xS) (e ++ [im_ex]) M) (hKp : w.gJr.2.2.2.2 = 0 → ¬ (0 ≤ p ∧ p < w.gWr.1) → K (.inr xP) (e ++ [im_ex]) M) (hKa : w.gJr.2.2.2.2 = 0 → 0 ≤ p ∧ p < w.gWr.1 → ¬ (0 ≤ q ∧ q ≤ 3) → K (.inr xA) (e ++ [im_ex]) M)
    (hK : w.gJr.2.2.2.2 = 0 → 0 ≤ p ∧ p < w.gWr.1 → 0 ≤ q ∧ q ≤ 3 → K (.inl (some (vL (ntV w.gWr p q)))) e M) : im_T g d 226 0 [some (.ref 0), some (vI p), some (vI q)] [] e M K :=
  k_P_warning_0 (by omega) (c_noted h rw_540 h.2.2.2.1.2 hp hq (by omega) (fun z => Or.inr ⟨_, rfl, hd0 z⟩) (fun z z1 => Or.inr ⟨_, rfl, hKp z z1⟩) (fun z z1 z2 => Or.inr ⟨_, rfl, hKa z z1 z2⟩) (fun z z1 z2 => Or.inl ⟨_, rfl, rfl, hK z z1 z2⟩))
theorem c_R_payment {p q : Int} (h : RW M w) (hp : im_i32 p) (hq : im_i32 q) (hd : 1 ≤ d)
    (hKt : mco 3 w.gJr.2.2.2.2 (0 ≤ p ∧ p < w.gPy.1) (0 ≤ q ∧ q ≤ 3) True ≠ 0 → ∀ M', (∀ z, z < 6952 ∨ 7080 < z → M' z = M z) → RW M' w → M' 6952 0 = mco 3 w.gJr.2.2.2.2 (0 ≤ p ∧ p < w.gPy.1) (0 ≤ q ∧ q ≤ 3) True → K (.inl (some (vL 0))) e M')
    (hK : w.gJr.2.2.2.2 = 0 → 0 ≤ p ∧ p < w.gPy.1 → 0 ≤ q ∧ q ≤ 3 → ∀ M', (∀ z, z < 6952 ∨ 7080 < z → M' z = M z) → RW M' w → M' 6952 0 = 0 → K (.inl (some (vL (ntV w.gPy p q)))) e M') : im_T g d 418 0 [some (.ref 6952), some (vI p), some (vI q)] [] e M K := by
  have s1 := h.2.2.2.1.1
  have n60 := s1.2.1
  refine b_payment_0 hd ?_
  rw [s1.1]
  refine ⟨hp, by constructor <;> omega, c_isInQ (by constructor <;> omega) (by decide) (by constructor <;> omega) (fun a ha => ⟨_, rfl, rfl, hq, c_isInQ (by constructor <;> omega) (by decide) (by decide) (fun b hb => ⟨_, rfl, rfl, ?_⟩)⟩)⟩
  refine c_mayQ (A := 0 ≤ p ∧ p < w.gPy.1) (B := 0 ≤ q ∧ q ≤ 3) (C := True) h (by decide) (by decide) (by omega) hb (Or.inl ⟨rfl, trivial⟩) (fun hm M1 W1 e0 ez ek => ⟨_, rfl, rfl, by decide, ⟨fun z => absurd rfl z, fun _ => hKt hm M1 (fun z hz => ez z (by omega)) W1 e0⟩, fun y hy => by omega⟩) (fun hz hA hB _ M1 W1 e0 ez ek => ⟨_, rfl, rfl, by decide, ⟨fun _ => ?_, fun z => absurd z (by decide)⟩, fun y hy => ?_⟩)
  · have : 0 ≤ p ∧ p < 60 := by omega
    exact ⟨fun _ => ⟨fun _ => ⟨fun _ => this, fun _ => this⟩, fun _ => this⟩, fun _ => this⟩
  · have ep : ((p.toNat : Nat) : Int) = p := by omega
    obtain ⟨⟨b1, b2, b3, b4⟩, _⟩ := W1.2.2.2.1.1.2.2 p.toNat (by omega)
    rw [ep] at b1 b2 b3 b4
    have : y = ntV w.gPy p q := by
      unfold ntV
      rw [b1, b2, b3, b4] at hy
      (repeat' split) <;> omega
    rw [this]
    exact hK hz hA hB M1 (fun z hz => ez z (by omega)) W1 e0
theorem c_R_warning {p q : Int} (h : RW M w) (hp : im_i32 p) (hq : im_i32 q) (hd : 1 ≤ d)
    (hKt : mco 3 w.gJr.2.2.2.2 (0 ≤ p ∧ p < w.gWr.1) (0 ≤ q ∧ q ≤ 3) True ≠ 0 → ∀ M', (∀ z, z < 6952 ∨ 7080 < z → M' z = M z) → RW M' w → M' 6952 0 = mco 3 w.gJr.2.2.2.2 (0 ≤ p ∧ p < w.gWr.1) (0 ≤ q ∧ q ≤ 3) True → K (.inl (some (vL 0))) e M')
    (hK : w.gJr.2.2.2.2 = 0 → 0 ≤ p ∧ p < w.gWr.1 → 0 ≤ q ∧ q ≤ 3 → ∀ M', (∀ z, z < 6952 ∨ 7080 < z → M' z = M z) → RW M' w → M' 6952 0 = 0 → K (.inl (some (vL (ntV w.gWr p q)))) e M') : im_T g d 420 0 [some (.ref 6952), some (vI p), some (vI q)] [] e M K := by
  have s1 := h.2.2.2.1.2
  have n60 := s1.2.1
  refine b_warning_0 hd ?_
  rw [s1.1]
  refine ⟨hp, by constructor <;> omega, c_isInQ (by constructor <;> omega) (by decide) (by constructor <;> omega) (fun a ha => ⟨_, rfl, rfl, hq, c_isInQ (by constructor <;> omega) (by decide) (by decide) (fun b hb => ⟨_, rfl, rfl, ?_⟩)⟩)⟩
  refine c_mayQ (A := 0 ≤ p ∧ p < w.gWr.1) (B := 0 ≤ q ∧ q ≤ 3) (C := True) h (by decide) (by decide) (by omega) hb (Or.inl ⟨rfl, trivial⟩) (fun hm M1 W1 e0 ez ek => ⟨_, rfl, rfl, by decide, ⟨fun z => absurd rfl z, fun _ => hKt hm M1 (fun z hz => ez z (by omega)) W1 e0⟩, fun y hy => by omega⟩) (fun hz hA hB _ M1 W1 e0 ez ek => ⟨_, rfl, rfl, by decide, ⟨fun _ => ?_, fun z => absurd z (by decide)⟩, fun y hy => ?_⟩)
  · have : 0 ≤ p ∧ p < 60 := by omega
    exact ⟨fun _ => ⟨fun _ => ⟨fun _ => this, fun _ => this⟩, fun _ => this⟩, fun _ => this⟩
  · have ep : ((p.toNat : Nat) : Int) = p := by omega
    obtain ⟨⟨b1, b2, b3, b4⟩, _⟩ := W1.2.2.2.1.2.2.2 p.toNat (by omega)
    rw [ep] at b1 b2 b3 b4
    have : y = ntV w.gWr p q := by
      unfold ntV
      rw [b1, b2, b3, b4] at hy
      (repeat' split) <;> omega
    rw [this]
    exact hK hz hA hB M1 (fun z hz => ez z (by omega)) W1 e0
theorem l_contractsKept {f : Int → Int} (hf : ∀ i, 0 ≤ i → i < 16 → M 28 i = f i) (hK : K (.inl (some (vI (cnA f (-1) 16)))) e M) : ∀ (j k : Nat), k + j = 16 → im_T g d 259 4 [some (.ref 0), some (vI (cnA f (-1) k)), some (vI k)] [] e M K := by
  intro j
  induction j with
  | zero =>
    intro k hk
    have : k = 16 := by omega
    subst this
    exact k_P_contractsKept_4 ⟨by decide, ⟨fun _ => hK, fun z => absurd z (by decide)⟩, fun x hx => by omega⟩
  | succ j ih =>
    intro k hk
    refine k_P_contractsKept_4 ⟨by constructor <;> omega, ⟨fun z => by omega, fun _ => ⟨by omega, by omega⟩⟩, fun x hx => ?_⟩
    rw [hf k (by omega) (by omega)] at hx
    have := ih (k + 1) (by omega)
    have hc : cnA f (-1) (k + 1) = cnA f (-1) k + x := by
      show cnA f (-1) k + (if f k = -1 then 0 else 1) = _
      split <;> omega
    rw [hc] at this
    exact this
theorem l_instancesBegun {In : Int → Ins} (hf : cIns M In) (hK : K (.inl (some (vI (cnA (fun i => (In i).1) 0 16)))) e M) : ∀ (j k : Nat), k + j = 16 → im_T g d 260 4 [some (.ref 0), some (vI (cnA (fun i => (In i).1) 0 k)), some (vI k)] [] e M K := by
  intro j
  induction j with
  | zero =>
    intro k hk
    have : k = 16 := by omega
    subst this
    exact k_P_instancesBegun_4 ⟨by decide, fun _ => hK, fun z => absurd z (by decide)⟩
  | succ j ih =>
    intro k hk
    obtain ⟨h1, ⟨h2, _, _⟩, _⟩ := hf k (by omega)
    refine k_P_instancesBegun_4 ⟨by constructor <;> omega, fun z => by omega, fun _ => ⟨⟨by omega, by omega⟩, 2072 + 305 * k, h1, (st_inst k (by omega)).1, fun x hx => ?_⟩⟩
    rw [h2] at hx
    have := ih (k + 1) (by omega)
    have hc : cnA (fun i => (In i).1) 0 (k + 1) = cnA (fun i => (In i).1) 0 k + x := by
      show cnA (fun i => (In i).1) 0 k + (if (In k).1 = 0 then 0 else 1) = _
      split <;> omega
    rw [hc] at this
    exact this
theorem c_P_told {p : Int} (h : CW M e w 0) (hp : im_i32 p) (hd : 1 ≤ d) (hKa : ¬ (0 ≤ p ∧ p ≤ 7) → K (.inr xA) (e ++ [im_ex]) M) (hK : 0 ≤ p ∧ p ≤ 7 → K (.inl (some (vI (toV w p)))) e M) : im_T g d 258 0 [some (.ref 0), some (vI p)] [] e M K := by
  obtain ⟨⟨⟨t1, _⟩, _⟩, ⟨⟨_, c8, _⟩, rt, hin⟩, ⟨⟨π, ⟨pm, _⟩, _⟩, _⟩, _, _, ⟨_, j1, j2, _, j4⟩, _⟩ := id h
  refine k_P_told_0 hd ⟨hp, fun p0 p7 => c_needArg (by decide) (fun _ => ⟨rfl, ?_⟩) (fun z => absurd z (by decide)), fun hor => c_needArg (by decide) (fun z => absurd rfl z) (fun _ => hKa (by omega))⟩
  have hK := hK ⟨p0, p7⟩
  unfold toV at hK
  rw [t1, j1, j2, j4, c8, pm]
  refine ⟨fun z => ?_, fun z => ?_, fun z => ?_, fun z => ?_, fun z => ?_, fun z => ?_, fun z => ?_, fun z x hx => ?_⟩
  · rw [if_pos z] at hK
    exact k_P_contractsKept_0 (l_contractsKept rt ⟨_, rfl, rfl, hK⟩ 16 0 rfl)
  · rw [if_neg (by omega), if_pos z] at hK
    exact k_P_instancesBegun_0 (l_instancesBegun hin ⟨_, rfl, rfl, hK⟩ 16 0 rfl)
  · rw [if_neg (by omega), if_neg (by omega), if_pos z] at hK; exact hK
  · rw [if_neg (by omega), if_neg (by omega), if_neg (by omega), if_pos z] at hK; exact hK
  · rw [if_neg (by omega), if_neg (by omega), if_neg (by omega), if_neg (by omega), if_pos z] at hK; exact hK
  · rw [if_neg (by omega), if_neg (by omega), if_neg (by omega), if_neg (by omega), if_neg (by omega), if_pos z] at hK; exact hK
  · rw [if_neg (by omega), if_neg (by omega), if_neg (by omega), if_neg (by omega), if_neg (by omega), if_neg (by omega), if_pos z] at hK; exact hK
  · rw [if_neg (by omega), if_neg (by omega), if_neg (by omega), if_neg (by omega), if_neg (by omega), if_neg (by omega), if_neg (by omega)] at hK
    have : x = if w.gJr.2.2.2.2 = 0 then 0 else 1 := by split <;> omega
    rw [this]; exact hK
theorem l_rtold {p : Int} (h : RW M w) (hp : im_i32 p) (hK : ∀ v, (0 ≤ p ∧ p ≤ 7 → v = toV w p) → K (.inl (some (vI v))) e M) : ∀ (j k : Nat), k + j = 16 → im_T g d 451 28 [some (.ref 6952), some (vI p), some (vI (cnA w.gRt (-1) k)), some (vI (cnA (fun i => (w.gIn i).1) 0 k)), some (vI k)] [] e M K := by
  obtain ⟨⟨⟨t1, _⟩, _⟩, ⟨⟨_, c8, _⟩, rt, hin⟩, ⟨⟨pm, _⟩, _⟩, _, _, ⟨_, j1, j2, _, j4⟩, _⟩ := id h
  intro j
  induction j with
  | zero =>
    intro k hk
    have : k = 16 := by omega
    subst this
    refine b_told_28 ⟨by decide, ⟨fun _ => ⟨hp, ?_⟩, fun z => absurd z (by decide)⟩, fun x hx => by omega⟩
    rw [t1, j1, j2, j4, c8, pm]
    unfold toV at hK
    refine ⟨fun z => ?_, fun z => ?_, fun z => ?_, fun z => ?_, fun z => ?_, fun z => ?_, fun z => ?_, fun z x hx => ?_, fun z => hK _ (fun q => by omega)⟩
    · rw [if_pos z] at hK; exact hK _ (fun _ => rfl)
    · rw [if_neg (by omega), if_pos z] at hK; exact hK _ (fun _ => rfl)
    · rw [if_neg (by omega), if_neg (by omega), if_pos z] at hK; exact hK _ (fun _ => rfl)
    · rw [if_neg (by omega), if_neg (by omega), if_neg (by omega), if_pos z] at hK; exact hK _ (fun _ => rfl)
    · rw [if_neg (by omega), if_neg (by omega), if_neg (by omega), if_neg (by omega), if_pos z] at hK; exact hK _ (fun _ => rfl)
    · rw [if_neg (by omega), if_neg (by omega), if_neg (by omega), if_neg (by omega), if_neg (by omega), if_pos z] at hK; exact hK _ (fun _ => rfl)
    · rw [if_neg (by omega), if_neg (by omega), if_neg (by omega), if_neg (by omega), if_neg (by omega), if_neg (by omega), if_pos z] at hK; exact hK _ (fun _ => rfl)
    · rw [if_neg (by omega), if_neg (by omega), if_neg (by omega), if_neg (by omega), if_neg (by omega), if_neg (by omega), if_neg (by omega)] at hK
      exact hK x (fun _ => by split <;> omega)
  | succ j ih =>
    intro k hk
    obtain ⟨r1, r2⟩ := rt k (by omega) (by omega)
    obtain ⟨⟨i1, _, _⟩, _⟩ := hin k (by omega) (by omega)
    refine b_told_28 ⟨by constructor <;> omega, ⟨fun z => by omega, fun _ => ⟨by omega, by omega⟩⟩, fun x hx => ⟨⟨by omega, by omega⟩, fun y hy => ?_⟩⟩
    rw [i1] at hy
    have := ih (k + 1) (by omega)
    have hc : cnA w.gRt (-1) (k + 1) = cnA w.gRt (-1) k + x := by
      show cnA w.gRt (-1) k + (if w.gRt k = -1 then 0 else 1) = _
      by_cases c : w.gRt k = -1
      · have := r1 c; rw [if_pos c]; omega
      · have := (r2 c).1; rw [if_neg c]; omega
    have hc2 : cnA (fun i => (w.gIn i).1) 0 (k + 1) = cnA (fun i => (w.gIn i).1) 0 k + y := by
      show cnA (fun i => (w.gIn i).1) 0 k + (if (w.gIn k).1 = 0 then 0 else 1) = _
      split <;> omega
    rw [hc, hc2] at this
    exact this
theorem c_R_told {p : Int} (h : RW M w) (hp : im_i32 p) (hd : 1 ≤ d) (hK : ∀ M' v, (∀ z, z < 6952 ∨ 7080 < z → M' z = M z) → RW M' w → M' 6952 0 = (if 0 ≤ p ∧ p ≤ 7 then 0 else 1) → (0 ≤ p ∧ p ≤ 7 → v = toV w p) → K (.inl (some (vI v))) e M') : im_T g d 451 0 [some (.ref 6952), some (vI p), none, none, none] [] e M K := by
  refine b_told_0 hd ⟨hp, c_isInQ (by constructor <;> omega) (by decide) (by decide) (fun a ha => ⟨_, rfl, rfl, by constructor <;> omega, fun x hx => ?_⟩)⟩
  have hx' : x = if 0 ≤ p ∧ p ≤ 7 then 0 else 1 := by split <;> omega
  have W1 : RW (im_u M 6952 0 x) w := h.cd (cdf M x).1 (cdf M x).2
  exact l_rtold W1 hp (fun v hv => hK _ v (fun z hz => im_u_ne _ _ _ (by omega)) W1 (by rw [im_rds]; exact hx') hv) 16 0 rfl
end SMALL4
