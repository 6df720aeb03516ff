/-! SHORT CALLS: poke, count, payment, warning, told -/
section SMALL3
variable {g : im_g} {d : Nat} {e : im_E} {M : im_M} {K : im_K} {w : Wd}
theorem c_needArg {x : Int} {X : im_E → im_M → Prop} (hx : im_i32 x) (h1 : x ≠ 0 → X e M) (h0 : x = 0 → K (.inr xA) (e ++ [im_ex]) M) : im_T g d 168 0 [some (vI x)] [] e M (im_rx (im_r0 X) (fun E_ e_ M_ => K (.inr E_) e_ M_)) :=
  k_P_needArgument_0 ⟨hx, fun hne => Or.inl ⟨rfl, h1 hne⟩, fun he => Or.inr ⟨_, rfl, h0 he⟩⟩
theorem c_needSt {x : Int} {X : im_E → im_M → Prop} (hx : im_i32 x) (h1 : x ≠ 0 → X e M) (h0 : x = 0 → K (.inr xS) (e ++ [im_ex]) M) : im_T g d 167 0 [some (vI x)] [] e M (im_rx (im_r0 X) (fun E_ e_ M_ => K (.inr E_) e_ M_)) :=
  k_P_needState_0 ⟨hx, fun hne => Or.inl ⟨rfl, h1 hne⟩, fun he => Or.inr ⟨_, rfl, h0 he⟩⟩
theorem c_needPl {i n : Int} {X : im_E → im_M → Prop} (hi : im_i32 i) (hn : im_i32 n) (h1 : 0 ≤ i ∧ i < n → X e M) (h0 : ¬ (0 ≤ i ∧ i < n) → K (.inr xP) (e ++ [im_ex]) M) : im_T g d 169 0 [some (vI i), some (vI n)] [] e M (im_rx (im_r0 X) (fun E_ e_ M_ => K (.inr E_) e_ M_)) :=
  k_P_needPlace_0 ⟨hi, fun a => ⟨hn, fun b => Or.inl ⟨rfl, h1 ⟨a, b⟩⟩⟩, fun hh => Or.inr ⟨_, rfl, h0 (by omega)⟩⟩
/-- the reference: it is asked whether a call may be -/
theorem c_mayW {p a b c : Int} (h : RW M w) (hp : im_i32 p) (ha : a = 0 ∨ a = 1) (hb : b = 0 ∨ b = 1) (hc : c = 0 ∨ c = 1)
    (hK : ∀ x M', x = (if w.gJr.2.2.2.2 ≠ 0 then p else if a = 0 then 1 else if b = 0 then 2 else if c = 0 then 3 else 0) → RW M' w → M' 6952 0 = x → (∀ z, z ≠ 6952 → M' z = M z) → (∀ k, k ≠ 0 → M' 6952 k = M 6952 k) → K (.inl (some (vI (if x = 0 then 1 else 0)))) e M') : im_T g d 264 0 [some (.ref 6952), some (vI p), some (vI a), some (vI b), some (vI c)] [] e M K := by
  have j4 := h.2.2.2.2.2.1.2.2.2.2
  refine c_may hp ha hb hc (fun x hx => ?_)
  rw [j4] at hx
  exact hK x _ hx (h.cd (cdf M x).1 (cdf M x).2) (im_rds _ _ _ _) (fun z hz => im_u_ne _ _ _ hz) (fun k hk => im_rdk _ _ _ hk)
def poW (w : Wd) (i b : Int) : Wd := w.sJr (im_up w.gJr.1 i b, w.gJr.2.1, w.gJr.2.2.1, w.gJr.2.2.2.1, w.gJr.2.2.2.2)
theorem c_P_poke {i b : Int} (h : CW M e w 0) (hi : im_i32 i) (hb : im_i32 b) (hd : 1 ≤ d) (hKp : ¬ (0 ≤ i ∧ i < 16384) → K (.inr xP) (e ++ [im_ex]) M) (hKa : 0 ≤ i ∧ i < 16384 → ¬ (0 ≤ b ∧ b ≤ 255) → K (.inr xA) (e ++ [im_ex]) M) (hKs : 0 ≤ i ∧ i < 16384 → 0 ≤ b ∧ b ≤ 255 → w.gJr.2.2.2.2 = 0 → K (.inr xS) (e ++ [im_ex]) M)
    (hK : 0 ≤ i ∧ i < 16384 → 0 ≤ b ∧ b ≤ 255 → w.gJr.2.2.2.2 ≠ 0 → ∀ M', (∀ x, 6952 ≤ x → M' x = M x) → CW M' e (poW w i b) 0 → K (.inl (some (vI (w.gJr.1 i)))) e M') (hJ : w.gJr.2.2.2.2 = 0 ∨ w.gJr.2.2.2.2 = 1) : im_T g d 254 0 [some (.ref 0), some (vI i), some (vI b), none] [] e M K := by
  obtain ⟨_, _, _, _, _, ⟨j0, j1, j2, j3, j4⟩, _⟩ := id h
  refine k_P_poke_0 hd (c_needPl hi (by decide) (fun hI => ⟨rfl, hb, fun b0 b1 => c_needArg (by decide) (fun _ => ⟨rfl, ?_⟩) (fun z => absurd z (by decide)), fun hB => c_needArg (by decide) (fun z => absurd rfl z) (fun _ => hKa hI (by omega))⟩) hKp)
  rw [j4]
  refine c_needSt (by rcases hJ with z | z <;> rw [z] <;> decide) (fun hne => ⟨rfl, hI, ?_⟩) (fun z => hKs hI ⟨b0, b1⟩ z)
  have hj := j0 i hI.1 hI.2
  rw [xiand_255, show M 2069 i % 256 = w.gJr.1 i from by omega]
  refine hK hI ⟨b0, b1⟩ hne _ (fun x hx => im_u_ne _ _ _ (by omega)) (h.jr (fun x hx => im_u_ne _ _ _ (by omega)) ⟨fun k k0 k1 => ?_, ?_, ?_, ?_, ?_⟩)
  · rw [im_rdx]
    show (0 ≤ im_up w.gJr.1 i b k ∧ im_up w.gJr.1 i b k < 128 ∧ _ = im_up w.gJr.1 i b k) ∨ (128 ≤ im_up w.gJr.1 i b k ∧ im_up w.gJr.1 i b k < 256 ∧ _ = im_up w.gJr.1 i b k - 256)
    unfold im_up
    by_cases c : k = i
    · rw [if_pos c, if_pos c, bm8 _, Int.emod_eq_of_lt (by omega) (by omega)]
      by_cases c2 : b < 128
      · rw [if_pos c2]; exact Or.inl ⟨b0, c2, rfl⟩
      · rw [if_neg c2]; exact Or.inr ⟨by omega, by omega, rfl⟩
    · rw [if_neg c, if_neg c]; exact j0 k k0 k1
  · rw [im_u_ne _ _ _ (by decide)]; exact j1
  · rw [im_u_ne _ _ _ (by decide)]; exact j2
  · rw [im_u_ne _ _ _ (by decide)]; exact j3
  · rw [im_u_ne _ _ _ (by decide)]; exact j4
theorem c_R_poke {i b : Int} (h : RW M w) (hi : im_i32 i) (hb : im_i32 b) (hd : 1 ≤ d)
    (hKt : ∀ M', (∀ z, z < 6952 ∨ 7080 < z → M' z = M z) → RW M' w → (¬ (0 ≤ i ∧ i < 16384) ∧ M' 6952 0 = 1) ∨ ((0 ≤ i ∧ i < 16384) ∧ ¬ (0 ≤ b ∧ b ≤ 255) ∧ M' 6952 0 = 2) ∨ ((0 ≤ i ∧ i < 16384) ∧ (0 ≤ b ∧ b ≤ 255) ∧ w.gJr.2.2.2.2 = 0 ∧ M' 6952 0 = 3) → K (.inl (some (vI 0))) e M')
    (hK : 0 ≤ i ∧ i < 16384 → 0 ≤ b ∧ b ≤ 255 → w.gJr.2.2.2.2 ≠ 0 → ∀ M', (∀ z, z < 6952 ∨ 7080 < z → M' z = M z) → RW M' (poW w i b) → M' 6952 0 = 0 → K (.inl (some (vI (w.gJr.1 i)))) e M') : im_T g d 442 0 [some (.ref 6952), some (vI i), some (vI b), none] [] e M K := by
  obtain ⟨_, _, _, _, _, ⟨j0, j1, j2, j3, j4⟩, _⟩ := id h
  refine b_poke_0 hd ⟨hi, c_isIn (by constructor <;> omega) (by decide) (by decide) (fun hI => ⟨_, rfl, rfl, by decide, fun _ => ⟨hb, ?_⟩, fun z => absurd z (by decide)⟩) (fun hI => ⟨_, rfl, rfl, by decide, fun z => absurd rfl z, fun _ => hKt _ (fun z hz => im_u_ne _ _ _ (by omega)) (h.cd (cdf M 1).1 (cdf M 1).2) (Or.inl ⟨by omega, im_rds _ _ _ _⟩)⟩)⟩
  refine c_isIn (by constructor <;> omega) (by decide) (by decide) (fun hB => ⟨_, rfl, rfl, by decide, fun x13 h13 => ?_⟩) (fun hB => ⟨_, rfl, rfl, by decide, fun x13 h13 => ?_⟩)
  · rw [j4] at h13
    have W1 : RW (im_u M 6952 0 x13) w := h.cd (cdf M x13).1 (cdf M x13).2
    refine ⟨fun h0 => ⟨⟨by omega, by omega⟩, ?_⟩, fun h0 => hKt _ (fun z hz => im_u_ne _ _ _ (by omega)) W1 (Or.inr (Or.inr ⟨⟨by omega, by omega⟩, hB, by omega, by rw [im_rds]; omega⟩))⟩
    rw [j0 i (by omega) (by omega)]
    refine hK ⟨by omega, by omega⟩ hB (by omega) _ (fun z hz => by rw [im_u_ne _ _ _ (by omega), im_u_ne _ _ _ (by omega)]) (W1.jr (fun x a b => im_u_ne _ _ _ b) (fun k hk => im_rdn _ _ _ _ (by decide)) ⟨fun x a c => ?_, ?_, ?_, ?_, ?_⟩) (by rw [im_rdn _ _ _ _ (by decide), im_rds]; omega)
    · rw [im_rdx, im_u_ne _ _ _ (by decide)]
      show _ = im_up w.gJr.1 i b x
      unfold im_up
      rw [j0 x a c]
    · rw [im_rdn _ _ _ _ (by decide), im_rdk _ _ _ (by decide)]; exact j1
    · rw [im_rdn _ _ _ _ (by decide), im_rdk _ _ _ (by decide)]; exact j2
    · rw [im_rdn _ _ _ _ (by decide), im_rdk _ _ _ (by decide)]; exact j3
    · rw [im_rdn _ _ _ _ (by decide), im_rdk _ _ _ (by decide)]; exact j4
  · refine ⟨fun h0 => by omega, fun h0 => hKt _ (fun z hz => im_u_ne _ _ _ (by omega)) (h.cd (cdf M x13).1 (cdf M x13).2) (Or.inr (Or.inl ⟨⟨by omega, by omega⟩, by omega, by rw [im_rds]; omega⟩))⟩
theorem c_P_count {p : Int} (h : CW M e w 0) (hp : im_i32 p) (hd : 1 ≤ d) (hd0 : w.gJr.2.2.2.2 ≠ 0 → K (.inr xS) (e ++ [im_ex]) M) (hKa : w.gJr.2.2.2.2 = 0 → ¬ (0 ≤ p ∧ p ≤ 1) → K (.inr xA) (e ++ [im_ex]) M) (hK : w.gJr.2.2.2.2 = 0 → 0 ≤ p ∧ p ≤ 1 → K (.inl (some (vI (if p = 0 then w.gPy.1 else w.gWr.1)))) e M) : im_T g d 219 0 [some (.ref 0), some (vI p)] [] e M K := by
  obtain ⟨_, _, _, ⟨⟨V1, ⟨a1, _⟩, _⟩, ⟨V2, ⟨a2, _⟩, _⟩⟩, _⟩ := id h
  refine k_P_count_0 hd (c_needPower h hd0 (fun hz => ⟨rfl, hp, fun c1 c2 => c_needArg (by decide) (fun z => absurd rfl z) (fun _ => hKa hz (by omega)), fun hor => c_needArg (by decide) (fun _ => ⟨rfl, fun x hx => ?_⟩) (fun z => absurd z (by decide))⟩))
  rw [a1, a2] at hx
  have : x = if p = 0 then (w.gPy.1 : Int) else w.gWr.1 := by split <;> omega
  rw [this]; exact hK hz (by omega)
theorem c_R_count {p : Int} (h : RW M w) (hp : im_i32 p) (hd : 1 ≤ d)
    (hKt : ∀ M', (∀ z, z < 6952 ∨ 7080 < z → M' z = M z) → RW M' w → (w.gJr.2.2.2.2 ≠ 0 ∧ M' 6952 0 = 2) ∨ (w.gJr.2.2.2.2 = 0 ∧ ¬ (0 ≤ p ∧ p ≤ 1) ∧ M' 6952 0 = 1) → K (.inl (some (vI 0))) e M')
    (hK : w.gJr.2.2.2.2 = 0 → 0 ≤ p ∧ p ≤ 1 → ∀ M', (∀ z, z < 6952 ∨ 7080 < z → M' z = M z) → RW M' w → M' 6952 0 = 0 → K (.inl (some (vI (if p = 0 then w.gPy.1 else w.gWr.1)))) e M') : im_T g d 417 0 [some (.ref 6952), some (vI p)] [] e M K := by
  have key : ∀ (a : Int), (a = 1 ∧ 0 ≤ p ∧ p ≤ 1 ∨ a = 0 ∧ ¬ (0 ≤ p ∧ p ≤ 1)) → im_T g (d - 1) 264 0 [some (.ref 6952), some (vI 2), some (vI a), some (vI 1), some (vI 1)] [] e M (im_ri (fun x5 e_ M4 => e = e_ ∧ (im_i32 x5) ∧ (((x5 = 0 → K (.inl (some (vI 0))) e M4))) ∧ (∀ x11 : Int, (((¬ x5 = 0) ∧ (¬ p = 0) ∧ x11 = (M4 6952 143)) ∨ ((¬ x5 = 0) ∧ (p = 0) ∧ x11 = (M4 6952 137))) → K (.inl (some (vI x11))) e M4))) := fun a ha => by
    refine c_mayW h (by decide) (by omega) (Or.inr rfl) (Or.inr rfl) (fun x M1 hx W1 e0 ez ek => ⟨_, rfl, rfl, by split <;> decide, fun h0 => ?_, fun y hy => ?_⟩)
    · have hx0 : x ≠ 0 := fun z => by rw [if_pos z] at h0; exact absurd h0 (by decide)
      refine hKt M1 (fun z hz => ez z (by omega)) W1 ?_
      rw [e0]
      by_cases c : w.gJr.2.2.2.2 ≠ 0
      · rw [if_pos c] at hx; exact Or.inl ⟨c, hx⟩
      · rw [if_neg c] at hx
        have hz : w.gJr.2.2.2.2 = 0 := Decidable.not_not.mp c
        rcases ha with ⟨a1, a2⟩ | ⟨a1, a2⟩
        · rw [a1] at hx; exact absurd hx hx0
        · rw [a1, if_pos rfl] at hx; exact Or.inr ⟨hz, a2, hx⟩
    · have hx0 : x = 0 := by
        by_cases c : x = 0
        · exact c
        · rw [if_neg c] at hy; omega
      have hz : w.gJr.2.2.2.2 = 0 := by
        by_cases c : w.gJr.2.2.2.2 = 0
        · exact c
        · rw [if_pos c] at hx; omega
      rw [if_neg (Decidable.not_not.mpr hz)] at hx
      have hp1 : 0 ≤ p ∧ p ≤ 1 := by
        rcases ha with ⟨_, a2⟩ | ⟨a1, _⟩
        · exact a2
        · rw [a1, if_pos rfl] at hx; omega
      have y1 := W1.2.2.2.1.1.1
      have y2 := W1.2.2.2.1.2.1
      have : y = if p = 0 then (w.gPy.1 : Int) else w.gWr.1 := by split <;> omega
      rw [this]
      exact hK hz hp1 M1 (fun z hz' => ez z (by omega)) W1 (by rw [e0]; exact hx0)
  refine b_count_0 hd ⟨hp, c_isIn (by constructor <;> omega) (by decide) (by decide) (fun hI => ⟨_, rfl, rfl, key 1 (Or.inl ⟨rfl, hI⟩)⟩) (fun hI => ⟨_, rfl, rfl, key 0 (Or.inr ⟨rfl, hI⟩)⟩)⟩
end SMALL3
