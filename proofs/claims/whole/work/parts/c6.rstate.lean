/-! THE REFERENCE takes an instance's state -/
def SB2 (M : im_M) (cc cA cB cN : Nat) (w i : Int) (β : Bk) : Prop := M cc i = β.1 ∧ β.1 ≤ 40 ∧ ∀ k : Nat, k < β.1 → M cA (w * i + k) = β.2.1 k ∧ M cB (w * i + k) = β.2.2.1 k ∧ sn M cN (w * i + k) (β.2.2.2 k)
def SB1 (M : im_M) (cc cA cN : Nat) (w i : Int) (β : Bk) : Prop := M cc i = β.1 ∧ β.1 ≤ 40 ∧ β.2.2.1 = z0 ∧ ∀ k : Nat, k < β.1 → M cA (w * i + k) = β.2.1 k ∧ sn M cN (w * i + k) (β.2.2.2 k)
def TF (a b n : Nat) (M0 M : im_M) (k : Int) : Prop := (∀ x, x ≠ 6952 → x ≠ 6955 → x ≠ a → x ≠ b → x ≠ n → M x = M0 x) ∧ (∀ f, f ≠ 7 → M 6952 f = M0 6952 f) ∧ (∀ i, i < M0 6952 7 → M 6955 i = M0 6955 i) ∧ (M0 6952 7 ≤ M 6952 7 ∧ M 6952 7 ≤ M0 6952 7 + 302 * k)
theorem TF.rf (a b n : Nat) (M : im_M) : TF a b n M M 0 := ⟨fun _ _ _ _ _ _ => rfl, fun _ _ => rfl, fun _ _ => rfl, Int.le_refl _, by omega⟩
theorem sf_7000 {e : im_E} : (im_sh0 ++ e)[7000]? = some (1, 193280, []) := im_sh_m (k := 48) rfl rfl rfl
theorem sf_7004 {e : im_E} : (im_sh0 ++ e)[7004]? = some (1, 193280, []) := im_sh_m (k := 52) rfl rfl rfl
theorem sf_7007 {e : im_E} : (im_sh0 ++ e)[7007]? = some (1, 193280, []) := im_sh_m (k := 55) rfl rfl rfl
theorem sf_7044 {e : im_E} : (im_sh0 ++ e)[7044]? = some (1, 18120, []) := im_sh_m (k := 92) rfl rfl rfl
section RTST
variable {g : im_g} {d : Nat} {e : im_E} {M0 : im_M} {K : im_K}
theorem l_ts32 {i : Int} {β : Bk} (hi : 0 ≤ i ∧ i < 16) (hS : SB2 M0 6997 6998 6999 7000 40 i β) (h0 : 0 ≤ M0 6952 7) (h7 : M0 6952 7 + 302 * β.1 ≤ 1100000) (hd : 1 ≤ d)
    (hK : ∀ M', TF 7011 7012 7013 M0 M' β.1 → (∀ q : Nat, q < β.1 → M' 7011 q = β.2.1 q ∧ M' 7012 q = β.2.2.1 q) → (∀ q : Nat, q < β.1 → rnp M' 0 (M' 6952 7) (M' 7013 q) (β.2.2.2 q)) → im_T g d 361 114 [some (.ref 6952), some (vI i), some (vI 0)] [] e (im_u M' 6952 89 (M' 7001 i)) K) :
    ∀ (z k : Nat) (M : im_M), k + z = β.1 → TF 7011 7012 7013 M0 M k → (∀ q : Nat, q < k → M 7011 q = β.2.1 q ∧ M 7012 q = β.2.2.1 q) → (∀ q : Nat, q < k → rnp M 0 (M 6952 7) (M 7013 q) (β.2.2.2 q)) → im_T g d 361 32 [some (.ref 6952), some (vI i), some (vI k)] [] e M K := by
  obtain ⟨s1, s2, s3⟩ := hS
  intro z
  induction z with
  | zero =>
    intro k M hk hF hA hN
    have hkb : k = β.1 := by omega
    subst hkb
    refine b_takeState_32 hd ?_
    rw [hF.1 6997 (by decide) (by decide) (by decide) (by decide) (by decide), s1]
    exact ⟨hi, by constructor <;> omega, fun _ => hK M hF hA hN, fun w => by omega⟩
  | succ z ih =>
    intro k M hk hF hA hN
    obtain ⟨u1, u2, u3⟩ := s3 k (by omega)
    obtain ⟨f1, f2, f3, f4, f5⟩ := id hF
    refine b_takeState_32 hd ?_
    rw [f1 6997 (by decide) (by decide) (by decide) (by decide) (by decide), s1, f1 6998 (by decide) (by decide) (by decide) (by decide) (by decide), f1 6999 (by decide) (by decide) (by decide) (by decide) (by decide), u1, u2]
    refine ⟨hi, by constructor <;> omega, fun w => by omega, fun _ => ⟨by constructor <;> omega, by constructor <;> omega, ?_⟩⟩
    have e7 : ∀ y x, im_u (im_u M 7011 k y) 7012 k x 6952 = M 6952 := fun y x => by rw [im_u_ne _ _ _ (by decide), im_u_ne _ _ _ (by decide)]
    have e55 : ∀ y x, im_u (im_u M 7011 k y) 7012 k x 6955 = M 6955 := fun y x => by rw [im_u_ne _ _ _ (by decide), im_u_ne _ _ _ (by decide)]
    have hsn : ∀ y x, sn (im_u (im_u M 7011 k y) 7012 k x) 7000 (40 * i + k) (β.2.2.2 k) := fun y x => sn_congr u3 (fun q _ _ => by rw [im_rdn _ _ _ _ (by decide), im_rdn _ _ _ _ (by decide), f1 7000 (by decide) (by decide) (by decide) (by decide) (by decide)])
    refine c_rload (n1 := 193280) sf_7000 (by decide) (by decide) (by decide) (by omega) (by omega) (hsn _ _) (by rw [e7]; omega) (by rw [e7]; omega) (fun M1 F1 t1 r1 => ⟨_, rfl, rfl, by rw [e7]; constructor <;> omega, ?_⟩)
    obtain ⟨p1, p2, p3⟩ := F1
    rw [e7] at t1 r1 ⊢
    have p1 : ∀ x, x ≠ 6955 → x ≠ 6952 → M1 x = im_u (im_u M 7011 k (β.2.1 k)) 7012 k (β.2.2.1 k) x := fun x a b => p1 x (fun w => by cases w) a b
    have p2 : ∀ f, f ≠ 7 → M1 6952 f = M 6952 f := fun f hf => (p2 f (by simp [hf])).trans (by rw [e7])
    have p3 : ∀ j, j < M 6952 7 → M1 6955 j = M 6955 j := fun j hj => (p3 j (by rw [e7]; exact hj)).trans (by rw [e55])
    have g7 : im_u M1 7013 k (M 6952 7) 6952 = M1 6952 := im_u_ne _ _ _ (by decide)
    have g55 : im_u M1 7013 k (M 6952 7) 6955 = M1 6955 := im_u_ne _ _ _ (by decide)
    have yA : ∀ x, im_u M1 7013 k (M 6952 7) 7011 x = if x = k then β.2.1 k else M 7011 x := fun x => by rw [im_rdn _ _ _ _ (by decide), p1 7011 (by decide) (by decide), im_rdn _ _ _ _ (by decide), im_rdx]
    have yB : ∀ x, im_u M1 7013 k (M 6952 7) 7012 x = if x = k then β.2.2.1 k else M 7012 x := fun x => by rw [im_rdn _ _ _ _ (by decide), p1 7012 (by decide) (by decide), im_rdx, im_rdn _ _ _ _ (by decide)]
    have yN : ∀ x, im_u M1 7013 k (M 6952 7) 7013 x = if x = k then M 6952 7 else M 7013 x := fun x => by rw [im_rdx, p1 7013 (by decide) (by decide), im_rdn _ _ _ _ (by decide), im_rdn _ _ _ _ (by decide)]
    rw [show (k : Int) + 1 = ((k + 1 : Nat) : Int) by omega]
    refine ih (k + 1) _ (by omega) ⟨fun x a b c d f => ?_, fun f hf => by rw [g7]; exact (p2 f hf).trans (f2 f hf), fun j hj => by rw [g55]; exact (p3 j (by omega)).trans (f3 j hj), by rw [g7]; omega, by rw [g7]; omega⟩ (fun q hq => ?_) (fun q hq => ?_)
    · rw [im_u_ne _ _ _ f, p1 x b a, im_u_ne _ _ _ d, im_u_ne _ _ _ c]; exact f1 x a b c d f
    · rw [yA, yB]
      by_cases c : (q : Int) = k
      · rw [if_pos c, if_pos c, c]; exact ⟨rfl, rfl⟩
      · rw [if_neg c, if_neg c]; exact hA q (by omega)
    · rw [yN, g7]
      by_cases c : (q : Int) = k
      · rw [if_pos c, c]; exact rnp_congr r1 (fun j _ => by rw [g55]) (Int.le_refl _)
      · rw [if_neg c]; exact rnp_congr (hN q (by omega)) (fun j hj => by rw [g55]; exact p3 j hj) (by omega)
theorem l_ts114 {i : Int} {β : Bk} (hi : 0 ≤ i ∧ i < 16) (hS : SB2 M0 7001 7002 7003 7004 40 i β) (h0 : 0 ≤ M0 6952 7) (h7 : M0 6952 7 + 302 * β.1 ≤ 1100000) (hd : 1 ≤ d)
    (hK : ∀ M', TF 7014 7015 7016 M0 M' β.1 → (∀ q : Nat, q < β.1 → M' 7014 q = β.2.1 q ∧ M' 7015 q = β.2.2.1 q) → (∀ q : Nat, q < β.1 → rnp M' 0 (M' 6952 7) (M' 7016 q) (β.2.2.2 q)) → im_T g d 361 196 [some (.ref 6952), some (vI i), some (vI 0)] [] e (im_u M' 6952 93 (M' 7005 i)) K) :
    ∀ (z k : Nat) (M : im_M), k + z = β.1 → TF 7014 7015 7016 M0 M k → (∀ q : Nat, q < k → M 7014 q = β.2.1 q ∧ M 7015 q = β.2.2.1 q) → (∀ q : Nat, q < k → rnp M 0 (M 6952 7) (M 7016 q) (β.2.2.2 q)) → im_T g d 361 114 [some (.ref 6952), some (vI i), some (vI k)] [] e M K := by
  obtain ⟨s1, s2, s3⟩ := hS
  intro z
  induction z with
  | zero =>
    intro k M hk hF hA hN
    have hkb : k = β.1 := by omega
    subst hkb
    refine b_takeState_114 hd ?_
    rw [hF.1 7001 (by decide) (by decide) (by decide) (by decide) (by decide), s1]
    exact ⟨hi, by constructor <;> omega, fun _ => hK M hF hA hN, fun w => by omega⟩
  | succ z ih =>
    intro k M hk hF hA hN
    obtain ⟨u1, u2, u3⟩ := s3 k (by omega)
    obtain ⟨f1, f2, f3, f4, f5⟩ := id hF
    refine b_takeState_114 hd ?_
    rw [f1 7001 (by decide) (by decide) (by decide) (by decide) (by decide), s1, f1 7002 (by decide) (by decide) (by decide) (by decide) (by decide), f1 7003 (by decide) (by decide) (by decide) (by decide) (by decide), u1, u2]
    refine ⟨hi, by constructor <;> omega, fun w => by omega, fun _ => ⟨by constructor <;> omega, by constructor <;> omega, ?_⟩⟩
    have e7 : ∀ y x, im_u (im_u M 7014 k y) 7015 k x 6952 = M 6952 := fun y x => by rw [im_u_ne _ _ _ (by decide), im_u_ne _ _ _ (by decide)]
    have e55 : ∀ y x, im_u (im_u M 7014 k y) 7015 k x 6955 = M 6955 := fun y x => by rw [im_u_ne _ _ _ (by decide), im_u_ne _ _ _ (by decide)]
    have hsn : ∀ y x, sn (im_u (im_u M 7014 k y) 7015 k x) 7004 (40 * i + k) (β.2.2.2 k) := fun y x => sn_congr u3 (fun q _ _ => by rw [im_rdn _ _ _ _ (by decide), im_rdn _ _ _ _ (by decide), f1 7004 (by decide) (by decide) (by decide) (by decide) (by decide)])
    refine c_rload (n1 := 193280) sf_7004 (by decide) (by decide) (by decide) (by omega) (by omega) (hsn _ _) (by rw [e7]; omega) (by rw [e7]; omega) (fun M1 F1 t1 r1 => ⟨_, rfl, rfl, by rw [e7]; constructor <;> omega, ?_⟩)
    obtain ⟨p1, p2, p3⟩ := F1
    rw [e7] at t1 r1 ⊢
    have p1 : ∀ x, x ≠ 6955 → x ≠ 6952 → M1 x = im_u (im_u M 7014 k (β.2.1 k)) 7015 k (β.2.2.1 k) x := fun x a b => p1 x (fun w => by cases w) a b
    have p2 : ∀ f, f ≠ 7 → M1 6952 f = M 6952 f := fun f hf => (p2 f (by simp [hf])).trans (by rw [e7])
    have p3 : ∀ j, j < M 6952 7 → M1 6955 j = M 6955 j := fun j hj => (p3 j (by rw [e7]; exact hj)).trans (by rw [e55])
    have g7 : im_u M1 7016 k (M 6952 7) 6952 = M1 6952 := im_u_ne _ _ _ (by decide)
    have g55 : im_u M1 7016 k (M 6952 7) 6955 = M1 6955 := im_u_ne _ _ _ (by decide)
    have yA : ∀ x, im_u M1 7016 k (M 6952 7) 7014 x = if x = k then β.2.1 k else M 7014 x := fun x => by rw [im_rdn _ _ _ _ (by decide), p1 7014 (by decide) (by decide), im_rdn _ _ _ _ (by decide), im_rdx]
    have yB : ∀ x, im_u M1 7016 k (M 6952 7) 7015 x = if x = k then β.2.2.1 k else M 7015 x := fun x => by rw [im_rdn _ _ _ _ (by decide), p1 7015 (by decide) (by decide), im_rdx, im_rdn _ _ _ _ (by decide)]
    have yN : ∀ x, im_u M1 7016 k (M 6952 7) 7016 x = if x = k then M 6952 7 else M 7016 x := fun x => by rw [im_rdx, p1 7016 (by decide) (by decide), im_rdn _ _ _ _ (by decide), im_rdn _ _ _ _ (by decide)]
    rw [show (k : Int) + 1 = ((k + 1 : Nat) : Int) by omega]
    refine ih (k + 1) _ (by omega) ⟨fun x a b c d f => ?_, fun f hf => by rw [g7]; exact (p2 f hf).trans (f2 f hf), fun j hj => by rw [g55]; exact (p3 j (by omega)).trans (f3 j hj), by rw [g7]; omega, by rw [g7]; omega⟩ (fun q hq => ?_) (fun q hq => ?_)
    · rw [im_u_ne _ _ _ f, p1 x b a, im_u_ne _ _ _ d, im_u_ne _ _ _ c]; exact f1 x a b c d f
    · rw [yA, yB]
      by_cases c : (q : Int) = k
      · rw [if_pos c, if_pos c, c]; exact ⟨rfl, rfl⟩
      · rw [if_neg c, if_neg c]; exact hA q (by omega)
    · rw [yN, g7]
      by_cases c : (q : Int) = k
      · rw [if_pos c, c]; exact rnp_congr r1 (fun j _ => by rw [g55]) (Int.le_refl _)
      · rw [if_neg c]; exact rnp_congr (hN q (by omega)) (fun j hj => by rw [g55]; exact p3 j hj) (by omega)
theorem l_ts196 {i : Int} {β : Bk} (hi : 0 ≤ i ∧ i < 16) (hS : SB1 M0 7005 7006 7007 40 i β) (hl : β.1 ≤ 40) (h0 : 0 ≤ M0 6952 7) (h7 : M0 6952 7 + 302 * β.1 ≤ 1100000) (hd : 1 ≤ d)
    (hK : ∀ M', TF 7017 7017 7018 M0 M' β.1 → (∀ q : Nat, q < β.1 → M' 7017 q = β.2.1 q) → (∀ q : Nat, q < β.1 → rnp M' 0 (M' 6952 7) (M' 7018 q) (β.2.2.2 q)) → im_T g d 361 261 [some (.ref 6952), some (vI i), some (vI 0)] [] e (im_u M' 6952 96 (M' 7008 i)) K) :
    ∀ (z k : Nat) (M : im_M), k + z = β.1 → TF 7017 7017 7018 M0 M k → (∀ q : Nat, q < k → M 7017 q = β.2.1 q) → (∀ q : Nat, q < k → rnp M 0 (M 6952 7) (M 7018 q) (β.2.2.2 q)) → im_T g d 361 196 [some (.ref 6952), some (vI i), some (vI k)] [] e M K := by
  obtain ⟨s1, s2, _, s3⟩ := hS
  intro z
  induction z with
  | zero =>
    intro k M hk hF hA hN
    have hkb : k = β.1 := by omega
    subst hkb
    refine b_takeState_196 hd ?_
    rw [hF.1 7005 (by decide) (by decide) (by decide) (by decide) (by decide), s1]
    exact ⟨hi, by constructor <;> omega, fun _ => hK M hF hA hN, fun w => by omega⟩
  | succ z ih =>
    intro k M hk hF hA hN
    obtain ⟨u1, u3⟩ := s3 k (by omega)
    obtain ⟨f1, f2, f3, f4, f5⟩ := id hF
    refine b_takeState_196 hd ?_
    rw [f1 7005 (by decide) (by decide) (by decide) (by decide) (by decide), s1, f1 7006 (by decide) (by decide) (by decide) (by decide) (by decide), u1]
    refine ⟨hi, by constructor <;> omega, fun w => by omega, fun _ => ⟨by constructor <;> omega, by constructor <;> omega, ?_⟩⟩
    have e7 : ∀ y, im_u M 7017 k y 6952 = M 6952 := fun y => by rw [im_u_ne _ _ _ (by decide)]
    have e55 : ∀ y, im_u M 7017 k y 6955 = M 6955 := fun y => by rw [im_u_ne _ _ _ (by decide)]
    have hsn : ∀ y, sn (im_u M 7017 k y) 7007 (40 * i + k) (β.2.2.2 k) := fun y => sn_congr u3 (fun q _ _ => by rw [im_rdn _ _ _ _ (by decide), f1 7007 (by decide) (by decide) (by decide) (by decide) (by decide)])
    refine c_rload (n1 := 193280) sf_7007 (by decide) (by decide) (by decide) (by omega) (by omega) (hsn _) (by rw [e7]; omega) (by rw [e7]; omega) (fun M1 F1 t1 r1 => ⟨_, rfl, rfl, by rw [e7]; constructor <;> omega, ?_⟩)
    obtain ⟨p1, p2, p3⟩ := F1
    rw [e7] at t1 r1 ⊢
    have p1 : ∀ x, x ≠ 6955 → x ≠ 6952 → M1 x = im_u M 7017 k (β.2.1 k) x := fun x a b => p1 x (fun w => by cases w) a b
    have p2 : ∀ f, f ≠ 7 → M1 6952 f = M 6952 f := fun f hf => (p2 f (by simp [hf])).trans (by rw [e7])
    have p3 : ∀ j, j < M 6952 7 → M1 6955 j = M 6955 j := fun j hj => (p3 j (by rw [e7]; exact hj)).trans (by rw [e55])
    have g7 : im_u M1 7018 k (M 6952 7) 6952 = M1 6952 := im_u_ne _ _ _ (by decide)
    have g55 : im_u M1 7018 k (M 6952 7) 6955 = M1 6955 := im_u_ne _ _ _ (by decide)
    have yA : ∀ x, im_u M1 7018 k (M 6952 7) 7017 x = if x = k then β.2.1 k else M 7017 x := fun x => by rw [im_rdn _ _ _ _ (by decide), p1 7017 (by decide) (by decide), im_rdx]
    have yN : ∀ x, im_u M1 7018 k (M 6952 7) 7018 x = if x = k then M 6952 7 else M 7018 x := fun x => by rw [im_rdx, p1 7018 (by decide) (by decide), im_rdn _ _ _ _ (by decide)]
    rw [show (k : Int) + 1 = ((k + 1 : Nat) : Int) by omega]
    refine ih (k + 1) _ (by omega) ⟨fun x a b c d f => ?_, fun f hf => by rw [g7]; exact (p2 f hf).trans (f2 f hf), fun j hj => by rw [g55]; exact (p3 j (by omega)).trans (f3 j hj), by rw [g7]; omega, by rw [g7]; omega⟩ (fun q hq => ?_) (fun q hq => ?_)
    · rw [im_u_ne _ _ _ f, p1 x b a, im_u_ne _ _ _ c]; exact f1 x a b c d f
    · rw [yA]
      by_cases c : (q : Int) = k
      · rw [if_pos c, c]
      · rw [if_neg c]; exact hA q (by omega)
    · rw [yN, g7]
      by_cases c : (q : Int) = k
      · rw [if_pos c, c]; exact rnp_congr r1 (fun j _ => by rw [g55]) (Int.le_refl _)
      · rw [if_neg c]; exact rnp_congr (hN q (by omega)) (fun j hj => by rw [g55]; exact p3 j hj) (by omega)
theorem l_ts261 {i : Int} {β : Bk} (hi : 0 ≤ i ∧ i < 16) (hS : SB1 M0 7008 7009 7010 20 i β) (hl : β.1 ≤ 20) (h0 : 0 ≤ M0 6952 7) (h7 : M0 6952 7 + 302 * β.1 ≤ 1100000) (hd : 1 ≤ d)
    (hK : ∀ M', TF 7019 7019 7020 M0 M' β.1 → (∀ q : Nat, q < β.1 → M' 7019 q = β.2.1 q) → (∀ q : Nat, q < β.1 → rnp M' 0 (M' 6952 7) (M' 7020 q) (β.2.2.2 q)) → K (.inl none) e M') :
    ∀ (z k : Nat) (M : im_M), k + z = β.1 → TF 7019 7019 7020 M0 M k → (∀ q : Nat, q < k → M 7019 q = β.2.1 q) → (∀ q : Nat, q < k → rnp M 0 (M 6952 7) (M 7020 q) (β.2.2.2 q)) → im_T g d 361 261 [some (.ref 6952), some (vI i), some (vI k)] [] e M K := by
  obtain ⟨s1, s2, _, s3⟩ := hS
  intro z
  induction z with
  | zero =>
    intro k M hk hF hA hN
    have hkb : k = β.1 := by omega
    subst hkb
    refine b_takeState_261 hd ?_
    rw [hF.1 7008 (by decide) (by decide) (by decide) (by decide) (by decide), s1]
    exact ⟨hi, by constructor <;> omega, fun _ => hK M hF hA hN, fun w => by omega⟩
  | succ z ih =>
    intro k M hk hF hA hN
    obtain ⟨u1, u3⟩ := s3 k (by omega)
    obtain ⟨f1, f2, f3, f4, f5⟩ := id hF
    refine b_takeState_261 hd ?_
    rw [f1 7008 (by decide) (by decide) (by decide) (by decide) (by decide), s1, f1 7009 (by decide) (by decide) (by decide) (by decide) (by decide), u1]
    refine ⟨hi, by constructor <;> omega, fun w => by omega, fun _ => ⟨by constructor <;> omega, by constructor <;> omega, ?_⟩⟩
    have e7 : ∀ y, im_u M 7019 k y 6952 = M 6952 := fun y => by rw [im_u_ne _ _ _ (by decide)]
    have e55 : ∀ y, im_u M 7019 k y 6955 = M 6955 := fun y => by rw [im_u_ne _ _ _ (by decide)]
    have hsn : ∀ y, sn (im_u M 7019 k y) 7010 (20 * i + k) (β.2.2.2 k) := fun y => sn_congr u3 (fun q _ _ => by rw [im_rdn _ _ _ _ (by decide), f1 7010 (by decide) (by decide) (by decide) (by decide) (by decide)])
    refine c_rload (n1 := 96640) sf_7010 (by decide) (by decide) (by decide) (by omega) (by omega) (hsn _) (by rw [e7]; omega) (by rw [e7]; omega) (fun M1 F1 t1 r1 => ⟨_, rfl, rfl, by rw [e7]; constructor <;> omega, ?_⟩)
    obtain ⟨p1, p2, p3⟩ := F1
    rw [e7] at t1 r1 ⊢
    have p1 : ∀ x, x ≠ 6955 → x ≠ 6952 → M1 x = im_u M 7019 k (β.2.1 k) x := fun x a b => p1 x (fun w => by cases w) a b
    have p2 : ∀ f, f ≠ 7 → M1 6952 f = M 6952 f := fun f hf => (p2 f (by simp [hf])).trans (by rw [e7])
    have p3 : ∀ j, j < M 6952 7 → M1 6955 j = M 6955 j := fun j hj => (p3 j (by rw [e7]; exact hj)).trans (by rw [e55])
    have g7 : im_u M1 7020 k (M 6952 7) 6952 = M1 6952 := im_u_ne _ _ _ (by decide)
    have g55 : im_u M1 7020 k (M 6952 7) 6955 = M1 6955 := im_u_ne _ _ _ (by decide)
    have yA : ∀ x, im_u M1 7020 k (M 6952 7) 7019 x = if x = k then β.2.1 k else M 7019 x := fun x => by rw [im_rdn _ _ _ _ (by decide), p1 7019 (by decide) (by decide), im_rdx]
    have yN : ∀ x, im_u M1 7020 k (M 6952 7) 7020 x = if x = k then M 6952 7 else M 7020 x := fun x => by rw [im_rdx, p1 7020 (by decide) (by decide), im_rdn _ _ _ _ (by decide)]
    rw [show (k : Int) + 1 = ((k + 1 : Nat) : Int) by omega]
    refine ih (k + 1) _ (by omega) ⟨fun x a b c d f => ?_, fun f hf => by rw [g7]; exact (p2 f hf).trans (f2 f hf), fun j hj => by rw [g55]; exact (p3 j (by omega)).trans (f3 j hj), by rw [g7]; omega, by rw [g7]; omega⟩ (fun q hq => ?_) (fun q hq => ?_)
    · rw [im_u_ne _ _ _ f, p1 x b a, im_u_ne _ _ _ c]; exact f1 x a b c d f
    · rw [yA]
      by_cases c : (q : Int) = k
      · rw [if_pos c, c]
      · rw [if_neg c]; exact hA q (by omega)
    · rw [yN, g7]
      by_cases c : (q : Int) = k
      · rw [if_pos c, c]; exact rnp_congr r1 (fun j _ => by rw [g55]) (Int.le_refl _)
      · rw [if_neg c]; exact rnp_congr (hN q (by omega)) (fun j hj => by rw [g55]; exact p3 j hj) (by omega)
end RTST
