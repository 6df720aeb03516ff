/-! THE REFERENCE keeps an instance's state -/
def KSF (a b n : Nat) (i : Int) (M0 M : im_M) : Prop := (∀ x, x ≠ a → x ≠ b → x ≠ n → M x = M0 x) ∧ (∀ q, q < 40 * i ∨ 40 * i + 40 ≤ q → M a q = M0 a q ∧ M b q = M0 b q) ∧ (∀ q, q < 302 * (40 * i) ∨ 302 * (40 * i + 40) ≤ q → M n q = M0 n q)
theorem KSF.rf (a b n : Nat) (i : Int) (M : im_M) : KSF a b n i M M := ⟨fun _ _ _ _ => rfl, fun _ _ => ⟨rfl, rfl⟩, fun _ _ => rfl⟩
section RKST
variable {g : im_g} {d : Nat} {e : im_E} {M0 : im_M} {K : im_K}
theorem l_ks32 {i : Int} {β : Bk} (hi : 0 ≤ i ∧ i < 16) (hS : rb2 M0 85 7011 7012 7013 β (M0 6952 7)) (h7 : M0 6952 7 ≤ 1100000) (hd : 1 ≤ d)
    (hK : ∀ M', KSF 6998 6999 7000 i M0 M' → (∀ q : Nat, q < β.1 → M' 6998 (40 * i + q) = β.2.1 q ∧ M' 6999 (40 * i + q) = β.2.2.1 q ∧ sn M' 7000 (40 * i + q) (β.2.2.2 q)) → im_T g d 414 112 [some (.ref 6952), some (vI i), some (vI 0)] [] e (im_u M' 7001 i (M0 6952 89)) K) :
    ∀ (z k : Nat) (M : im_M), k + z = β.1 → KSF 6998 6999 7000 i M0 M → (∀ q : Nat, q < k → M 6998 (40 * i + q) = β.2.1 q ∧ M 6999 (40 * i + q) = β.2.2.1 q ∧ sn M 7000 (40 * i + q) (β.2.2.2 q)) → im_T g d 414 32 [some (.ref 6952), some (vI i), some (vI k)] [] e M K := by
  obtain ⟨s1, s2, s3, s4⟩ := hS
  intro z
  induction z with
  | zero =>
    intro k M hk hF hA
    have hkb : k = β.1 := by omega
    subst hkb
    refine b_keepState_32 hd ?_
    rw [hF.1 6952 (by decide) (by decide) (by decide), s1]
    exact ⟨by constructor <;> omega, fun _ => ⟨hi, hK M hF hA⟩, fun w => by omega⟩
  | succ z ih =>
    intro k M hk hF hA
    obtain ⟨u1, u2⟩ := s3 k (by omega)
    have u3 := s4 k (by omega)
    obtain ⟨f1, f2, f3⟩ := id hF
    refine b_keepState_32 hd ?_
    rw [f1 6952 (by decide) (by decide) (by decide), s1, f1 7011 (by decide) (by decide) (by decide), f1 7012 (by decide) (by decide) (by decide), f1 7013 (by decide) (by decide) (by decide), u1, u2]
    refine ⟨by constructor <;> omega, fun w => by omega, fun _ => ⟨by constructor <;> omega, by constructor <;> omega, ?_⟩⟩
    have e55 : ∀ y x, im_u (im_u M 6998 (40 * i + k) y) 6999 (40 * i + k) x 6955 = M0 6955 := fun y x => by rw [im_u_ne _ _ _ (by decide), im_u_ne _ _ _ (by decide), f1 6955 (by decide) (by decide) (by decide)]
    refine c_save (n1 := 193280) sf_7000 (by decide) (by decide) (by omega) (by omega) (rnp_congr u3 (fun q _ => by rw [e55]) (Int.le_refl _)) h7 (fun M1 p1 p2 p3 => ⟨rfl, rfl, ?_⟩)
    have yA : ∀ x, M1 6998 x = if x = 40 * i + k then β.2.1 k else M 6998 x := fun x => by rw [p1 6998 (by decide), im_rdn _ _ _ _ (by decide), im_rdx]
    have yB : ∀ x, M1 6999 x = if x = 40 * i + k then β.2.2.1 k else M 6999 x := fun x => by rw [p1 6999 (by decide), im_rdx, im_rdn _ _ _ _ (by decide)]
    have yN : ∀ x, x < 302 * (40 * i + k) ∨ 302 * (40 * i + k) + 302 ≤ x → M1 7000 x = M 7000 x := fun x hx => by rw [p2 x hx, im_rdn _ _ _ _ (by decide), im_rdn _ _ _ _ (by decide)]
    rw [show (k : Int) + 1 = ((k + 1 : Nat) : Int) by omega]
    refine ih (k + 1) M1 (by omega) ⟨fun x a b c => ?_, fun q hq => ?_, fun q hq => (yN q (by omega)).trans (f3 q hq)⟩ (fun q hq => ?_)
    · rw [p1 x c, im_u_ne _ _ _ b, im_u_ne _ _ _ a]; exact f1 x a b c
    · rw [yA, yB, if_neg (by omega), if_neg (by omega)]; exact f2 q hq
    · rw [yA, yB]
      by_cases c : (q : Int) = k
      · rw [c, if_pos rfl, if_pos rfl]; exact ⟨rfl, rfl, p3⟩
      · rw [if_neg (by omega), if_neg (by omega)]
        obtain ⟨w1, w2, w3⟩ := hA q (by omega)
        exact ⟨w1, w2, sn_congr w3 (fun j _ _ => yN j (by omega))⟩
theorem l_ks112 {i : Int} {β : Bk} (hi : 0 ≤ i ∧ i < 16) (hS : rb2 M0 89 7014 7015 7016 β (M0 6952 7)) (h7 : M0 6952 7 ≤ 1100000) (hd : 1 ≤ d)
    (hK : ∀ M', KSF 7002 7003 7004 i M0 M' → (∀ q : Nat, q < β.1 → M' 7002 (40 * i + q) = β.2.1 q ∧ M' 7003 (40 * i + q) = β.2.2.1 q ∧ sn M' 7004 (40 * i + q) (β.2.2.2 q)) → im_T g d 414 192 [some (.ref 6952), some (vI i), some (vI 0)] [] e (im_u M' 7005 i (M0 6952 93)) K) :
    ∀ (z k : Nat) (M : im_M), k + z = β.1 → KSF 7002 7003 7004 i M0 M → (∀ q : Nat, q < k → M 7002 (40 * i + q) = β.2.1 q ∧ M 7003 (40 * i + q) = β.2.2.1 q ∧ sn M 7004 (40 * i + q) (β.2.2.2 q)) → im_T g d 414 112 [some (.ref 6952), some (vI i), some (vI k)] [] e M K := by
  obtain ⟨s1, s2, s3, s4⟩ := hS
  intro z
  induction z with
  | zero =>
    intro k M hk hF hA
    have hkb : k = β.1 := by omega
    subst hkb
    refine b_keepState_112 hd ?_
    rw [hF.1 6952 (by decide) (by decide) (by decide), s1]
    exact ⟨by constructor <;> omega, fun _ => ⟨hi, hK M hF hA⟩, fun w => by omega⟩
  | succ z ih =>
    intro k M hk hF hA
    obtain ⟨u1, u2⟩ := s3 k (by omega)
    have u3 := s4 k (by omega)
    obtain ⟨f1, f2, f3⟩ := id hF
    refine b_keepState_112 hd ?_
    rw [f1 6952 (by decide) (by decide) (by decide), s1, f1 7014 (by decide) (by decide) (by decide), f1 7015 (by decide) (by decide) (by decide), f1 7016 (by decide) (by decide) (by decide), u1, u2]
    refine ⟨by constructor <;> omega, fun w => by omega, fun _ => ⟨by constructor <;> omega, by constructor <;> omega, ?_⟩⟩
    have e55 : ∀ y x, im_u (im_u M 7002 (40 * i + k) y) 7003 (40 * i + k) x 6955 = M0 6955 := fun y x => by rw [im_u_ne _ _ _ (by decide), im_u_ne _ _ _ (by decide), f1 6955 (by decide) (by decide) (by decide)]
    refine c_save (n1 := 193280) sf_7004 (by decide) (by decide) (by omega) (by omega) (rnp_congr u3 (fun q _ => by rw [e55]) (Int.le_refl _)) h7 (fun M1 p1 p2 p3 => ⟨rfl, rfl, ?_⟩)
    have yA : ∀ x, M1 7002 x = if x = 40 * i + k then β.2.1 k else M 7002 x := fun x => by rw [p1 7002 (by decide), im_rdn _ _ _ _ (by decide), im_rdx]
    have yB : ∀ x, M1 7003 x = if x = 40 * i + k then β.2.2.1 k else M 7003 x := fun x => by rw [p1 7003 (by decide), im_rdx, im_rdn _ _ _ _ (by decide)]
    have yN : ∀ x, x < 302 * (40 * i + k) ∨ 302 * (40 * i + k) + 302 ≤ x → M1 7004 x = M 7004 x := fun x hx => by rw [p2 x hx, im_rdn _ _ _ _ (by decide), im_rdn _ _ _ _ (by decide)]
    rw [show (k : Int) + 1 = ((k + 1 : Nat) : Int) by omega]
    refine ih (k + 1) M1 (by omega) ⟨fun x a b c => ?_, fun q hq => ?_, fun q hq => (yN q (by omega)).trans (f3 q hq)⟩ (fun q hq => ?_)
    · rw [p1 x c, im_u_ne _ _ _ b, im_u_ne _ _ _ a]; exact f1 x a b c
    · rw [yA, yB, if_neg (by omega), if_neg (by omega)]; exact f2 q hq
    · rw [yA, yB]
      by_cases c : (q : Int) = k
      · rw [c, if_pos rfl, if_pos rfl]; exact ⟨rfl, rfl, p3⟩
      · rw [if_neg (by omega), if_neg (by omega)]
        obtain ⟨w1, w2, w3⟩ := hA q (by omega)
        exact ⟨w1, w2, sn_congr w3 (fun j _ _ => yN j (by omega))⟩
theorem l_ks192 {i : Int} {β : Bk} (hi : 0 ≤ i ∧ i < 16) (hS : rb1 M0 93 7017 7018 β (M0 6952 7)) (h7 : M0 6952 7 ≤ 1100000) (hd : 1 ≤ d)
    (hK : ∀ M', KSF 7006 7006 7007 i M0 M' → (∀ q : Nat, q < β.1 → M' 7006 (40 * i + q) = β.2.1 q ∧ sn M' 7007 (40 * i + q) (β.2.2.2 q)) → K (.inl none) e M') :
    ∀ (z k : Nat) (M : im_M), k + z = β.1 → KSF 7006 7006 7007 i M0 M → (∀ q : Nat, q < k → M 7006 (40 * i + q) = β.2.1 q ∧ sn M 7007 (40 * i + q) (β.2.2.2 q)) → im_T g d 414 192 [some (.ref 6952), some (vI i), some (vI k)] [] e M K := by
  obtain ⟨s1, s2, _, s3, s4⟩ := hS
  intro z
  induction z with
  | zero =>
    intro k M hk hF hA
    have hkb : k = β.1 := by omega
    subst hkb
    refine b_keepState_192 hd ?_
    rw [hF.1 6952 (by decide) (by decide) (by decide), s1]
    exact ⟨by constructor <;> omega, fun _ => hK M hF hA, fun w => by omega⟩
  | succ z ih =>
    intro k M hk hF hA
    have u1 := s3 k (by omega)
    have u3 := s4 k (by omega)
    obtain ⟨f1, f2, f3⟩ := id hF
    refine b_keepState_192 hd ?_
    rw [f1 6952 (by decide) (by decide) (by decide), s1, f1 7017 (by decide) (by decide) (by decide), f1 7018 (by decide) (by decide) (by decide), u1]
    refine ⟨by constructor <;> omega, fun w => by omega, fun _ => ⟨by constructor <;> omega, by constructor <;> omega, ?_⟩⟩
    have e55 : ∀ y, im_u M 7006 (40 * i + k) y 6955 = M0 6955 := fun y => by rw [im_u_ne _ _ _ (by decide), f1 6955 (by decide) (by decide) (by decide)]
    refine c_save (n1 := 193280) sf_7007 (by decide) (by decide) (by omega) (by omega) (rnp_congr u3 (fun q _ => by rw [e55]) (Int.le_refl _)) h7 (fun M1 p1 p2 p3 => ⟨rfl, rfl, ?_⟩)
    have yA : ∀ x, M1 7006 x = if x = 40 * i + k then β.2.1 k else M 7006 x := fun x => by rw [p1 7006 (by decide), im_rdx]
    have yN : ∀ x, x < 302 * (40 * i + k) ∨ 302 * (40 * i + k) + 302 ≤ x → M1 7007 x = M 7007 x := fun x hx => by rw [p2 x hx, im_rdn _ _ _ _ (by decide)]
    rw [show (k : Int) + 1 = ((k + 1 : Nat) : Int) by omega]
    refine ih (k + 1) M1 (by omega) ⟨fun x a b c => ?_, fun q hq => ?_, fun q hq => (yN q (by omega)).trans (f3 q hq)⟩ (fun q hq => ?_)
    · rw [p1 x c, im_u_ne _ _ _ a]; exact f1 x a b c
    · rw [yA, if_neg (by omega)]; exact f2 q hq
    · rw [yA]
      by_cases c : (q : Int) = k
      · rw [c, if_pos rfl]; exact ⟨rfl, p3⟩
      · rw [if_neg (by omega)]
        obtain ⟨w1, w3⟩ := hA q (by omega)
        exact ⟨w1, sn_congr w3 (fun j _ _ => yN j (by omega))⟩
end RKST
