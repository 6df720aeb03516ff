/-! THE REFERENCE takes the wallets -/
/-- the wallets, as they are kept -/
def swl (M : im_M) (w : Bk) : Prop := M 6952 130 = w.1 ∧ w.1 ≤ 60 ∧ (∀ i : Nat, i < w.1 → hs2 w (M 7042 i) (M 7043 i) ∧ sn M 7044 i (hld w (M 7042 i) (M 7043 i))) ∧ (∀ i j : Nat, i < w.1 → j < w.1 → M 7042 i = M 7042 j → M 7043 i = M 7043 j → i = j) ∧ (∀ a b, hs2 w a b → ∃ i : Nat, i < w.1 ∧ M 7042 i = a ∧ M 7043 i = b)
section RWALS
variable {g : im_g} {d : Nat} {e : im_E} {M M0 : im_M} {K : im_K}
theorem l_tw10 {w : Bk} (hS : swl M0 w) (h0 : 0 ≤ M0 6952 7) (h7 : M0 6952 7 + 302 * w.1 ≤ 1100000) (hd : 1 ≤ d)
    (hK : ∀ M', TF 7031 7032 7033 M0 M' w.1 → (∀ q : Nat, q < w.1 → M' 7031 q = M0 7042 q ∧ M' 7032 q = M0 7043 q) → (∀ q : Nat, q < w.1 → rnp M' 0 (M' 6952 7) (M' 7033 q) (hld w (M0 7042 q) (M0 7043 q))) → K (.inl none) e M') :
    ∀ (z k : Nat) (M : im_M), k + z = w.1 → TF 7031 7032 7033 M0 M k → (∀ q : Nat, q < k → M 7031 q = M0 7042 q ∧ M 7032 q = M0 7043 q) → (∀ q : Nat, q < k → rnp M 0 (M 6952 7) (M 7033 q) (hld w (M0 7042 q) (M0 7043 q))) → im_T g d 362 10 [some (.ref 6952), some (vI k)] [] e M K := by
  obtain ⟨s1, s2, s3, _, _⟩ := hS
  intro z
  induction z with
  | zero =>
    intro k M hk hF hA hN
    have hkb : k = w.1 := by omega
    subst hkb
    refine b_takeWallets_10 hd ?_
    rw [hF.2.1 130 (by decide), s1]
    exact ⟨by constructor <;> omega, fun _ => hK M hF hA hN, fun w => by omega⟩
  | succ z ih =>
    intro k M hk hF hA hN
    have u3 := (s3 k (by omega)).2
    obtain ⟨f1, f2, f3, f4, f5⟩ := id hF
    refine b_takeWallets_10 hd ?_
    rw [f2 130 (by decide), s1, f1 7042 (by decide) (by decide) (by decide) (by decide) (by decide), f1 7043 (by decide) (by decide) (by decide) (by decide) (by decide)]
    refine ⟨by constructor <;> omega, fun w => by omega, fun _ => ⟨by constructor <;> omega, by constructor <;> omega, ?_⟩⟩
    have e7 : ∀ y x, im_u (im_u M 7031 k y) 7032 k x 6952 = M 6952 := fun y x => by rw [im_u_ne _ _ _ (by decide), im_u_ne _ _ _ (by decide)]
    have e55 : ∀ y x, im_u (im_u M 7031 k y) 7032 k x 6955 = M 6955 := fun y x => by rw [im_u_ne _ _ _ (by decide), im_u_ne _ _ _ (by decide)]
    have hsn : ∀ y x, sn (im_u (im_u M 7031 k y) 7032 k x) 7044 k (hld w (M0 7042 k) (M0 7043 k)) := fun y x => sn_congr u3 (fun q _ _ => by rw [im_rdn _ _ _ _ (by decide), im_rdn _ _ _ _ (by decide), f1 7044 (by decide) (by decide) (by decide) (by decide) (by decide)])
    refine c_rload (n1 := 18120) sf_7044 (by decide) (by decide) (by decide) (by omega) (by omega) (hsn _ _) (by rw [e7]; omega) (by rw [e7]; omega) (fun M1 F1 t1 r1 => ⟨_, rfl, rfl, by rw [e7]; constructor <;> omega, ?_⟩)
    obtain ⟨p1, p2, p3⟩ := F1
    rw [e7] at t1 r1 ⊢
    have p1 : ∀ x, x ≠ 6955 → x ≠ 6952 → M1 x = im_u (im_u M 7031 k (M0 7042 k)) 7032 k (M0 7043 k) x := fun x a b => p1 x (fun w => by cases w) a b
    have p2 : ∀ f, f ≠ 7 → M1 6952 f = M 6952 f := fun f hf => (p2 f (by simp [hf])).trans (by rw [e7])
    have p3 : ∀ j, j < M 6952 7 → M1 6955 j = M 6955 j := fun j hj => (p3 j (by rw [e7]; exact hj)).trans (by rw [e55])
    have g7 : im_u M1 7033 k (M 6952 7) 6952 = M1 6952 := im_u_ne _ _ _ (by decide)
    have g55 : im_u M1 7033 k (M 6952 7) 6955 = M1 6955 := im_u_ne _ _ _ (by decide)
    have yA : ∀ x, im_u M1 7033 k (M 6952 7) 7031 x = if x = k then M0 7042 k else M 7031 x := fun x => by rw [im_rdn _ _ _ _ (by decide), p1 7031 (by decide) (by decide), im_rdn _ _ _ _ (by decide), im_rdx]
    have yB : ∀ x, im_u M1 7033 k (M 6952 7) 7032 x = if x = k then M0 7043 k else M 7032 x := fun x => by rw [im_rdn _ _ _ _ (by decide), p1 7032 (by decide) (by decide), im_rdx, im_rdn _ _ _ _ (by decide)]
    have yN : ∀ x, im_u M1 7033 k (M 6952 7) 7033 x = if x = k then M 6952 7 else M 7033 x := fun x => by rw [im_rdx, p1 7033 (by decide) (by decide), im_rdn _ _ _ _ (by decide), im_rdn _ _ _ _ (by decide)]
    rw [show (k : Int) + 1 = ((k + 1 : Nat) : Int) by omega]
    refine ih (k + 1) _ (by omega) ⟨fun x a b c d f => ?_, fun f hf => by rw [g7]; exact (p2 f hf).trans (f2 f hf), fun j hj => by rw [g55]; exact (p3 j (by omega)).trans (f3 j hj), by rw [g7]; omega, by rw [g7]; omega⟩ (fun q hq => ?_) (fun q hq => ?_)
    · rw [im_u_ne _ _ _ f, p1 x b a, im_u_ne _ _ _ d, im_u_ne _ _ _ c]; exact f1 x a b c d f
    · rw [yA, yB]
      by_cases c : (q : Int) = k
      · rw [if_pos c, if_pos c, c]; exact ⟨rfl, rfl⟩
      · rw [if_neg c, if_neg c]; exact hA q (by omega)
    · rw [yN, g7]
      by_cases c : (q : Int) = k
      · rw [if_pos c, c]; exact rnp_congr r1 (fun j _ => by rw [g55]) (Int.le_refl _)
      · rw [if_neg c]; exact rnp_congr (hN q (by omega)) (fun j hj => by rw [g55]; exact p3 j hj) (by omega)
theorem c_rtakeWallets {w : Bk} (hS : swl M w) (h0 : 0 ≤ M 6952 7) (h7 : M 6952 7 + 18120 ≤ 1100000) (hd : 1 ≤ d)
    (hK : ∀ M', (∀ x, x ≠ 6952 → x ≠ 6955 → x ≠ 7031 → x ≠ 7032 → x ≠ 7033 → M' x = M x) → (∀ f, f ≠ 7 → f ≠ 116 → M' 6952 f = M 6952 f) → (∀ i, i < M 6952 7 → M' 6955 i = M 6955 i) → (M 6952 7 ≤ M' 6952 7 ∧ M' 6952 7 ≤ M 6952 7 + 18120) → rwl M' w (M' 6952 7) → K (.inl none) e M') : im_T g d 362 0 [some (.ref 6952), none] [] e M K := by
  obtain ⟨s1, s2, s3, s4, s5⟩ := id hS
  refine b_takeWallets_0 ?_
  have k0 : ∀ f, f ≠ 116 → im_u M 6952 116 (M 6952 130) 6952 f = M 6952 f := fun f hf => im_rdk _ _ _ hf
  have x0 : ∀ x, x ≠ 6952 → im_u M 6952 116 (M 6952 130) x = M x := fun x hx => im_u_ne _ _ _ hx
  have c116 : im_u M 6952 116 (M 6952 130) 6952 116 = w.1 := (im_rds _ _ _ _).trans s1
  generalize im_u M 6952 116 (M 6952 130) = Ma at *
  have e7 := k0 7 (by decide)
  have Sa : swl Ma w := by
    unfold swl
    rw [k0 130 (by decide), x0 7042 (by decide), x0 7043 (by decide)]
    exact ⟨s1, s2, fun i hi => ⟨(s3 i hi).1, sn_congr (s3 i hi).2 (fun q _ _ => by rw [x0 7044 (by decide)])⟩, s4, s5⟩
  refine l_tw10 Sa (by omega) (by omega) hd (fun M1 T1 A1 N1 => ?_) w.1 0 Ma (by omega) (TF.rf _ _ _ _) (fun q hq => by omega) (fun q hq => by omega)
  obtain ⟨f1, f2, f3, f4, f5⟩ := T1
  rw [x0 7042 (by decide), x0 7043 (by decide)] at A1 N1
  refine hK M1 (fun x a b c d f => (f1 x a b c d f).trans (x0 x a)) (fun f a b => (f2 f a).trans (k0 f b)) (fun i hi => (f3 i (by omega)).trans (by rw [x0 6955 (by decide)])) ⟨by omega, by omega⟩ ⟨(f2 116 (by decide)).trans c116, s2, fun i hi => ?_, fun i j hi hj => ?_, fun a b hh => ?_⟩
  · rw [(A1 i hi).1, (A1 i hi).2]; exact ⟨(s3 i hi).1, N1 i hi⟩
  · rw [(A1 i hi).1, (A1 i hi).2, (A1 j hj).1, (A1 j hj).2]; exact s4 i j hi hj
  · obtain ⟨i, i1, i2, i3⟩ := s5 a b hh
    exact ⟨i, i1, by rw [(A1 i i1).1]; exact i2, by rw [(A1 i i1).2]; exact i3⟩
end RWALS
