/-! THE REFERENCE's mint: the wallets at their places, where a token was minted -/
section RMINT
variable {g : im_g} {d : Nat} {e : im_E} {M : im_M} {K : im_K}
/-- the wallets are taken, each at the place where it is kept -/
theorem c_rtakeWalletsP {w : Bk} (hS : swl M w) (h0 : 0 ≤ M 6952 7) (h7 : M 6952 7 + 18120 ≤ 1100000) (hd : 1 ≤ d)
    (hK : ∀ M', (∀ x, x ≠ 6952 → x ≠ 6955 → x ≠ 7031 → x ≠ 7032 → x ≠ 7033 → M' x = M x) → (∀ f, f ≠ 7 → f ≠ 116 → M' 6952 f = M 6952 f) → (∀ i, i < M 6952 7 → M' 6955 i = M 6955 i) → (M 6952 7 ≤ M' 6952 7 ∧ M' 6952 7 ≤ M 6952 7 + 18120) → M' 6952 116 = (w.1 : Int) → (∀ q : Nat, q < w.1 → M' 7031 q = M 7042 q ∧ M' 7032 q = M 7043 q ∧ rnp M' 0 (M' 6952 7) (M' 7033 q) (hld w (M 7042 q) (M 7043 q))) → K (.inl none) e M') : im_T g d 362 0 [some (.ref 6952), none] [] e M K := by
  obtain ⟨s1, s2, s3, s4, s5⟩ := id hS
  refine b_takeWallets_0 ?_
  have k0 : ∀ f, f ≠ 116 → im_u M 6952 116 (M 6952 130) 6952 f = M 6952 f := fun f hf => im_rdk _ _ _ hf
  have x0 : ∀ x, x ≠ 6952 → im_u M 6952 116 (M 6952 130) x = M x := fun x hx => im_u_ne _ _ _ hx
  have c116 : im_u M 6952 116 (M 6952 130) 6952 116 = w.1 := (im_rds _ _ _ _).trans s1
  generalize im_u M 6952 116 (M 6952 130) = Ma at *
  have e7 := k0 7 (by decide)
  have Sa : swl Ma w := swl_congr hS (k0 130 (by decide)) (x0 _ (by decide)) (x0 _ (by decide)) (x0 _ (by decide))
  refine l_tw10 Sa (by omega) (by omega) hd (fun M1 T1 A1 N1 => ?_) w.1 0 Ma (by omega) (TF.rf _ _ _ _) (fun q hq => by omega) (fun q hq => by omega)
  obtain ⟨f1, f2, f3, f4, f5⟩ := T1
  rw [x0 7042 (by decide), x0 7043 (by decide)] at A1 N1
  exact hK M1 (fun x a b c d f => (f1 x a b c d f).trans (x0 x a)) (fun f a b => (f2 f a).trans (k0 f b)) (fun i hi => (f3 i (by omega)).trans (by rw [x0 6955 (by decide)])) ⟨by omega, by omega⟩ ((f2 116 (by decide)).trans c116) (fun q hq => ⟨(A1 q hq).1, (A1 q hq).2, N1 q hq⟩)
theorem l_mintedAt {mi : Bk} {tk' : Int} (hm : rMi M mi) (ht : im_i64 tk')
    (hK1 : ∀ q : Nat, q < mi.1 → M 7045 q = tk' → hs2 mi tk' 0 → K (.inl (some (vI q))) e M) (hK0 : ¬ hs2 mi tk' 0 → K (.inl (some (vI (-1)))) e M) :
    ∀ (j k : Nat), k + j = mi.1 → (∀ i : Nat, i < k → M 7045 i ≠ tk') → im_T g d 423 2 [some (.ref 6952), some (vL tk'), none, some (vI k)] [] e M K := by
  obtain ⟨m1, m2, m3, m4, m5⟩ := hm
  intro j
  induction j with
  | zero =>
    intro k hk hn
    refine b_mintedAt_2 ?_
    rw [m1]
    refine ⟨by constructor <;> omega, fun _ => hK0 (fun z => ?_), fun z => by omega⟩
    obtain ⟨i, i1, i2⟩ := m5 tk' z
    exact hn i (by omega) i2
  | succ j ih =>
    intro k hk hn
    refine b_mintedAt_2 ?_
    rw [m1]
    refine ⟨by constructor <;> omega, fun z => by omega, fun _ => ⟨⟨by omega, by omega⟩, ht, fun hne => ?_, fun heq => ?_⟩⟩
    · refine ih (k + 1) (by omega) (fun i hi => ?_)
      by_cases c : i = k
      · rw [c]; exact hne
      · exact hn i (by omega)
    · have := (m3 k (by omega)).1
      rw [heq] at this
      exact hK1 k (by omega) heq this
theorem c_mintedAt {mi : Bk} {tk' : Int} (hm : rMi M mi) (ht : im_i64 tk')
    (hK1 : ∀ q : Nat, q < mi.1 → M 7045 q = tk' → hs2 mi tk' 0 → K (.inl (some (vI q))) e M) (hK0 : ¬ hs2 mi tk' 0 → K (.inl (some (vI (-1)))) e M) : im_T g d 423 0 [some (.ref 6952), some (vL tk'), none, none] [] e M K :=
  b_mintedAt_0 (l_mintedAt hm ht hK1 hK0 mi.1 0 (by omega) (fun i hi => absurd hi (Nat.not_lt_zero i)))
end RMINT
