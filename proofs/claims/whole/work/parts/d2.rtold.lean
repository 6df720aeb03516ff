/-! THE REFERENCE keeps what a transaction told -/
def sr5 (M : im_M) (fk : Int) (c1 c2 c3 c4 c5 : Nat) (ρ : Rl) : Prop := M 6952 fk = ρ.1 ∧ ρ.1 ≤ 60 ∧ ∀ i : Nat, i < ρ.1 → (M c1 i = ρ.2.1 i ∧ M c2 i = ρ.2.2.1 i ∧ M c3 i = ρ.2.2.2.1 i ∧ M c4 i = ρ.2.2.2.2.1 i) ∧ (ρ.2.1 i ≠ 5 → sn M c5 i (ρ.2.2.2.2.2 i))
theorem sf_7051 {e : im_E} : (im_sh0 ++ e)[7051]? = some (1, 18120, []) := im_sh_m (k := 99) rfl rfl rfl
theorem sf_7056 {e : im_E} : (im_sh0 ++ e)[7056]? = some (1, 18120, []) := im_sh_m (k := 104) rfl rfl rfl
/-- payments are of two sorts -/
def PSo (ρ : Rl) : Prop := ∀ i : Nat, i < ρ.1 → ρ.2.1 i ≠ 5
section RTOLD
variable {g : im_g} {d : Nat} {e : im_E} {M M0 : im_M} {K : im_K}
theorem l_kt10 {ρ : Rl} (hS : rr5 M0 104 7021 7022 7023 7024 7025 ρ (M0 6952 7)) (hp : PSo ρ) (h7 : M0 6952 7 ≤ 1100000) (hd : 1 ≤ d)
    (hK : ∀ M', (∀ x, x < 7047 ∨ 7051 < x → M' x = M0 x) → (∀ q : Nat, q < ρ.1 → (M' 7047 q = ρ.2.1 q ∧ M' 7048 q = ρ.2.2.1 q ∧ M' 7049 q = ρ.2.2.2.1 q ∧ M' 7050 q = ρ.2.2.2.2.1 q) ∧ sn M' 7051 q (ρ.2.2.2.2.2 q)) → im_T g d 416 97 [some (.ref 6952), some (vI 0)] [] e (im_u M' 6952 143 (M0 6952 110)) K) :
    ∀ (z k : Nat) (M : im_M), k + z = ρ.1 → (∀ x, x < 7047 ∨ 7051 < x → M x = M0 x) → (∀ q : Nat, q < k → (M 7047 q = ρ.2.1 q ∧ M 7048 q = ρ.2.2.1 q ∧ M 7049 q = ρ.2.2.2.1 q ∧ M 7050 q = ρ.2.2.2.2.1 q) ∧ sn M 7051 q (ρ.2.2.2.2.2 q)) → im_T g d 416 10 [some (.ref 6952), some (vI k)] [] e M K := by
  obtain ⟨s1, s2, s3⟩ := hS
  intro z
  induction z with
  | zero =>
    intro k M hk f1 hA
    have hkb : k = ρ.1 := by omega
    subst hkb
    refine b_keepTold_10 hd ?_
    rw [f1 6952 (by decide), s1]
    exact ⟨by constructor <;> omega, fun _ => hK M f1 hA, fun w => by omega⟩
  | succ z ih =>
    intro k M hk f1 hA
    obtain ⟨⟨u1, u2, u3, u4⟩, u5, _⟩ := s3 k (by omega)
    have u5 := u5 (hp k (by omega))
    refine b_keepTold_10 hd ?_
    rw [f1 6952 (by decide), s1, f1 7021 (by decide), f1 7022 (by decide), f1 7023 (by decide), f1 7024 (by decide), f1 7025 (by decide), u1, u2, u3, u4]
    refine ⟨by constructor <;> omega, fun w => by omega, fun _ => ⟨by constructor <;> omega, ?_⟩⟩
    generalize hN : im_u (im_u (im_u (im_u M 7047 k (ρ.2.1 k)) 7048 k (ρ.2.2.1 k)) 7049 k (ρ.2.2.2.1 k)) 7050 k (ρ.2.2.2.2.1 k) = N
    have n0 : ∀ x, x < 7047 ∨ 7050 < x → N x = M x := fun x hx => by rw [← hN, im_u_ne _ _ _ (by omega), im_u_ne _ _ _ (by omega), im_u_ne _ _ _ (by omega), im_u_ne _ _ _ (by omega)]
    have n1 : ∀ x, N 7047 x = if x = k then ρ.2.1 k else M 7047 x := fun x => by rw [← hN, im_rdn _ _ _ _ (by decide), im_rdn _ _ _ _ (by decide), im_rdn _ _ _ _ (by decide), im_rdx]
    have n2 : ∀ x, N 7048 x = if x = k then ρ.2.2.1 k else M 7048 x := fun x => by rw [← hN, im_rdn _ _ _ _ (by decide), im_rdn _ _ _ _ (by decide), im_rdx, im_rdn _ _ _ _ (by decide)]
    have n3 : ∀ x, N 7049 x = if x = k then ρ.2.2.2.1 k else M 7049 x := fun x => by rw [← hN, im_rdn _ _ _ _ (by decide), im_rdx, im_rdn _ _ _ _ (by decide), im_rdn _ _ _ _ (by decide)]
    have n4 : ∀ x, N 7050 x = if x = k then ρ.2.2.2.2.1 k else M 7050 x := fun x => by rw [← hN, im_rdx, im_rdn _ _ _ _ (by decide), im_rdn _ _ _ _ (by decide), im_rdn _ _ _ _ (by decide)]
    clear hN
    have e55 : N 6955 = M0 6955 := (n0 6955 (by decide)).trans (f1 6955 (by decide))
    refine c_save (n1 := 18120) sf_7051 (by decide) (by decide) (by omega) (by omega) (rnp_congr u5 (fun q _ => by rw [e55]) (Int.le_refl _)) h7 (fun M1 p1 p2 p3 => ⟨rfl, rfl, ?_⟩)
    have yN : ∀ x, x < 302 * (k : Int) ∨ 302 * (k : Int) + 302 ≤ x → M1 7051 x = M 7051 x := fun x hx => by rw [p2 x hx, n0 7051 (by decide)]
    rw [show (k : Int) + 1 = ((k + 1 : Nat) : Int) by omega]
    refine ih (k + 1) M1 (by omega) (fun x hx => ?_) (fun q hq => ?_)
    · rw [p1 x (by omega), n0 x (by omega)]; exact f1 x hx
    · rw [p1 7047 (by decide), p1 7048 (by decide), p1 7049 (by decide), p1 7050 (by decide), n1, n2, n3, n4]
      by_cases c : (q : Int) = k
      · rw [c, if_pos rfl, if_pos rfl, if_pos rfl, if_pos rfl]; exact ⟨⟨rfl, rfl, rfl, rfl⟩, p3⟩
      · rw [if_neg c, if_neg c, if_neg c, if_neg c]
        obtain ⟨w1, w3⟩ := hA q (by omega)
        exact ⟨w1, sn_congr w3 (fun j _ _ => yN j (by omega))⟩
theorem l_kt97 {ρ : Rl} (hS : rr5 M0 110 7026 7027 7028 7029 7030 ρ (M0 6952 7)) (h7 : M0 6952 7 ≤ 1100000) (hd : 1 ≤ d)
    (hK : ∀ M', (∀ x, x < 7052 ∨ 7056 < x → M' x = M0 x) → (∀ q : Nat, q < ρ.1 → (M' 7052 q = ρ.2.1 q ∧ M' 7053 q = ρ.2.2.1 q ∧ M' 7054 q = ρ.2.2.2.1 q ∧ M' 7055 q = ρ.2.2.2.2.1 q) ∧ (ρ.2.1 q ≠ 5 → sn M' 7056 q (ρ.2.2.2.2.2 q))) → K (.inl none) e M') :
    ∀ (z k : Nat) (M : im_M), k + z = ρ.1 → (∀ x, x < 7052 ∨ 7056 < x → M x = M0 x) → (∀ q : Nat, q < k → (M 7052 q = ρ.2.1 q ∧ M 7053 q = ρ.2.2.1 q ∧ M 7054 q = ρ.2.2.2.1 q ∧ M 7055 q = ρ.2.2.2.2.1 q) ∧ (ρ.2.1 q ≠ 5 → sn M 7056 q (ρ.2.2.2.2.2 q))) → im_T g d 416 97 [some (.ref 6952), some (vI k)] [] e M K := by
  obtain ⟨s1, s2, s3⟩ := hS
  intro z
  induction z with
  | zero =>
    intro k M hk f1 hA
    have hkb : k = ρ.1 := by omega
    subst hkb
    refine b_keepTold_97 hd ?_
    rw [f1 6952 (by decide), s1]
    exact ⟨by constructor <;> omega, fun _ => hK M f1 hA, fun w => by omega⟩
  | succ z ih =>
    intro k M hk f1 hA
    obtain ⟨⟨u1, u2, u3, u4⟩, u5, u6⟩ := s3 k (by omega)
    refine b_keepTold_97 hd ?_
    rw [f1 6952 (by decide), s1, f1 7026 (by decide), f1 7027 (by decide), f1 7028 (by decide), f1 7029 (by decide), f1 7030 (by decide), u1, u2, u3, u4]
    generalize hN : im_u (im_u (im_u (im_u M 7052 k (ρ.2.1 k)) 7053 k (ρ.2.2.1 k)) 7054 k (ρ.2.2.2.1 k)) 7055 k (ρ.2.2.2.2.1 k) = N
    have n0 : ∀ x, x < 7052 ∨ 7055 < x → N x = M x := fun x hx => by rw [← hN, im_u_ne _ _ _ (by omega), im_u_ne _ _ _ (by omega), im_u_ne _ _ _ (by omega), im_u_ne _ _ _ (by omega)]
    have n1 : ∀ x, N 7052 x = if x = k then ρ.2.1 k else M 7052 x := fun x => by rw [← hN, im_rdn _ _ _ _ (by decide), im_rdn _ _ _ _ (by decide), im_rdn _ _ _ _ (by decide), im_rdx]
    have n2 : ∀ x, N 7053 x = if x = k then ρ.2.2.1 k else M 7053 x := fun x => by rw [← hN, im_rdn _ _ _ _ (by decide), im_rdn _ _ _ _ (by decide), im_rdx, im_rdn _ _ _ _ (by decide)]
    have n3 : ∀ x, N 7054 x = if x = k then ρ.2.2.2.1 k else M 7054 x := fun x => by rw [← hN, im_rdn _ _ _ _ (by decide), im_rdx, im_rdn _ _ _ _ (by decide), im_rdn _ _ _ _ (by decide)]
    have n4 : ∀ x, N 7055 x = if x = k then ρ.2.2.2.2.1 k else M 7055 x := fun x => by rw [← hN, im_rdx, im_rdn _ _ _ _ (by decide), im_rdn _ _ _ _ (by decide), im_rdn _ _ _ _ (by decide)]
    clear hN
    have e55 : N 6955 = M0 6955 := (n0 6955 (by decide)).trans (f1 6955 (by decide))
    have go : ∀ {M1 : im_M}, (∀ x, x ≠ 7056 → M1 x = N x) → (∀ x, x < 302 * (k : Int) ∨ 302 * (k : Int) + 302 ≤ x → M1 7056 x = M 7056 x) → (ρ.2.1 k ≠ 5 → sn M1 7056 k (ρ.2.2.2.2.2 k)) → im_T g d 416 97 [some (.ref 6952), some (vI ((k : Int) + 1))] [] e M1 K := fun {M1} p1 yN p3 => by
      rw [show (k : Int) + 1 = ((k + 1 : Nat) : Int) by omega]
      refine ih (k + 1) M1 (by omega) (fun x hx => ?_) (fun q hq => ?_)
      · rw [p1 x (by omega), n0 x (by omega)]; exact f1 x hx
      · rw [p1 7052 (by decide), p1 7053 (by decide), p1 7054 (by decide), p1 7055 (by decide), n1, n2, n3, n4]
        by_cases c : (q : Int) = k
        · rw [c, if_pos rfl, if_pos rfl, if_pos rfl, if_pos rfl]; exact ⟨⟨rfl, rfl, rfl, rfl⟩, p3⟩
        · rw [if_neg c, if_neg c, if_neg c, if_neg c]
          obtain ⟨w1, w3⟩ := hA q (by omega)
          exact ⟨w1, fun z => sn_congr (w3 z) (fun j _ _ => yN j (by omega))⟩
    refine ⟨by constructor <;> omega, fun w => by omega, fun _ => ⟨by constructor <;> omega, fun hm1 => ?_, fun hm1 => ?_⟩⟩
    · refine go (fun _ _ => rfl) (fun x _ => by rw [n0 7056 (by decide)]) (fun z => ?_)
      obtain ⟨kk, _, z2, _⟩ := u5 z
      omega
    · have h5 : ρ.2.1 k ≠ 5 := fun z => hm1 (u6 z)
      refine c_save (n1 := 18120) sf_7056 (by decide) (by decide) (by omega) (by omega) (rnp_congr (u5 h5) (fun q _ => by rw [e55]) (Int.le_refl _)) h7 (fun M1 p1 p2 p3 => ⟨rfl, rfl, ?_⟩)
      exact go p1 (fun x hx => by rw [p2 x hx, n0 7056 (by decide)]) (fun _ => p3)
theorem c_rkeepTold {ρ π : Rl} (hS : rr5 M 104 7021 7022 7023 7024 7025 ρ (M 6952 7)) (hp : PSo ρ) (hW : rr5 M 110 7026 7027 7028 7029 7030 π (M 6952 7)) (h7 : M 6952 7 ≤ 1100000) (hd : 1 ≤ d)
    (hK : ∀ M', (∀ x, x ≠ 6952 → (x < 7047 ∨ 7056 < x) → M' x = M x) → (∀ f, f ≠ 137 → f ≠ 143 → M' 6952 f = M 6952 f) → sr5 M' 137 7047 7048 7049 7050 7051 ρ → sr5 M' 143 7052 7053 7054 7055 7056 π → K (.inl none) e M') : im_T g d 416 0 [some (.ref 6952), none] [] e M K := by
  refine b_keepTold_0 ?_
  have k0 : ∀ f, f ≠ 137 → im_u M 6952 137 (M 6952 104) 6952 f = M 6952 f := fun f hf => im_rdk _ _ _ hf
  have x0 : ∀ x, x ≠ 6952 → im_u M 6952 137 (M 6952 104) x = M x := fun x hx => im_u_ne _ _ _ hx
  have c0 : im_u M 6952 137 (M 6952 104) 6952 137 = ρ.1 := (im_rds _ _ _ _).trans hS.1
  generalize im_u M 6952 137 (M 6952 104) = Ma at *
  have Sa : rr5 Ma 104 7021 7022 7023 7024 7025 ρ (Ma 6952 7) := by
    rw [k0 7 (by decide)]
    exact rr5_congr hS (k0 104 (by decide)) (x0 _ (by decide)) (x0 _ (by decide)) (x0 _ (by decide)) (x0 _ (by decide)) (x0 _ (by decide)) (fun i _ => by rw [x0 6955 (by decide)]) (Int.le_refl _)
  refine l_kt10 Sa hp (by rw [k0 7 (by decide)]; exact h7) hd (fun M1 f1 A1 => ?_) ρ.1 0 Ma (by omega) (fun _ _ => rfl) (fun q hq => by omega)
  have e110 : Ma 6952 110 = π.1 := (k0 110 (by decide)).trans hW.1
  rw [e110]
  have k1 : ∀ f, f ≠ 143 → im_u M1 6952 143 π.1 6952 f = Ma 6952 f := fun f hf => (im_rdk _ _ _ hf).trans (by rw [f1 6952 (by decide)])
  have x1 : ∀ x, x ≠ 6952 → im_u M1 6952 143 π.1 x = M1 x := fun x hx => im_u_ne _ _ _ hx
  have c1 : im_u M1 6952 143 π.1 6952 143 = π.1 := im_rds _ _ _ _
  generalize im_u M1 6952 143 π.1 = Mb at *
  have e7 : Mb 6952 7 = M 6952 7 := (k1 7 (by decide)).trans (k0 7 (by decide))
  have xx : ∀ x, x ≠ 6952 → (x < 7047 ∨ 7051 < x) → Mb x = M x := fun x a b => ((x1 x a).trans (f1 x b)).trans (x0 x a)
  have Sb : rr5 Mb 110 7026 7027 7028 7029 7030 π (Mb 6952 7) := by
    rw [e7]
    exact rr5_congr hW ((k1 110 (by decide)).trans (k0 110 (by decide))) (xx _ (by decide) (by decide)) (xx _ (by decide) (by decide)) (xx _ (by decide) (by decide)) (xx _ (by decide) (by decide)) (xx _ (by decide) (by decide)) (fun i _ => by rw [xx 6955 (by decide) (by decide)]) (Int.le_refl _)
  refine l_kt97 Sb (by rw [e7]; exact h7) hd (fun M2 f2 A2 => ?_) π.1 0 Mb (by omega) (fun _ _ => rfl) (fun q hq => by omega)
  have e52 := f2 6952 (by decide)
  refine hK M2 (fun x a b => (f2 x (by omega)).trans (xx x a (by omega))) (fun f a b => by rw [e52]; exact (k1 f b).trans (k0 f a)) ⟨by rw [e52, k1 137 (by decide)]; exact c0, hS.2.1, fun i hi => ?_⟩ ⟨by rw [e52]; exact c1, hW.2.1, A2⟩
  have y : ∀ x : Nat, 7047 ≤ x → x ≤ 7051 → M2 x = M1 x := fun x a b => (f2 x (by omega)).trans (x1 x (by omega))
  rw [y 7047 (by decide) (by decide), y 7048 (by decide) (by decide), y 7049 (by decide) (by decide), y 7050 (by decide) (by decide)]
  exact ⟨(A1 i hi).1, fun _ => sn_congr (A1 i hi).2 (fun q _ _ => by rw [y 7051 (by decide) (by decide)])⟩
end RTOLD
