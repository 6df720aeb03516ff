/-! THE REFERENCE keeps the wallets -/
section RKWAL
variable {g : im_g} {d : Nat} {e : im_E} {M M0 : im_M} {K : im_K}
theorem l_kw10 {w : Bk} (hS : rwl M0 w (M0 6952 7)) (h7 : M0 6952 7 ≤ 1100000) (hd : 1 ≤ d)
    (hK : ∀ M', (∀ x, x ≠ 7042 → x ≠ 7043 → x ≠ 7044 → M' x = M0 x) → (∀ q : Nat, q < w.1 → M' 7042 q = M0 7031 q ∧ M' 7043 q = M0 7032 q ∧ sn M' 7044 q (hld w (M0 7031 q) (M0 7032 q))) → K (.inl none) e M') :
    ∀ (z k : Nat) (M : im_M), k + z = w.1 → (∀ x, x ≠ 7042 → x ≠ 7043 → x ≠ 7044 → M x = M0 x) → (∀ q : Nat, q < k → M 7042 q = M0 7031 q ∧ M 7043 q = M0 7032 q ∧ sn M 7044 q (hld w (M0 7031 q) (M0 7032 q))) → im_T g d 415 10 [some (.ref 6952), some (vI k)] [] e M K := by
  obtain ⟨s1, s2, s3, _, _⟩ := hS
  intro z
  induction z with
  | zero =>
    intro k M hk f1 hA
    have hkb : k = w.1 := by omega
    subst hkb
    refine b_keepWallets_10 hd ?_
    rw [f1 6952 (by decide) (by decide) (by decide), s1]
    exact ⟨by constructor <;> omega, fun _ => hK M f1 hA, fun w => by omega⟩
  | succ z ih =>
    intro k M hk f1 hA
    have u3 := (s3 k (by omega)).2
    refine b_keepWallets_10 hd ?_
    rw [f1 6952 (by decide) (by decide) (by decide), s1, f1 7031 (by decide) (by decide) (by decide), f1 7032 (by decide) (by decide) (by decide), f1 7033 (by decide) (by decide) (by decide)]
    refine ⟨by constructor <;> omega, fun w => by omega, fun _ => ⟨by constructor <;> omega, by constructor <;> omega, ?_⟩⟩
    have e55 : ∀ y x, im_u (im_u M 7042 k y) 7043 k x 6955 = M0 6955 := fun y x => by rw [im_u_ne _ _ _ (by decide), im_u_ne _ _ _ (by decide), f1 6955 (by decide) (by decide) (by decide)]
    refine c_save (n1 := 18120) sf_7044 (by decide) (by decide) (by omega) (by omega) (rnp_congr u3 (fun q _ => by rw [e55]) (Int.le_refl _)) h7 (fun M1 p1 p2 p3 => ⟨rfl, rfl, ?_⟩)
    have yA : ∀ x, M1 7042 x = if x = k then M0 7031 k else M 7042 x := fun x => by rw [p1 7042 (by decide), im_rdn _ _ _ _ (by decide), im_rdx]
    have yB : ∀ x, M1 7043 x = if x = k then M0 7032 k else M 7043 x := fun x => by rw [p1 7043 (by decide), im_rdx, im_rdn _ _ _ _ (by decide)]
    have yN : ∀ x, x < 302 * (k : Int) ∨ 302 * (k : Int) + 302 ≤ x → M1 7044 x = M 7044 x := fun x hx => by rw [p2 x hx, im_rdn _ _ _ _ (by decide), im_rdn _ _ _ _ (by decide)]
    rw [show (k : Int) + 1 = ((k + 1 : Nat) : Int) by omega]
    refine ih (k + 1) M1 (by omega) (fun x a b c => ?_) (fun q hq => ?_)
    · rw [p1 x c, im_u_ne _ _ _ b, im_u_ne _ _ _ a]; exact f1 x a b c
    · rw [yA, yB]
      by_cases c : (q : Int) = k
      · rw [c, if_pos rfl, if_pos rfl]; exact ⟨rfl, rfl, p3⟩
      · rw [if_neg c, if_neg c]
        obtain ⟨w1, w2, w3⟩ := hA q (by omega)
        exact ⟨w1, w2, sn_congr w3 (fun j _ _ => yN j (by omega))⟩
theorem c_rkeepWallets {w : Bk} (hS : rwl M w (M 6952 7)) (h7 : M 6952 7 ≤ 1100000) (hd : 1 ≤ d)
    (hK : ∀ M', (∀ x, x ≠ 6952 → x ≠ 7042 → x ≠ 7043 → x ≠ 7044 → M' x = M x) → (∀ f, f ≠ 130 → M' 6952 f = M 6952 f) → swl M' w → K (.inl none) e M') : im_T g d 415 0 [some (.ref 6952), none] [] e M K := by
  obtain ⟨s1, s2, s3, s4, s5⟩ := id hS
  refine b_keepWallets_0 ?_
  have k0 : ∀ f, f ≠ 130 → im_u M 6952 130 (M 6952 116) 6952 f = M 6952 f := fun f hf => im_rdk _ _ _ hf
  have x0 : ∀ x, x ≠ 6952 → im_u M 6952 130 (M 6952 116) x = M x := fun x hx => im_u_ne _ _ _ hx
  have c130 : im_u M 6952 130 (M 6952 116) 6952 130 = w.1 := (im_rds _ _ _ _).trans s1
  generalize im_u M 6952 130 (M 6952 116) = Ma at *
  have Sa : rwl Ma w (Ma 6952 7) := by
    rw [k0 7 (by decide)]
    exact rwl_congr hS (k0 116 (by decide)) (x0 _ (by decide)) (x0 _ (by decide)) (x0 _ (by decide)) (fun i _ => by rw [x0 6955 (by decide)]) (Int.le_refl _)
  refine l_kw10 Sa (by rw [k0 7 (by decide)]; exact h7) hd (fun M1 f1 A1 => ?_) w.1 0 Ma (by omega) (fun _ _ _ _ => rfl) (fun q hq => by omega)
  rw [x0 7031 (by decide), x0 7032 (by decide)] at A1
  have e52 := f1 6952 (by decide) (by decide) (by decide)
  refine hK M1 (fun x a b c d => (f1 x b c d).trans (x0 x a)) (fun f hf => by rw [e52]; exact k0 f hf) ⟨by rw [e52]; exact c130, s2, fun i hi => ?_, fun i j hi hj => ?_, fun a b hh => ?_⟩
  · rw [(A1 i hi).1, (A1 i hi).2.1]; exact ⟨(s3 i hi).1, (A1 i hi).2.2⟩
  · rw [(A1 i hi).1, (A1 i hi).2.1, (A1 j hj).1, (A1 j hj).2.1]; exact s4 i j hi hj
  · obtain ⟨i, i1, i2, i3⟩ := s5 a b hh
    exact ⟨i, i1, by rw [(A1 i i1).1]; exact i2, by rw [(A1 i i1).2.1]; exact i3⟩
end RKWAL
