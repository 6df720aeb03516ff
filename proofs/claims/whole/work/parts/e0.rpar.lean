/-! THE REFERENCE moves a number, takes a parameter -/
section RPARAM
variable {g : im_g} {d : Nat} {e : im_E} {M : im_M} {K : im_K}
theorem l_moveNumber {M0 : im_M} {c n1 : Nat} {f t : Int} (hs : (im_sh0 ++ e)[c]? = some (1, n1, [])) (hn1 : n1 ≤ 2147483647) (hf : 0 ≤ f ∧ 302 * f + 302 ≤ n1) (ht : 0 ≤ t ∧ 302 * t + 302 ≤ n1) (hft : f ≠ t)
    (hK : ∀ M', (∀ x, x ≠ c → M' x = M0 x) → (∀ i, i < 302 * t ∨ 302 * t + 302 ≤ i → M' c i = M0 c i) → (∀ k, 0 ≤ k → k < 302 → M' c (302 * t + k) = M0 c (302 * f + k)) → K (.inl none) e M') :
    ∀ (j k : Nat) (M : im_M), k + j = 302 → (∀ x, x ≠ c → M x = M0 x) → (∀ i, i < 302 * t ∨ 302 * t + k ≤ i → M c i = M0 c i) → (∀ q : Int, 0 ≤ q → q < k → M c (302 * t + q) = M0 c (302 * f + q)) → im_T g d 339 2 [some (.ref c), some (vI f), some (vI t), some (vI k)] [] e M K := by
  intro j
  induction j with
  | zero =>
    intro k M hk hx ho hm
    exact b_moveNumber_2 hs hn1 ⟨by constructor <;> omega, fun _ => hK M hx (fun i hi => ho i (by omega)) (fun q q0 q1 => hm q q0 (by omega)), fun z => by omega⟩
  | succ j ih =>
    intro k M hk hx ho hm
    refine b_moveNumber_2 hs hn1 ⟨by constructor <;> omega, fun z => by omega, fun _ => ⟨⟨by omega, by omega⟩, ⟨by omega, by omega⟩, ?_⟩⟩
    refine ih (k + 1) _ (by omega) (fun x a => by rw [im_u_ne _ _ _ a]; exact hx x a) (fun i hi => by rw [im_rdk _ _ _ (by omega)]; exact ho i (by omega)) (fun q q0 q1 => ?_)
    rw [im_rdx]
    by_cases c : q = k
    · rw [if_pos (by omega), ho _ (by omega), c]
    · rw [if_neg (by omega)]; exact hm q q0 (by omega)
theorem c_moveNumber {c n1 : Nat} {f t : Int} (hs : (im_sh0 ++ e)[c]? = some (1, n1, [])) (hn1 : n1 ≤ 2147483647) (hf : 0 ≤ f ∧ 302 * f + 302 ≤ n1) (ht : 0 ≤ t ∧ 302 * t + 302 ≤ n1) (hft : f ≠ t)
    (hK : ∀ M', (∀ x, x ≠ c → M' x = M x) → (∀ i, i < 302 * t ∨ 302 * t + 302 ≤ i → M' c i = M c i) → (∀ k, 0 ≤ k → k < 302 → M' c (302 * t + k) = M c (302 * f + k)) → K (.inl none) e M') : im_T g d 339 0 [some (.ref c), some (vI f), some (vI t), none] [] e M K :=
  b_moveNumber_0 hs hn1 (l_moveNumber (M0 := M) hs hn1 hf ht hft hK 302 0 M (by omega) (fun _ _ => rfl) (fun _ _ => rfl) (fun q a b => by omega))
theorem sn_move {M M' : im_M} {c : Nat} {f t x : Int} (h : sn M c f x) (hm : ∀ k, 0 ≤ k → k < 302 → M' c (302 * t + k) = M c (302 * f + k)) : sn M' c t x := by
  obtain ⟨n, ⟨h1, ⟨h2, h2'⟩, h3, h4⟩, hn⟩ := h
  have e0 : M' c (302 * t) = M c (302 * f) := by have := hm 0 (by decide) (by decide); rw [Int.add_zero, Int.add_zero] at this; exact this
  have e1 : M' c (302 * t + 1) = M c (302 * f + 1) := hm 1 (by decide) (by decide)
  have ek : ∀ q : Int, 0 ≤ q → q < n → M' c (302 * t + 2 + q) = M c (302 * f + 2 + q) := fun q q0 q1 => by
    have := hm (2 + q) (by omega) (by omega)
    rw [← Int.add_assoc, ← Int.add_assoc] at this; exact this
  refine ⟨n, ⟨by rw [e1]; exact h1, ⟨fun q q0 q1 => by rw [ek q q0 q1]; exact h2 q q0 q1, fun z => ?_⟩, by rw [e0]; exact h3, ?_⟩, hn⟩
  · rw [ek _ (by omega) (by omega)]; exact h2' z
  · rw [e0, h4]
    congr 1
    have : ∀ (m : Nat), (m : Int) ≤ n → dv 10 (M c) (302 * f + 2) m = dv 10 (M' c) (302 * t + 2) m := by
      intro m
      induction m with
      | zero => intro _; rfl
      | succ m ih =>
        intro hm'
        show dv 10 (M c) (302 * f + 2) m + M c (302 * f + 2 + m) * 10 ^ m = dv 10 (M' c) (302 * t + 2) m + M' c (302 * t + 2 + m) * 10 ^ m
        rw [ih (by omega), ek m (by omega) (by omega)]
    exact this n (Int.le_refl _)
end RPARAM
