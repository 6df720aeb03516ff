/-! THE REFERENCE keeps numbers in arrays and takes them from there -/
def sn (M : im_M) (c : Nat) (j x : Int) : Prop := ∃ k : Nat, rn (M c) (302 * j) k x ∧ k ≤ 300
theorem sn_congr {M M' : im_M} {c : Nat} {j x : Int} (h : sn M c j x) (hs : ∀ i, 302 * j ≤ i → i < 302 * j + 302 → M' c i = M c i) : sn M' c j x := by
  obtain ⟨k, h1, h2⟩ := h
  exact ⟨k, rn_congr h1 (fun i a b => hs i a (by omega)), h2⟩
section RSAVE
variable {g : im_g} {d : Nat} {e : im_E} {M M0 : im_M} {K : im_K}
theorem l_rload {c n1 : Nat} {j to : Int} {n : Nat} (hs : (im_sh0 ++ e)[c]? = some (1, n1, [])) (hn1 : n1 ≤ 2147483647) (hc : c ≠ 6955) (hc2 : c ≠ 6952) (hj0 : 0 ≤ j) (hj : 302 * j + 302 ≤ n1) (hn : n ≤ 300) (h0 : 0 ≤ to) (h4 : to + n + 2 ≤ 1100000) (hK : ∀ M', RF [] [7] to M0 M' → (∀ i, 0 ≤ i → i < (n : Int) + 2 → M' 6955 (to + i) = M0 c (302 * j + i)) → M' 6952 7 = to + n + 2 → K (.inl (some (vI to))) e M') : ∀ (z : Nat) (k : Int) (M : im_M), k + z = (n : Int) + 2 → 0 ≤ k → RF [] [7] to M0 M → (∀ i, 0 ≤ i → i < k → M 6955 (to + i) = M0 c (302 * j + i)) → im_T g d 345 19 [some (.ref 6952), some (.ref c), some (vI j), some (vI to), some (vI n), some (vI k)] [] e M K := by
  intro z
  induction z with
  | zero =>
    intro k M hk k0 hF hc'
    refine b_load_19 hs hn1 ⟨by constructor <;> omega, by constructor <;> omega, fun _ => ⟨by constructor <;> omega, ?_⟩, fun z => absurd z (by omega)⟩
    refine hK _ (hF.fld (by decide) _) (fun i i0 i1 => ?_) (im_rds _ _ _ _)
    rw [im_rdn _ _ _ _ (by decide)]
    exact hc' i i0 (by omega)
  | succ z ih =>
    intro k M hk k0 hF hc'
    refine b_load_19 hs hn1 ⟨by constructor <;> omega, by constructor <;> omega, fun z => absurd z (by omega), fun _ => ⟨by constructor <;> omega, by constructor <;> omega, ?_⟩⟩
    refine ih (k + 1) _ (by omega) (by omega) (hF.pool (by omega) _) (fun i i0 i1 => ?_)
    by_cases hi : i = k
    · subst hi
      rw [im_rds]
      exact congrFun (hF.1 c (fun z => by cases z) hc hc2) _
    · rw [im_rdk _ _ _ (by omega)]
      exact hc' i i0 (by omega)
theorem c_rload {c n1 : Nat} {j x : Int} (hs : (im_sh0 ++ e)[c]? = some (1, n1, [])) (hn1 : n1 ≤ 2147483647) (hc : c ≠ 6955) (hc2 : c ≠ 6952) (hj0 : 0 ≤ j) (hj : 302 * j + 302 ≤ n1) (h : sn M c j x) (h0 : 0 ≤ M 6952 7) (h7 : M 6952 7 + 302 ≤ 1100000)
    (hK : ∀ M', RF [] [7] (M 6952 7) M M' → (M 6952 7 ≤ M' 6952 7 ∧ M' 6952 7 ≤ M 6952 7 + 302) → rnp M' 0 (M' 6952 7) (M 6952 7) x → K (.inl (some (vI (M 6952 7)))) e M') : im_T g d 345 0 [some (.ref 6952), some (.ref c), some (vI j), none, none, none] [] e M K := by
  obtain ⟨n, hr, hn⟩ := h
  have e1 := hr.1
  refine b_load_0 hs hn1 ⟨by constructor <;> omega, ?_⟩
  rw [e1]
  exact l_rload (M0 := M) hs hn1 hc hc2 hj0 hj hn h0 (by omega) (fun M' a b c' => hK M' a (by omega) ⟨n, rn_move hr (fun i i0 i1 => b i i0 (by omega)), h0, by omega, hn⟩) (n + 2) 0 M (by omega) (by omega) (RF.rf _ _ _ _) (fun i i0 i1 => by omega)
theorem l_save {c n1 : Nat} {j r : Int} {n : Nat} (hs : (im_sh0 ++ e)[c]? = some (1, n1, [])) (hn1 : n1 ≤ 2147483647) (hc : c ≠ 6955) (hj0 : 0 ≤ j) (hj : 302 * j + 302 ≤ n1) (hn : n ≤ 300) (h0 : 0 ≤ r) (h4 : r + n + 2 ≤ 1100000) (he : M0 6955 (r + 1) = n) (hK : ∀ M', (∀ x, x ≠ c → M' x = M0 x) → (∀ i, i < 302 * j ∨ 302 * j + 302 ≤ i → M' c i = M0 c i) → (∀ i, 0 ≤ i → i < (n : Int) + 2 → M' c (302 * j + i) = M0 6955 (r + i)) → K (.inl none) e M') : ∀ (z : Nat) (k : Int) (M : im_M), k + z = (n : Int) + 2 → 0 ≤ k → (∀ x, x ≠ c → M x = M0 x) → (∀ i, i < 302 * j ∨ 302 * j + 302 ≤ i → M c i = M0 c i) → (∀ i, 0 ≤ i → i < k → M c (302 * j + i) = M0 6955 (r + i)) → im_T g d 340 3 [some (.ref 6952), some (.ref c), some (vI j), some (vI r), some (vI k)] [] e M K := by
  intro z
  induction z with
  | zero =>
    intro k M hk k0 hF hG hc'
    refine b_save_3 hs hn1 ?_
    rw [hF 6955 (Ne.symm hc), he]
    exact ⟨by constructor <;> omega, by constructor <;> omega, by constructor <;> omega, fun _ => hK M hF hG (fun i i0 i1 => hc' i i0 (by omega)), fun z => absurd z (by omega)⟩
  | succ z ih =>
    intro k M hk k0 hF hG hc'
    refine b_save_3 hs hn1 ?_
    rw [hF 6955 (Ne.symm hc), he]
    refine ⟨by constructor <;> omega, by constructor <;> omega, by constructor <;> omega, fun z => absurd z (by omega), fun _ => ⟨by constructor <;> omega, by constructor <;> omega, ?_⟩⟩
    refine ih (k + 1) _ (by omega) (by omega) (fun x hx => (im_u_ne _ _ _ hx).trans (hF x hx)) (fun i hi => (im_rdk _ _ _ (by omega)).trans (hG i hi)) (fun i i0 i1 => ?_)
    by_cases hi : i = k
    · subst hi
      rw [im_rds]
    · rw [im_rdk _ _ _ (by omega)]
      exact hc' i i0 (by omega)
theorem c_save {c n1 : Nat} {j r x T : Int} (hs : (im_sh0 ++ e)[c]? = some (1, n1, [])) (hn1 : n1 ≤ 2147483647) (hc : c ≠ 6955) (hj0 : 0 ≤ j) (hj : 302 * j + 302 ≤ n1) (h : rnp M 0 T r x) (hT : T ≤ 1100000)
    (hK : ∀ M', (∀ x, x ≠ c → M' x = M x) → (∀ i, i < 302 * j ∨ 302 * j + 302 ≤ i → M' c i = M c i) → sn M' c j x → K (.inl none) e M') : im_T g d 340 0 [some (.ref 6952), some (.ref c), some (vI j), some (vI r), none] [] e M K := by
  obtain ⟨n, hr, h0, h4, hn⟩ := h
  exact b_save_0 hs hn1 (l_save (M0 := M) hs hn1 hc hj0 hj hn h0 (by omega) hr.1 (fun M' a b c' => hK M' a b ⟨n, rn_move hr (fun i i0 i1 => c' i i0 (by omega)), hn⟩) (n + 2) 0 M (by omega) (by omega) (fun _ _ => rfl) (fun _ _ => rfl) (fun i i0 i1 => by omega))
end RSAVE
