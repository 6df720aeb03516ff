/-! what the reference's numbers' methods leave as it was: arrays but S, fields but F, the pool below t -/
def RF (S : List Nat) (F : List Int) (t : Int) (M M' : im_M) : Prop := (∀ a, a ∉ S → a ≠ 6955 → a ≠ 6952 → M' a = M a) ∧ (∀ k, k ∉ F → M' 6952 k = M 6952 k) ∧ (∀ i, i < t → M' 6955 i = M 6955 i)
theorem RF.rf (S : List Nat) (F : List Int) (t : Int) (M : im_M) : RF S F t M M := ⟨fun _ _ _ _ => rfl, fun _ _ => rfl, fun _ _ => rfl⟩
theorem RF.trans {S : List Nat} {F : List Int} {t : Int} {M M1 M2 : im_M} (h : RF S F t M M1) (h' : RF S F t M1 M2) : RF S F t M M2 :=
  ⟨fun a x y z => (h'.1 a x y z).trans (h.1 a x y z), fun k x => (h'.2.1 k x).trans (h.2.1 k x), fun i x => (h'.2.2 i x).trans (h.2.2 i x)⟩
theorem RF.mono {S S' : List Nat} {F F' : List Int} {t t' : Int} {M M' : im_M} (h : RF S F t M M') (hS : ∀ a ∈ S, a ∈ S') (hF : ∀ k ∈ F, k ∈ F') (ht : t' ≤ t) : RF S' F' t' M M' :=
  ⟨fun a x y z => h.1 a (fun w => x (hS a w)) y z, fun k x => h.2.1 k (fun w => x (hF k w)), fun i x => h.2.2 i (by omega)⟩
theorem RF.pool {S : List Nat} {F : List Int} {t : Int} {M M' : im_M} (h : RF S F t M M') {i : Int} (hi : t ≤ i) (v : Int) : RF S F t M (im_u M' 6955 i v) :=
  ⟨fun a x y z => (im_u_ne _ _ _ y).trans (h.1 a x y z), fun k x => (im_rdn _ _ _ _ (by decide)).trans (h.2.1 k x), fun j x => (im_rdk _ _ _ (by omega)).trans (h.2.2 j x)⟩
theorem RF.fld {S : List Nat} {F : List Int} {t : Int} {M M' : im_M} (h : RF S F t M M') {k : Int} (hk : k ∈ F) (v : Int) : RF S F t M (im_u M' 6952 k v) :=
  ⟨fun a x y z => (im_u_ne _ _ _ z).trans (h.1 a x y z), fun j x => (im_rdk _ _ _ (show j ≠ k from fun w => x (by rw [w]; exact hk))).trans (h.2.1 j x), fun j x => (im_rdn _ _ _ _ (by decide)).trans (h.2.2 j x)⟩
theorem RF.arr {S : List Nat} {F : List Int} {t : Int} {M M' : im_M} (h : RF S F t M M') {b : Nat} (hb : b ∈ S) (h1 : b ≠ 6955) (h2 : b ≠ 6952) (i v : Int) : RF S F t M (im_u M' b i v) :=
  ⟨fun a x y z => (im_u_ne _ _ _ (show a ≠ b from fun w => x (by rw [w]; exact hb))).trans (h.1 a x y z), fun k x => (im_rdn _ _ _ _ (Ne.symm h2)).trans (h.2.1 k x), fun j x => (im_rdn _ _ _ _ (Ne.symm h1)).trans (h.2.2 j x)⟩
theorem RF.rn {S : List Nat} {F : List Int} {t : Int} {M M' : im_M} (h : RF S F t M M') {r : Int} {n : Nat} {v : Int} (hr : rn (M 6955) r n v) (ht : r + 2 + n ≤ t) : rn (M' 6955) r n v := rn_congr hr (fun i _ i1 => h.2.2 i (by omega))
section RNUM2
variable {g : im_g} {d : Nat} {e : im_E} {M M0 : im_M} {K : im_K}
theorem l_copyOf {r to n : Int} (h1 : 0 ≤ r) (h2 : r + n + 2 ≤ to) (h3 : 0 ≤ n) (h4 : to + n + 2 ≤ 1100000) (hK : ∀ M', RF [] [7] to M0 M' → (∀ i, 0 ≤ i → i < n + 2 → M' 6955 (to + i) = M0 6955 (r + i)) → M' 6952 7 = to + n + 2 → K (.inl (some (vI to))) e M') : ∀ (j : Nat) (k : Int) (M : im_M), k + j = n + 2 → 0 ≤ k → RF [] [7] to M0 M → (∀ i, 0 ≤ i → i < k → M 6955 (to + i) = M0 6955 (r + i)) → im_T g d 373 17 [some (.ref 6952), some (vI r), some (vI n), some (vI to), some (vI k)] [] e M K := by
  intro j
  induction j with
  | zero =>
    intro k M hk h0 hF hc
    refine b_copyOf_17 ⟨by constructor <;> omega, by constructor <;> omega, fun _ => ⟨by constructor <;> omega, ?_⟩, fun z => absurd z (by omega)⟩
    refine hK _ (hF.fld (by decide) _) (fun i i0 i1 => ?_) (im_rds _ _ _ _)
    rw [im_rdn _ _ _ _ (by decide)]
    exact hc i i0 (by omega)
  | succ j ih =>
    intro k M hk h0 hF hc
    refine b_copyOf_17 ⟨by constructor <;> omega, by constructor <;> omega, fun z => absurd z (by omega), fun _ => ⟨by constructor <;> omega, by constructor <;> omega, ?_⟩⟩
    refine ih (k + 1) _ (by omega) (by omega) (hF.pool (by omega) _) (fun i i0 i1 => ?_)
    by_cases hi : i = k
    · subst hi
      rw [im_rds]
      exact hF.2.2 _ (by omega)
    · rw [im_rdk _ _ _ (by omega)]
      exact hc i i0 (by omega)
theorem c_copyOf {r v : Int} {n : Nat} (hr : rn (M 6955) r n v) (h1 : 0 ≤ r) (h2 : r + 2 + n ≤ M 6952 7) (h4 : M 6952 7 + n + 2 ≤ 1100000) (hK : ∀ M', RF [] [7] (M 6952 7) M M' → rn (M' 6955) (M 6952 7) n v → M' 6952 7 = M 6952 7 + n + 2 → K (.inl (some (vI (M 6952 7)))) e M') : im_T g d 373 0 [some (.ref 6952), some (vI r), none, none, none] [] e M K := by
  have hn := hr.1
  refine b_copyOf_0 ⟨by constructor <;> omega, ?_⟩
  rw [hn]
  refine l_copyOf (M0 := M) h1 (by omega) (by omega) h4 (fun M' a b c => hK M' a (rn_move hr (fun i i0 i1 => b i i0 (by omega))) c) (n + 2) 0 M (by omega) (by omega) (RF.rf _ _ _ _) (fun i i0 i1 => by omega)
/-- the end of a number that was laid at r: needless zeros go -/
theorem l_close {r s : Int} (h1 : 0 ≤ r) (hs : s = 1 ∨ s = -1 ∨ s = 0) : ∀ (n : Nat) (M : im_M), r + 2 + n ≤ 1100000 → dok 10 (M 6955) (r + 2) n → (s = 0 → dv 10 (M 6955) (r + 2) n = 0) → (∀ (M' : im_M) (k : Nat), RF [] [7, 8] r M M' → rn (M' 6955) r k (s * dv 10 (M 6955) (r + 2) n) → k ≤ n → M' 6952 7 = r + 2 + k → (M' 6952 8 = if M 6952 8 = 0 ∧ k ≤ 300 then 0 else 1) → K (.inl (some (vI r))) e M') → im_T g d 292 3 [some (.ref 6952), some (vI r), none, some (vI s), some (vI n)] [] e M K := by
  intro n
  induction n with
  | zero =>
    intro M hn hd h0 hK
    refine b_close_3 ⟨by constructor <;> omega, fun z => absurd z (by decide), fun _ x hx => ?_⟩
    have hx : x = 0 := by omega
    subst hx
    refine ⟨by constructor <;> omega, by constructor <;> omega, by constructor <;> omega, by constructor <;> omega, ?_⟩
    have hrn : ∀ z : Int, rn (im_u (im_u (im_u (im_u M 6955 r 0) 6955 (r + 1) ((0 : Nat) : Int)) 6952 7 ((r + 2) + ((0 : Nat) : Int))) 6952 8 z 6955) r 0 (s * dv 10 (M 6955) (r + 2) 0) := by
      intro z
      have e1 : im_u (im_u (im_u (im_u M 6955 r 0) 6955 (r + 1) ((0 : Nat) : Int)) 6952 7 ((r + 2) + ((0 : Nat) : Int))) 6952 8 z 6955 r = 0 := by
        rw [im_rdn _ _ _ _ (by decide), im_rdn _ _ _ _ (by decide), im_rdk _ _ _ (by omega), im_rds]
      refine ⟨by rw [im_rdn _ _ _ _ (by decide), im_rdn _ _ _ _ (by decide), im_rds], ⟨fun i i0 i1 => by omega, fun z => by omega⟩, Or.inl ⟨e1, rfl⟩, ?_⟩
      rw [e1]
      show s * 0 = 0 * _
      rw [Int.mul_zero, Int.zero_mul]
    have hF : ∀ z : Int, RF [] [7, 8] r M (im_u (im_u (im_u (im_u M 6955 r 0) 6955 (r + 1) ((0 : Nat) : Int)) 6952 7 ((r + 2) + ((0 : Nat) : Int))) 6952 8 z) := fun z => ((((RF.rf _ _ _ _).pool (by omega) _).pool (by omega) _).fld (by decide) _).fld (by decide) _
    refine ⟨fun a b => hK _ 0 (hF 0) (hrn 0) (Nat.le_refl 0) ?_ ?_, fun a => hK _ 0 (hF 1) (hrn 1) (Nat.le_refl 0) ?_ ?_⟩
    · rw [im_rdk _ _ _ (by decide), im_rds]
    · rw [im_rds, if_pos ⟨a, by decide⟩]
    · rw [im_rdk _ _ _ (by decide), im_rds]
    · rw [im_rds, if_neg (fun z => by omega)]
  | succ n ih =>
    intro M hn hd h0 hK
    by_cases ht : M 6955 ((r + 1) + ((n + 1 : Nat) : Int)) = 0
    · refine b_close_3 ⟨by constructor <;> omega, fun _ => ⟨by constructor <;> omega, fun _ => ?_⟩, fun z => absurd z (by omega)⟩
      have e2 : dv 10 (M 6955) (r + 2) (n + 1) = dv 10 (M 6955) (r + 2) n := by
        rw [dv_succ, show r + 2 + (n : Int) = (r + 1) + ((n + 1 : Nat) : Int) from by omega, ht, Int.zero_mul, Int.add_zero]
      rw [e2] at h0 hK
      rw [show ((n + 1 : Nat) : Int) + -1 = (n : Int) from by omega]
      exact ih M (by omega) (hd.le (Nat.le_succ n)) h0 (fun M' k a b c => hK M' k a b (by omega))
    · refine b_close_3 ⟨by constructor <;> omega, fun _ => ⟨by constructor <;> omega, fun z => absurd z ht⟩, fun _ x hx => ?_⟩
      have hx : x = s := by omega
      subst hx
      have hnz : dnf 10 (M 6955) (r + 2) (n + 1) := ⟨hd, fun _ => by rw [show r + 2 + (((n + 1 : Nat) : Int) - 1) = (r + 1) + ((n + 1 : Nat) : Int) from by omega]; exact ht⟩
      have hpos := dnf_pos (B := 10) (by decide) hnz (by omega)
      have hpp := bpow_pos (B := 10) (by decide) (n + 1 - 1)
      have hs9 : x = 1 ∨ x = -1 := by
        rcases hs with z | z | z
        · exact Or.inl z
        · exact Or.inr z
        · have := h0 z; omega
      refine ⟨by constructor <;> omega, by constructor <;> omega, by constructor <;> omega, by constructor <;> omega, ?_⟩
      have hsame : ∀ z i : Int, 0 ≤ i → i < (n + 1 : Nat) → M 6955 (r + 2 + i) = im_u (im_u (im_u (im_u M 6955 r x) 6955 (r + 1) ((n + 1 : Nat) : Int)) 6952 7 ((r + 2) + ((n + 1 : Nat) : Int))) 6952 8 z 6955 (r + 2 + i) := by
        intro z i i0 i1
        rw [im_rdn _ _ _ _ (by decide), im_rdn _ _ _ _ (by decide), im_rdk _ _ _ (by omega), im_rdk _ _ _ (by omega)]
      have hrn : ∀ z : Int, rn (im_u (im_u (im_u (im_u M 6955 r x) 6955 (r + 1) ((n + 1 : Nat) : Int)) 6952 7 ((r + 2) + ((n + 1 : Nat) : Int))) 6952 8 z 6955) r (n + 1) (x * dv 10 (M 6955) (r + 2) (n + 1)) := by
        intro z
        have e1 : im_u (im_u (im_u (im_u M 6955 r x) 6955 (r + 1) ((n + 1 : Nat) : Int)) 6952 7 ((r + 2) + ((n + 1 : Nat) : Int))) 6952 8 z 6955 r = x := by
          rw [im_rdn _ _ _ _ (by decide), im_rdn _ _ _ _ (by decide), im_rdk _ _ _ (by omega), im_rds]
        refine ⟨by rw [im_rdn _ _ _ _ (by decide), im_rdn _ _ _ _ (by decide), im_rds], ⟨dok_congr (hsame z) hd, fun _ => ?_⟩, Or.inr ⟨by rw [e1]; exact hs9, by omega⟩, ?_⟩
        · rw [← hsame z _ (by omega) (by omega)]
          exact hnz.2 (by omega)
        · rw [e1, dv_congr (hsame z)]
      have hF : ∀ z : Int, RF [] [7, 8] r M (im_u (im_u (im_u (im_u M 6955 r x) 6955 (r + 1) ((n + 1 : Nat) : Int)) 6952 7 ((r + 2) + ((n + 1 : Nat) : Int))) 6952 8 z) := fun z => ((((RF.rf _ _ _ _).pool (by omega) _).pool (by omega) _).fld (by decide) _).fld (by decide) _
      refine ⟨fun a b => hK _ (n + 1) (hF 0) (hrn 0) (Nat.le_refl _) ?_ ?_, fun a => hK _ (n + 1) (hF 1) (hrn 1) (Nat.le_refl _) ?_ ?_⟩
      · rw [im_rdk _ _ _ (by decide), im_rds]
      · rw [im_rds, if_pos ⟨a, by omega⟩]
      · rw [im_rdk _ _ _ (by decide), im_rds]
      · rw [im_rds, if_neg (fun z => by omega)]
theorem c_close {r s : Int} {n : Nat} (h1 : 0 ≤ r) (hs : s = 1 ∨ s = -1 ∨ s = 0) (hn : r + 2 + n ≤ 1100000) (hd : dok 10 (M 6955) (r + 2) n) (h0 : s = 0 → dv 10 (M 6955) (r + 2) n = 0) (hK : ∀ (M' : im_M) (k : Nat), RF [] [7, 8] r M M' → rn (M' 6955) r k (s * dv 10 (M 6955) (r + 2) n) → k ≤ n → M' 6952 7 = r + 2 + k → (M' 6952 8 = if M 6952 8 = 0 ∧ k ≤ 300 then 0 else 1) → K (.inl (some (vI r))) e M') : im_T g d 292 0 [some (.ref 6952), some (vI r), some (vI n), some (vI s), none] [] e M K :=
  b_close_0 (l_close h1 hs n M hn hd h0 hK)
end RNUM2
