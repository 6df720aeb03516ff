section RTAKE
variable {g : im_g} {d : Nat} {e : im_E} {M : im_M} {K : im_K} {R : Rw} {m : Int} {giv : Bk} {st en lk : Int} {s : TS}
theorem RT.back {M' : im_M} (h : RT M R m giv st en lk s) (hX : WX M M') (C : RT M' R m giv st en lk s) : RT (im_u M' 6952 7 (M 6952 7)) R m giv st en lk s ∧ WX M (im_u M' 6952 7 (M 6952 7)) := by
  have X : WX M (im_u M' 6952 7 (M 6952 7)) := ⟨fun x a b c => (im_u_ne _ _ _ a).trans (hX.1 x a b c), fun k a b c d => (im_rdk _ _ _ a).trans (hX.2.1 k a b c d), fun i hi => (im_rdn _ _ _ _ (by decide)).trans (hX.2.2.1 i hi), by rw [im_rds]; exact Int.le_refl _⟩
  refine ⟨h.wx X ?_ ?_, X⟩
  · rw [im_rdk _ _ _ (by decide)]; exact C.2.2.2.2.1.2.2
  · rw [im_rdk _ _ _ (by decide), C.2.2.2.2.1.1]
    rcases C.2.2.2.2.1.2.1 with z | z
    · exact Or.inl z
    · exact Or.inr ⟨z.1, KN_congr z.2 (fun x a b => im_u_ne _ _ _ (by omega))⟩
theorem RZ.back {M' : im_M} {c : Int} (h : RZ M M' R m giv lk c) : RZ M (im_u M' 6952 7 (M 6952 7)) R m giv lk c := by
  obtain ⟨z1, z2, z3, z4, z5, z6⟩ := h
  refine ⟨⟨fun x a b c d => (im_u_ne _ _ _ a).trans (z1.1 x a b c d), fun k a b c d f i j l n o p q r => (im_rdk _ _ _ a).trans (z1.2.1 k a b c d f i j l n o p q r), fun i hi => (im_rdn _ _ _ _ (by decide)).trans (z1.2.2.1 i hi), by rw [im_rds]; exact Int.le_refl _⟩, (im_rdk _ _ _ (by decide)).trans z2, (im_rdk _ _ _ (by decide)).trans z3, by rw [show im_u M' 6952 7 (M 6952 7) 6952 8 = M' 6952 8 from im_rdk _ _ _ (by decide)]; exact z4, ?_, by rw [show im_u M' 6952 7 (M 6952 7) 6952 116 = M' 6952 116 from im_rdk _ _ _ (by decide)]; exact z6⟩
  rcases z5 with w | w
  · exact Or.inl w
  · exact Or.inr ⟨w.1, fun Γ hg => KN_congr (w.2 Γ hg) (fun x a b => im_u_ne _ _ _ (by omega))⟩
theorem l_between {n r v T : Int} (hP : RP M R m) (hm : m ≤ 5000) (n0 : 0 ≤ n) (n1 : n < m) (hk : R 0 n = 29) (h6 : 1 ≤ R 6 n ∧ R 6 n ≤ 4) (hv : rnp M 0 T r v) (hT : T ≤ 1100000) (h66 : M 6952 6 ≤ 1100000) (h36 : M 6952 36 ≤ 20400) (hd : 3 ≤ d)
    (hK1 : btw R n v (R 6 n).toNat → K (.inl (some (vI 1))) e M) (hK0 : ¬ btw R n v (R 6 n).toNat → K (.inl (some (vI 0))) e M) :
    ∀ (z k : Nat), (k : Int) + z = R 6 n → ∀ f : Int, (f = 1 ∧ btw R n v k ∨ f = 0 ∧ ¬ btw R n v k) → im_T g d 410 10 [some (.ref 6952), some (vI n), some (vI r), some (vI f), some (vI (M 6971 n + k))] [] e M K := by
  obtain ⟨q1, q2, q3, q4⟩ := (hP n n0 n1).2.2.2.2.2.2 hk
  obtain ⟨kv, v1, v2, v3, v4⟩ := hv
  intro z
  induction z with
  | zero =>
    intro k hkz f hf
    have hkn : k = (R 6 n).toNat := by omega
    refine b_isBetween_10 (by omega) ?_
    rw [q1]
    refine ⟨by constructor <;> omega, by constructor <;> omega, by constructor <;> omega, fun _ => ⟨by omega, ?_⟩, fun w => by omega⟩
    rw [← hkn] at hK1 hK0
    rcases hf with w | w
    · rw [w.1]; exact hK1 w.2
    · rw [w.1]; exact hK0 w.2
  | succ z ih =>
    intro k hkz f hf
    have hstep : M 6971 n + (k : Int) + 1 = M 6971 n + ((k + 1 : Nat) : Int) := by omega
    have hbt : btw R n v (k + 1) ↔ btw R n v k ∨ (R (8 + k) n ≤ v ∧ v ≤ R (12 + k) n) := Iff.rfl
    obtain ⟨l1, l2⟩ := q4 k (by omega)
    obtain ⟨ka, a1, a2, a3, a4⟩ := l1
    obtain ⟨kb, b1, b2, b3, b4⟩ := l2
    have hfi : im_i32 f := by rcases hf with w | w <;> rw [w.1] <;> decide
    refine b_isBetween_10 (by omega) ?_
    rw [q1, hstep]
    refine ⟨by constructor <;> omega, by constructor <;> omega, by constructor <;> omega, fun w => by omega, fun _ => ⟨hfi, fun hne => ?_, fun h0 => ⟨by constructor <;> omega, ?_⟩⟩⟩
    · rcases hf with w | w
      · exact ih (k + 1) (by omega) 1 (Or.inl ⟨rfl, hbt.mpr (Or.inl w.2)⟩)
      · exact absurd w.1 hne
    · have hnb : ¬ btw R n v k := by
        rcases hf with w | w
        · omega
        · exact w.2
      refine c_order a1 v1 a2 v2 (by omega) (by omega) (by omega) (by omega) (by omega) ⟨_, rfl, rfl, by unfold cmpI; (repeat' split) <;> decide, fun hgt => ?_, fun hle => ?_⟩
      · refine ih (k + 1) (by omega) 0 (Or.inr ⟨rfl, fun w => ?_⟩)
        rcases hbt.mp w with w | w
        · exact hnb w
        · have : ¬ v < R (8 + k) n := by omega
          unfold cmpI at hgt; (repeat' split at hgt) <;> omega
      · have hlo : R (8 + k) n ≤ v := by
          apply Decidable.byContradiction
          intro w
          unfold cmpI at hle; rw [if_neg (by omega), if_neg (by omega)] at hle; omega
        refine c_order v1 b1 v2 b2 (by omega) (by omega) (by omega) (by omega) (by omega) ⟨_, rfl, rfl, by unfold cmpI; (repeat' split) <;> decide, fun hgt => ?_, fun hle2 => ?_⟩
        · refine ih (k + 1) (by omega) 0 (Or.inr ⟨rfl, fun w => ?_⟩)
          rcases hbt.mp w with w | w
          · exact hnb w
          · have : ¬ R (12 + k) n < v := by omega
            unfold cmpI at hgt; (repeat' split at hgt) <;> omega
        · have hhi : v ≤ R (12 + k) n := by
            apply Decidable.byContradiction
            intro w
            unfold cmpI at hle2; rw [if_neg (by omega), if_neg (by omega)] at hle2; omega
          exact ih (k + 1) (by omega) 1 (Or.inl ⟨rfl, hbt.mpr (Or.inr ⟨hlo, hhi⟩)⟩)
end RTAKE
