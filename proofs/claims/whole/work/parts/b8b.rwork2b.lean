section RWORK2B
variable {g : im_g} {d : Nat} {e : im_E} {M : im_M} {K : im_K} {R : Rw} {m T : Int} {Γ : Env} {n p q n9 mk : Int}
/-- of one part -/
theorem w_un {x : Int} (hP : RP M R m) (n0 : 0 ≤ n) (n1 : n < m) (hm : m ≤ 5000) (hk : R 0 n = 7 ∨ R 0 n = 19) (hS : ES M n p (q + 1) 1) (h0 : 0 ≤ M 6952 7) (h1 : M 6952 7 + 310 ≤ 1100000) (hv : R 0 n = 7 → rnp M 0 (M 6952 7) (M 7036 q) x) (ho : R 0 n = 19 → M 7036 q = x ∧ (x = 0 ∨ x = 1)) (hp : 0 ≤ p ∧ p < 300) (hq : 0 ≤ q ∧ q < 300) (hd : 6 ≤ d)
    (hK : ∀ M', EF p q M M' → M' 6952 122 = p → M' 6952 124 = q + 1 → M' 6952 8 = 0 → M' 6952 7 ≤ M 6952 7 + 302 → (R 0 n = 7 → rnp M' 0 (M' 6952 7) (M' 7036 q) (-x) ∧ M 6952 7 ≤ M' 7036 q) → (R 0 n = 19 → M' 7036 q = 1 - x) → im_T g d 379 66 [some (.ref 6952), some (vI n9), some (vI mk), none, none, none] [] e M' K) :
    im_T g d 379 66 [some (.ref 6952), some (vI n9), some (vI mk), none, none, none] [] e M K := by
  obtain ⟨s1, s2, s3, s4, s5⟩ := hS
  obtain ⟨q1, _⟩ := hP n n0 n1
  have hkv : Wr (vkd (R 0 n) ∨ okd (R 0 n)) := by
    rcases hk with z | z
    · exact Or.inl (by unfold vkd; omega)
    · exact Or.inr (by unfold okd; omega)
  have hl : Wr (¬ lfk (R 0 n)) := by
    show ¬ lfk (R 0 n)
    rcases hk with z | z <;> rw [z] <;> unfold lfk <;> omega
  have k32 : Wr (¬ kR (R 0 n) (R 3 n) = 32) := fun z => by have := (kR_ne hkv).1.mp z; omega
  have k23 : Wr (kR (R 0 n) (R 3 n) = 23 ↔ R 0 n = 7) := (kR_ne hkv).2.1
  have k42 : Wr (kR (R 0 n) (R 3 n) = 42 ↔ R 0 n = 19) := (kR_ne hkv).2.2
  replace hk : Wr (R 0 n = 7 ∨ R 0 n = 19) := hk
  replace hv : Wr (R 0 n = 7 → rnp M 0 (M 6952 7) (M 7036 q) x) := hv
  replace ho : Wr (R 0 n = 19 → M 7036 q = x ∧ (x = 0 ∨ x = 1)) := ho
  refine b_work_66 (by omega) ⟨fun _ _ => b_workNext_0 (by omega) ?_, fun z => by omega⟩
  rw [s1, show p + 1 - 1 = p by omega, s2, q1, s3]
  refine ⟨by constructor <;> omega, by constructor <;> omega, c_risLeaf hkv (fun z => absurd z hl) (fun _ => ⟨_, rfl, rfl, by decide, fun _ => ?_, fun z => absurd rfl z⟩)⟩
  rw [s1, show p + 1 - 1 = p by omega, s3, s4, show q + 1 - 1 = q by omega]
  have hb : EF p q M (im_u (im_u M 7035 p (1 + 1)) 6952 122 p) := ((EF.rf p q M).pl (Or.inr rfl) (Int.le_refl _) _).u122 122 p (Or.inl rfl)
  have f122 : im_u (im_u M 7035 p (1 + 1)) 6952 122 p 6952 122 = p := im_rds _ _ _ _
  have ff : ∀ k, k ≠ 122 → im_u (im_u M 7035 p (1 + 1)) 6952 122 p 6952 k = M 6952 k := fun k h => by rw [im_rdk _ _ _ h, im_rdn _ _ _ _ (by decide)]
  have fa : ∀ x, x ≠ 6952 → x ≠ 7035 → im_u (im_u M 7035 p (1 + 1)) 6952 122 p x = M x := fun x a b => by rw [im_u_ne _ _ _ a, im_u_ne _ _ _ b]
  generalize im_u (im_u M 7035 p (1 + 1)) 6952 122 p = M1 at hb f122 ff fa ⊢
  refine ⟨by constructor <;> omega, by constructor <;> omega, ⟨fun hs0 => ⟨fun h32 h23 h42 => ?_, fun h32 => absurd h32 k32⟩, fun hs0 => absurd hs0 (by decide)⟩, fun _ => ⟨by constructor <;> omega, fun h23 => ?_, fun h23 => ?_⟩⟩
  · exfalso
    rcases hk with z | z
    · exact h23 (k23.mpr z)
    · exact h42 (k42.mpr z)
  · have hk19 : R 0 n = 19 := by
      rcases hk with z | z
      · exact absurd (k23.mpr z) h23
      · exact z
    obtain ⟨o1, o2⟩ := ho hk19
    have ox : -1 ≤ x ∧ x ≤ 1 := by rcases o2 with z | z <;> omega
    rw [o1]
    clear o2
    refine ⟨by constructor <;> omega, by constructor <;> omega, rfl, rfl, hK _ (hb.rsl (Int.le_refl _) _) ?_ ?_ ?_ ?_ (fun z => by omega) (fun _ => im_rds _ _ _ _)⟩
    · rw [im_rdn _ _ _ _ (by decide)]; exact f122
    · rw [im_rdn _ _ _ _ (by decide), ff 124 (by decide)]; exact s4
    · rw [im_rdn _ _ _ _ (by decide), ff 8 (by decide)]; exact s5
    · rw [im_rdn _ _ _ _ (by decide), ff 7 (by decide)]; omega
  · have hk7 : R 0 n = 7 := k23.mp h23
    obtain ⟨k, v1, v2, v3, v4⟩ := hv hk7
    refine ⟨by constructor <;> omega, ?_⟩
    have f7 := ff 7 (by decide)
    have v1' : rn (M1 6955) (M 7036 q) k x := by rw [fa 6955 (by decide) (by decide)]; exact v1
    refine c_minus v1' v2 (by omega) (by omega) (by omega) (fun M2 z1 z2 z3 => ⟨_, rfl, rfl, by constructor <;> omega, rfl, rfl, ?_⟩)
    have hX : EF p q M M2 := hb.trans (EF.rf2 (z1.mono (S' := []) (F' := [7, 8]) (fun _ z => z) (fun j hj => by simp at hj; simp [hj]) (Int.le_refl _)) (fun _ z => by cases z) (by omega)) (Int.le_refl _) (Int.le_refl _)
    refine hK _ (hX.rsl (Int.le_refl _) _) ?_ ?_ ?_ ?_ (fun _ => ?_) (fun z => by omega)
    · rw [im_rdn _ _ _ _ (by decide), z1.2.1 122 (by decide)]; exact f122
    · rw [im_rdn _ _ _ _ (by decide), z1.2.1 124 (by decide), ff 124 (by decide)]; exact s4
    · rw [im_rdn _ _ _ _ (by decide), z1.2.1 8 (by decide), ff 8 (by decide)]; exact s5
    · rw [im_rdn _ _ _ _ (by decide)]; omega
    · rw [im_rds, im_rdn _ _ _ _ (by decide)]
      exact ⟨⟨k, rn_congr z2 (fun i _ _ => by rw [im_rdn _ _ _ _ (by decide)]), by omega, by omega, v4⟩, by omega⟩
/-- of two parts -/
theorem w_join {x y : Int} (hP : RP M R m) (n0 : 0 ≤ n) (n1 : n < m) (hm : m ≤ 5000) (hk : vkd (R 0 n) ∨ okd (R 0 n)) (hl : ¬ lfk (R 0 n)) (hk2 : R 0 n ≠ 16 ∧ R 0 n ≠ 7 ∧ R 0 n ≠ 19) (hS : ES M n p (q + 1 + 1) 2) (h0 : 0 ≤ M 6952 7) (h1 : M 6952 7 + 650 ≤ 1100000) (hv : R 0 n ≠ 17 → R 0 n ≠ 18 → rnp M 0 (M 6952 7) (M 7036 q) x ∧ rnp M 0 (M 6952 7) (M 7036 (q + 1)) y) (ho : R 0 n = 17 ∨ R 0 n = 18 → (M 7036 q = x ∧ M 7036 (q + 1) = y) ∧ (x = 0 ∨ x = 1) ∧ (y = 0 ∨ y = 1)) (hp : 0 ≤ p ∧ p < 300) (hq : 0 ≤ q ∧ q < 300) (hd : 8 ≤ d)
    (hK : ∀ M', EF p q M M' → M' 6952 122 = p → M' 6952 124 = q + 1 → M' 6952 7 ≤ M 6952 7 + 620 → (∀ w, opv (R 0 n) x y = some w → M' 6952 8 = 0 ∧ (vkd (R 0 n) → rnp M' 0 (M' 6952 7) (M' 7036 q) w ∧ M 6952 7 ≤ M' 7036 q) ∧ (okd (R 0 n) → M' 7036 q = w)) → (opv (R 0 n) x y = none → M' 6952 8 = 1) → im_T g d 379 66 [some (.ref 6952), some (vI n9), some (vI mk), none, none, none] [] e M' K) :
    im_T g d 379 66 [some (.ref 6952), some (vI n9), some (vI mk), none, none, none] [] e M K := by
  obtain ⟨s1, s2, s3, s4, s5⟩ := hS
  obtain ⟨q1, _⟩ := hP n n0 n1
  have hcase : Wr ((8 ≤ R 0 n ∧ R 0 n ≤ 11 ∧ R 0 n ≠ 17 ∧ R 0 n ≠ 18 ∧ ¬ okd (R 0 n)) ∨ ((17 ≤ R 0 n ∧ R 0 n ≤ 18 ∨ 21 ≤ R 0 n ∧ R 0 n ≤ 25) ∧ ¬ vkd (R 0 n) ∧ (R 0 n ≤ 18 → R 0 n = 17 ∨ R 0 n = 18) ∧ (21 ≤ R 0 n → R 0 n ≠ 17 ∧ R 0 n ≠ 18))) := by
    show _ ∨ _
    unfold lfk at hl; unfold vkd okd at hk ⊢
    clear ho hv
    generalize R 0 n = k at *
    omega
  have k32 : Wr (¬ kR (R 0 n) (R 3 n) = 32) := fun z => hk2.1 ((kR_ne hk).1.mp z)
  have k23 : Wr (¬ kR (R 0 n) (R 3 n) = 23) := fun z => hk2.2.1 ((kR_ne hk).2.1.mp z)
  have k42 : Wr (¬ kR (R 0 n) (R 3 n) = 42) := fun z => hk2.2.2 ((kR_ne hk).2.2.mp z)
  replace hk : Wr (vkd (R 0 n) ∨ okd (R 0 n)) := hk
  replace hl : Wr (¬ lfk (R 0 n)) := hl
  clear hk2
  replace hv : Wr (R 0 n ≠ 17 → R 0 n ≠ 18 → rnp M 0 (M 6952 7) (M 7036 q) x ∧ rnp M 0 (M 6952 7) (M 7036 (q + 1)) y) := hv
  replace ho : Wr (R 0 n = 17 ∨ R 0 n = 18 → (M 7036 q = x ∧ M 7036 (q + 1) = y) ∧ (x = 0 ∨ x = 1) ∧ (y = 0 ∨ y = 1)) := ho
  refine b_work_66 (by omega) ⟨fun _ _ => b_workNext_0 (by omega) ?_, fun z => by omega⟩
  rw [s1, show p + 1 - 1 = p by omega, s2, q1, s3]
  refine ⟨by constructor <;> omega, by constructor <;> omega, c_risLeaf hk (fun z => absurd z hl) (fun _ => ⟨_, rfl, rfl, by decide, fun _ => ?_, fun z => absurd rfl z⟩)⟩
  rw [s1, show p + 1 - 1 = p by omega, s3, s4, show q + 1 + 1 - 1 = q + 1 by omega, show q + 1 - 1 = q by omega]
  have hb : EF p q M (im_u (im_u (im_u M 7035 p (2 + 1)) 6952 122 p) 6952 124 (q + 1)) := (((EF.rf p q M).pl (Or.inr rfl) (Int.le_refl _) _).u122 122 p (Or.inl rfl)).u122 124 _ (Or.inr rfl)
  have f124 : im_u (im_u (im_u M 7035 p (2 + 1)) 6952 122 p) 6952 124 (q + 1) 6952 124 = q + 1 := im_rds _ _ _ _
  have f122 : im_u (im_u (im_u M 7035 p (2 + 1)) 6952 122 p) 6952 124 (q + 1) 6952 122 = p := by rw [im_rdk _ _ _ (by decide), im_rds]
  have ff : ∀ k, k ≠ 122 → k ≠ 124 → im_u (im_u (im_u M 7035 p (2 + 1)) 6952 122 p) 6952 124 (q + 1) 6952 k = M 6952 k := fun k h h' => by rw [im_rdk _ _ _ h', im_rdk _ _ _ h, im_rdn _ _ _ _ (by decide)]
  have fa : ∀ x, x ≠ 6952 → x ≠ 7035 → im_u (im_u (im_u M 7035 p (2 + 1)) 6952 122 p) 6952 124 (q + 1) x = M x := fun x a b => by rw [im_u_ne _ _ _ a, im_u_ne _ _ _ a, im_u_ne _ _ _ b]
  generalize im_u (im_u (im_u M 7035 p (2 + 1)) 6952 122 p) 6952 124 (q + 1) = M1 at hb f122 f124 ff fa ⊢
  have f7 := ff 7 (by decide) (by decide)
  have f8 : M1 6952 8 = 0 := (ff 8 (by decide) (by decide)).trans s5
  have f55 := fa 6955 (by decide) (by decide)
  refine ⟨by constructor <;> omega, by constructor <;> omega, ⟨fun hs0 => ⟨fun h32 h23 h42 => ⟨fun hs1 => ⟨by constructor <;> omega, by constructor <;> omega, by constructor <;> omega, by constructor <;> omega, ?_⟩, fun hs1 => absurd hs1 (by decide)⟩, fun h32 => absurd h32 k32⟩, fun hs0 => absurd hs0 (by decide)⟩, fun z => ?_⟩
  · rcases hcase with ⟨v8, v11, v17, v18, vo⟩ | ⟨hko, nv, h18, h21⟩
    · obtain ⟨v1, v2⟩ := hv v17 v18
      refine c_joinV ⟨v8, v11⟩ (rnp_congr (M' := M1) v1 (fun i _ => by rw [f55]) (by omega)) (rnp_congr (M' := M1) v2 (fun i _ => by rw [f55]) (by omega)) (by omega) f8 (by omega) (fun M2 r z1 z2 z3 z4 z5 z6 z7 => ⟨_, rfl, rfl, z6, rfl, rfl, ?_⟩)
      have hX : EF p q M M2 := hb.trans (EF.rf2 z1 (fun a ha => by simp at ha; omega) z2) (Int.le_refl _) (Int.le_refl _)
      refine hK _ (hX.rsl (Int.le_refl _) _) ?_ ?_ ?_ (fun w hw => ⟨?_, fun _ => ?_, fun z => absurd z vo⟩) (fun hw => ?_)
      · rw [im_rdn _ _ _ _ (by decide), z1.2.1 122 (by decide)]; exact f122
      · rw [im_rdn _ _ _ _ (by decide), z1.2.1 124 (by decide)]; exact f124
      · rw [im_rdn _ _ _ _ (by decide)]; omega
      · rw [im_rdn _ _ _ _ (by decide)]; exact (z4 w hw).1
      · rw [im_rds, im_rdn _ _ _ _ (by decide)]
        exact ⟨rnp_congr (z4 w hw).2 (fun i _ => by rw [im_rdn _ _ _ _ (by decide)]) (Int.le_refl _), by omega⟩
      · rw [im_rdn _ _ _ _ (by decide)]; exact z5 hw
    · replace hko : Wr (17 ≤ R 0 n ∧ R 0 n ≤ 18 ∨ 21 ≤ R 0 n ∧ R 0 n ≤ 25) := hko
      replace h18 : Wr (R 0 n ≤ 18 → R 0 n = 17 ∨ R 0 n = 18) := h18
      replace h21 : Wr (21 ≤ R 0 n → R 0 n ≠ 17 ∧ R 0 n ≠ 18) := h21
      refine c_joinO (w1 := x) (w2 := y) hko (fun z => ho (h18 z)) (fun z => ?_) (by omega) (by omega) (fun w hw h01 => ⟨_, rfl, rfl, by rcases h01 with z | z <;> rw [z] <;> decide, rfl, rfl, ?_⟩)
      · obtain ⟨v1, v2⟩ := hv (h21 z).1 (h21 z).2
        exact ⟨rnp_congr (M' := M1) v1 (fun i _ => by rw [f55]) (by omega), rnp_congr (M' := M1) v2 (fun i _ => by rw [f55]) (by omega)⟩
      · refine hK _ (hb.rsl (Int.le_refl _) _) ?_ ?_ ?_ (fun w' hw' => ⟨?_, fun z => absurd z nv, fun _ => ?_⟩) (fun hw' => by rw [hw] at hw'; cases hw')
        · rw [im_rdn _ _ _ _ (by decide)]; exact f122
        · rw [im_rdn _ _ _ _ (by decide)]; exact f124
        · rw [im_rdn _ _ _ _ (by decide)]; omega
        · rw [im_rdn _ _ _ _ (by decide)]; exact f8
        · rw [im_rds]
          rw [hw] at hw'
          injection hw'
  · exfalso
    rcases z with z | z
    · exact k23 z.2.2
    · exact k42 z.2.2.2
end RWORK2B
