/-- what a run leaves as it was -/
def RU (M M' : im_M) : Prop := (∀ x, x ≠ 6952 → (x < 6955 ∨ 6958 < x) → (x < 7011 ∨ 7018 < x) → (x < 7021 ∨ 7041 < x) → M' x = M x) ∧ (∀ k, k ≠ 7 → k ≠ 8 → k ≠ 83 → k ≠ 84 → k ≠ 85 → k ≠ 89 → k ≠ 93 → k ≠ 99 → k ≠ 100 → k ≠ 101 → k ≠ 103 → k ≠ 104 → k ≠ 110 → k ≠ 116 → k ≠ 122 → k ≠ 124 → M' 6952 k = M 6952 k) ∧ (∀ i, i < M 6952 7 → M' 6955 i = M 6955 i) ∧ M 6952 7 ≤ M' 6952 7
theorem RU.rx {M M1 M2 : im_M} (h : RU M M1) (h' : RX M1 M2) : RU M M2 := ⟨fun x a b c d => (h'.1 x a b c d).trans (h.1 x a b c d), fun k a b c d f i j l n o p q r s t u => (h'.2.1 k a b c f i j o p q r s t u).trans (h.2.1 k a b c d f i j l n o p q r s t u), fun i a => (h'.2.2.1 i (by have := h.2.2.2; omega)).trans (h.2.2.1 i a), by have := h.2.2.2; have := h'.2.2.2; omega⟩
theorem RU.f {M M1 : im_M} (h : RU M M1) {k y : Int} (hk : k = 84 ∨ k = 99 ∨ k = 100 ∨ k = 101 ∨ k = 103 ∨ k = 104 ∨ k = 110) : RU M (im_u M1 6952 k y) := ⟨fun x a b c d => (im_u_ne _ _ _ a).trans (h.1 x a b c d), fun k' a b c d f i j l n o p q r s t u => (im_rdk _ _ _ (by omega)).trans (h.2.1 k' a b c d f i j l n o p q r s t u), fun i a => (im_rdn _ _ _ _ (by decide)).trans (h.2.2.1 i a), by rw [im_rdk _ _ _ (by omega)]; exact h.2.2.2⟩
theorem RU.rf (M : im_M) : RU M M := ⟨fun _ _ _ _ _ => rfl, fun _ _ _ _ _ _ _ _ _ _ _ _ _ _ _ _ _ => rfl, fun _ _ => rfl, Int.le_refl _⟩
/-- where a run was refused -/
def RV (M M' : im_M) (R : Rw) (m : Int) (giv : Bk) (lk : Int) : Prop := RU M M' ∧ M' 6952 102 = lk ∧ (M' 6952 8 = 0 ∨ M' 6952 8 = 1) ∧ (lk = 0 ∨ (lk = 1 ∧ ∀ Γ : Env, Γ.2.2.2.1 = giv → KN M' R m Γ)) ∧ (0 ≤ M' 6952 116 ∧ M' 6952 116 ≤ 60) ∧ (0 ≤ M' 6952 99 ∧ M' 6952 99 ≤ 1000000000000000) ∧ (0 ≤ M' 6952 100 ∧ M' 6952 100 ≤ 1000000000000000)
/-- what a run sets back first -/
def rs0 (M : im_M) : im_M := im_u (im_u (im_u (im_u M 6952 101 0) 6952 104 0) 6952 110 0) 6952 103 0
section RRUN2
variable {g : im_g} {d : Nat} {e : im_E} {K : im_K} {R : Rw} {m : Int} {giv : Bk} {st en lk : Int} {t a b c v : Int → Int}
theorem RT.rv {M0 M : im_M} {s : TS} (h : RT M R m giv st en lk s) (hU : RU M0 M) : RV M0 M R m giv lk := by
  obtain ⟨c1, ⟨c2, c3, c4, c5, ⟨c8, c8'⟩, c9, c9'⟩, c10, c12, ⟨c15, c16, c17⟩, ⟨c18, c19, c20⟩, c21, c22⟩ := h
  refine ⟨hU, c15, c17, ?_, ⟨c18, c19⟩, by rw [c8]; exact c9, by rw [c8']; exact c9'⟩
  rcases c16 with z | z
  · exact Or.inl z
  · exact Or.inr ⟨z.1, fun Γ hg => KN_env z.2 hg⟩
theorem RZ.rv {M0 M M' : im_M} {z y : Int} (h : RZ M M' R m giv lk z) (hU : RU M0 M) (h99 : 0 ≤ M 6952 99 ∧ M 6952 99 ≤ 1000000000000000) (h100 : 0 ≤ M 6952 100 ∧ M 6952 100 ≤ 1000000000000000) : RV M0 (im_u M' 6952 84 y) R m giv lk := by
  obtain ⟨z1, z2, z3, z4, z5, z6⟩ := h
  have e : ∀ k, k ≠ 84 → im_u M' 6952 84 y 6952 k = M' 6952 k := fun k hk => im_rdk _ _ _ hk
  refine ⟨(hU.rx z1).f (Or.inl rfl), by rw [e _ (by decide)]; exact z3, by rw [e _ (by decide)]; exact z4, ?_, by rw [e _ (by decide)]; exact z6, ?_, ?_⟩
  · rcases z5 with w | w
    · exact Or.inl w
    · exact Or.inr ⟨w.1, fun Γ hg => KN_congr (w.2 Γ hg) (fun x a b => im_u_ne _ _ _ (by omega))⟩
  · rw [e _ (by decide), z1.2.1 99 (by decide) (by decide) (by decide) (by decide) (by decide) (by decide) (by decide) (by decide) (by decide) (by decide) (by decide) (by decide) (by decide)]; exact h99
  · rw [e _ (by decide), z1.2.1 100 (by decide) (by decide) (by decide) (by decide) (by decide) (by decide) (by decide) (by decide) (by decide) (by decide) (by decide) (by decide) (by decide)]; exact h100
theorem l_rrun {n0 : Nat} {M0 : im_M} {T e0 P nd0 : Int} (hW : WFP R m) (hT : TP R m e0 giv) (hd : 17 ≤ d) (hn0 : n0 ≤ 40) (hnd : im_i32 nd0) (hP' : P ≤ 1100000) (h46 : M0 6952 46 = n0) (h36 : M0 6952 36 ≤ 20400) (hTM : T ≤ M0 6952 7) (hI : ∀ k, 0 ≤ k → k < (n0 : Int) → IR M0 k (t k) (a k) (b k) (c k) (v k) T) :
    ∀ (n : Nat) (i : Int) (s : TS) (M : im_M), 0 ≤ i → i + n = n0 → RT M R m giv st en lk s → OT s → VN R m s → EB R m e0 s.nd → M 6952 7 + 700 * (e0 - s.nd) + 400 * s.acc.1 ≤ P → RX M0 M →
    (∀ s', insO R giv st en lk t a b c v n i s = .inr s' → ¬ (n0 = 0 ∧ s'.nd = nd0 ∧ s'.cp = 0) → ∀ M', RX M0 M' → RT M' R m giv st en lk s' → OT s' → VN R m s' → EB R m e0 s'.nd → M' 6952 7 + 700 * (e0 - s'.nd) + 400 * s'.acc.1 ≤ P → K (.inl (some (vI 0))) e (im_u M' 6952 84 (M' 6952 99))) →
    (∀ s', insO R giv st en lk t a b c v n i s = .inr s' → (n0 = 0 ∧ s'.nd = nd0 ∧ s'.cp = 0) → ∀ M', RZ M0 M' R m giv lk (-6) → K (.inl (some (vI (-6)))) e (im_u M' 6952 84 (M' 6952 99))) →
    (∀ z, insO R giv st en lk t a b c v n i s = .inl z → z < 0 → ∀ M', RZ M0 M' R m giv lk z → K (.inl (some (vI z))) e (im_u M' 6952 84 (M' 6952 99))) →
    im_T g d 363 102 [some (.ref 6952), none, none, none, none, some (vI nd0), some (vI i)] [] e M K := by
  intro n
  induction n with
  | zero =>
    intro i s M i0 hin hC hO hV hE hP hX hKs hKu hKe
    have e46 : M 6952 46 = n0 := (hX.2.1 46 (by decide) (by decide) (by decide) (by decide) (by decide) (by decide) (by decide) (by decide) (by decide) (by decide) (by decide) (by decide) (by decide)).trans h46
    have h101 := hC.2.2.2.1.2.1
    have h103 := hC.2.2.2.1.2.2
    have h83 : M 6952 83 = s.nd := hC.2.2.2.1.1
    have fin : ¬ (n0 = 0 ∧ s.nd = nd0 ∧ s.cp = 0) → K (.inl (some (vI 0))) e (im_u M 6952 84 (M 6952 99)) := fun hu => hKs s rfl hu M hX hC hO hV hE hP
    refine b_run_102 (by omega) ?_
    rw [e46, h101, h83, h103]
    refine ⟨by constructor <;> omega, fun z => by omega, fun _ => ⟨fun _ hz => ⟨hnd, fun hn hc => ?_⟩, fun hor => fin (fun w => ?_)⟩⟩
    · refine c_refuse h101 (by decide) ⟨rfl, rfl, ?_⟩
      have hfin := hKu s rfl ⟨by omega, hn, hc⟩ _ (hC.rz hX (-6))
      have e101 : im_u M 6952 101 (-6) 6952 101 = -6 := im_rds _ _ _ _
      rw [e101]
      exact hfin
    · rcases hor with z | z | z | z
      · exact z rfl
      · exact z.2 (by omega)
      · exact z.2.2 w.2.1
      · exact z.2.2.2 w.2.2
  | succ n ih =>
    intro i s M i0 hin hC hO hV hE hP hX hKs hKu hKe
    have e46 : M 6952 46 = n0 := (hX.2.1 46 (by decide) (by decide) (by decide) (by decide) (by decide) (by decide) (by decide) (by decide) (by decide) (by decide) (by decide) (by decide) (by decide)).trans h46
    have e36 : M 6952 36 ≤ 20400 := by rw [hX.2.1 36 (by decide) (by decide) (by decide) (by decide) (by decide) (by decide) (by decide) (by decide) (by decide) (by decide) (by decide) (by decide) (by decide)]; exact h36
    have h101 := hC.2.2.2.1.2.1
    have hXT := hX.2.2.2
    have hI1 := (hI i i0 (by omega)).rx hX hTM
    have hex : ∀ z, z < 0 → (∀ M', RZ M0 M' R m giv lk z → K (.inl (some (vI z))) e (im_u M' 6952 84 (M' 6952 99))) → ∀ M', RZ M0 M' R m giv lk z → im_T g d 363 102 [some (.ref 6952), none, none, none, none, some (vI nd0), some (vI (i + 1))] [] e M' K := fun z z0 hk M' Z => by
      have e1 := Z.2.1
      refine c_runX (by constructor <;> omega) (by omega) (by omega) ?_
      rw [e1]
      exact hk M' Z
    have hin1 : insO R giv st en lk t a b c v (n + 1) i s = (match appO R giv st en lk s (t i) (a i) (b i) (c i) (v i) with
      | .inl z => .inl z
      | .inr s1 => match redO R giv st en lk 142 s1 with
        | .inl z => .inl z
        | .inr s2 => insO R giv st en lk t a b c v n (i + 1) s2) := rfl
    rw [hin1] at hKs hKu hKe
    refine b_run_102 (by omega) ?_
    rw [e46, h101]
    refine ⟨by constructor <;> omega, fun _ _ => ?_, fun z => ?_⟩
    · refine c_rapply hW (by omega) hC hO hV hE hP' hP hI1 (by omega) e36 (fun s1 hs1 M1 X1 C1 O1 V1 E1 P1 => ⟨rfl, rfl, ?_⟩) (fun z hz z0 M1 Z1 => ⟨rfl, rfl, ?_⟩)
      · rw [hs1] at hKs hKu hKe
        dsimp only at hKs hKu hKe
        refine c_rreduce hW hT hP' (by omega) C1 O1 V1 E1 P1 (fun s2 hs2' M2 X2 C2 O2 V2 E2 P2 => ⟨rfl, rfl, ?_⟩) (fun z hz z0 M2 Z2 => ⟨rfl, rfl, ?_⟩)
        · rw [hs2'] at hKs hKu hKe
          dsimp only at hKs hKu hKe
          exact ih (i + 1) s2 M2 (by omega) (by omega) C2 O2 V2 E2 P2 ((hX.trans X1).trans X2) hKs hKu hKe
        · rw [hz] at hKe
          exact hex z z0 (hKe z rfl z0) M2 (Z2.pre (hX.trans X1))
      · rw [hz] at hKe
        have e1 := Z1.2.1
        exact c_redX (by omega) (by omega) ⟨rfl, rfl, hex z z0 (hKe z rfl z0) M1 (Z1.pre hX)⟩
    · exfalso
      rcases z with w | w
      · omega
      · exact w.2 rfl
/-- the reference's transaction -/
theorem c_rrun {M : im_M} {n0 : Nat} {T e0 P fr to least st0 en0 : Int} {s : TS} (hW : WFP R m) (hT : TP R m e0 giv) (hd : 18 ≤ d) (hn0 : n0 ≤ 40) (hP' : P ≤ 1100000) (h46 : M 6952 46 = n0) (h36 : M 6952 36 ≤ 20400) (hTM : T ≤ M 6952 7) (hI : ∀ k, 0 ≤ k → k < (n0 : Int) → IR M k (t k) (a k) (b k) (c k) (v k) T) (hC : RT (rs0 M) R m giv st0 en0 lk s.fresh) (hO : OT s) (hV : VN R m s) (hE : EB R m e0 s.nd) (hP : M 6952 7 + 700 * (e0 - s.nd) + 400 * s.acc.1 ≤ P) (hl : M 6952 84 = least) (hl0 : 0 ≤ least ∧ least ≤ 1000000000000000) (hfi : im_i64 fr) (hti : im_i64 to)
    (hKs : ∀ s', runO R giv lk fr to least t a b c v n0 0 s = .inr s' → ∀ M', RU M M' → M' 6952 84 = max fr least → RT M' R m giv (max fr least) to lk s' → OT s' → VN R m s' → EB R m e0 s'.nd → M' 6952 7 + 700 * (e0 - s'.nd) + 400 * s'.acc.1 ≤ P → K (.inl (some (vI 0))) e M')
    (hKe : ∀ z, runO R giv lk fr to least t a b c v n0 0 s = .inl z → z < 0 → ∀ M', RV M M' R m giv lk → K (.inl (some (vI z))) e M') : im_T g d 363 0 [some (.ref 6952), some (vL fr), none, some (vL to), none, none, none] [] e M K := by
  have U0 : RU M (rs0 M) := ((((RU.rf M).f (k := 101) (by omega)).f (k := 104) (by omega)).f (k := 110) (by omega)).f (k := 103) (by omega)
  have hV0 := hC.rv U0
  have eN : ∀ k, k ≠ 101 → k ≠ 104 → k ≠ 110 → k ≠ 103 → rs0 M 6952 k = M 6952 k := fun k a b c d => by
    unfold rs0; rw [im_rdk _ _ _ d, im_rdk _ _ _ c, im_rdk _ _ _ b, im_rdk _ _ _ a]
  have eX : ∀ x, x ≠ 6952 → rs0 M x = M x := fun x a => by
    unfold rs0; rw [im_u_ne _ _ _ a, im_u_ne _ _ _ a, im_u_ne _ _ _ a, im_u_ne _ _ _ a]
  unfold runO at hKs hKe
  have go : im_T g d 363 0 [some (.ref 6952), some (vL fr), none, some (vL to), none, none, none] [] e M K := by
    refine b_run_0 (by omega) ⟨hfi, hti, fun h => ?_, fun h => ?_⟩
    · rw [if_pos (Or.inl h)] at hKe
      exact hKe (-2) rfl (by decide) _ hV0
    · change im_T g (d - 1) 268 0 _ [] e (rs0 M) _
      generalize rs0 M = N at *
      have n84 : N 6952 84 = least := (eN 84 (by decide) (by decide) (by decide) (by decide)).trans hl
      have n83 : N 6952 83 = s.nd := hC.2.2.2.1.1
      have n7 : N 6952 7 = M 6952 7 := eN 7 (by decide) (by decide) (by decide) (by decide)
      refine c_isIn hfi (by decide) (by decide) (fun hf => ⟨_, rfl, rfl, by decide, fun z => absurd z (by decide), fun _ => ?_⟩) (fun hf => ⟨_, rfl, rfl, by decide, fun _ => ?_, fun z => absurd rfl z⟩)
      · refine c_isIn hti (by decide) (by decide) (fun ht => ⟨_, rfl, rfl, by decide, ⟨fun _ hlt => ?_, fun z => absurd z (by decide)⟩, fun x hx => ?_⟩) (fun ht => ⟨_, rfl, rfl, by decide, ⟨fun z => absurd rfl z, fun _ => ?_⟩, fun x hx => ?_⟩)
        · rw [n84] at hlt
          rw [if_neg (by omega), if_pos hlt] at hKe
          exact hKe (-3) rfl (by decide) _ hV0
        · rw [n84] at hx
          have hx' : x = max fr least ∧ least ≤ to := by omega
          obtain ⟨hxm, hlt⟩ := hx'
          clear hx
          rw [if_neg (by omega), if_neg (by omega), ← hxm] at hKs hKe
          have hxr : 0 ≤ x ∧ x ≤ 1000000000000000 := by omega
          have hto : 0 ≤ to ∧ to ≤ 1000000000000000 := by omega
          refine ⟨by constructor <;> omega, ?_⟩
          rw [n83]
          have C1 : RT (im_u (im_u N 6952 99 x) 6952 100 to) R m giv x to lk s.fresh := hC.tim (fun y a => (im_u_ne _ _ _ a).trans (im_u_ne _ _ _ a)) (fun k _ a b => (im_rdk _ _ _ b).trans (im_rdk _ _ _ a)) ((im_rdk _ _ _ (by decide)).trans (im_rds _ _ _ _)) (im_rds _ _ _ _) hxr hto
          have U1 : RU M (im_u (im_u N 6952 99 x) 6952 100 to) := (U0.f (k := 99) (by omega)).f (k := 100) (by omega)
          have k1 : ∀ k, k ≠ 99 → k ≠ 100 → im_u (im_u N 6952 99 x) 6952 100 to 6952 k = N 6952 k := fun k a b => (im_rdk _ _ _ b).trans (im_rdk _ _ _ a)
          have x1 : ∀ y, y ≠ 6952 → im_u (im_u N 6952 99 x) 6952 100 to y = N y := fun y a => (im_u_ne _ _ _ a).trans (im_u_ne _ _ _ a)
          have p99 : im_u (im_u N 6952 99 x) 6952 100 to 6952 99 = x := (im_rdk _ _ _ (by decide)).trans (im_rds _ _ _ _)
          have p100 : im_u (im_u N 6952 99 x) 6952 100 to 6952 100 = to := im_rds _ _ _ _
          generalize im_u (im_u N 6952 99 x) 6952 100 to = M1 at *
          have e7 : M1 6952 7 = M 6952 7 := (k1 7 (by decide) (by decide)).trans n7
          have e46 : M1 6952 46 = n0 := ((k1 46 (by decide) (by decide)).trans (eN 46 (by decide) (by decide) (by decide) (by decide))).trans h46
          have e36 : M1 6952 36 ≤ 20400 := by rw [k1 36 (by decide) (by decide), eN 36 (by decide) (by decide) (by decide) (by decide)]; exact h36
          have exs : ∀ y, y ≠ 6952 → M1 y = M y := fun y a => (x1 y a).trans (eX y a)
          have hI1 : ∀ k, 0 ≤ k → k < (n0 : Int) → IR M1 k (t k) (a k) (b k) (c k) (v k) T := fun k k0 kn => by
            have hh := hI k k0 kn
            unfold IR at hh ⊢
            rw [exs 6979 (by decide), exs 6980 (by decide), exs 6981 (by decide), exs 6982 (by decide), exs 6983 (by decide)]
            exact ⟨hh.1, hh.2.1, hh.2.2.1, fun z => ⟨(hh.2.2.2.1 z).1, (hh.2.2.2.1 z).2.1, rnp_congr (hh.2.2.2.1 z).2.2 (fun j _ => by rw [exs 6955 (by decide)]) (Int.le_refl _)⟩, hh.2.2.2.2⟩
          have hnd : im_i32 s.nd := by have := hV.1; have := hV.2.1; have := hW.2.1; constructor <;> omega
          have rv : ∀ {z : Int} {M2 : im_M}, RZ M1 M2 R m giv lk z → RV M (im_u M2 6952 84 (M2 6952 99)) R m giv lk := fun {z M2} Z => Z.rv U1 (by rw [p99]; exact hxr) (by rw [p100]; exact hto)
          refine c_rreduce (e0 := e0) (P := P) hW hT hP' (by omega) C1 hO hV hE (by rw [e7]; exact hP) (fun s1 hs1 M2 X2 C2 O2 V2 E2 P2 => ⟨rfl, rfl, ?_⟩) (fun z hz z0 M2 Z2 => ⟨rfl, rfl, ?_⟩)
          · rw [hs1] at hKs hKe
            dsimp only at hKs hKe
            refine l_rrun (M0 := M1) (T := T) (n0 := n0) hW hT (by omega) hn0 hnd hP' e46 e36 (by omega) hI1 n0 0 s1 M2 (Int.le_refl _) (by omega) C2 O2 V2 E2 P2 X2 (fun s' hs' hu M' X' C' O' V' E' P' => ?_) (fun s' hs' hu M' Z' => ?_) (fun z hz z0 M' Z' => ?_)
            · rw [hs'] at hKs
              dsimp only at hKs
              rw [if_neg hu] at hKs
              have h99 : M' 6952 99 = x := C'.2.1.2.2.2.2.1.1
              have h100 : M' 6952 100 = to := C'.2.1.2.2.2.2.1.2
              rw [h99]
              exact hKs s' rfl _ ((U1.rx X').f (Or.inl rfl)) (im_rds _ _ _ _) (C'.tim (fun y a => im_u_ne _ _ _ a) (fun k a _ _ => im_rdk _ _ _ a) ((im_rdk _ _ _ (by decide)).trans h99) ((im_rdk _ _ _ (by decide)).trans h100) hxr hto) O' V' E' (by rw [im_rdk _ _ _ (by decide)]; exact P')
            · rw [hs'] at hKe
              dsimp only at hKe
              rw [if_pos hu] at hKe
              exact hKe (-6) rfl (by decide) _ (rv Z')
            · rw [hz] at hKe
              exact hKe z rfl z0 _ (rv Z')
          · rw [hz] at hKe
            have e1 := Z2.2.1
            refine c_runX (by decide) (by omega) (by omega) ?_
            rw [e1]
            exact hKe z rfl z0 _ (rv Z2)
        · rw [if_pos (by omega)] at hKe
          exact hKe (-2) rfl (by decide) _ hV0
        · exfalso
          rcases hx with w | w
          · exact w.1 rfl
          · exact w.1 rfl
      · rw [if_pos (by omega)] at hKe
        exact hKe (-2) rfl (by decide) _ hV0
  exact go
end RRUN2
