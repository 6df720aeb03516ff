/-! ABOUT on the reference -/
/-- what is seen so far -/
def sQ (M : im_M) (κ : Int → Option (Int × Int)) (r : Int) (j : Nat) : Prop := M 6952 60 = dC κ r j ∧ ∀ a b : Int, (∃ k, 0 ≤ k ∧ k < M 6952 60 ∧ M 6989 k = a ∧ M 6990 k = b) ↔ ∃ x, r ≤ x ∧ x < r + j ∧ κ x = some (a, b)
def aF (M0 M : im_M) : Prop := (∀ x, x ≠ 6952 → x ≠ 6989 → x ≠ 6990 → M x = M0 x) ∧ (∀ k, k ≠ 60 → M 6952 k = M0 6952 k)
theorem aF.rf (M : im_M) : aF M M := ⟨fun _ _ _ _ => rfl, fun _ _ => rfl⟩
theorem aF.trans {M M1 M2 : im_M} (h : aF M M1) (h' : aF M1 M2) : aF M M2 := ⟨fun x a b c => (h'.1 x a b c).trans (h.1 x a b c), fun k a => (h'.2 k a).trans (h.2 k a)⟩
theorem dC_s (κ : Int → Option (Int × Int)) (r : Int) (j : Nat) : dC κ r (j + 1) = dC κ r j + ifq (nwQ κ r (r + j)) 1 0 := rfl
/-- a node without one -/
theorem sQ_no {M : im_M} {κ : Int → Option (Int × Int)} {r : Int} {j : Nat} (h : sQ M κ r j) (hk : κ (r + j) = none) : sQ M κ r (j + 1) := by
  obtain ⟨h1, h2⟩ := h
  refine ⟨by rw [dC_s, ifq_neg (fun z => z.1 hk), Int.add_zero]; exact h1, fun a b => (h2 a b).trans ⟨fun ⟨x, x1, x2, x3⟩ => ⟨x, x1, by omega, x3⟩, fun ⟨x, x1, x2, x3⟩ => ⟨x, x1, ?_, x3⟩⟩⟩
  apply Decidable.byContradiction
  intro hn
  have : x = r + j := by omega
  rw [this, hk] at x3; cases x3
theorem kRP5 {k a : Int} (h : knd k) (h31 : k ≠ 31) (ha : k = 1 → a = 0 ∨ a = 1) : kR k a = 5 ↔ k = 3 := by
  have hP := kR_f h h31 ha
  refine ⟨fun z => ?_, hP.2.2.1⟩
  have hk : (0 ≤ k ∧ k ≤ 31) ∨ k = 34 ∨ k = 35 := h
  unfold kR at z
  clear hP
  (repeat' split at z) <;> omega
theorem kRP21 {k a : Int} (h : knd k) (h31 : k ≠ 31) (ha : k = 1 → a = 0 ∨ a = 1) : kR k a = 21 ↔ k = 35 := by
  have hP := kR_f h h31 ha
  refine ⟨fun z => ?_, hP.2.2.2.2.2.2⟩
  have hk : (0 ≤ k ∧ k ≤ 31) ∨ k = 34 ∨ k = 35 := h
  unfold kR at z
  clear hP
  (repeat' split at z) <;> omega
theorem kRP8 {k a : Int} (h : knd k) (h31 : k ≠ 31) (ha : k = 1 → a = 0 ∨ a = 1) : (kR k a = 8 ↔ k = 28) ∧ (kR k a = 3 ↔ (k = 1 ∧ a = 1)) := by
  have hk : (0 ≤ k ∧ k ≤ 31) ∨ k = 34 ∨ k = 35 := h
  unfold kR
  refine ⟨⟨fun z => ?_, fun z => ?_⟩, ⟨fun z => ?_, fun z => ?_⟩⟩
  · (repeat' split at z) <;> omega
  · rw [if_neg (by omega), if_neg (by omega), if_neg (by omega), if_neg (by omega), if_neg (by omega), if_pos (by omega)]; omega
  · by_cases c : k = 1
    · rw [if_neg (by omega), if_pos c] at z; exact ⟨c, by omega⟩
    · exfalso
      (repeat' split at z) <;> omega
  · rw [if_neg (by omega), if_pos z.1]; omega
section ABOUTR
variable {g : im_g} {d : Nat} {e : im_E} {M : im_M} {K : im_K} {R : Rw} {m : Int}
theorem l_see {a b : Int} (h60 : 0 ≤ M 6952 60 ∧ M 6952 60 < 1100) (ha : im_i64 a) (hb : im_i64 b) (hK1 : (∃ k, 0 ≤ k ∧ k < M 6952 60 ∧ M 6989 k = a ∧ M 6990 k = b) → K (.inl none) e M)
    (hK0 : ¬ (∃ k, 0 ≤ k ∧ k < M 6952 60 ∧ M 6989 k = a ∧ M 6990 k = b) → K (.inl none) e (im_u (im_u (im_u M 6989 (M 6952 60) a) 6990 (M 6952 60) b) 6952 60 (M 6952 60 + 1))) :
    ∀ (j : Nat) (k p : Int), k + j = M 6952 60 → 0 ≤ k → (p = 0 ∨ p = 1) → (p = 1 ↔ ∃ x, 0 ≤ x ∧ x < k ∧ M 6989 x = a ∧ M 6990 x = b) → im_T g d 331 6 [some (.ref 6952), some (vL a), none, some (vL b), none, some (vI p), some (vI k)] [] e M K := by
  have fin : ∀ (k p : Int), k ≤ M 6952 60 → (p = 0 ∨ p = 1) → (p = 1 → ∃ x, 0 ≤ x ∧ x < k ∧ M 6989 x = a ∧ M 6990 x = b) → (p = 0 → ¬ ∃ x, 0 ≤ x ∧ x < M 6952 60 ∧ M 6989 x = a ∧ M 6990 x = b) → (im_i32 p) ∧ ((¬ p = 0 → K (.inl none) e M) ∧ (p = 0 → (0 ≤ (M 6952 60) ∧ (M 6952 60) < 1100) ∧ (im_i64 a) ∧ (im_i64 b) ∧ (im_i32 ((M 6952 60) + 1)) ∧ K (.inl none) e (im_u (im_u (im_u M 6989 (M 6952 60) a) 6990 (M 6952 60) b) 6952 60 ((M 6952 60) + 1)))) := by
    intro k p hk hp h1 h0
    refine ⟨by rcases hp with z | z <;> rw [z] <;> decide, fun z => ?_, fun z => ⟨h60, ha, hb, by constructor <;> omega, hK0 (h0 z)⟩⟩
    obtain ⟨x, x0, x1, x2⟩ := h1 (hp.resolve_left z)
    exact hK1 ⟨x, x0, by omega, x2⟩
  intro j
  induction j with
  | zero =>
    intro k p hk k0 hp hiff
    have ek : k = M 6952 60 := by omega
    refine b_see_6 ⟨by constructor <;> omega, fun z => by omega, fun z => by omega, fun _ => fin k p (by omega) hp hiff.mp (fun z hx => ?_)⟩
    rw [← ek] at hx
    have := hiff.mpr hx
    omega
  | succ j ih =>
    intro k p hk k0 hp hiff
    by_cases hp1 : p = 1
    · exact b_see_6 ⟨by constructor <;> omega, fun _ => ⟨by rw [hp1]; decide, fun z => by omega⟩, fun z => by omega, fun _ => fin k p (by omega) hp hiff.mp (fun z => by omega)⟩
    · have hp0 : p = 0 := by omega
      have hno : ¬ ∃ x, 0 ≤ x ∧ x < k ∧ M 6989 x = a ∧ M 6990 x = b := fun z => hp1 (hiff.mpr z)
      refine b_see_6 ⟨by constructor <;> omega, fun _ => ⟨by rw [hp0]; decide, fun _ => ⟨⟨by omega, by omega⟩, ha, fun e1 => ⟨hb, fun e2 => ih (k + 1) 1 (by omega) (by omega) (Or.inr rfl) ⟨fun _ => ⟨k, k0, by omega, e1, e2⟩, fun _ => rfl⟩⟩⟩⟩, fun hor => ih (k + 1) 0 (by omega) (by omega) (Or.inl rfl) ⟨fun z => absurd z (by decide), fun ⟨x, x0, x1, x2, x3⟩ => ?_⟩, fun z => by omega⟩
      by_cases c : x = k
      · subst c
        rcases hor with q | q
        · exact absurd x2 q.2.2
        · exact absurd x3 q.2.2.2
      · exact absurd ⟨x, x0, by omega, x2, x3⟩ hno
/-- a node with one -/
theorem c_seeQ {κ : Int → Option (Int × Int)} {r a b : Int} {j : Nat} (hs : sQ M κ r j) (hj : j < 1100) (ha : im_i64 a) (hb : im_i64 b) (hk : κ (r + j) = some (a, b)) (hK : ∀ M', aF M M' → sQ M' κ r (j + 1) → K (.inl none) e M') : im_T g d 331 0 [some (.ref 6952), some (vL a), none, some (vL b), none, none, none] [] e M K := by
  obtain ⟨h1, h2⟩ := id hs
  have hb' := dC_b κ r j
  refine b_see_0 (l_see ⟨by omega, by omega⟩ ha hb (fun hx => hK M (aF.rf M) ⟨?_, fun a' b' => ?_⟩) (fun hx => hK _ ⟨fun x p q s => ?_, fun k p => ?_⟩ ⟨?_, fun a' b' => ?_⟩) (M 6952 60).toNat 0 0 (by omega) (Int.le_refl _) (Or.inl rfl) ⟨fun z => absurd z (by decide), fun ⟨x, x0, x1, _⟩ => by omega⟩)
  · obtain ⟨x, x1, x2, x3⟩ := (h2 a b).mp hx
    rw [dC_s, ifq_neg (fun z => z.2 x x1 x2 (by rw [x3, hk])), Int.add_zero]; exact h1
  · refine (h2 a' b').trans ⟨fun ⟨x, x1, x2, x3⟩ => ⟨x, x1, by omega, x3⟩, fun ⟨x, x1, x2, x3⟩ => ?_⟩
    by_cases c : x = r + j
    · rw [c, hk] at x3
      injection x3 with x3
      injection x3 with e1 e2
      obtain ⟨y, y1, y2, y3⟩ := (h2 a b).mp hx
      exact ⟨y, y1, y2, by rw [y3, e1, e2]⟩
    · exact ⟨x, x1, by omega, x3⟩
  · rw [im_u_ne _ _ _ p, im_u_ne _ _ _ s, im_u_ne _ _ _ q]
  · rw [im_rdk _ _ _ p, im_rdn _ _ _ _ (by decide), im_rdn _ _ _ _ (by decide)]
  · have hn : nwQ κ r (r + j) := ⟨(by rw [hk]; intro z; cases z), fun x x1 x2 z => hx ((h2 a b).mpr ⟨x, x1, x2, by rw [z, hk]⟩)⟩
    rw [im_rds, dC_s, ifq_pos hn]; omega
  · rw [im_rds]
    refine ⟨fun ⟨k, k0, k1, k2, k3⟩ => ?_, fun ⟨x, x1, x2, x3⟩ => ?_⟩
    · rw [im_rdn _ _ _ _ (by decide), im_rdn _ _ _ _ (by decide), im_rdx] at k2
      rw [im_rdn _ _ _ _ (by decide), im_rdx, im_rdn _ _ _ _ (by decide)] at k3
      by_cases c : k = M 6952 60
      · rw [if_pos c] at k2 k3
        exact ⟨r + j, by omega, by omega, by rw [hk, k2, k3]⟩
      · rw [if_neg c] at k2 k3
        obtain ⟨y, y1, y2, y3⟩ := (h2 a' b').mp ⟨k, k0, by omega, k2, k3⟩
        exact ⟨y, y1, by omega, y3⟩
    · have rd1 : ∀ k, im_u (im_u (im_u M 6989 (M 6952 60) a) 6990 (M 6952 60) b) 6952 60 (M 6952 60 + 1) 6989 k = if k = M 6952 60 then a else M 6989 k := fun k => by rw [im_rdn _ _ _ _ (by decide), im_rdn _ _ _ _ (by decide), im_rdx]
      have rd2 : ∀ k, im_u (im_u (im_u M 6989 (M 6952 60) a) 6990 (M 6952 60) b) 6952 60 (M 6952 60 + 1) 6990 k = if k = M 6952 60 then b else M 6990 k := fun k => by rw [im_rdn _ _ _ _ (by decide), im_rdx, im_rdn _ _ _ _ (by decide)]
      by_cases c : x = r + j
      · rw [c, hk] at x3
        injection x3 with x3
        injection x3 with e1 e2
        exact ⟨M 6952 60, by omega, by omega, by rw [rd1, if_pos rfl]; exact e1, by rw [rd2, if_pos rfl]; exact e2⟩
      · obtain ⟨k, k0, k1, k2, k3⟩ := (h2 a' b').mpr ⟨x, x1, by omega, x3⟩
        exact ⟨k, k0, by omega, by rw [rd1, if_neg (by omega)]; exact k2, by rw [rd2, if_neg (by omega)]; exact k3⟩
/-- the row of a node, in a memory that only has seen more -/
theorem aF_row {M0 : im_M} (hF : aF M0 M) (x : Nat) (hx : 6955 ≤ x ∧ x ≤ 6986) : M x = M0 x := hF.1 x (by omega) (by omega) (by omega)
theorem l_ab0 {M0 : im_M} {r e1 : Int} (hR : RP M0 R m) (hW : WFP R m) (hr : 0 ≤ r ∧ r < e1 ∧ e1 ≤ m) (hd : 2 ≤ d) (hK : K (.inl (some (vL (laT R r (e1 - r).toNat)))) e M0) : ∀ (j k : Nat), r + k + j = e1 → im_T g d 328 111 [some (.ref 6952), none, some (vI 0), none, some (vI e1), some (vL (laT R r k)), none, some (vI (r + k))] [] e M0 K := by
  have m5 := hW.2.1
  intro j
  induction j with
  | zero =>
    intro k hk
    have ek : k = (e1 - r).toNat := by omega
    refine b_about_111 (by omega) ?_
    simp
    refine ⟨by constructor <;> omega, by constructor <;> omega, ⟨fun _ => by decide, fun z => by omega⟩, fun z => by omega, fun _ => ?_⟩
    rw [ek]; exact hK
  | succ j ih =>
    intro k hk
    have hrow := hR (r + k) (by omega) (by omega)
    have hn := (hW.2.2 (r + k) (by omega) (by omega)).2.1
    have hkn := (hW.2.2 (r + k) (by omega) (by omega)).1.1
    have hP := kRP5 hkn.1 hkn.2 hn.2.2.2
    have hb := laT_b hW hr.1 k (by omega)
    have hs : laT R r (k + 1) = if R 0 (r + k) = 3 ∧ R 5 (r + k) = 0 then max (laT R r k) (R 4 (r + k)) else laT R r k := rfl
    have := ih (k + 1) (by omega)
    rw [hs, show (r + ((k + 1 : Nat) : Int)) = r + k + 1 by omega] at this
    have e60 := hrow.1
    have w3 := hrow.2.2.2.2.2.1
    clear hn hkn
    refine b_about_111 (by omega) ?_
    simp
    rw [e60]
    refine ⟨by constructor <;> omega, by constructor <;> omega, ⟨fun _ => by decide, fun _ => ⟨⟨by omega, by omega⟩, fun k5 h70 => ⟨by constructor <;> omega, fun hlt => ⟨by decide, ?_⟩⟩⟩⟩, fun hor => ⟨by decide, ?_⟩, fun z => by omega⟩
    · have k3 := hP.mp k5
      have c5 : R 5 (r + k) = 0 := by
        apply Decidable.byContradiction
        intro z; have := ((w3 k3).1 z).1; omega
      have e69 := ((w3 k3).2 c5).2 (fun x hx => by cases hx)
      rw [if_pos ⟨k3, c5⟩] at this
      rw [e69] at hlt ⊢
      rw [show max (laT R r k) (R 4 (r + k)) = R 4 (r + k) by omega] at this
      exact this
    · by_cases c : R 0 (r + k) = 3 ∧ R 5 (r + k) = 0
      · have e69 := ((w3 c.1).2 c.2).2 (fun x hx => by cases hx)
        have e70 := ((w3 c.1).2 c.2).1
        have k5 := hP.mpr c.1
        rw [if_pos c] at this
        rw [e69] at hor
        rw [show max (laT R r k) (R 4 (r + k)) = laT R r k by omega] at this
        exact this
      · rw [if_neg c] at this; exact this
theorem l_ab2 {M0 : im_M} {r e1 : Int} (hR : RP M0 R m) (hW : WFP R m) (hA : abH R m) (hr : 0 ≤ r ∧ r < e1 ∧ e1 ≤ m) (hsz : e1 - r ≤ 1000) (hd : 2 ≤ d) (hK : ∀ M', aF M0 M' → K (.inl (some (vL (dC (kP R) r (e1 - r).toNat)))) e M') : ∀ (j k : Nat) (M : im_M) (la : Int), r + k + j = e1 → -1 ≤ la → la ≤ 1000000000000000 → aF M0 M → sQ M (kP R) r k → im_T g d 328 111 [some (.ref 6952), none, some (vI 2), none, some (vI e1), some (vL la), none, some (vI (r + k))] [] e M K := by
  have m5 := hW.2.1
  intro j
  induction j with
  | zero =>
    intro k M la hk l0 l1 hF hs
    have ek : k = (e1 - r).toNat := by omega
    refine b_about_111 (by omega) ?_
    simp
    refine ⟨by constructor <;> omega, by constructor <;> omega, ⟨fun _ => by decide, fun z => by omega⟩, fun z => by omega, fun _ => ?_⟩
    rw [hs.1, ek]; exact hK M hF
  | succ j ih =>
    intro k M la hk l0 l1 hF hs
    have hrow := hR (r + k) (by omega) (by omega)
    have hn := (hW.2.2 (r + k) (by omega) (by omega)).2.1
    have hkn := (hW.2.2 (r + k) (by omega) (by omega)).1.1
    have hP := kRP5 hkn.1 hkn.2 hn.2.2.2
    have hP21 := kRP21 hkn.1 hkn.2 hn.2.2.2
    have ha := hA.1 (r + k) (by omega) (by omega)
    have e60 : M 6960 (r + k) = kR (R 0 (r + k)) (R 3 (r + k)) := by rw [aF_row hF 6960 (by decide)]; exact hrow.1
    have e70 : M 6970 (r + k) = M0 6970 (r + k) := by rw [aF_row hF 6970 (by decide)]
    have e69 : M 6969 (r + k) = M0 6969 (r + k) := by rw [aF_row hF 6969 (by decide)]
    have e61 : M 6961 (r + k) = M0 6961 (r + k) := by rw [aF_row hF 6961 (by decide)]
    have w3 := hrow.2.2.2.2.2.1
    have w2 := hrow.2.1
    have r1k : (r + ((k + 1 : Nat) : Int)) = r + k + 1 := by omega
    have step : ∀ la', -1 ≤ la' → la' ≤ 1000000000000000 → (kR (R 0 (r + k)) (R 3 (r + k)) = 21 ∨ ¬ kR (R 0 (r + k)) (R 3 (r + k)) = 21 ∧ kR (R 0 (r + k)) (R 3 (r + k)) = 5 ∧ ¬ M0 6970 (r + k) = 0 → im_T g (d - 1) 331 0 [some (.ref 6952), some (vL (M0 6961 (r + k))), none, some (vL 0), none, none, none] [] e M (im_r0 (fun e_ M62 => e = e_ ∧ im_T g d 328 111 [some (.ref 6952), none, some (vI 2), none, some (vI e1), some (vL la'), none, some (vI (r + k + 1))] [] e M62 K))) ∧ (¬ kR (R 0 (r + k)) (R 3 (r + k)) = 21 ∧ ¬ kR (R 0 (r + k)) (R 3 (r + k)) = 5 ∨ ¬ kR (R 0 (r + k)) (R 3 (r + k)) = 21 ∧ kR (R 0 (r + k)) (R 3 (r + k)) = 5 ∧ M0 6970 (r + k) = 0 → im_T g d 328 111 [some (.ref 6952), none, some (vI 2), none, some (vI e1), some (vL la'), none, some (vI (r + k + 1))] [] e M K) := by
      intro la' a0 a1
      refine ⟨fun hor => ?_, fun hor => ?_⟩
      · have hkey : kP R (r + k) = some (M0 6961 (r + k), 0) ∧ im_i64 (M0 6961 (r + k)) := by
          unfold kP
          rcases hor with z | ⟨_, z5, z7⟩
          · have k35 := hP21.mp z
            have h97 := hn.2.1 k35
            have hp : pnm R (r + k) = R 4 (r + k) := by unfold pnm; rw [if_pos k35]
            rw [hp, if_neg (by omega), (w2 (by omega)).1]
            exact ⟨rfl, ha.1⟩
          · have k3 := hP.mp z5
            have c5 : R 5 (r + k) ≠ 0 := fun q => z7 ((w3 k3).2 q).1
            have hp : pnm R (r + k) = R 5 (r + k) := by unfold pnm; rw [if_neg (by omega), if_pos k3]
            rw [hp, if_neg c5, ((w3 k3).1 c5).2]
            exact ⟨rfl, ha.2.1⟩
        refine c_seeQ hs (by omega) hkey.2 (by decide) hkey.1 (fun M' F' s' => ⟨rfl, rfl, ?_⟩)
        have := ih (k + 1) M' la' (by omega) a0 a1 (hF.trans F') s'
        rw [r1k] at this; exact this
      · have hkey : kP R (r + k) = none := by
          unfold kP
          rcases hor with ⟨z, z5⟩ | ⟨z, z5, z7⟩
          · have hp : pnm R (r + k) = 0 := by unfold pnm; rw [if_neg (fun q => z (hP21.mpr q)), if_neg (fun q => z5 (hP.mpr q))]
            rw [if_pos hp]
          · have k3 := hP.mp z5
            have c5 : R 5 (r + k) = 0 := by
              apply Decidable.byContradiction
              intro q; have := ((w3 k3).1 q).1; omega
            have hp : pnm R (r + k) = 0 := by unfold pnm; rw [if_neg (by omega), if_pos k3]; exact c5
            rw [if_pos hp]
        have := ih (k + 1) M la' (by omega) a0 a1 hF (sQ_no hs hkey)
        rw [r1k] at this; exact this
    have t4 : R 0 (r + k) = 3 → R 4 (r + k) ≤ 1000000000000000 := fun z => (hn.2.2.1 z).1
    refine b_about_111 (by omega) ?_
    simp
    rw [e60, e70, e69, e61]
    clear hkn
    refine ⟨by constructor <;> omega, by constructor <;> omega, ⟨fun _ => by decide, fun _ => ⟨⟨by omega, by omega⟩, fun k5 h70 => ⟨by constructor <;> omega, fun hlt => ⟨by decide, ?_⟩⟩⟩⟩, fun hor => ⟨by decide, ⟨by omega, by omega⟩, fun h => ⟨⟨by omega, by omega⟩, (step la l0 l1).1 h⟩, (step la l0 l1).2⟩, fun z => by omega⟩
    have k3 := hP.mp k5
    have c5 : R 5 (r + k) = 0 := by
      apply Decidable.byContradiction
      intro z; have := ((w3 k3).1 z).1; omega
    have e69' := ((w3 k3).2 c5).2 (fun x hx => by cases hx)
    have := t4 k3
    exact step _ (by omega) (by omega)
theorem l_ab4 {M0 : im_M} {r e1 : Int} (hR : RP M0 R m) (hW : WFP R m) (hA : abH R m) (hr : 0 ≤ r ∧ r < e1 ∧ e1 ≤ m) (hsz : e1 - r ≤ 1000) (hd : 2 ≤ d) (hK : ∀ M', aF M0 M' → K (.inl (some (vL (dC (kA R) r (e1 - r).toNat)))) e M') : ∀ (j k : Nat) (M : im_M) (la : Int), r + k + j = e1 → -1 ≤ la → la ≤ 1000000000000000 → aF M0 M → sQ M (kA R) r k → im_T g d 328 111 [some (.ref 6952), none, some (vI 4), none, some (vI e1), some (vL la), none, some (vI (r + k))] [] e M K := by
  have m5 := hW.2.1
  intro j
  induction j with
  | zero =>
    intro k M la hk l0 l1 hF hs
    have ek : k = (e1 - r).toNat := by omega
    refine b_about_111 (by omega) ?_
    simp
    refine ⟨by constructor <;> omega, by constructor <;> omega, ⟨fun _ => by decide, fun z => by omega⟩, fun z => by omega, fun _ => ?_⟩
    rw [hs.1, ek]; exact hK M hF
  | succ j ih =>
    intro k M la hk l0 l1 hF hs
    have hrow := hR (r + k) (by omega) (by omega)
    have hn := (hW.2.2 (r + k) (by omega) (by omega)).2.1
    have hkn := (hW.2.2 (r + k) (by omega) (by omega)).1.1
    have hP := kRP5 hkn.1 hkn.2 hn.2.2.2
    have hP8 := kRP8 hkn.1 hkn.2 hn.2.2.2
    have ha := hA.1 (r + k) (by omega) (by omega)
    have e60 : ∀ M1, aF M0 M1 → M1 6960 (r + k) = kR (R 0 (r + k)) (R 3 (r + k)) := fun M1 F1 => by rw [aF_row F1 6960 (by decide)]; exact hrow.1
    have e70 : M 6970 (r + k) = M0 6970 (r + k) := by rw [aF_row hF 6970 (by decide)]
    have e69 : M 6969 (r + k) = M0 6969 (r + k) := by rw [aF_row hF 6969 (by decide)]
    have e61 : M 6961 (r + k) = M0 6961 (r + k) := by rw [aF_row hF 6961 (by decide)]
    have e62 : M 6962 (r + k) = M0 6962 (r + k) := by rw [aF_row hF 6962 (by decide)]
    have e63 : M 6963 (r + k) = M0 6963 (r + k) := by rw [aF_row hF 6963 (by decide)]
    have w3 := hrow.2.2.2.2.2.1
    have w2 := hrow.2.1
    have w6 := hrow.2.2.1
    have r1k : (r + ((k + 1 : Nat) : Int)) = r + k + 1 := by omega
    have k8 : kR (R 0 (r + k)) (R 3 (r + k)) = 8 → kA R (r + k) = some (M0 6961 (r + k), M0 6963 (r + k)) := fun z => by
      have k28 := hP8.1.mp z
      unfold kA
      rw [if_pos k28, (w2 (by omega)).1, (w6 (by omega)).1]
    have k3' : kR (R 0 (r + k)) (R 3 (r + k)) = 3 → kA R (r + k) = some (M0 6962 (r + k), M0 6963 (r + k)) := fun z => by
      have k1 := hP8.2.mp z
      unfold kA
      rw [if_neg (by omega), if_pos k1, (w2 (by omega)).2, (w6 (by omega)).1]
    have k0 : ¬ kR (R 0 (r + k)) (R 3 (r + k)) = 8 → ¬ kR (R 0 (r + k)) (R 3 (r + k)) = 3 → kA R (r + k) = none := fun z z' => by
      unfold kA
      rw [if_neg (fun q => z (hP8.1.mpr q)), if_neg (fun q => z' (hP8.2.mpr q))]
    have i61 : kR (R 0 (r + k)) (R 3 (r + k)) = 8 → im_i64 (M0 6961 (r + k)) ∧ im_i64 (M0 6963 (r + k)) := fun z => by
      have k28 := hP8.1.mp z
      rw [(w2 (by omega)).1, (w6 (by omega)).1]; exact ⟨ha.1, ha.2.2⟩
    have i62 : kR (R 0 (r + k)) (R 3 (r + k)) = 3 → im_i64 (M0 6962 (r + k)) ∧ im_i64 (M0 6963 (r + k)) := fun z => by
      have k1 := hP8.2.mp z
      rw [(w2 (by omega)).2, (w6 (by omega)).1]; exact ⟨ha.2.1, ha.2.2⟩
    have goS : ∀ (la' : Int), -1 ≤ la' → la' ≤ 1000000000000000 → ∀ M', aF M M' → sQ M' (kA R) r (k + 1) → im_T g d 328 111 [some (.ref 6952), none, some (vI 4), none, some (vI e1), some (vL la'), none, some (vI (r + k + 1))] [] e M' K := fun la' a0 a1 M' F' s' => by
      have := ih (k + 1) M' la' (by omega) a0 a1 (hF.trans F') s'
      rw [r1k] at this; exact this
    have t4 : R 0 (r + k) = 3 → R 4 (r + k) ≤ 1000000000000000 := fun z => (hn.2.2.1 z).1
    have v4 := hn.1.1
    refine b_about_111 (by omega) ?_
    simp
    rw [e60 M hF, e70, e69, e61, e62, e63]
    clear hkn hn
    refine ⟨by constructor <;> omega, by constructor <;> omega, ⟨fun _ => by decide, fun _ => ⟨⟨by omega, by omega⟩, fun k5 h70 => ⟨by constructor <;> omega, fun hlt => ⟨by decide, fun z => by omega, fun z8 => ⟨fun z => by omega, fun z3 => ?_⟩⟩⟩⟩⟩, fun hor => ⟨by decide, ⟨⟨by omega, by omega⟩, fun z8 => ?_⟩, fun z8 => ⟨⟨⟨by omega, by omega⟩, fun z3 => ?_⟩, fun z3 => ?_⟩⟩, fun z => by omega⟩
    · have kk3 := hP.mp k5
      have c5 : R 5 (r + k) = 0 := by
        apply Decidable.byContradiction
        intro z; have := ((w3 kk3).1 z).1; omega
      have e69' := ((w3 kk3).2 c5).2 (fun x hx => by cases hx)
      have := t4 kk3
      exact goS _ (by omega) (by omega) M (aF.rf M) (sQ_no hs (k0 z8 z3))
    · refine c_seeQ hs (by omega) (i61 z8).1 (i61 z8).2 (k8 z8) (fun M' F' s' => ⟨rfl, rfl, ?_⟩)
      rw [e60 M' (hF.trans F')]
      exact ⟨fun z => by omega, fun _ => goS la l0 l1 M' F' s'⟩
    · exact c_seeQ hs (by omega) (i62 z3).1 (i62 z3).2 (k3' z3) (fun M' F' s' => ⟨rfl, rfl, goS la l0 l1 M' F' s'⟩)
    · exact goS la l0 l1 M (aF.rf M) (sQ_no hs (k0 z8 z3))
end ABOUTR
