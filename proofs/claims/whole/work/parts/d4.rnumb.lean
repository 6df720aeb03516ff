/-! THE REFERENCE reads a number -/
/-- what reading a number leaves as it was -/
def NX (M M' : im_M) : Prop := (∀ x, x ≠ 6952 → x ≠ 6955 → M' x = M x) ∧ (∀ k, k ≠ 7 → (k < 14 ∨ 20 < k) → M' 6952 k = M 6952 k) ∧ (∀ i, i < M 6952 6 → M' 6955 i = M 6955 i) ∧ M 6952 6 ≤ M' 6952 7
def fte (ty : Int) : Int := if ty = -1 then 1 else if ty = -2 then 2 else 9
section RNUMB
variable {g : im_g} {d : Nat} {e : im_E} {M : im_M} {K : im_K}
theorem c_rreadNumber {t : Int → Int} {nt p q ty nm v p2 q2 ty2 nm2 v2 : Int} (hrt : rtx M t nt) (h8 : M 6952 8 = 0 ∨ M 6952 8 = 1) (h60 : 0 ≤ M 6952 6) (h6 : M 6952 6 + 302 ≤ 1100000) (tk1 : tkn t nt 0 p q ty nm v) (tk2 : ty = 34 → tkn t nt q p2 q2 ty2 nm2 v2) (hd : 6 ≤ d)
    (hKf : ∀ c pp, (ty ≠ 34 ∧ c = ftk ty ∧ pp = p ∨ ty = 34 ∧ ty2 ≠ 41 ∧ c = fte ty2 ∧ pp = p2) → ∀ M' r, NX M M' → M' 6952 19 = c → M' 6952 20 = pp → K (.inl (some (vI r))) e M')
    (hKs : ty = 34 → ty2 = 41 → ∀ M', NX M M' → M' 6952 19 = 0 → M' 6952 20 = -1 → M' 6952 7 ≤ M 6952 6 + 302 → rnp M' 0 (M' 6952 7) (M 6952 6) v → K (.inl (some (vI (M 6952 6)))) e M') : im_T g d 335 0 [some (.ref 6952), none] [] e M K := by
  have hnt0 : 0 ≤ nt := hrt.2.1
  have hnt : nt ≤ 16384 := hrt.2.2.1
  obtain ⟨r1, r2, r3, r4, _⟩ := rk_vals ty
  obtain ⟨y1, y2, y3, _⟩ := rk_vals ty2
  have hp := tk1.1
  refine b_readNumber_0 (by omega) (b_beginText_0 ⟨rfl, rfl, ?_⟩)
  generalize hM0 : im_u (im_u (im_u (im_u M 6952 14 0) 6952 19 0) 6952 20 (-1)) 6952 7 (M 6952 6) = M0
  have m1 : ∀ x, x ≠ 6952 → M0 x = M x := fun x hx => by rw [← hM0, im_u_ne _ _ _ hx, im_u_ne _ _ _ hx, im_u_ne _ _ _ hx, im_u_ne _ _ _ hx]
  have m2 : ∀ k, k ≠ 7 → (k < 14 ∨ 20 < k) → M0 6952 k = M 6952 k := fun k k1 k2 => by rw [← hM0, im_rdk _ _ _ k1, im_rdk _ _ _ (by omega), im_rdk _ _ _ (by omega), im_rdk _ _ _ (by omega)]
  have v7 : M0 6952 7 = M 6952 6 := by rw [← hM0, im_rds]
  have v20 : M0 6952 20 = -1 := by rw [← hM0, im_rdk _ _ _ (by decide), im_rds]
  have v19 : M0 6952 19 = 0 := by rw [← hM0, im_rdk _ _ _ (by decide), im_rdk _ _ _ (by decide), im_rds]
  have v14 : M0 6952 14 = 0 := by rw [← hM0, im_rdk _ _ _ (by decide), im_rdk _ _ _ (by decide), im_rdk _ _ _ (by decide), im_rds]
  clear hM0
  have ht0 : rtx M0 t nt := by
    obtain ⟨a1, a2, a3, a4⟩ := hrt
    exact ⟨(m2 13 (by decide) (by decide)).trans a1, a2, a3, fun i i0 i1 => by rw [m1 6959 (by decide)]; exact a4 i i0 i1⟩
  refine c_look ht0 v14 (Int.le_refl _) tk1 (by omega) (fun M1 L1 => ⟨rfl, rfl, ?_⟩)
  obtain ⟨l1, l2, l3, l4, l5, l6, l7⟩ := L1
  have w19 : M1 6952 19 = 0 := (l2 19 (by decide)).trans v19
  have w7 : M1 6952 7 = M 6952 6 := (l2 7 (by decide)).trans v7
  have w8 : M1 6952 8 = M 6952 8 := (l2 8 (by decide)).trans (m2 8 (by decide) (by decide))
  have hn1 : NX M M1 := ⟨fun x a _ => (l1 x a).trans (m1 x a), fun k a b => (l2 k (by omega)).trans (m2 k a b), fun i _ => by rw [l1 6955 (by decide), m1 6955 (by decide)], by omega⟩
  rw [l4]
  refine ⟨fun h1 => ?_, fun h1 => ?_⟩
  · have h34 : ty = 34 := r4.mp h1
    have tk2 := tk2 h34
    obtain ⟨q1, q2', q3, _, _, _⟩ := tkn_q tk1 (by omega)
    have ht1 : rtx M1 t nt := by
      obtain ⟨a1, a2, a3, a4⟩ := ht0
      exact ⟨(l2 13 (by decide)).trans a1, a2, a3, fun i i0 i1 => by rw [l1 6959 (by decide)]; exact a4 i i0 i1⟩
    refine c_tokenNumber ht1 l5 l6 (by omega) q2' q3 (tkn_w tk1 h34) (by rw [w8]; exact h8) (by omega) (by omega) (by omega) (fun M2 k F2 n2 k2 t2 e2 => ⟨_, rfl, rfl, ?_⟩)
    obtain ⟨f1, f2, f3⟩ := F2
    have f1 : ∀ x, x ≠ 6955 → x ≠ 6952 → M2 x = M1 x := fun x a b => f1 x (fun z => by cases z) a b
    have f2 : ∀ k, k ≠ 7 → k ≠ 8 → M2 6952 k = M1 6952 k := fun k a b => f2 k (by simp [a, b])
    refine c_use ((f2 17 (by decide) (by decide)).trans l6) ⟨rfl, rfl, ?_⟩
    generalize hM3 : im_u M2 6952 14 q = M3
    have a1 : ∀ x, x ≠ 6952 → M3 x = M2 x := fun x hx => by rw [← hM3, im_u_ne _ _ _ hx]
    have a2 : ∀ k, k ≠ 14 → M3 6952 k = M2 6952 k := fun k hk => by rw [← hM3, im_rdk _ _ _ hk]
    have a14 : M3 6952 14 = q := by rw [← hM3, im_rds]
    clear hM3
    have ht3 : rtx M3 t nt := by
      obtain ⟨b1, b2, b3, b4⟩ := ht1
      exact ⟨((a2 13 (by decide)).trans (f2 13 (by decide) (by decide))).trans b1, b2, b3, fun i i0 i1 => by rw [a1 6959 (by decide), f1 6959 (by decide) (by decide)]; exact b4 i i0 i1⟩
    refine b_endText_0 (by omega) (c_look ht3 a14 (by omega) tk2 (by omega) (fun M4 L4 => ⟨rfl, rfl, ?_⟩))
    obtain ⟨g1, g2, g3, g4, g5, g6, g7⟩ := L4
    have x19 : M4 6952 19 = 0 := (((g2 19 (by decide)).trans (a2 19 (by decide))).trans (f2 19 (by decide) (by decide))).trans w19
    have x20 : M4 6952 20 = -1 := (((g2 20 (by decide)).trans (a2 20 (by decide))).trans (f2 20 (by decide) (by decide))).trans ((l2 20 (by decide)).trans v20)
    have x7 : M4 6952 7 = M 6952 6 + 2 + k := ((g2 7 (by decide)).trans (a2 7 (by decide))).trans (by rw [t2, w7])
    have x8 : M4 6952 8 = M 6952 8 := (((g2 8 (by decide)).trans (a2 8 (by decide))).trans e2).trans w8
    have x55 : M4 6955 = M2 6955 := (g1 6955 (by decide)).trans (a1 6955 (by decide))
    have hn4 : NX M M4 := ⟨fun x a b => (((g1 x a).trans (a1 x a)).trans (f1 x b a)).trans (hn1.1 x a b), fun j a b => by
      by_cases c : j = 8
      · rw [c]; exact x8
      · exact (((g2 j (by omega)).trans (a2 j (by omega))).trans (f2 j a c)).trans (hn1.2.1 j a b), fun i hi => by rw [x55, f3 i (by omega)]; exact hn1.2.2.1 i hi, by omega⟩
    rw [x19, g4, w7]
    refine ⟨fun x hx => ?_, fun hx => ⟨rfl, rfl, ?_⟩⟩
    · have hxe : ty2 ≠ 41 ∧ x = fte ty2 := by
        unfold fte
        (repeat' split) <;> omega
      refine c_failR x19 g5 (by unfold fte at hxe; (repeat' split at hxe) <;> (constructor <;> omega)) (fun M5 b1 b2 b3 b4 => ⟨rfl, rfl, rfl, rfl, ?_⟩)
      exact hKf x p2 (Or.inr ⟨h34, hxe.1, hxe.2, rfl⟩) M5 _ ⟨fun y a b => (b1 y a).trans (hn4.1 y a b), fun j a b => (b2 j (by omega) (by omega)).trans (hn4.2.1 j a b), fun i hi => by rw [b1 6955 (by decide)]; exact hn4.2.2.1 i hi, by rw [b2 7 (by decide) (by decide)]; exact hn4.2.2.2⟩ b3 b4
    · have h41 : ty2 = 41 := by omega
      refine hKs h34 h41 M4 hn4 x19 x20 (by omega) ⟨k, ?_, h60, by omega, k2⟩
      rw [x55, ← w7]; exact n2
  · have h34 : ty ≠ 34 := fun z => h1 (r4.mpr z)
    refine c_failTok (p := p) (q := q) (ty := ty) (nm := nm) ⟨l3, l4, l5, l6, l7, w19⟩ (by omega) (fun M5 b1 b2 b3 b4 => ⟨rfl, rfl, ?_⟩)
    exact hKf (ftk ty) p (Or.inl ⟨h34, rfl, rfl⟩) M5 _ ⟨fun y a b => (b1 y a).trans (hn1.1 y a b), fun j a b => (b2 j (by omega) (by omega)).trans (hn1.2.1 j a b), fun i hi => by rw [b1 6955 (by decide)]; exact hn1.2.2.1 i hi, by rw [b2 7 (by decide) (by decide)]; exact hn1.2.2.2⟩ b3 b4
end RNUMB
