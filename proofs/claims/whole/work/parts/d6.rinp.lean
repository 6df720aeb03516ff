/-! THE REFERENCE reads inputs -/
def TX (M M' : im_M) : Prop := (∀ x, x ≠ 6952 → M' x = M x) ∧ (∀ k, k < 14 ∨ 20 < k → M' 6952 k = M 6952 k)
theorem rtx.tx {M M' : im_M} {t : Int → Int} {n : Int} (h : rtx M t n) (h13 : M' 6952 13 = M 6952 13) (h59 : M' 6959 = M 6959) : rtx M' t n := by
  obtain ⟨a, b, c, d⟩ := h
  exact ⟨h13.trans a, b, c, by rw [h59]; exact d⟩
def RSg (n : Int) (M : im_M) : Sum (Int × Int) Int → Prop
  | .inl f => M 6952 19 = f.1 ∧ 0 < f.1 ∧ M 6952 20 = f.2
  | .inr a => M 6952 19 = 0 ∧ M 6952 20 = -1 ∧ M 6952 14 = a ∧ 0 ≤ a ∧ a ≤ n
theorem RSg.u {n : Int} {M M' : im_M} {σ : Sum (Int × Int) Int} (h : RSg n M σ) (hs : M' 6952 = M 6952) : RSg n M' σ := by
  cases σ with
  | inl f => obtain ⟨a, b, c⟩ := h; exact ⟨by rw [hs]; exact a, b, by rw [hs]; exact c⟩
  | inr f => obtain ⟨a, b, c, d⟩ := h; exact ⟨by rw [hs]; exact a, by rw [hs]; exact b, by rw [hs]; exact c, d⟩
/-- what the number of an input leaves as it was -/
def NJ (i : Int) (M M' : im_M) : Prop := (∀ x, x ≠ 6952 → x ≠ 6955 → x ≠ 6983 → M' x = M x) ∧ (∀ k, k ≠ 7 → (k < 14 ∨ 20 < k) → M' 6952 k = M 6952 k) ∧ (∀ j, j < M 6952 7 → M' 6955 j = M 6955 j) ∧ (M 6952 7 ≤ M' 6952 7 ∧ M' 6952 7 ≤ M 6952 7 + 302) ∧ (∀ j, j ≠ i → M' 6983 j = M 6983 j)
/-- what reading the i-th input leaves as it was -/
def IX (i : Int) (M M' : im_M) : Prop := (∀ x, x ≠ 6952 → x ≠ 6955 → (x < 6979 ∨ 6983 < x) → M' x = M x) ∧ (∀ k, k ≠ 7 → (k < 14 ∨ 20 < k) → M' 6952 k = M 6952 k) ∧ (∀ j, j < M 6952 7 → M' 6955 j = M 6955 j) ∧ (M 6952 7 ≤ M' 6952 7 ∧ M' 6952 7 ≤ M 6952 7 + 302) ∧ (∀ (x : Nat) (j : Int), 6979 ≤ x → x ≤ 6983 → j ≠ i → M' x j = M x j)
section RINP
variable {g : im_g} {d : Nat} {e : im_E} {M : im_M} {K : im_K} {t : Int → Int} {n : Int}
theorem c_inputName {σ : Sum (Int × Int) Int} (hrt : rtx M t n) (hR : RSg n M σ) (hd : 4 ≤ d) (hK : ∀ M', TX M M' → RSg n M' (nmS t n σ).1 → im_i64 (nmS t n σ).2 → K (.inl (some (vL (nmS t n σ).2))) e M') : im_T g d 360 0 [some (.ref 6952), none, none] [] e M K := by
  cases σ with
  | inl f =>
    refine b_inputName_0 (by omega) ⟨fun _ => hK M ⟨fun _ _ => rfl, fun _ _ => rfl⟩ hR (by show im_i64 0; decide), fun z => ?_⟩
    obtain ⟨a, b, _⟩ := hR
    omega
  | inr a =>
    obtain ⟨h19, h20, h14, ha0, han⟩ := hR
    have hk := tk_ok (t := t) han
    have e2 : nmS t n (.inr a) = if (tk t n a).2.2.1 = 36 then (.inr (tk t n a).2.1, (tk t n a).2.2.2.1) else (.inl (ftk (tk t n a).2.2.1, (tk t n a).1), 0) := rfl
    rw [e2] at hK
    generalize (tk t n a).1 = p at hk hK
    generalize (tk t n a).2.1 = q at hk hK
    generalize (tk t n a).2.2.1 = ty at hk hK
    generalize (tk t n a).2.2.2.1 = nm at hk hK
    obtain ⟨r1, r2, r3, r4, r5, r6, _⟩ := rk_vals ty
    refine b_inputName_0 (by omega) ⟨fun z => absurd h19 z, fun _ => ?_⟩
    refine c_look hrt h14 ha0 hk (by omega) (fun M1 L1 => ⟨rfl, rfl, ?_⟩)
    obtain ⟨l1, l2, l3, l4, l5, l6, l7⟩ := L1
    rw [l4]
    refine ⟨fun h => ?_, fun h => ?_⟩
    · have h36 : ty ≠ 36 := fun z => h (r6.mpr z)
      rw [if_neg h36] at hK
      refine c_failTok (p := p) (q := q) (ty := ty) (nm := nm) ⟨l3, l4, l5, l6, l7, (l2 19 (by decide)).trans h19⟩ (by omega) (fun M2 b1 b2 b3 b4 => ⟨rfl, rfl, ?_⟩)
      exact hK M2 ⟨fun x hx => (b1 x hx).trans (l1 x hx), fun k hk => (b2 k (by omega) (by omega)).trans (l2 k (by omega))⟩ ⟨b3, (ftk_pos ty).1, b4⟩ (by show im_i64 0; decide)
    · have h36 : ty = 36 := r6.mp h
      rw [if_pos h36] at hK
      rw [l7 (Or.inr (Or.inr h36))]
      have hq := tkn_q hk (by omega)
      have hn := tkn_nm hk (Or.inr h36)
      exact c_use l6 ⟨rfl, rfl, hK _ ⟨fun x hx => by rw [im_u_ne _ _ _ hx]; exact l1 x hx, fun k hk => by rw [im_rdk _ _ _ (by omega)]; exact l2 k (by omega)⟩ ⟨by rw [im_rdk _ _ _ (by decide), l2 19 (by decide)]; exact h19, by rw [im_rdk _ _ _ (by decide), l2 20 (by decide)]; exact h20, im_rds _ _ _ _, by omega, by omega⟩ (by show im_i64 nm; constructor <;> omega)⟩
theorem l_inNum {σ : Sum (Int × Int) Int} {i w : Int} (hrt : rtx M t n) (hR : RSg n M σ) (hw : w = M 6952 19) (h8 : M 6952 8 = 0 ∨ M 6952 8 = 1) (h70 : 0 ≤ M 6952 7) (h71 : M 6952 7 + 302 ≤ 1100000) (hi : 0 ≤ i ∧ i < 40) (hd : 5 ≤ d)
    (hK : ∀ M', NJ i M M' → RSg n M' (nuS t n σ).1 → (∀ a, (nuS t n σ).1 = .inr a → rnp M' 0 (M' 6952 7) (M' 6983 i) (nuS t n σ).2) → K (.inl none) e M') :
    ((w ≤ 0 → im_T g (d - 1) 277 0 [some (.ref 6952), none] [] e M (im_r0 (fun e_ M23 => e = e_ ∧ ((¬ (M23 6952 15) = 1 → im_T g (d - 1) 285 0 [some (.ref 6952)] [] e M23 (im_r0 (fun e_ M26 => e = e_ ∧ K (.inl none) e M26))) ∧ ((M23 6952 15) = 1 → im_T g (d - 1) 291 0 [some (.ref 6952), none, none, none, none] [] e M23 (im_ri (fun x29 e_ M28 => e = e_ ∧ (im_i32 x29) ∧ im_T g (d - 1) 282 0 [some (.ref 6952)] [] e (im_u M28 6983 i x29) (im_r0 (fun e_ M31 => e = e_ ∧ K (.inl none) e M31))))))))) ∧ (0 < w → K (.inl none) e M)) := by
  subst hw
  cases σ with
  | inl f =>
    obtain ⟨a, b, c⟩ := hR
    refine ⟨fun z => by omega, fun _ => hK M ⟨fun _ _ _ _ => rfl, fun _ _ _ => rfl, fun _ _ => rfl, ⟨by omega, by omega⟩, fun _ _ => rfl⟩ ⟨a, b, c⟩ (fun a ha => ?_)⟩
    cases ha
  | inr a =>
    obtain ⟨h19, h20, h14, ha0, han⟩ := hR
    refine ⟨fun _ => ?_, fun z => by omega⟩
    have hk := tk_ok (t := t) han
    have e2 : nuS t n (.inr a) = if (tk t n a).2.2.1 = 34 then (.inr (tk t n a).2.1, (tk t n a).2.2.2.2) else (.inl (ftk (tk t n a).2.2.1, (tk t n a).1), 0) := rfl
    rw [e2] at hK
    generalize (tk t n a).1 = p at hk hK
    generalize (tk t n a).2.1 = q at hk hK
    generalize (tk t n a).2.2.1 = ty at hk hK
    generalize (tk t n a).2.2.2.1 = nm at hk
    generalize (tk t n a).2.2.2.2 = v at hk hK
    obtain ⟨r1, r2, r3, r4, _⟩ := rk_vals ty
    have hap := hk.1
    refine c_look hrt h14 ha0 hk (by omega) (fun M1 L1 => ⟨rfl, rfl, ?_⟩)
    obtain ⟨l1, l2, l3, l4, l5, l6, l7⟩ := L1
    rw [l4]
    have w7 := l2 7 (by decide)
    refine ⟨fun h => ?_, fun h => ?_⟩
    · have h34 : ty ≠ 34 := fun z => h (r4.mpr z)
      rw [if_neg h34] at hK
      refine c_failTok (p := p) (q := q) (ty := ty) (nm := nm) ⟨l3, l4, l5, l6, l7, (l2 19 (by decide)).trans h19⟩ (by omega) (fun M2 b1 b2 b3 b4 => ⟨rfl, rfl, ?_⟩)
      have x7 := (b2 7 (by decide) (by decide)).trans w7
      exact hK M2 ⟨fun x hx _ _ => (b1 x hx).trans (l1 x hx), fun k _ hk => (b2 k (by omega) (by omega)).trans (l2 k (by omega)), fun j _ => by rw [b1 6955 (by decide), l1 6955 (by decide)], ⟨by omega, by omega⟩, fun j _ => by rw [b1 6983 (by decide), l1 6983 (by decide)]⟩ ⟨b3, (ftk_pos ty).1, b4⟩ (fun a ha => by cases ha)
    · have h34 : ty = 34 := r4.mp h
      rw [if_pos h34] at hK
      obtain ⟨q1, q2', q3, _, _, _⟩ := tkn_q hk (by omega)
      refine c_tokenNumber (hrt.tx (l2 13 (by decide)) (l1 6959 (by decide))) l5 l6 (by omega) q2' q3 (tkn_w hk h34) (by rw [l2 8 (by decide)]; exact h8) (by omega) (by omega) (by omega) (fun M2 k F2 n2 k2 t2 e2 => ⟨_, rfl, rfl, by constructor <;> omega, ?_⟩)
      obtain ⟨f1, f2, f3⟩ := F2
      have f1 : ∀ x, x ≠ 6955 → x ≠ 6952 → M2 x = M1 x := fun x a b => f1 x (fun z => by cases z) a b
      have f2 : ∀ k, k ≠ 7 → k ≠ 8 → M2 6952 k = M1 6952 k := fun k a b => f2 k (by simp [a, b])
      have f2' : ∀ k, k ≠ 7 → M2 6952 k = M1 6952 k := fun k a => by
        by_cases c : k = 8
        · rw [c]; exact e2
        · exact f2 k a c
      refine c_use (q := q) (by rw [im_rdn _ _ _ _ (by decide)]; exact (f2' 17 (by decide)).trans l6) ⟨rfl, rfl, ?_⟩
      generalize hM3 : im_u (im_u M2 6983 i (M1 6952 7)) 6952 14 q = M3
      have a1 : ∀ x, x ≠ 6952 → x ≠ 6983 → M3 x = M2 x := fun x hx hy => by rw [← hM3, im_u_ne _ _ _ hx, im_u_ne _ _ _ hy]
      have a2 : ∀ k, k ≠ 14 → M3 6952 k = M2 6952 k := fun k hk => by rw [← hM3, im_rdk _ _ _ hk, im_rdn _ _ _ _ (by decide)]
      have a14 : M3 6952 14 = q := by rw [← hM3, im_rds]
      have a83 : ∀ j, M3 6983 j = if j = i then M1 6952 7 else M2 6983 j := fun j => by rw [← hM3, im_rdn _ _ _ _ (by decide), im_rdx]
      clear hM3
      have x7 : M3 6952 7 = M 6952 7 + 2 + k := by rw [a2 7 (by decide), t2, w7]
      refine hK M3 ⟨fun x b c d => ((a1 x b d).trans (f1 x c b)).trans (l1 x b), fun j b c => ((a2 j (by omega)).trans (f2' j b)).trans (l2 j (by omega)), fun j hj => by rw [a1 6955 (by decide) (by decide), f3 j (by omega), l1 6955 (by decide)], ⟨by omega, by omega⟩, fun j hj => by rw [a83, if_neg hj, f1 6983 (by decide) (by decide), l1 6983 (by decide)]⟩ ⟨?_, ?_, a14, by omega, q3⟩ (fun a ha => ?_)
      · rw [a2 19 (by decide), f2' 19 (by decide), l2 19 (by decide)]; exact h19
      · rw [a2 20 (by decide), f2' 20 (by decide), l2 20 (by decide)]; exact h20
      · show rnp M3 0 (M3 6952 7) (M3 6983 i) v
        rw [a83, if_pos rfl]
        exact ⟨k, by rw [a1 6955 (by decide) (by decide)]; exact n2, by omega, by omega, k2⟩
end RINP
