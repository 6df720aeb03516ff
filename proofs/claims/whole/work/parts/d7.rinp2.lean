/-! THE REFERENCE reads one input -/
theorem in1_30 {t : Int → Int} {n q : Int} : in1 t n 30 q = (.inr q, 0, 0, 0, 0) := (if_neg (by decide)).trans (if_neg (by decide))
theorem in1_29 {t : Int → Int} {n q : Int} : in1 t n 29 q = ((nuS t n (nmS t n (nmS t n (.inr q)).1).1).1, (nmS t n (.inr q)).2, (nmS t n (nmS t n (.inr q)).1).2, 0, (nuS t n (nmS t n (nmS t n (.inr q)).1).1).2) := (if_neg (by decide)).trans (if_pos rfl)
theorem in1_28 {t : Int → Int} {n q : Int} : in1 t n 28 q = ((nuS t n (nmS t n (nmS t n (nmS t n (.inr q)).1).1).1).1, (nmS t n (.inr q)).2, (nmS t n (nmS t n (.inr q)).1).2, (nmS t n (nmS t n (nmS t n (.inr q)).1).1).2, (nuS t n (nmS t n (nmS t n (nmS t n (.inr q)).1).1).1).2) := if_pos rfl
section RINP2
variable {g : im_g} {d : Nat} {e : im_E} {M : im_M} {K : im_K} {t : Int → Int} {n : Int}
theorem c_readInput {i p q ty nm v : Int} (hrt : rtx M t n) (hT : TK M p q ty nm) (hk : tkn t n p p q ty nm v) (h20 : M 6952 20 = -1) (hp0 : 0 ≤ p) (hty : 28 ≤ ty ∧ ty ≤ 30) (h8 : M 6952 8 = 0 ∨ M 6952 8 = 1) (h70 : 0 ≤ M 6952 7) (h71 : M 6952 7 + 302 ≤ 1100000) (hi : 0 ≤ i ∧ i < 40) (hd : 6 ≤ d)
    (hK : ∀ M', IX i M M' → RSg n M' (in1 t n ty q).1 → (∀ a, (in1 t n ty q).1 = .inr a → IR M' i ty (in1 t n ty q).2.1 (in1 t n ty q).2.2.1 (in1 t n ty q).2.2.2.1 (in1 t n ty q).2.2.2.2 (M' 6952 7)) → K (.inl none) e M') : im_T g d 359 0 [some (.ref 6952), some (vI i)] [] e M K := by
  obtain ⟨h14, h15, h16, h17, h18, h19⟩ := hT
  have hnm := tkn_kw hk (by omega) (by omega)
  have hq := tkn_q hk (by omega)
  have h18 := h18 (by omega)
  rw [hnm] at h18
  refine b_readInput_0 (by omega) (fun x5 hx5 => ⟨hi, ?_⟩)
  have hx : x5 = ty - 20 := by
    rw [h18] at hx5
    have : ty = 28 ∨ ty = 29 ∨ ty = 30 := by omega
    rcases this with rfl | rfl | rfl
    · have : kwv 28 = 28259031251642740 := by decide
      rw [this] at hx5; clear hk hq h15 hK; omega
    · have : kwv 29 = 109300196926309 := by decide
      rw [this] at hx5; clear hk hq h15 hK; omega
    · have : kwv 30 = 121424973489785 := by decide
      rw [this] at hx5; clear hk hq h15 hK; omega
  clear hx5
  refine c_use (q := q) (by rw [im_rdn _ _ _ _ (by decide)]; exact h17) ⟨rfl, rfl, ?_⟩
  generalize hMb : im_u (im_u M 6979 i x5) 6952 14 q = Mb
  have b1 : ∀ x, x ≠ 6952 → x ≠ 6979 → Mb x = M x := fun x a b => by rw [← hMb, im_u_ne _ _ _ a, im_u_ne _ _ _ b]
  have b2 : ∀ k, k ≠ 14 → Mb 6952 k = M 6952 k := fun k a => by rw [← hMb, im_rdk _ _ _ a, im_rdn _ _ _ _ (by decide)]
  have b14 : Mb 6952 14 = q := by rw [← hMb, im_rds]
  have b79 : ∀ j, Mb 6979 j = if j = i then x5 else M 6979 j := fun j => by rw [← hMb, im_rdn _ _ _ _ (by decide), im_rdx]
  clear hMb
  have hRb : RSg n Mb (.inr q) := ⟨(b2 19 (by decide)).trans h19, (b2 20 (by decide)).trans h20, b14, by omega, by omega⟩
  have hrb : rtx Mb t n := hrt.tx (b2 13 (by decide)) (b1 6959 (by decide) (by decide))
  have hbi : Mb 6979 i = x5 := by rw [b79, if_pos rfl]
  rw [hbi]
  by_cases h30 : ty = 30
  · subst h30
    rw [in1_30] at hK
    refine ⟨fun z => absurd hx z, fun _ => hK Mb ⟨fun x a _ b => b1 x a (by omega), fun k _ hk => b2 k (by omega), fun j _ => by rw [b1 6955 (by decide) (by decide)], ⟨by rw [b2 7 (by decide)]; omega, by rw [b2 7 (by decide)]; omega⟩, fun x j x1 x2 hj => ?_⟩ hRb (fun a ha => ⟨hi, Or.inr (Or.inr rfl), by rw [hbi]; omega, fun z => absurd rfl z, fun z => absurd z (by decide)⟩)⟩
    by_cases hx79 : x = 6979
    · rw [hx79, b79, if_neg hj]
    · rw [b1 x (by omega) hx79]
  refine ⟨fun _ => ?_, fun z => absurd z (by omega)⟩
  refine c_inputName hrb hRb (by omega) (fun M1 T1 R1 z1 => ⟨_, rfl, rfl, z1, ?_⟩)
  have y1 : im_u M1 6980 i (nmS t n (.inr q)).2 6952 = M1 6952 := im_u_ne _ _ _ (by decide)
  generalize hN1 : im_u M1 6980 i (nmS t n (.inr q)).2 = N1 at y1
  have n1 : ∀ x, x ≠ 6952 → x ≠ 6980 → N1 x = Mb x := fun x a b => by rw [← hN1, im_u_ne _ _ _ b]; exact T1.1 x a
  have n1a : ∀ j, N1 6980 j = if j = i then (nmS t n (.inr q)).2 else M 6980 j := fun j => by rw [← hN1, im_rdx, T1.1 6980 (by decide), b1 6980 (by decide) (by decide)]
  have n1k : ∀ k, k < 14 ∨ 20 < k → N1 6952 k = M 6952 k := fun k hk => by rw [y1, T1.2 k hk]; exact b2 k (by omega)
  clear hN1
  refine c_inputName (hrt.tx (n1k 13 (by decide)) ((n1 6959 (by decide) (by decide)).trans (b1 6959 (by decide) (by decide)))) (R1.u y1) (by omega) (fun M2 T2 R2 z2 => ⟨_, rfl, rfl, z2, ?_⟩)
  have hm2 : M2 6979 i = x5 := by rw [T2.1 6979 (by decide), n1 6979 (by decide) (by decide)]; exact hbi
  rw [hm2]
  generalize hw1 : (nmS t n (.inr q)).1 = s1 at R1 R2 z2
  have y2 : im_u M2 6981 i (nmS t n s1).2 6952 = M2 6952 := im_u_ne _ _ _ (by decide)
  generalize hN2 : im_u M2 6981 i (nmS t n s1).2 = N2 at y2
  have n2 : ∀ x, x ≠ 6952 → x ≠ 6980 → x ≠ 6981 → N2 x = Mb x := fun x a b c => by rw [← hN2, im_u_ne _ _ _ c, T2.1 x a]; exact n1 x a b
  have n2a : ∀ j, N2 6980 j = if j = i then (nmS t n (.inr q)).2 else M 6980 j := fun j => by rw [← hN2, im_rdn _ _ _ _ (by decide), T2.1 6980 (by decide)]; exact n1a j
  have n2b : ∀ j, N2 6981 j = if j = i then (nmS t n s1).2 else M 6981 j := fun j => by rw [← hN2, im_rdx, T2.1 6981 (by decide), n1 6981 (by decide) (by decide), b1 6981 (by decide) (by decide)]
  have n2k : ∀ k, k < 14 ∨ 20 < k → N2 6952 k = M 6952 k := fun k hk => by rw [y2, T2.2 k hk]; exact n1k k hk
  have fin : ∀ (N3 M' : im_M) (c : Int) (σ : Sum (Int × Int) Int) (w : Int), (∀ x, x ≠ 6952 → x ≠ 6982 → N3 x = N2 x) → (∀ k, k < 14 ∨ 20 < k → N3 6952 k = M 6952 k) → (∀ j, N3 6982 j = if j = i then c else M 6982 j) → NJ i N3 M' → (∀ a, σ = .inr a → rnp M' 0 (M' 6952 7) (M' 6983 i) w) → IX i M M' ∧ (∀ a, σ = .inr a → IR M' i ty (nmS t n (.inr q)).2 (nmS t n s1).2 c w (M' 6952 7)) := by
    intro N3 M' c σ w u1 u2 u3 ⟨v1, v2, v3, v4, v5⟩ v6
    have e7 : N3 6952 7 = M 6952 7 := u2 7 (by decide)
    have ei : ∀ j, M' 6979 j = if j = i then x5 else M 6979 j := fun j => by rw [v1 6979 (by decide) (by decide) (by decide), u1 6979 (by decide) (by decide), n2 6979 (by decide) (by decide) (by decide)]; exact b79 j
    have ea : ∀ j, M' 6980 j = if j = i then (nmS t n (.inr q)).2 else M 6980 j := fun j => by rw [v1 6980 (by decide) (by decide) (by decide), u1 6980 (by decide) (by decide)]; exact n2a j
    have eb : ∀ j, M' 6981 j = if j = i then (nmS t n s1).2 else M 6981 j := fun j => by rw [v1 6981 (by decide) (by decide) (by decide), u1 6981 (by decide) (by decide)]; exact n2b j
    have ec : ∀ j, M' 6982 j = if j = i then c else M 6982 j := fun j => by rw [v1 6982 (by decide) (by decide) (by decide)]; exact u3 j
    have ed : ∀ j, j ≠ i → M' 6983 j = M 6983 j := fun j hj => by rw [v5 j hj, u1 6983 (by decide) (by decide), n2 6983 (by decide) (by decide) (by decide), b1 6983 (by decide) (by decide)]
    refine ⟨⟨fun x a b c' => ?_, fun k a b => (v2 k a b).trans (u2 k b), fun j hj => ?_, by rw [e7] at v4; exact v4, fun x j x1 x2 hj => ?_⟩, fun a ha => ⟨hi, by omega, ?_, fun _ => ⟨?_, ?_, v6 a ha⟩, fun _ => ?_⟩⟩
    · rw [v1 x a b (by omega), u1 x a (by omega), n2 x a (by omega) (by omega), b1 x a (by omega)]
    · rw [v3 j (by omega), u1 6955 (by decide) (by decide), n2 6955 (by decide) (by decide) (by decide), b1 6955 (by decide) (by decide)]
    · have : x = 6979 ∨ x = 6980 ∨ x = 6981 ∨ x = 6982 ∨ x = 6983 := by omega
      rcases this with h | h | h | h | h
      · rw [h, ei, if_neg hj]
      · rw [h, ea, if_neg hj]
      · rw [h, eb, if_neg hj]
      · rw [h, ec, if_neg hj]
      · rw [h, ed j hj]
    · rw [ei, if_pos rfl]; exact hx
    · rw [ea, if_pos rfl]
    · rw [eb, if_pos rfl]
    · rw [ec, if_pos rfl]
  have fx : ∀ x, x ≠ 6952 → x ≠ 6980 → x ≠ 6981 → x ≠ 6979 → N2 x = M x := fun x a b c d => (n2 x a b c).trans (b1 x a d)
  clear hN2 n2a n2b n1a b79 hbi
  by_cases h29 : ty = 29
  · rw [h29, in1_29, hw1] at hK
    refine ⟨fun _ => ?_, fun z => absurd z (by omega)⟩
    have y3 : im_u N2 6982 i 0 6952 = M2 6952 := (im_u_ne _ _ _ (by decide)).trans y2
    generalize hN3 : im_u N2 6982 i 0 = N3 at y3
    have n3 : ∀ x, x ≠ 6982 → N3 x = N2 x := fun x a => by rw [← hN3, im_u_ne _ _ _ a]
    have n3c : ∀ j, N3 6982 j = if j = i then 0 else M 6982 j := fun j => by rw [← hN3, im_rdx, fx 6982 (by decide) (by decide) (by decide) (by decide)]
    have n3k : ∀ k, k < 14 ∨ 20 < k → N3 6952 k = M 6952 k := fun k hk => by rw [n3 6952 (by decide)]; exact n2k k hk
    clear hN3
    refine l_inNum (hrt.tx (n3k 13 (by decide)) ((n3 6959 (by decide)).trans (fx 6959 (by decide) (by decide) (by decide) (by decide)))) (R2.u y3) (by rw [y3]) (by rw [n3k 8 (by decide)]; exact h8) (by rw [n3k 7 (by decide)]; exact h70) (by rw [n3k 7 (by decide)]; exact h71) hi (by omega) (fun M' F R r => ?_)
    obtain ⟨o1, o2⟩ := fin N3 M' 0 _ _ (fun x _ b => n3 x b) n3k n3c F r
    exact hK M' o1 R (by rw [h29] at o2; exact o2)
  · have h28 : ty = 28 := by omega
    rw [h28, in1_28, hw1] at hK
    refine ⟨fun z => absurd (by omega) z, fun _ => ?_⟩
    refine c_inputName (hrt.tx (n2k 13 (by decide)) (fx 6959 (by decide) (by decide) (by decide) (by decide))) (R2.u y2) (by omega) (fun M3 T3 R3 z3 => ⟨_, rfl, rfl, z3, ?_⟩)
    generalize hw2 : (nmS t n s1).1 = s2 at hK R3 z3
    have y3 : im_u M3 6982 i (nmS t n s2).2 6952 = M3 6952 := im_u_ne _ _ _ (by decide)
    generalize hN3 : im_u M3 6982 i (nmS t n s2).2 = N3 at y3
    have n3 : ∀ x, x ≠ 6952 → x ≠ 6982 → N3 x = N2 x := fun x b a => by rw [← hN3, im_u_ne _ _ _ a]; exact T3.1 x b
    have n3c : ∀ j, N3 6982 j = if j = i then (nmS t n s2).2 else M 6982 j := fun j => by rw [← hN3, im_rdx, T3.1 6982 (by decide), fx 6982 (by decide) (by decide) (by decide) (by decide)]
    have n3k : ∀ k, k < 14 ∨ 20 < k → N3 6952 k = M 6952 k := fun k hk => by rw [y3, T3.2 k hk]; exact n2k k hk
    clear hN3
    refine l_inNum (hrt.tx (n3k 13 (by decide)) ((n3 6959 (by decide) (by decide)).trans (fx 6959 (by decide) (by decide) (by decide) (by decide)))) (R3.u y3) (by rw [y3]) (by rw [n3k 8 (by decide)]; exact h8) (by rw [n3k 7 (by decide)]; exact h70) (by rw [n3k 7 (by decide)]; exact h71) hi (by omega) (fun M' F R r => ?_)
    obtain ⟨o1, o2⟩ := fin N3 M' (nmS t n s2).2 _ _ n3 n3k n3c F r
    exact hK M' o1 R (by rw [h28] at o2; exact o2)
end RINP2
