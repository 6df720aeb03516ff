/-! THE REFERENCE begins an instance -/
section RBEG2
variable {g : im_g} {d : Nat} {e : im_E} {M : im_M} {K : im_K} {w : Wd}
theorem l_db91 {M0 : im_M} {i p : Int} (hi : 0 ≤ i ∧ i < 16) (hp : 0 ≤ p ∧ p < 20)
    (hK : ∀ M', (∀ x, x ≠ 7010 → M' x = M0 x) → (∀ q, q < 302 * (20 * i + p) ∨ 302 * (20 * i + p) + 302 ≤ q → M' 7010 q = M0 7010 q) → (∀ k, 0 ≤ k → k < 302 → M' 7010 (302 * (20 * i + p) + k) = M0 6993 (302 * p + k)) → im_T g d 346 60 [some (.ref 6952), some (vI i), none, none, none, some (vI (p + 1)), none] [] e M' K) :
    ∀ (j k : Nat) (M : im_M), k + j = 302 → (∀ x, x ≠ 7010 → M x = M0 x) → (∀ q, q < 302 * (20 * i + p) ∨ 302 * (20 * i + p) + k ≤ q → M 7010 q = M0 7010 q) → (∀ q : Int, 0 ≤ q → q < k → M 7010 (302 * (20 * i + p) + q) = M0 6993 (302 * p + q)) → im_T g d 346 91 [some (.ref 6952), some (vI i), none, none, none, some (vI p), some (vI k)] [] e M K := by
  intro j
  induction j with
  | zero =>
    intro k M hk hx ho hm
    exact b_doBegin_91 ⟨by constructor <;> omega, fun _ => hK M hx (fun q hq => ho q (by omega)) (fun q q0 q1 => hm q q0 (by omega)), fun z => by omega⟩
  | succ j ih =>
    intro k M hk hx ho hm
    refine b_doBegin_91 ⟨by constructor <;> omega, fun z => by omega, fun _ => ⟨⟨by omega, by omega⟩, ⟨by omega, by omega⟩, ?_⟩⟩
    refine ih (k + 1) _ (by omega) (fun x a => by rw [im_u_ne _ _ _ a]; exact hx x a) (fun q hq => by rw [im_rdk _ _ _ (by omega)]; exact ho q (by omega)) (fun q q0 q1 => ?_)
    rw [im_rdx]
    by_cases c : q = k
    · rw [if_pos (by omega), hx 6993 (by decide), c]
    · rw [if_neg (by omega)]; exact hm q q0 (by omega)
theorem sn_copy {M M' : im_M} {c c' : Nat} {f t x : Int} (h : sn M c f x) (hm : ∀ k, 0 ≤ k → k < 302 → M' c' (302 * t + k) = M c (302 * f + k)) : sn M' c' t x := by
  have h1 : sn (fun _ => M' c') c' t x := sn_move (M := fun y => if y = c' then M c else M' c') (M' := fun _ => M' c') (c := c') (f := f) (by
    obtain ⟨n, hn⟩ := h
    refine ⟨n, ?_⟩
    dsimp only
    rw [if_pos rfl]; exact hn) (fun k k0 k1 => by rw [if_pos rfl]; exact hm k k0 k1)
  exact h1
theorem l_db60 {M0 : im_M} {i : Int} {pm : Bk} (hi : 0 ≤ i ∧ i < 16) (hpm : rPm M0 pm)
    (hK : ∀ M', (∀ x, x ≠ 7009 → x ≠ 7010 → M' x = M0 x) → (∀ q, q < 20 * i ∨ 20 * i + 20 ≤ q → M' 7009 q = M0 7009 q) → (∀ q, q < 302 * (20 * i) ∨ 302 * (20 * i + 20) ≤ q → M' 7010 q = M0 7010 q) → (∀ p : Nat, p < pm.1 → M' 7009 (20 * i + p) = pm.2.1 p ∧ sn M' 7010 (20 * i + p) (pm.2.2.2 p)) → K (.inl none) e M') :
    ∀ (j p : Nat) (M : im_M), p + j = pm.1 → (∀ x, x ≠ 7009 → x ≠ 7010 → M x = M0 x) → (∀ q, q < 20 * i ∨ 20 * i + p ≤ q → M 7009 q = M0 7009 q) → (∀ q, q < 302 * (20 * i) ∨ 302 * (20 * i + p) ≤ q → M 7010 q = M0 7010 q) → (∀ r : Nat, r < p → M 7009 (20 * i + r) = pm.2.1 r ∧ sn M 7010 (20 * i + r) (pm.2.2.2 r)) → im_T g d 346 60 [some (.ref 6952), some (vI i), none, none, none, some (vI p), none] [] e M K := by
  obtain ⟨b1, b2, b3, b4⟩ := hpm
  intro j
  induction j with
  | zero =>
    intro p M hp hx h9 h10 hr
    refine b_doBegin_60 ?_
    rw [hx 6952 (by decide) (by decide), b1]
    exact ⟨by constructor <;> omega, fun _ => hK M hx (fun q hq => h9 q (by omega)) (fun q hq => h10 q (by omega)) (fun r hr' => hr r (by omega)), fun z => by omega⟩
  | succ j ih =>
    intro p M hp hx h9 h10 hr
    refine b_doBegin_60 ?_
    rw [hx 6952 (by decide) (by decide), b1]
    refine ⟨by constructor <;> omega, fun z => by omega, fun _ => ⟨⟨by omega, by omega⟩, ⟨by omega, by omega⟩, ?_⟩⟩
    generalize hN : im_u M 7009 (20 * i + p) (M 6992 p) = N
    have n1 : ∀ x, x ≠ 7009 → N x = M x := fun x a => by rw [← hN, im_u_ne _ _ _ a]
    have n4 : ∀ q, N 7009 q = if q = 20 * i + p then M 6992 p else M 7009 q := fun q => by rw [← hN, im_rdx]
    clear hN
    refine l_db91 (M0 := N) hi ⟨by omega, by omega⟩ (fun M' s1 s2 s3 => ?_) 302 0 N (by omega) (fun _ _ => rfl) (fun _ _ => rfl) (fun q a b => by omega)
    have e92 : M 6992 p = pm.2.1 p := by rw [hx 6992 (by decide) (by decide)]; exact (b4 p (by omega)).1
    refine ih (p + 1) M' (by omega) (fun x a b => by rw [s1 x b, n1 x a]; exact hx x a b) (fun q hq => by rw [s1 7009 (by decide), n4, if_neg (by omega)]; exact h9 q (by omega)) (fun q hq => by rw [s2 q (by omega), n1 7010 (by decide)]; exact h10 q (by omega)) (fun r hr' => ?_)
    rw [s1 7009 (by decide), n4]
    by_cases c : r = p
    · subst c
      rw [if_pos rfl]
      refine ⟨e92, sn_copy (M := N) (c := 6993) (f := r) ?_ s3⟩
      exact sn_congr (b4 r (by omega)).2 (fun q _ _ => by rw [n1 6993 (by decide), hx 6993 (by decide) (by decide)])
    · rw [if_neg (by omega)]
      obtain ⟨q1, q2⟩ := hr r (by omega)
      exact ⟨q1, sn_congr q2 (fun q a b => by rw [s2 q (by omega), n1 7010 (by decide)])⟩
theorem c_doBegin {i k tm root : Int} (h : RW M w) (hi : 0 ≤ i ∧ i < 16) (hk : 0 ≤ k ∧ k < 16) (h85 : M 6985 k = root) (htm : im_i64 tm)
    (hK : ∀ M', (∀ x, x < 6952 ∨ 7080 < x → M' x = M x) → M' 6952 0 = M 6952 0 → RW M' (w.sIn (upI w.gIn i (1, root, tm, (0, (w.gIn i).2.2.2.1.2), (0, (w.gIn i).2.2.2.2.1.2), (0, (w.gIn i).2.2.2.2.2.1.2), w.gPm))) → K (.inl none) e M') : im_T g d 346 0 [some (.ref 6952), some (vI i), some (vI k), some (vL tm), none, none, none] [] e M K := by
  obtain ⟨_, ⟨_, _, hin⟩, ⟨hpm, _, _⟩, _⟩ := id h
  obtain ⟨b1, b2, b3, b4⟩ := id hpm
  refine b_doBegin_0 ⟨hi, hk, htm, ?_⟩
  rw [h85, b1]
  generalize hN : im_u (im_u (im_u (im_u (im_u (im_u (im_u M 6994 i 1) 6995 i root) 6996 i tm) 6997 i 0) 7001 i 0) 7005 i 0) 7008 i (w.gPm.1 : Int) = N
  have n1 : ∀ x, x ≠ 6994 → x ≠ 6995 → x ≠ 6996 → x ≠ 6997 → x ≠ 7001 → x ≠ 7005 → x ≠ 7008 → N x = M x := fun x a b c d f g' h' => by rw [← hN, im_u_ne _ _ _ h', im_u_ne _ _ _ g', im_u_ne _ _ _ f, im_u_ne _ _ _ d, im_u_ne _ _ _ c, im_u_ne _ _ _ b, im_u_ne _ _ _ a]
  have no : ∀ (x : Nat) (q : Int), q ≠ i → N x q = M x q := fun x q hq => by
    have hu : ∀ (Q : im_M) (y : Nat) (v : Int), im_u Q y i v x q = Q x q := fun Q y v => by
      by_cases hy : x = y
      · subst hy; exact im_rdk _ _ _ hq
      · exact im_rdn _ _ _ _ hy
    rw [← hN, hu, hu, hu, hu, hu, hu, hu]
  have v94 : N 6994 i = 1 := by rw [← hN, im_rdn _ _ _ _ (by decide), im_rdn _ _ _ _ (by decide), im_rdn _ _ _ _ (by decide), im_rdn _ _ _ _ (by decide), im_rdn _ _ _ _ (by decide), im_rdn _ _ _ _ (by decide), im_rds]
  have v95 : N 6995 i = root := by rw [← hN, im_rdn _ _ _ _ (by decide), im_rdn _ _ _ _ (by decide), im_rdn _ _ _ _ (by decide), im_rdn _ _ _ _ (by decide), im_rdn _ _ _ _ (by decide), im_rds]
  have v96 : N 6996 i = tm := by rw [← hN, im_rdn _ _ _ _ (by decide), im_rdn _ _ _ _ (by decide), im_rdn _ _ _ _ (by decide), im_rdn _ _ _ _ (by decide), im_rds]
  have v97 : N 6997 i = 0 := by rw [← hN, im_rdn _ _ _ _ (by decide), im_rdn _ _ _ _ (by decide), im_rdn _ _ _ _ (by decide), im_rds]
  have v01 : N 7001 i = 0 := by rw [← hN, im_rdn _ _ _ _ (by decide), im_rdn _ _ _ _ (by decide), im_rds]
  have v05 : N 7005 i = 0 := by rw [← hN, im_rdn _ _ _ _ (by decide), im_rds]
  have v08 : N 7008 i = w.gPm.1 := by rw [← hN, im_rds]
  clear hN
  have n52 : N 6952 = M 6952 := n1 6952 (by decide) (by decide) (by decide) (by decide) (by decide) (by decide) (by decide)
  have hpmN : rPm N w.gPm := rPm_congr hpm (by rw [n52]) (n1 _ (by decide) (by decide) (by decide) (by decide) (by decide) (by decide) (by decide)) (n1 _ (by decide) (by decide) (by decide) (by decide) (by decide) (by decide) (by decide))
  refine l_db60 (M0 := N) (pm := w.gPm) hi hpmN (fun M' s1 s2 s3 s4 => ?_) w.gPm.1 0 N (by omega) (fun _ _ _ => rfl) (fun _ _ => rfl) (fun _ _ => rfl) (fun r hr => absurd hr (Nat.not_lt_zero r))
  refine hK M' (fun x hx => by rw [s1 x (by omega) (by omega)]; exact n1 x (by omega) (by omega) (by omega) (by omega) (by omega) (by omega) (by omega)) (by rw [s1 6952 (by decide) (by decide), n52]) ?_
  refine h.ins (M' := M') (fun x a b => by rw [s1 x (by omega) (by omega)]; exact n1 x (by omega) (by omega) (by omega) (by omega) (by omega) (by omega) (by omega)) (fun q _ => by rw [s1 6952 (by decide) (by decide), n52]) (fun q q0 q1 => ?_)
  unfold upI
  by_cases hqi : q = i
  · rw [if_pos hqi]
    subst hqi
    obtain ⟨_, S1, S2, S3, S4, S5⟩ := hin q q0 q1
    refine ⟨⟨by rw [s1 6994 (by decide) (by decide)]; exact v94, by rw [s1 6995 (by decide) (by decide)]; exact v95, by rw [s1 6996 (by decide) (by decide)]; exact v96⟩, ⟨by rw [s1 6997 (by decide) (by decide)]; exact v97, Nat.zero_le _, fun k hk => absurd hk (Nat.not_lt_zero k)⟩, ⟨by rw [s1 7001 (by decide) (by decide)]; exact v01, Nat.zero_le _, fun k hk => absurd hk (Nat.not_lt_zero k)⟩, ⟨by rw [s1 7005 (by decide) (by decide)]; exact v05, Nat.zero_le _, S3.2.2.1, fun k hk => absurd hk (Nat.not_lt_zero k)⟩, ⟨by rw [s1 7008 (by decide) (by decide)]; exact v08, by show w.gPm.1 ≤ 40; omega, b3, fun k hk => s4 k hk⟩, b2⟩
  · rw [if_neg hqi]
    obtain ⟨⟨u1, u2, u3⟩, S1, S2, S3, S4, S5⟩ := hin q q0 q1
    have ex : ∀ (x : Nat), x ≠ 7009 → x ≠ 7010 → M' x q = M x q := fun x a b => by rw [s1 x a b]; exact no x q hqi
    have ey : ∀ x, x ≠ 6994 → x ≠ 6995 → x ≠ 6996 → x ≠ 6997 → x ≠ 7001 → x ≠ 7005 → x ≠ 7008 → x ≠ 7009 → x ≠ 7010 → M' x = M x := fun x a b c d f g' h' i' j' => by rw [s1 x i' j']; exact n1 x a b c d f g' h'
    obtain ⟨c1, c2, c3⟩ := S1
    obtain ⟨c4, c5, c6⟩ := S2
    obtain ⟨c7, c8, c9, c10⟩ := S3
    obtain ⟨d1, d2, d3, d4⟩ := S4
    refine ⟨⟨(ex 6994 (by decide) (by decide)).trans u1, (ex 6995 (by decide) (by decide)).trans u2, (ex 6996 (by decide) (by decide)).trans u3⟩, ⟨(ex 6997 (by decide) (by decide)).trans c1, c2, fun k hk => ?_⟩, ⟨(ex 7001 (by decide) (by decide)).trans c4, c5, fun k hk => ?_⟩, ⟨(ex 7005 (by decide) (by decide)).trans c7, c8, c9, fun k hk => ?_⟩, ⟨(ex 7008 (by decide) (by decide)).trans d1, d2, d3, fun k hk => ?_⟩, S5⟩
    · rw [ey 6998 (by decide) (by decide) (by decide) (by decide) (by decide) (by decide) (by decide) (by decide) (by decide), ey 6999 (by decide) (by decide) (by decide) (by decide) (by decide) (by decide) (by decide) (by decide) (by decide)]
      exact ⟨(c3 k hk).1, (c3 k hk).2.1, sn_congr (c3 k hk).2.2 (fun z _ _ => by rw [ey 7000 (by decide) (by decide) (by decide) (by decide) (by decide) (by decide) (by decide) (by decide) (by decide)])⟩
    · rw [ey 7002 (by decide) (by decide) (by decide) (by decide) (by decide) (by decide) (by decide) (by decide) (by decide), ey 7003 (by decide) (by decide) (by decide) (by decide) (by decide) (by decide) (by decide) (by decide) (by decide)]
      exact ⟨(c6 k hk).1, (c6 k hk).2.1, sn_congr (c6 k hk).2.2 (fun z _ _ => by rw [ey 7004 (by decide) (by decide) (by decide) (by decide) (by decide) (by decide) (by decide) (by decide) (by decide)])⟩
    · rw [ey 7006 (by decide) (by decide) (by decide) (by decide) (by decide) (by decide) (by decide) (by decide) (by decide)]
      exact ⟨(c10 k hk).1, sn_congr (c10 k hk).2 (fun z _ _ => by rw [ey 7007 (by decide) (by decide) (by decide) (by decide) (by decide) (by decide) (by decide) (by decide) (by decide)])⟩
    · have hk20 : (k : Int) < 20 := by omega
      refine ⟨?_, sn_congr (d4 k hk).2 (fun z z1 z2 => ?_)⟩
      · rw [s2 _ (by omega), n1 7009 (by decide) (by decide) (by decide) (by decide) (by decide) (by decide) (by decide)]; exact (d4 k hk).1
      · rw [s3 z (by omega), n1 7010 (by decide) (by decide) (by decide) (by decide) (by decide) (by decide) (by decide)]
end RBEG2
