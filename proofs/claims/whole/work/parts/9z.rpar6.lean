section RPAR6
variable {g : im_g} {d : Nat} {e : im_E} {M M0 : im_M} {K : im_K} {lo kp pk a p q ty nm v m lw : Int} {x : en} {r L : List en} {R : Rw}
theorem stp_s8 (h : x.1 = 97) : stp lo ty nm v (x :: r, R, m, lw) = if 28 ≤ ty ∧ ty ≤ 30 then .inr (shE ty x.2.1 ++ r, im_u R 0 x.2.1 ty, m, lw) else .inl 4 := by
  show (if _ then _ else _) = _
  rw [if_neg (by omega), if_neg (by omega), if_pos h]
theorem h104_ap {c k : Int} (hk : 28 ≤ k ∧ k ≤ 30) : h104 (shE k c ++ r) = 0 ∧ ∀ y r', shE k c ++ r = y :: r' → y.1 ≠ 104 := by
  have : k = 28 ∨ k = 29 ∨ k = 30 := by omega
  rcases this with z | z | z <;> subst z
  · refine ⟨rfl, fun y r' he => ?_⟩
    rw [← (List.cons.inj (show ((49, c, 1, 5) : en) :: _ = y :: r' from he)).1]
    show (49 : Int) ≠ 104; decide
  · refine ⟨rfl, fun y r' he => ?_⟩
    rw [← (List.cons.inj (show ((49, c, 1, 5) : en) :: _ = y :: r' from he)).1]
    show (49 : Int) ≠ 104; decide
  · refine ⟨rfl, fun y r' he => ?_⟩
    rw [← (List.cons.inj (show ((111, c, 1, 2) : en) :: _ = y :: r' from he)).1]
    show (111 : Int) ≠ 104; decide
theorem c_readAction {n dp : Int} (h : RJ M0 M lo kp pk a (x :: r, R, m, lw) L) (ht : TK M p q ty nm) (h1 : -2 ≤ ty) (h2 : ty ≤ 41) (hkw : 0 ≤ ty → ty ≤ 33 → nm = kwv ty) (hw : wfS lo (x :: r, R, m, lw)) (hu : u98 (x :: r)) (ha : a ≤ q) (hLl : L.length < 29000)
    (hx : x.1 = 97) (hn : n = x.2.1) (hdp : dp = R 1 x.2.1 + 1) (hL : L = (1, x.2.1, 2, R 1 x.2.1 + 1) :: rst R false r) (hd : 3 ≤ d) (hKf : KFR e K M0 lo kp pk p ty nm v (x :: r, R, m, lw)) (hKs : KSR e K M0 lo kp pk q ty nm v (x :: r, R, m, lw)) : im_T g d 299 0 [some (.ref 6952), some (vI n), some (vI dp), none] [] e M K := by
  obtain ⟨t14, t15, t16, t17, t18, t19⟩ := id ht
  obtain ⟨o1, o2, o3, o4, o5⟩ := ent_x hw (by omega) (by omega)
  have rr2 := rk_2 h1 h2
  obtain ⟨k31, k60⟩ := o5.2.1 hx
  have hd1 := hw.2.2.2.2.2.2.1 x.2.1 o1 o2
  dsimp only at hd1
  have hno98 : ∀ y ∈ r, y.1 ≠ 98 := fun y hy h98 => by
    have := hu.2 ⟨y, hy, h98⟩
    omega
  have h01 : h104 (x :: r) = 0 := if_neg (by omega)
  have hnq : nq (x :: r) = nq r + if x.1 = 41 then 1 else 0 := rfl
  rw [if_neg (by omega)] at hnq
  subst hn hdp
  have htk : rk ty = 2 → (M 6952 18 = 28259031251642740 ↔ ty = 28) ∧ (M 6952 18 = 109300196926309 ↔ ty = 29) ∧ (M 6952 18 = 121424973489785 ↔ ty = 30) := fun z => by
    have z' := rr2.mp z
    rw [t18 (Or.inl z')]
    exact ⟨kwv_iff (c := 28) z'.1 z'.2 (hkw z'.1 z'.2) (by decide) (by decide), kwv_iff (c := 29) z'.1 z'.2 (hkw z'.1 z'.2) (by decide) (by decide), kwv_iff (c := 30) z'.1 z'.2 (hkw z'.1 z'.2) (by decide) (by decide)⟩
  generalize hR' : im_u R 0 x.2.1 ty = R'
  have hRn : ∀ (f : Nat) (i : Int), f ≠ 0 ∨ i ≠ x.2.1 → R' f i = R f i := fun f i hh => by
    rw [← hR']
    by_cases hf' : f = 0
    · subst hf'; exact im_rdk _ _ _ (by omega)
    · exact im_rdn _ _ _ _ hf'
  have hR0 : R' 0 x.2.1 = ty := by rw [← hR']; exact im_rds _ _ _ _
  have hdeep : deepOf R' x.2.1 = R 1 x.2.1 + 1 := by
    unfold deepOf
    rw [if_neg (by omega), hRn 1 _ (by omega)]
  have hrr : rst R' false r = rst R false r := rst_congr r false (fun y hy => ⟨fun _ _ => ⟨hRn 1 _ (by omega), fun _ => hRn 3 _ (by omega), fun _ => hRn 6 _ (by omega)⟩, ent_m1 hw y hy⟩)
  have fin : ∀ M5 : im_M, 28 ≤ ty ∧ ty ≤ 30 → (∀ y, y ≠ 6952 → y ≠ 6960 → y ≠ 6971 → (y < 6975 ∨ 6978 < y) → M5 y = M y) → (∀ (y : Nat) (i : Int), y = 6960 ∨ y = 6971 → i ≠ x.2.1 → M5 y i = M y i) → M5 6960 x.2.1 = ty - 20 → (ty = 29 → M5 6971 x.2.1 = M 6952 37) → (∀ k, k ≠ 14 → k ≠ 45 → M5 6952 k = M 6952 k) → M5 6952 14 = q → stR M5 (rst R' false (shE ty x.2.1 ++ r)) → K (.inl none) e M5 := fun M5 hty g1 g2 g3 g4 g5 g6 g7 => by
    obtain ⟨a1, a2, a3, a4, a5, a6, a7, a8, a9, a10⟩ := h
    dsimp only at a2 a4 a6 a7 a8 a9
    rw [h01] at a4
    have e7 : M5 6952 7 = M 6952 7 := g5 7 (by decide) (by decide)
    have e37 : M5 6952 37 = M 6952 37 := g5 37 (by decide) (by decide)
    have hrw : ∀ (y : Nat) (i : Int), 6960 ≤ y → y ≤ 6972 → i ≠ x.2.1 → M5 y i = M y i := fun y i b c d' => by
      by_cases hy : y = 6960 ∨ y = 6971
      · exact g2 y i hy d'
      · rw [g1 y (by omega) (by omega) (by omega) (by omega)]
    have hX : XR lo kp pk M M5 := ⟨fun y b c d' => g1 y b (by omega) (by omega) (by omega), fun k _ b _ _ _ c => g5 k (by omega) c, fun i _ => by rw [g1 6955 (by decide) (by decide) (by decide) (by decide)], fun y i b c d' => hrw y i b c (by omega), fun y i b _ => by rw [g1 y (by omega) (by omega) (by omega) (by omega)]⟩
    have hq := hKs (shE ty x.2.1 ++ r, R', m, lw) (by rw [stq_ok (by omega) (by omega), stp_s8 hx, if_pos hty, hR'])
    refine hq M5 ⟨a1.tr hX (g5 20 (by decide) (by decide)), (g5 39 (by decide) (by decide)).trans a2, by rw [e7]; omega, ?_, g7, ?_, fun z => (g5 40 (by decide) (by decide)).trans (a7 z), fun i i0 i1 => ?_, fun y hy h98 => ?_, fun y r' he hh => absurd hh ((h104_ap hty).2 y r' he)⟩ ((g5 19 (by decide) (by decide)).trans t19) g6
    · dsimp only; rw [e37, (h104_ap hty).1]; omega
    · dsimp only
      rw [nq_app _ _ (fun y hy => by
        obtain ⟨_, z, hz, e'⟩ := shE_mem hy
        rw [e']; exact shp_41 ty z hz)]
      omega
    · dsimp only
      rw [e7, e37]
      have hpool : ∀ j, j < M 6952 7 → M5 6955 j = M 6955 j := fun j _ => by rw [g1 6955 (by decide) (by decide) (by decide) (by decide)]
      have hlow : ∀ (y : Nat) (j : Int), y = 6973 ∨ y = 6974 → j < M 6952 37 → M5 y j = M y j := fun y j b _ => by rw [g1 y (by omega) (by omega) (by omega) (by omega)]
      by_cases hi : i = x.2.1
      · subst hi
        obtain ⟨b1, b2, b3, b4, b5, b6, b7⟩ := a8 _ i0 i1
        unfold rowR
        rw [hR0, hRn 3 _ (by omega), hRn 4 _ (by omega), hRn 5 _ (by omega), hRn 6 _ (by omega), hRn 16 _ (by omega), hRn 17 _ (by omega), hRn 18 _ (by omega), hRn 19 _ (by omega), g1 6961 (by decide) (by decide) (by decide) (by decide), g1 6962 (by decide) (by decide) (by decide) (by decide), g1 6963 (by decide) (by decide) (by decide) (by decide), g1 6964 (by decide) (by decide) (by decide) (by decide), g1 6965 (by decide) (by decide) (by decide) (by decide), g1 6966 (by decide) (by decide) (by decide) (by decide), g1 6967 (by decide) (by decide) (by decide) (by decide), g1 6972 (by decide) (by decide) (by decide) (by decide), g3]
        refine ⟨?_, fun _ => b2 (by omega), fun _ => b3 (by omega), b4, fun z => by omega, fun z => by omega, fun z => ?_⟩
        · unfold kR
          rw [if_neg (by omega), if_neg (by omega), if_neg (by omega), if_neg (by omega), if_neg (by omega), if_pos (by omega)]
        · rw [g4 z, k60]
          exact ⟨(b3 (by omega)).2, by omega, by omega, fun j hj => by omega⟩
      · refine rowR_congr (a8 i i0 i1) (fun y b c => hrw y i b c hi) hpool hlow (fun f => hRn f i (Or.inr hi)) (Int.le_refl _) (Int.le_refl _) (fun _ _ z y hy => ?_)
        rcases List.mem_cons.mp hy with w | w
        · intro w1; rw [w] at w1; omega
        · exact z y (List.mem_append_right _ w)
    · dsimp only
      rcases List.mem_append.mp hy with z | z
      · obtain ⟨e1, w, hw', e2⟩ := shE_mem z
        have h29 : ty = 29 := by
          rcases shp_98 ty w hw' with u | u
          · rw [e2] at h98; exact absurd h98 u
          · exact u
        rw [e37, e1, g4 h29, hRn 6 _ (by omega), k60]; omega
      · exact absurd h98 (hno98 y z)
  have s0 : stR M L := h.2.2.2.2.1
  refine b_readAction_0 (by omega) ?_
  rw [t15]
  refine ⟨fun hh w hw' => ⟨by constructor <;> omega, ?_⟩, fun hh => c_ft h ht h1 h2 (fun _ _ => ?_) (by omega) hKf⟩
  · have h22 : rk ty = 2 := by omega
    obtain ⟨q1, q2, q3⟩ := htk h22
    have hty : 28 ≤ ty ∧ ty ≤ 30 := by omega
    have hwt : w = ty - 20 := by omega
    clear hw' hh q1 q2 q3
    refine c_use (q := q) ((im_rdn _ _ _ _ (by decide)).trans t17) ⟨rfl, rfl, ?_⟩
    generalize hM2 : im_u (im_u M 6960 x.2.1 w) 6952 14 q = M2
    have f2 : ∀ k, k ≠ 14 → M2 6952 k = M 6952 k := fun k b => by rw [← hM2, im_rdk _ _ _ b, im_rdn _ _ _ _ (by decide)]
    have f14 : M2 6952 14 = q := by rw [← hM2, im_rds]
    have m2 : ∀ y, y ≠ 6952 → y ≠ 6960 → M2 y = M y := fun y b c => by rw [← hM2, im_u_ne _ _ _ b, im_u_ne _ _ _ c]
    have m60 : M2 6960 x.2.1 = ty - 20 := by rw [← hM2, im_rdn _ _ _ _ (by decide), im_rds]; exact hwt
    have m60' : ∀ i, i ≠ x.2.1 → M2 6960 i = M 6960 i := fun i hi => by rw [← hM2, im_rdn _ _ _ _ (by decide), im_rdk _ _ _ hi]
    clear hM2
    rw [m60]
    have s2 : ∀ M3 : im_M, (∀ k, k ≠ 14 → M3 6952 k = M 6952 k) → (∀ y, y ≠ 6952 → y ≠ 6960 → y ≠ 6971 → M3 y = M y) → stR M3 L := fun M3 b c => ⟨(b 45 (by decide)).trans s0.1, stkR_congr L s0.2 (fun y i b' c' _ _ => by rw [c y (by omega) (by omega) (by omega)])⟩
    have hLl1 : ∀ z : en, (z :: L).length < 29001 := fun z => by show L.length + 1 < 29001; omega
    have i32c : im_i32 x.2.1 := by constructor <;> omega
    have i32d : im_i32 (R 1 x.2.1 + 1) := by constructor <;> omega
    have fin2 : ∀ (M3 M5 : im_M), SR M3 M5 → (∀ y, y ≠ 6952 → y ≠ 6960 → y ≠ 6971 → M3 y = M y) → (∀ (y : Nat) (i : Int), y = 6960 ∨ y = 6971 → i ≠ x.2.1 → M3 y i = M y i) → M3 6960 x.2.1 = ty - 20 → (ty = 29 → M3 6971 x.2.1 = M 6952 37) → (∀ k, k ≠ 14 → M3 6952 k = M 6952 k) → M3 6952 14 = q → stR M5 (rst R' false (shE ty x.2.1 ++ r)) → K (.inl none) e M5 := fun M3 M5 hS b1 b2 b3 b4 b5 b6 b7 => fin M5 hty (fun y c1 c2 c3 c4 => (hS.1 y c1 c4).trans (b1 y c1 c2 c3)) (fun y i c1 c2 => by rw [hS.1 y (by omega) (by omega)]; exact b2 y i c1 c2) (by rw [hS.1 6960 (by decide) (by decide)]; exact b3) (fun z => by rw [hS.1 6971 (by decide) (by decide)]; exact b4 z) (fun k c1 c2 => (hS.2 k c2).trans (b5 k c1)) ((hS.2 14 (by decide)).trans b6) b7
    refine ⟨fun n8 => ⟨fun n9 => ?_, fun e9 => ?_⟩, fun e8 => ?_⟩
    · have hty30 : ty = 30 := by omega
      refine c_pushR (3, x.2.1, 1, R 1 x.2.1 + 1) (s2 M2 f2 (fun y b c _ => m2 y b c)) (by omega) (Or.inl rfl) rfl rfl (fun _ => rfl) (by decide) i32c (by decide) i32d (fun M3 hS3 hst3 => ⟨rfl, rfl, ?_⟩)
      refine fin2 M2 M3 hS3 (fun y b c _ => m2 y b c) (fun y i b c => ?_) m60 (fun z => by omega) f2 f14 ?_
      · rcases b with b | b
        · subst b; exact m60' i c
        · subst b; rw [m2 6971 (by decide) (by decide)]
      · rw [hty30]
        have : rst R' false (shE 30 x.2.1 ++ r) = (3, x.2.1, 1, deepOf R' x.2.1) :: (1, x.2.1, 2, deepOf R' x.2.1) :: rst R' false r := rfl
        rw [this, hdeep, hrr, ← hL]; exact hst3
    · have hty29 : ty = 29 := by omega
      have e37 : M2 6952 37 = M 6952 37 := f2 37 (by decide)
      rw [e37]
      generalize hM3 : im_u M2 6971 x.2.1 (M 6952 37) = M3
      have f3 : ∀ k, M3 6952 k = M2 6952 k := fun k => by rw [← hM3, im_rdn _ _ _ _ (by decide)]
      have m3 : ∀ y, y ≠ 6971 → M3 y = M2 y := fun y b => by rw [← hM3, im_u_ne _ _ _ b]
      have m71 : M3 6971 x.2.1 = M 6952 37 := by rw [← hM3, im_rds]
      have m71' : ∀ i, i ≠ x.2.1 → M3 6971 i = M2 6971 i := fun i hi => by rw [← hM3, im_rdk _ _ _ hi]
      clear hM3
      have c3 : ∀ y, y ≠ 6952 → y ≠ 6960 → y ≠ 6971 → M3 y = M y := fun y b c d' => (m3 y d').trans (m2 y b c)
      have d3 : ∀ k, k ≠ 14 → M3 6952 k = M 6952 k := fun k b => (f3 k).trans (f2 k b)
      refine c_pushR (12, x.2.1, 0, 0) (s2 M3 d3 c3) (by omega) (Or.inl rfl) rfl rfl (fun z => absurd (show (12 : Int) ≤ 3 ∨ (12 : Int) = 8 ∨ (12 : Int) = 10 from z) (by decide)) (by decide) i32c (by decide) i32d (fun M4 hS4 hst4 => ⟨rfl, rfl, ?_⟩)
      refine c_pushR (7, x.2.1, 0, 0) hst4 (by show L.length + 1 < 29999; omega) (Or.inr ⟨rfl, rfl⟩) rfl rfl (fun z => absurd (show (7 : Int) ≤ 3 ∨ (7 : Int) = 8 ∨ (7 : Int) = 10 from z) (by decide)) (by decide) i32c (by decide) i32d (fun M5 hS5 hst5 => ⟨rfl, rfl, ?_⟩)
      refine c_pushR (4, x.2.1, 2, 0) hst5 (by show L.length + 1 + 1 < 29999; omega) (Or.inl rfl) rfl rfl (fun z => absurd (show (4 : Int) ≤ 3 ∨ (4 : Int) = 8 ∨ (4 : Int) = 10 from z) (by decide)) (by decide) i32c (by decide) i32d (fun M6 hS6 hst6 => ⟨rfl, rfl, ?_⟩)
      refine c_pushR (4, x.2.1, 1, 0) hst6 (by show L.length + 1 + 1 + 1 < 29999; omega) (Or.inl rfl) rfl rfl (fun z => absurd (show (4 : Int) ≤ 3 ∨ (4 : Int) = 8 ∨ (4 : Int) = 10 from z) (by decide)) (by decide) i32c (by decide) i32d (fun M7 hS7 hst7 => ⟨rfl, rfl, ?_⟩)
      refine fin2 M3 M7 (((hS4.trans hS5).trans hS6).trans hS7) c3 (fun y i b c => ?_) (by rw [m3 6960 (by decide)]; exact m60) (fun _ => m71) d3 ((f3 14).trans f14) ?_
      · rcases b with b | b
        · subst b; rw [m3 6960 (by decide)]; exact m60' i c
        · subst b; rw [m71' i c, m2 6971 (by decide) (by decide)]
      · rw [hty29]
        have : rst R' false (shE 29 x.2.1 ++ r) = (4, x.2.1, 1, 0) :: (4, x.2.1, 2, 0) :: (7, x.2.1, 0, 0) :: (12, x.2.1, R' 6 x.2.1, 0) :: (1, x.2.1, 2, deepOf R' x.2.1) :: rst R' false r := rfl
        rw [this, hdeep, hrr, hRn 6 _ (by omega), k60, ← hL]; exact hst7
    · have hty28 : ty = 28 := by omega
      refine c_pushR (2, x.2.1, 1, R 1 x.2.1 + 1) (s2 M2 f2 (fun y b c _ => m2 y b c)) (by omega) (Or.inl rfl) rfl rfl (fun _ => rfl) (by decide) i32c (by decide) i32d (fun M3 hS3 hst3 => ⟨rfl, rfl, ?_⟩)
      refine c_pushR (4, x.2.1, 3, 0) hst3 (by show L.length + 1 < 29999; omega) (Or.inl rfl) rfl rfl (fun z => absurd (show (4 : Int) ≤ 3 ∨ (4 : Int) = 8 ∨ (4 : Int) = 10 from z) (by decide)) (by decide) i32c (by decide) i32d (fun M4 hS4 hst4 => ⟨rfl, rfl, ?_⟩)
      refine c_pushR (4, x.2.1, 2, 0) hst4 (by show L.length + 1 + 1 < 29999; omega) (Or.inl rfl) rfl rfl (fun z => absurd (show (4 : Int) ≤ 3 ∨ (4 : Int) = 8 ∨ (4 : Int) = 10 from z) (by decide)) (by decide) i32c (by decide) i32d (fun M5 hS5 hst5 => ⟨rfl, rfl, ?_⟩)
      refine c_pushR (4, x.2.1, 1, 0) hst5 (by show L.length + 1 + 1 + 1 < 29999; omega) (Or.inl rfl) rfl rfl (fun z => absurd (show (4 : Int) ≤ 3 ∨ (4 : Int) = 8 ∨ (4 : Int) = 10 from z) (by decide)) (by decide) i32c (by decide) i32d (fun M6 hS6 hst6 => ⟨rfl, rfl, ?_⟩)
      refine fin2 M2 M6 (((hS3.trans hS4).trans hS5).trans hS6) (fun y b c _ => m2 y b c) (fun y i b c => ?_) m60 (fun z => by omega) f2 f14 ?_
      · rcases b with b | b
        · subst b; exact m60' i c
        · subst b; rw [m2 6971 (by decide) (by decide)]
      · rw [hty28]
        have : rst R' false (shE 28 x.2.1 ++ r) = (4, x.2.1, 1, 0) :: (4, x.2.1, 2, 0) :: (4, x.2.1, 3, 0) :: (2, x.2.1, 1, deepOf R' x.2.1) :: (1, x.2.1, 2, deepOf R' x.2.1) :: rst R' false r := rfl
        rw [this, hdeep, hrr, ← hL]; exact hst6
  · rw [stp_s8 hx, if_neg ?_]
    intro z
    have h22 : rk ty = 2 := rr2.mpr (by omega)
    obtain ⟨q1, q2, q3⟩ := htk h22
    rcases hh with u | ⟨_, u1, u2, u3⟩
    · exact u h22
    · have : ty = 28 ∨ ty = 29 ∨ ty = 30 := by omega
      rcases this with w | w | w
      · exact u1 (q1.mpr w)
      · exact u2 (q2.mpr w)
      · exact u3 (q3.mpr w)
end RPAR6
