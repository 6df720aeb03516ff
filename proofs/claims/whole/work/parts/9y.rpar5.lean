section RPAR5
variable {g : im_g} {d : Nat} {e : im_E} {M M0 : im_M} {K : im_K} {lo kp pk a p q ty nm v m lw : Int} {x : en} {r L : List en} {R : Rw}
theorem stp_s6 (h : x.1 = 98) : stp lo ty nm v (x :: r, R, m, lw) = if ty = 40 ∧ 0 < R 6 x.2.1 then .inr (r, R, m, lw) else if ty ≠ 34 then .inl 4 else if 4 ≤ R 6 x.2.1 then .inl 8 else .inr ((104, x.2.1, 0, 3) :: x :: r, im_u R (8 + (R 6 x.2.1).toNat) x.2.1 v, m, v) := by
  show (if _ then _ else _) = _
  rw [if_neg (by omega), if_neg (by omega), if_neg (by omega), if_neg (by omega), if_pos h]
theorem stp_s7 (h : x.1 = 104) : stp lo ty nm v (x :: r, R, m, lw) = if ty ≠ 34 then .inl 4 else if v < lw then .inl 6 else .inr (r, im_u (im_u R (12 + (R 6 x.2.1).toNat) x.2.1 v) 6 x.2.1 (R 6 x.2.1 + 1), m, lw) := by
  show (if _ then _ else _) = _
  rw [if_neg (by omega), if_neg (by omega), if_neg (by omega), if_neg (by omega), if_neg (by omega), if_pos h]
/-- the number of a token: what it takes of the pool -/
theorem tn_len {f t : Int → Int} {T : Int} {k : Nat} (h : rn f T k v) (hw : wrd t p q 34 nm v) (hpq : p < q) : (k : Int) ≤ q - p := by
  obtain ⟨h1, h2, h3⟩ := rn_size h
  obtain ⟨w1, w2⟩ := wrd_nv hpq hw
  by_cases hk : (k : Int) ≤ q - p
  · exact hk
  · exfalso
    have hle := bpow_le (B := 10) (by decide) (n := (q - p).toNat) (m := k - 1) (by omega)
    have := h3 (by omega)
    omega
theorem c_readBound {n s nt : Int} {t : Int → Int} (h : RJ M0 M lo kp pk a (x :: r, R, m, lw) L) (ht : TK M p q ty nm) (h1 : -2 ≤ ty) (h2 : ty ≤ 41) (hw : wfS lo (x :: r, R, m, lw)) (ha : a ≤ p) (hpq0 : p ≤ q)
    (hrt : rtx M t nt) (hp0 : 0 ≤ p) (hpq : ty = 34 → p < q) (hqn : ty = 34 → q ≤ nt) (hwd : ty = 34 → wrd t p q 34 nm v) (h8 : M 6952 8 = 0 ∨ M 6952 8 = 1) (hkp : 0 ≤ kp) (hkp2 : kp + 3 * a + 302 ≤ 1100000) (hpk : 0 ≤ pk) (hpk2 : 2 * pk + a < 40800) (hLl : L.length < 29000)
    (hx : x.1 = 98) (hn : n = x.2.1) (hs : s = R 6 x.2.1) (hL : L = rst R false r) (hd : 3 ≤ d) (hKf : KFR e K M0 lo kp pk p ty nm v (x :: r, R, m, lw)) (hKs : KSR e K M0 lo kp pk q ty nm v (x :: r, R, m, lw)) : im_T g d 300 0 [some (.ref 6952), some (vI n), some (vI s)] [] e M K := by
  obtain ⟨t14, t15, t16, t17, t18, t19⟩ := id ht
  have hst' : hst (x :: r) := hw.2.2.2.2.2.2.2
  obtain ⟨o1, o2, o3, o4, o5⟩ := ent_x hw (by omega) (by omega)
  have r4 : rk ty = 1 ↔ ty = 34 := (rk_vals ty).2.2.2.1
  have r10 : rk ty = 8 ↔ ty = 40 := (rk_vals ty).2.2.2.2.2.2.2.2.2
  obtain ⟨k29, k60, k64⟩ := o5.2.2.1 (Or.inl hx)
  subst hn hs
  have hT := h.2.2.1
  have hP := h.2.2.2.1
  have h01 : h104 (x :: r) = 0 := if_neg (by omega)
  dsimp only at hP
  rw [h01] at hP
  refine b_readBound_0 (by omega) ?_
  rw [t15]
  refine ⟨fun h40 => ⟨by constructor <;> omega, fun hpos => c_use t17 ⟨rfl, rfl, hKs _ ?_ _ (RJ_pop0 h hst' (by omega) (by omega) (by omega) hL) (by rw [im_rdk _ _ _ (by decide)]; exact t19) (im_rds _ _ _ _)⟩⟩, fun hno => ⟨fun h34 => ⟨by constructor <;> omega, fun hn4 => ?_, fun h4 => ?_⟩, fun hn34 => ?_⟩⟩
  · have := r10.mp h40
    rw [stq_ok (by omega) (by omega), stp_s6 hx, if_pos ⟨this, hpos⟩]
  · have ty34 := r4.mp h34
    have hpq' := hpq ty34
    refine c_tokenNumber hrt t16 t17 hp0 hpq' (hqn ty34) (hwd ty34) h8 (by omega) (by omega) (by omega) (fun M1 k hF hrn hk300 h7 h8' => ⟨_, rfl, rfl, by constructor <;> omega, by constructor <;> omega, ?_⟩)
    have hkl := tn_len hrn (hwd ty34) hpq'
    have hX1 : XR lo kp pk M M1 := XR.pl hF (by omega) h8'
    have hf : ∀ k, k ≠ 7 → M1 6952 k = M 6952 k := fun k hk7 => by
      by_cases hk8 : k = 8
      · subst hk8; exact h8'
      · exact hF.2.1 k (fun z => by rcases List.mem_cons.mp z with z | z; exact hk7 z; rcases List.mem_cons.mp z with z | z; exact hk8 z; cases z)
    have hm1 : ∀ y, y ≠ 6955 → y ≠ 6952 → M1 y = M y := fun y hy hy2 => hF.1 y (fun z => by cases z) hy hy2
    have hmp : ∀ i, i < M 6952 7 → M1 6955 i = M 6955 i := hF.2.2
    generalize hPd : M 6952 37 = P at hP ⊢
    generalize hTd : M 6952 7 = T at hT hmp hrn h7 ⊢
    refine c_use (q := q) ((im_rdn _ _ _ _ (by decide)).trans ((hf 17 (by decide)).trans t17)) ⟨rfl, rfl, ?_⟩
    generalize hM2 : im_u (im_u M1 6973 P T) 6952 14 q = M2
    have f2 : ∀ k, k ≠ 14 → M2 6952 k = M1 6952 k := fun k hk => by rw [← hM2, im_rdk _ _ _ hk, im_rdn _ _ _ _ (by decide)]
    have f14 : M2 6952 14 = q := by rw [← hM2, im_rds]
    have m2 : ∀ y, y ≠ 6952 → y ≠ 6973 → M2 y = M1 y := fun y b c => by rw [← hM2, im_u_ne _ _ _ b, im_u_ne _ _ _ c]
    have m73 : M2 6973 P = T := by rw [← hM2, im_rdn _ _ _ _ (by decide), im_rds]
    have m73' : ∀ j, j ≠ P → M2 6973 j = M1 6973 j := fun j hj => by rw [← hM2, im_rdn _ _ _ _ (by decide), im_rdk _ _ _ hj]
    have hX2 : XR lo kp pk M1 M2 := by rw [← hM2]; exact ((XR.rf lo kp pk M1).l (Or.inl rfl) (by omega) _).trans (XR.fl (fun y b => im_u_ne _ _ _ b) (fun k _ b _ _ _ _ => im_rdk _ _ _ (by omega)))
    clear hM2
    have hs2 : stR M2 L := ⟨by rw [f2 45 (by decide), hf 45 (by decide)]; exact h.2.2.2.2.1.1, stkR_congr L h.2.2.2.2.1.2 (fun y i b c _ _ => by rw [m2 y (by omega) (by omega), hm1 y (by omega) (by omega)])⟩
    refine c_pushR (13, x.2.1, R 6 x.2.1, 0) hs2 (by omega) (Or.inl rfl) rfl rfl (fun _ => rfl) (by decide) (by constructor <;> omega) (by constructor <;> omega) (by decide) (fun M3 hS3 hst3 => ⟨rfl, rfl, ?_⟩)
    generalize hR' : im_u R (8 + (R 6 x.2.1).toNat) x.2.1 v = R'
    have hRn : ∀ (f : Nat) (i : Int), f ≠ 8 + (R 6 x.2.1).toNat ∨ i ≠ x.2.1 → R' f i = R f i := fun f i hh => by
      rw [← hR']
      by_cases hf' : f = 8 + (R 6 x.2.1).toNat
      · subst hf'; exact im_rdk _ _ _ (by omega)
      · exact im_rdn _ _ _ _ hf'
    have hRf : R' (8 + (R 6 x.2.1).toNat) x.2.1 = v := by rw [← hR']; exact im_rds _ _ _ _
    have e7 : M3 6952 7 = T + 2 + k := by rw [hS3.2 7 (by decide), f2 7 (by decide)]; exact h7
    have e37 : M3 6952 37 = P := by rw [hS3.2 37 (by decide), f2 37 (by decide), hf 37 (by decide)]; exact hPd
    have m3 : ∀ y, y ≠ 6952 → y ≠ 6955 → y ≠ 6973 → (y < 6975 ∨ 6978 < y) → M3 y = M y := fun y b1 b2 b3 b4 => by rw [hS3.1 y b1 b4, m2 y b1 b3, hm1 y b2 b1]
    have m55 : ∀ i, M3 6955 i = M1 6955 i := fun i => by rw [hS3.1 6955 (by decide) (by decide), m2 6955 (by decide) (by decide)]
    have m73 : M3 6973 P = T := by rw [hS3.1 6973 (by decide) (by decide)]; exact m73
    have m73' : ∀ j, j ≠ P → M3 6973 j = M 6973 j := fun j hj => by rw [hS3.1 6973 (by decide) (by decide), m73' j hj, hm1 6973 (by decide) (by decide)]
    refine hKs ((104, x.2.1, 0, 3) :: x :: r, R', m, v) (by rw [stq_ok (by omega) (by omega), stp_s6 hx, if_neg (by omega), if_neg (by omega), if_neg (by omega), hR']) M3 ⟨h.1.tr ((hX1.trans hX2).trans (XR.sr hS3)) (by rw [hS3.2 20 (by decide), f2 20 (by decide), hf 20 (by decide)]), ?_, by rw [e7]; omega, ?_, ?_, ?_, fun z => ?_, fun i i0 i1 => ?_, fun y hy h98 => ?_, fun y r' he h104 => ?_⟩ (by rw [hS3.2 19 (by decide), f2 19 (by decide), hf 19 (by decide)]; exact t19) (by rw [hS3.2 14 (by decide)]; exact f14)
    · rw [hS3.2 39 (by decide), f2 39 (by decide), hf 39 (by decide)]; exact h.2.1
    · rw [e37]
      have : h104 ((104, x.2.1, 0, 3) :: x :: r) = 1 := rfl
      dsimp only
      rw [this]; omega
    · have hr98 : rst R' false ((104, x.2.1, 0, 3) :: x :: r) = (13, x.2.1, R 6 x.2.1, 0) :: L := by
        have e1 : rst R' false ((104, x.2.1, 0, 3) :: x :: r) = re R' true x ++ rst R' (decide (x.1 = 104)) r := rfl
        rw [e1, show decide (x.1 = 104) = false from decide_eq_false (by omega)]
        have e2 : re R' true x = [(13, x.2.1, R' 6 x.2.1, 0)] := by
          unfold re
          rw [if_neg (by omega), if_neg (by omega), if_neg (by omega), if_neg (by omega), if_neg (by omega), if_neg (by omega), if_neg (by omega), if_pos hx]
          rfl
        rw [e2, hRn 6 _ (by omega), hL, rst_congr (R := R) (R' := R') r false (fun y hy => ⟨fun _ _ => ⟨hRn 1 _ (by omega), fun _ => hRn 3 _ (by omega), fun _ => hRn 6 _ (by omega)⟩, ent_m1 hw y hy⟩)]
        rfl
      dsimp only
      rw [hr98]; exact hst3
    · have e1 : nq ((104, x.2.1, 0, 3) :: x :: r) = nq (x :: r) := by
        show nq (x :: r) + _ = _
        rw [if_neg (show ((104, x.2.1, 0, 3) : en).1 ≠ 41 from by show (104 : Int) ≠ 41; decide)]; omega
      have := h.2.2.2.2.2.1
      dsimp only at this ⊢
      rw [e1]; omega
    · rw [hS3.2 40 (by decide), f2 40 (by decide), hf 40 (by decide)]; exact h.2.2.2.2.2.2.1 z
    · have hrow := h.2.2.2.2.2.2.2.1 i i0 i1
      rw [hTd, hPd] at hrow
      dsimp only at hrow ⊢
      rw [e7, e37]
      have hpool : ∀ j, j < T → M3 6955 j = M 6955 j := fun j hj => (m55 j).trans (hmp j hj)
      have hlw : ∀ (y : Nat) (j : Int), y = 6973 ∨ y = 6974 → j < P → M3 y j = M y j := fun y j b c => by
        rcases b with b | b
        · subst b; exact m73' j (by omega)
        · subst b; rw [m3 6974 (by decide) (by decide) (by decide) (by decide)]
      have h116 : (∀ y ∈ ((104, x.2.1, 0, 3) :: x :: r : List en), y.1 = 116 → y.2.1 ≠ i) → ∀ y ∈ (x :: r), y.1 = 116 → y.2.1 ≠ i := fun z y hy => z y (List.mem_cons_of_mem _ hy)
      by_cases hi : i = x.2.1
      · subst hi
        obtain ⟨b1, b2, b3, b4, b5, b6, b7⟩ := hrow
        unfold rowR
        rw [hRn 0 _ (by omega), hRn 3 _ (by omega), hRn 4 _ (by omega), hRn 5 _ (by omega), hRn 6 _ (by omega), hRn 16 _ (by omega), hRn 17 _ (by omega), hRn 18 _ (by omega), hRn 19 _ (by omega), hRn 7 _ (by omega), m3 6960 (by decide) (by decide) (by decide) (by decide), m3 6961 (by decide) (by decide) (by decide) (by decide), m3 6962 (by decide) (by decide) (by decide) (by decide), m3 6963 (by decide) (by decide) (by decide) (by decide), m3 6964 (by decide) (by decide) (by decide) (by decide), m3 6965 (by decide) (by decide) (by decide) (by decide), m3 6966 (by decide) (by decide) (by decide) (by decide), m3 6967 (by decide) (by decide) (by decide) (by decide), m3 6971 (by decide) (by decide) (by decide) (by decide), m3 6972 (by decide) (by decide) (by decide) (by decide)]
        obtain ⟨c1, c2, c3, c4⟩ := b7 k29
        refine ⟨b1, b2, b3, b4, fun z => by omega, fun z => by omega, fun _ => ⟨c1, c2, c3, fun j hj => ?_⟩⟩
        rw [hlw 6973 _ (Or.inl rfl) (by omega), hlw 6974 _ (Or.inr rfl) (by omega), hRn (8 + j) _ (by omega), hRn (12 + j) _ (by omega)]
        exact ⟨rnp_congr (c4 j hj).1 hpool (by omega), rnp_congr (c4 j hj).2 hpool (by omega)⟩
      · exact rowR_congr hrow (fun y b c => by rw [m3 y (by omega) (by omega) (by omega) (by omega)]) hpool hlw (fun f => hRn f i (Or.inr hi)) (by omega) (Int.le_refl _) (fun _ _ => h116)
    · dsimp only
      rw [e37, hRn 6 _ (by omega), m3 6971 (by decide) (by decide) (by decide) (by decide), ← hPd]
      rcases List.mem_cons.mp hy with z | z
      · rw [z] at h98; exact absurd (show (104 : Int) = 98 from h98) (by decide)
      · exact h.2.2.2.2.2.2.2.2.1 y z h98
    · dsimp only at he ⊢
      obtain ⟨he1, _⟩ := List.cons.inj he
      rw [← he1]
      dsimp only
      rw [hRn 6 _ (by omega), e7, e37, m73]
      exact ⟨hRf, k, rn_congr hrn (fun i _ _ => m55 i), by omega, by omega, hk300⟩
  · have := r4.mp h34
    exact c_fl h ht (by decide) (by rw [stq_ok (by omega) (by omega), stp_s6 hx, if_neg (by omega), if_neg (by omega), if_pos (by omega)]) hKf
  · refine c_ft h ht h1 h2 (fun _ _ => ?_) (by omega) hKf
    have hn34' : ty ≠ 34 := fun z => hn34 (r4.mpr z)
    have hn40 : ¬ (ty = 40 ∧ 0 < R 6 x.2.1) := fun z => by
      rcases hno with u | u
      · exact u (r10.mpr z.1)
      · omega
    rw [stp_s6 hx, if_neg hn40, if_pos hn34']
theorem c_readSecond {n s nt : Int} {t : Int → Int} (h : RJ M0 M lo kp pk a (x :: r, R, m, lw) L) (ht : TK M p q ty nm) (h1 : -2 ≤ ty) (h2 : ty ≤ 41) (hw : wfS lo (x :: r, R, m, lw)) (hu : u98 (x :: r)) (ha : a ≤ p) (hpq0 : p ≤ q)
    (hrt : rtx M t nt) (hp0 : 0 ≤ p) (hpq : ty = 34 → p < q) (hqn : ty = 34 → q ≤ nt) (hwd : ty = 34 → wrd t p q 34 nm v) (h8 : M 6952 8 = 0 ∨ M 6952 8 = 1) (hkp : 0 ≤ kp) (hkp2 : kp + 3 * a + 302 ≤ 1100000) (hpk : 0 ≤ pk) (hpk2 : 2 * pk + a < 40800) (hLl : L.length < 29000)
    (hx : x.1 = 104) (hn : n = x.2.1) (hs : s = R 6 x.2.1) (hL : L = rst R false r.tail) (hd : 4 ≤ d) (hKf : KFR e K M0 lo kp pk p ty nm v (x :: r, R, m, lw)) (hKs : KSR e K M0 lo kp pk q ty nm v (x :: r, R, m, lw)) : im_T g d 301 0 [some (.ref 6952), some (vI n), some (vI s)] [] e M K := by
  obtain ⟨t14, t15, t16, t17, t18, t19⟩ := id ht
  have hst' : hst (x :: r) := hw.2.2.2.2.2.2.2
  obtain ⟨o1, o2, o3, o4, o5⟩ := ent_x hw (by omega) (by omega)
  have r4 : rk ty = 1 ↔ ty = 34 := (rk_vals ty).2.2.2.1
  obtain ⟨k29, k60, k64⟩ := o5.2.2.1 (Or.inr hx)
  have k63 : R 6 x.2.1 ≤ 3 := o5.2.2.2.1 hx
  obtain ⟨y0, r', hr, hy0, hyo⟩ := hst'.1 hx
  subst hn hs hr
  have hL : L = rst R false r' := hL
  have hT := h.2.2.1
  have hP := h.2.2.2.1
  have h01 : h104 (x :: y0 :: r') = 1 := if_pos hx
  dsimp only at hP
  rw [h01] at hP
  obtain ⟨hlw, hrl⟩ := h.2.2.2.2.2.2.2.2.2 x (y0 :: r') rfl hx
  dsimp only at hlw hrl
  have h71 : M 6971 x.2.1 + R 6 x.2.1 = M 6952 37 := by
    have := h.2.2.2.2.2.2.2.2.1 y0 (List.mem_cons_of_mem _ List.mem_cons_self) hy0
    dsimp only at this
    rw [hyo] at this
    exact this
  have hno98 : ∀ y ∈ r', y.1 ≠ 98 := fun y hy h98 => by
    have := hu.1.2 ⟨y, hy, h98⟩
    omega
  refine b_readSecond_0 (by omega) ?_
  rw [t15]
  refine ⟨fun h34 => ?_, fun hn34 => c_ft h ht h1 h2 (fun _ _ => by rw [stp_s7 hx, if_pos (fun z => hn34 (r4.mpr z))]) (by omega) hKf⟩
  have ty34 := r4.mp h34
  have hpq' := hpq ty34
  refine c_tokenNumber hrt t16 t17 hp0 hpq' (hqn ty34) (hwd ty34) h8 (by omega) (by omega) (by omega) (fun M1 k hF hrn hk300 h7 h8' => ⟨_, rfl, rfl, by constructor <;> omega, by constructor <;> omega, ?_⟩)
  have hkl := tn_len hrn (hwd ty34) hpq'
  have hX1 : XR lo kp pk M M1 := XR.pl hF (by omega) h8'
  have hf : ∀ k, k ≠ 7 → M1 6952 k = M 6952 k := fun k hk7 => by
    by_cases hk8 : k = 8
    · subst hk8; exact h8'
    · exact hF.2.1 k (fun z => by rcases List.mem_cons.mp z with z | z; exact hk7 z; rcases List.mem_cons.mp z with z | z; exact hk8 z; cases z)
  have hm1 : ∀ y, y ≠ 6955 → y ≠ 6952 → M1 y = M y := fun y hy hy2 => hF.1 y (fun z => by cases z) hy hy2
  have hmp : ∀ i, i < M 6952 7 → M1 6955 i = M 6955 i := hF.2.2
  have e137 : M1 6952 37 = M 6952 37 := hf 37 (by decide)
  rw [e137]
  generalize hPd : M 6952 37 = P at hP h71 hrl e137 ⊢
  generalize hTd : M 6952 7 = T at hT hmp hrn h7 hrl ⊢
  refine ⟨by constructor <;> omega, ?_⟩
  rw [im_rds, hm1 6973 (by decide) (by decide)]
  obtain ⟨kl, hl1, hl2, hl3, hl4⟩ := hrl
  have hl1' : rn (M1 6955) (M 6973 P) kl lw := rn_congr hl1 (fun i _ i1 => hmp i (by omega))
  generalize hM2 : im_u M1 6974 P T = M2
  have f2 : ∀ k, M2 6952 k = M1 6952 k := fun k => by rw [← hM2, im_rdn _ _ _ _ (by decide)]
  have m2 : ∀ y, y ≠ 6974 → M2 y = M1 y := fun y b => by rw [← hM2, im_u_ne _ _ _ b]
  have m74 : M2 6974 P = T := by rw [← hM2, im_rds]
  have m74' : ∀ j, j ≠ P → M2 6974 j = M1 6974 j := fun j hj => by rw [← hM2, im_rdk _ _ _ hj]
  have hX2 : XR lo kp pk M1 M2 := by rw [← hM2]; exact (XR.rf lo kp pk M1).l (Or.inr rfl) (by omega) _
  clear hM2
  have e55 : M2 6955 = M1 6955 := m2 6955 (by decide)
  refine c_order (va := v) (vb := lw) (na := k) (nb := kl) (by rw [e55]; exact hrn) (by rw [e55]; exact hl1') (by omega) (by omega) (by omega) (by omega) (by omega) (by omega) (by omega) ⟨_, rfl, rfl, ?_⟩
  have hf2 : ∀ k, k ≠ 7 → M2 6952 k = M 6952 k := fun k hk => (f2 k).trans (hf k hk)
  have hm2 : ∀ y, y ≠ 6955 → y ≠ 6952 → y ≠ 6974 → M2 y = M y := fun y b c d' => (m2 y d').trans (hm1 y b c)
  refine ⟨by unfold cmpI; (repeat' split) <;> decide, fun hge => ?_, fun hlt => ?_⟩
  · have hvl : ¬ v < lw := fun z => by unfold cmpI at hge; rw [if_pos z] at hge; omega
    have e237 : M2 6952 37 = P := (hf2 37 (by decide)).trans hPd
    rw [e237]
    refine ⟨by constructor <;> omega, by constructor <;> omega, by constructor <;> omega, ?_⟩
    refine c_use (q := q) (by rw [im_rdn _ _ _ _ (by decide), im_rdk _ _ _ (by decide), hf2 17 (by decide)]; exact t17) ⟨rfl, rfl, ?_⟩
    generalize hM3 : im_u (im_u (im_u M2 6952 37 (P + 1)) 6972 x.2.1 (R 6 x.2.1 + 1)) 6952 14 q = M3
    have f3 : ∀ k, k ≠ 14 → k ≠ 37 → M3 6952 k = M2 6952 k := fun k b c => by rw [← hM3, im_rdk _ _ _ b, im_rdn _ _ _ _ (by decide), im_rdk _ _ _ c]
    have f14 : M3 6952 14 = q := by rw [← hM3, im_rds]
    have f37 : M3 6952 37 = P + 1 := by rw [← hM3, im_rdk _ _ _ (by decide), im_rdn _ _ _ _ (by decide), im_rds]
    have m3 : ∀ y, y ≠ 6952 → y ≠ 6972 → M3 y = M2 y := fun y b c => by rw [← hM3, im_u_ne _ _ _ b, im_u_ne _ _ _ c, im_u_ne _ _ _ b]
    have m72 : M3 6972 x.2.1 = R 6 x.2.1 + 1 := by rw [← hM3, im_rdn _ _ _ _ (by decide), im_rds]
    have m72' : ∀ i, i ≠ x.2.1 → M3 6972 i = M2 6972 i := fun i hi => by rw [← hM3, im_rdn _ _ _ _ (by decide), im_rdk _ _ _ hi, im_rdn _ _ _ _ (by decide)]
    have hX3 : XR lo kp pk M2 M3 := by
      rw [← hM3]
      exact (((XR.fl (fun y b => im_u_ne _ _ _ b) (fun k _ _ b _ _ _ => im_rdk _ _ _ b) : XR lo kp pk M2 (im_u M2 6952 37 (P + 1))).r (by decide) (by decide) o1 _)).trans (XR.fl (fun y b => im_u_ne _ _ _ b) (fun k _ b _ _ _ _ => im_rdk _ _ _ (by omega)))
    clear hM3
    have hs3 : stR M3 L := ⟨by rw [f3 45 (by decide) (by decide), hf2 45 (by decide)]; exact h.2.2.2.2.1.1, stkR_congr L h.2.2.2.2.1.2 (fun y i b c _ _ => by rw [m3 y (by omega) (by omega), hm2 y (by omega) (by omega) (by omega)])⟩
    refine c_pushR (12, x.2.1, R 6 x.2.1 + 1, 0) hs3 (by omega) (Or.inl rfl) rfl rfl (fun _ => rfl) (by decide) (by constructor <;> omega) (by constructor <;> omega) (by decide) (fun M4 hS4 hst4 => ⟨rfl, rfl, ?_⟩)
    generalize hR' : im_u (im_u R (12 + (R 6 x.2.1).toNat) x.2.1 v) 6 x.2.1 (R 6 x.2.1 + 1) = R'
    have hRn : ∀ (f : Nat) (i : Int), (f ≠ 12 + (R 6 x.2.1).toNat ∧ f ≠ 6) ∨ i ≠ x.2.1 → R' f i = R f i := fun f i hh => by
      rw [← hR']
      have hu' : ∀ (Q : Rw) (c : Nat) (w : Int), (f ≠ c ∨ i ≠ x.2.1) → im_u Q c x.2.1 w f i = Q f i := fun Q c w hh => by
        by_cases hf' : f = c
        · subst hf'; exact im_rdk _ _ _ (by omega)
        · exact im_rdn _ _ _ _ hf'
      rw [hu' _ _ _ (by omega), hu' _ _ _ (by omega)]
    have hR6 : R' 6 x.2.1 = R 6 x.2.1 + 1 := by rw [← hR']; exact im_rds _ _ _ _
    have hRf : R' (12 + (R 6 x.2.1).toNat) x.2.1 = v := by rw [← hR', im_rdn _ _ _ _ (by omega)]; exact im_rds _ _ _ _
    have e7 : M4 6952 7 = T + 2 + k := by rw [hS4.2 7 (by decide), f3 7 (by decide) (by decide), f2]; exact h7
    have e37 : M4 6952 37 = P + 1 := by rw [hS4.2 37 (by decide)]; exact f37
    have m4 : ∀ y, y ≠ 6952 → y ≠ 6955 → y ≠ 6972 → y ≠ 6974 → (y < 6975 ∨ 6978 < y) → M4 y = M y := fun y b1 b2 b3 b4 b5 => by rw [hS4.1 y b1 b5, m3 y b1 b3, hm2 y b2 b1 b4]
    have m55 : ∀ i, M4 6955 i = M1 6955 i := fun i => by rw [hS4.1 6955 (by decide) (by decide), m3 6955 (by decide) (by decide), e55]
    have m74 : M4 6974 P = T := by rw [hS4.1 6974 (by decide) (by decide), m3 6974 (by decide) (by decide)]; exact m74
    have m74' : ∀ j, j ≠ P → M4 6974 j = M 6974 j := fun j hj => by rw [hS4.1 6974 (by decide) (by decide), m3 6974 (by decide) (by decide), m74' j hj, hm1 6974 (by decide) (by decide)]
    have m72 : M4 6972 x.2.1 = R 6 x.2.1 + 1 := by rw [hS4.1 6972 (by decide) (by decide)]; exact m72
    have m72' : ∀ i, i ≠ x.2.1 → M4 6972 i = M 6972 i := fun i hi => by rw [hS4.1 6972 (by decide) (by decide), m72' i hi, hm2 6972 (by decide) (by decide) (by decide)]
    refine hKs (y0 :: r', R', m, lw) (by rw [stq_ok (by omega) (by omega), stp_s7 hx, if_neg (by omega), if_neg hvl, hR']) M4 ⟨h.1.tr (((hX1.trans hX2).trans hX3).trans (XR.sr hS4)) (by rw [hS4.2 20 (by decide), f3 20 (by decide) (by decide), hf2 20 (by decide)]), ?_, by rw [e7]; omega, ?_, ?_, ?_, fun z => ?_, fun i i0 i1 => ?_, fun y hy h98 => ?_, fun y r'' he h104 => ?_⟩ (by rw [hS4.2 19 (by decide), f3 19 (by decide) (by decide), hf2 19 (by decide)]; exact t19) (by rw [hS4.2 14 (by decide)]; exact f14)
    · rw [hS4.2 39 (by decide), f3 39 (by decide) (by decide), hf2 39 (by decide)]; exact h.2.1
    · rw [e37]
      have : h104 (y0 :: r') = 0 := if_neg (by omega)
      dsimp only
      rw [this]; omega
    · have hr98 : rst R' false (y0 :: r') = (12, x.2.1, R 6 x.2.1 + 1, 0) :: L := by
        have e1 : rst R' false (y0 :: r') = re R' false y0 ++ rst R' (decide (y0.1 = 104)) r' := rfl
        rw [e1, show decide (y0.1 = 104) = false from decide_eq_false (by omega)]
        have e2 : re R' false y0 = [(12, y0.2.1, R' 6 y0.2.1, 0)] := by
          unfold re
          rw [if_neg (by omega), if_neg (by omega), if_neg (by omega), if_neg (by omega), if_neg (by omega), if_neg (by omega), if_neg (by omega), if_pos hy0]
          rfl
        rw [e2, hyo, hR6, hL, rst_congr (R := R) (R' := R') r' false (fun y hy => ⟨fun _ _ => ⟨hRn 1 _ (by omega), fun _ => hRn 3 _ (by omega), fun h98 => absurd h98 (hno98 y hy)⟩, ent_m1 hw y (List.mem_cons_of_mem _ hy)⟩)]
        rfl
      dsimp only
      rw [hr98]; exact hst4
    · have e1 : nq (x :: y0 :: r') = nq (y0 :: r') := by
        show nq (y0 :: r') + _ = _
        rw [if_neg (by omega)]; omega
      have := h.2.2.2.2.2.1
      dsimp only at this ⊢
      rw [e1] at this; omega
    · rw [hS4.2 40 (by decide), f3 40 (by decide) (by decide), hf2 40 (by decide)]; exact h.2.2.2.2.2.2.1 z
    · have hrow := h.2.2.2.2.2.2.2.1 i i0 i1
      rw [hTd, hPd] at hrow
      dsimp only at hrow ⊢
      rw [e7, e37]
      have hpool : ∀ j, j < T → M4 6955 j = M 6955 j := fun j hj => (m55 j).trans (hmp j hj)
      have hlow : ∀ (y : Nat) (j : Int), y = 6973 ∨ y = 6974 → j < P → M4 y j = M y j := fun y j b c => by
        rcases b with b | b
        · subst b; rw [m4 6973 (by decide) (by decide) (by decide) (by decide) (by decide)]
        · subst b; exact m74' j (by omega)
      by_cases hi : i = x.2.1
      · subst hi
        obtain ⟨b1, b2, b3, b4, b5, b6, b7⟩ := hrow
        unfold rowR
        rw [hRn 0 _ (by omega), hRn 3 _ (by omega), hRn 4 _ (by omega), hRn 5 _ (by omega), hR6, hRn 16 _ (by omega), hRn 17 _ (by omega), hRn 18 _ (by omega), hRn 19 _ (by omega), m4 6960 (by decide) (by decide) (by decide) (by decide) (by decide), m4 6961 (by decide) (by decide) (by decide) (by decide) (by decide), m4 6962 (by decide) (by decide) (by decide) (by decide) (by decide), m4 6964 (by decide) (by decide) (by decide) (by decide) (by decide), m4 6965 (by decide) (by decide) (by decide) (by decide) (by decide), m4 6966 (by decide) (by decide) (by decide) (by decide) (by decide), m4 6967 (by decide) (by decide) (by decide) (by decide) (by decide), m4 6971 (by decide) (by decide) (by decide) (by decide) (by decide), m72]
        obtain ⟨c1, c2, c3, c4⟩ := b7 k29
        refine ⟨b1, b2, fun z => absurd k29 z, b4, fun z => by omega, fun z => by omega, fun _ => ⟨rfl, c2, by omega, fun j hj => ?_⟩⟩
        by_cases hjk : (j : Int) < R 6 x.2.1
        · rw [hlow 6973 _ (Or.inl rfl) (by omega), hlow 6974 _ (Or.inr rfl) (by omega), hRn (8 + j) _ (by omega), hRn (12 + j) _ (by omega)]
          exact ⟨rnp_congr (c4 j hjk).1 hpool (by omega), rnp_congr (c4 j hjk).2 hpool (by omega)⟩
        · have hje : (R 6 x.2.1).toNat = j := by omega
          have hjP : M 6971 x.2.1 + (j : Int) = P := by omega
          rw [hje] at hRf hlw hRn
          rw [hjP, m4 6973 (by decide) (by decide) (by decide) (by decide) (by decide), m74, hRf, hRn (8 + j) _ (by omega), hlw]
          exact ⟨⟨kl, rn_congr hl1' (fun i _ _ => m55 i), hl2, by omega, hl4⟩, ⟨k, rn_congr hrn (fun i _ _ => m55 i), by omega, by omega, hk300⟩⟩
      · refine rowR_congr hrow (fun y b c => ?_) hpool hlow (fun f => hRn f i (Or.inr hi)) (by omega) (by omega) (fun _ _ z y hy => ?_)
        · by_cases hy : y = 6972
          · subst hy; exact m72' i hi
          · rw [m4 y (by omega) (by omega) hy (by omega) (by omega)]
        · rcases List.mem_cons.mp hy with w | w
          · intro w1; rw [w] at w1; omega
          · exact z y w
    · dsimp only
      rcases List.mem_cons.mp hy with z | z
      · rw [e37, z, hyo, hR6, m4 6971 (by decide) (by decide) (by decide) (by decide) (by decide)]; omega
      · exact absurd h98 (hno98 y z)
    · dsimp only at he
      obtain ⟨he1, _⟩ := List.cons.inj he
      rw [← he1] at h104; omega
  · have hvl : v < lw := Decidable.byContradiction (fun z => by
      unfold cmpI at hlt; rw [if_neg z] at hlt; revert hlt; split <;> decide)
    refine c_failR ((hf2 19 (by decide)).trans t19) ((hf2 16 (by decide)).trans t16) (by decide) (fun M' b1 b2 b3 b4 => ⟨rfl, rfl, hKf 6 ?_ M' ?_ b3 b4⟩)
    · rw [stq_ok (by omega) (by omega), stp_s7 hx, if_neg (by omega), if_pos hvl]
    · exact ((h.1.trans hX1).trans hX2).trans (XR.fl b1 (fun k _ c _ _ _ _ => b2 k (by omega) (by omega)))
end RPAR5
