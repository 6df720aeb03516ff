section RPAR7
variable {g : im_g} {d : Nat} {e : im_E} {M M0 : im_M} {K : im_K} {lo kp pk a p q ty nm v m lw : Int} {x : en} {r L : List en} {R : Rw}
/-- a new node -/
def nwP (M M' : im_M) (m w : Int) : Prop := (∀ y, y ≠ 6952 → (y < 6960 ∨ 6972 < y ∨ y = 6968 ∨ y = 6969 ∨ y = 6971) → M' y = M y) ∧ (∀ (y : Nat) (i : Int), i ≠ m → y ≠ 6952 → M' y i = M y i) ∧ (∀ k, k ≠ 39 → M' 6952 k = M 6952 k) ∧ M' 6952 39 = m + 1 ∧ M' 6960 m = w ∧ (M' 6961 m = 0 ∧ M' 6962 m = 0 ∧ M' 6963 m = 0) ∧ (M' 6964 m = -1 ∧ M' 6965 m = -1 ∧ M' 6966 m = -1 ∧ M' 6967 m = -1) ∧ M' 6970 m = 0 ∧ M' 6972 m = 0
theorem c_node {w dp : Int} (h39 : M 6952 39 = m) (h38 : M 6952 38 = lo) (hlo : 0 ≤ lo) (hlm : lo ≤ m) (hm : m ≤ lo + 1000) (hlo4 : lo ≤ 4000) (h19 : M 6952 19 = 0) (h16 : M 6952 16 = p) (hwi : im_i32 w) (hdi : im_i32 dp) (hd : 1 ≤ d)
    (hKf : 100 < dp ∨ 1000 ≤ m - lo → ∀ M', (∀ y, y ≠ 6952 → M' y = M y) → (∀ k, k ≠ 19 → k ≠ 20 → M' 6952 k = M 6952 k) → M' 6952 19 = 7 → M' 6952 20 = p → K (.inl (some (vI (-1)))) e M')
    (hKs : ¬ (100 < dp ∨ 1000 ≤ m - lo) → ∀ M', nwP M M' m w → K (.inl (some (vI m))) e M') : im_T g d 287 0 [some (.ref 6952), some (vI w), some (vI dp), none] [] e M K := by
  refine b_node_0 hd ?_
  rw [h39, h38]
  refine ⟨hdi, fun hdp => ⟨by constructor <;> omega, fun hne => ⟨by constructor <;> omega, by constructor <;> omega, hwi, hKs (by omega) _ ?_⟩⟩, fun hh => ?_⟩
  · have hu : ∀ (Q : im_M) (c : Nat) (j w' : Int) (y : Nat) (i : Int), y ≠ c ∨ i ≠ j → im_u Q c j w' y i = Q y i := fun Q c j w' y i hh => by
      by_cases hy : y = c
      · subst hy; exact im_rdk _ _ _ (by omega)
      · exact im_rdn _ _ _ _ hy
    refine ⟨fun y b c => ?_, fun y i b c => ?_, fun k b => ?_, ?_, ?_, ⟨?_, ?_, ?_⟩, ⟨?_, ?_, ?_, ?_⟩, ?_, ?_⟩
    · funext i
      rw [hu _ _ _ _ _ _ (by omega), hu _ _ _ _ _ _ (by omega), hu _ _ _ _ _ _ (by omega), hu _ _ _ _ _ _ (by omega), hu _ _ _ _ _ _ (by omega), hu _ _ _ _ _ _ (by omega), hu _ _ _ _ _ _ (by omega), hu _ _ _ _ _ _ (by omega), hu _ _ _ _ _ _ (by omega), hu _ _ _ _ _ _ (by omega), hu _ _ _ _ _ _ (by omega)]
    · rw [hu _ _ _ _ _ _ (by omega), hu _ _ _ _ _ _ (by omega), hu _ _ _ _ _ _ (by omega), hu _ _ _ _ _ _ (by omega), hu _ _ _ _ _ _ (by omega), hu _ _ _ _ _ _ (by omega), hu _ _ _ _ _ _ (by omega), hu _ _ _ _ _ _ (by omega), hu _ _ _ _ _ _ (by omega), hu _ _ _ _ _ _ (by omega), hu _ _ _ _ _ _ (by omega)]
    · rw [hu _ _ _ _ _ _ (by omega), hu _ _ _ _ _ _ (by omega), hu _ _ _ _ _ _ (by omega), hu _ _ _ _ _ _ (by omega), hu _ _ _ _ _ _ (by omega), hu _ _ _ _ _ _ (by omega), hu _ _ _ _ _ _ (by omega), hu _ _ _ _ _ _ (by omega), hu _ _ _ _ _ _ (by omega), hu _ _ _ _ _ _ (by omega), hu _ _ _ _ _ _ (by omega)]
    · repeat rw [im_rdn _ _ _ _ (by decide)]
      exact im_rds _ _ _ _
    · repeat rw [im_rdn _ _ _ _ (by decide)]
      exact im_rds _ _ _ _
    · repeat rw [im_rdn _ _ _ _ (by decide)]
      exact im_rds _ _ _ _
    · repeat rw [im_rdn _ _ _ _ (by decide)]
      exact im_rds _ _ _ _
    · repeat rw [im_rdn _ _ _ _ (by decide)]
      exact im_rds _ _ _ _
    · repeat rw [im_rdn _ _ _ _ (by decide)]
      exact im_rds _ _ _ _
    · repeat rw [im_rdn _ _ _ _ (by decide)]
      exact im_rds _ _ _ _
    · repeat rw [im_rdn _ _ _ _ (by decide)]
      exact im_rds _ _ _ _
    · repeat rw [im_rdn _ _ _ _ (by decide)]
      exact im_rds _ _ _ _
    · repeat rw [im_rdn _ _ _ _ (by decide)]
      exact im_rds _ _ _ _
    · exact im_rds _ _ _ _
  · exact c_failR h19 h16 (by decide) (fun M' b1 b2 b3 b4 => ⟨rfl, rfl, hKf (by omega) M' b1 b2 b3 b4⟩)
theorem c_link {ow sl n : Int} (ho : ow = -1 ∨ (0 ≤ ow ∧ ow < 5100 ∧ 1 ≤ sl ∧ sl ≤ 3)) (hn : im_i32 n) (hK : ow = -1 → K (.inl none) e (im_u M 6952 40 n)) (hK' : ow ≠ -1 → K (.inl none) e (im_u M (6963 + sl.toNat) ow n)) : im_T g d 288 0 [some (.ref 6952), some (vI ow), some (vI sl), some (vI n)] [] e M K := by
  refine b_link_0 ⟨by constructor <;> omega, fun h1 => ⟨by constructor <;> omega, fun c1 => ⟨fun c2 => ⟨by omega, hn, ?_⟩, fun c2 => ⟨by omega, hn, ?_⟩⟩, fun c1 => ⟨by omega, hn, ?_⟩⟩, fun h1 => ⟨hn, hK h1⟩⟩
  · have : sl = 3 := by omega
    subst this; exact hK' h1
  · subst c2; exact hK' h1
  · subst c1; exact hK' h1
/-- a node laid, linked, its signs pushed -/
theorem node_fin {M5 : im_M} (h : RJ M0 M lo kp pk a (x :: r, R, m, lw) L) (hw : wfS lo (x :: r, R, m, lw)) (hq2 : Q2 lo (x :: r, R, m, lw)) (hc29 : c29 R lo m) (haq : a ≤ q) (hx : x.1 = 99 ∨ x.1 = 118 ∨ x.1 = 111) (hb : bgn x.1 ty)
    (g1 : ∀ y, y ≠ 6952 → y ≠ 6955 → (y < 6960 ∨ 6972 < y) → (y < 6975 ∨ 6978 < y) → M5 y = M y) (gp : ∀ i, i < M 6952 7 → M5 6955 i = M 6955 i) (gf : ∀ k, k ≠ 7 → k ≠ 14 → k ≠ 39 → k ≠ 40 → k ≠ 45 → M5 6952 k = M 6952 k) (g39 : M5 6952 39 = m + 1) (g7 : M 6952 7 ≤ M5 6952 7 ∧ M5 6952 7 ≤ kp + 3 * q) (g40 : (x.2.1 = -1 → M5 6952 40 = m) ∧ (x.2.1 ≠ -1 → M5 6952 40 = M 6952 40))
    (gr : ∀ (y : Nat) (i : Int), 6960 ≤ y → y ≤ 6972 → i ≠ m → (y = 6963 + x.2.2.1.toNat → x.2.1 ≠ -1 → i ≠ x.2.1) → M5 y i = M y i) (gl : x.2.1 ≠ -1 → M5 (6963 + x.2.2.1.toNat) x.2.1 = m)
    (gk : M5 6960 m = kR ty 0) (ga : M5 6961 m = (if ty = 35 then nm else 0)) (gb : M5 6962 m = 0 ∧ M5 6963 m = 0) (gn : M5 6964 m = -1 ∧ M5 6965 m = -1 ∧ M5 6966 m = -1 ∧ M5 6967 m = -1) (gz : M5 6970 m = 0 ∧ M5 6972 m = 0) (gv : ty = 34 → rnp M5 kp (M5 6952 7) (M5 6968 m) v)
    (gs : stR M5 (rst (nodR R m ty nm v x.2.1 x.2.2.1) false (shE ty m ++ r))) : RI M0 M5 lo kp pk q (shE ty m ++ r, nodR R m ty nm v x.2.1 x.2.2.1, m + 1, lw) := by
  obtain ⟨a1, a2, a3, a4, a5, a6, a7, a8, a9, a10⟩ := h
  dsimp only at a2 a4 a6 a7 a8 a9
  have hlm : lo ≤ m := hw.2.1
  have hlo : 0 ≤ lo := hw.1
  have hxo : x.2.1 = -1 ∨ (lo ≤ x.2.1 ∧ x.2.1 < m ∧ (1 ≤ x.2.2.1 ∧ x.2.2.1 ≤ 3)) := by
    obtain ⟨_, _, z⟩ := hw.2.2.2.2.2.1 x List.mem_cons_self (by omega)
    rcases z with z | z
    · exact Or.inl z.2
    · exact Or.inr ⟨z.1, z.2.1, z.2.2.2.2.2.2.2.2.2.2.1 hx⟩
  have hs : x.2.1 = -1 ∨ (1 ≤ x.2.2.1 ∧ x.2.2.1 ≤ 3) := by omega
  have hmo : m ≠ x.2.1 := by omega
  have hno98 : ∀ y ∈ r, y.1 ≠ 98 := fun y hy h98 => by
    have := hq2.1.2 ⟨y, hy, h98⟩
    omega
  have hno104 : ∀ y ∈ r, y.1 ≠ 104 := hw.2.2.2.2.2.2.2.2
  have e37 : M5 6952 37 = M 6952 37 := gf 37 (by decide) (by decide) (by decide) (by decide) (by decide)
  have h01 : h104 (x :: r) = 0 := if_neg (by omega)
  rw [h01] at a4
  have hty31 : ty ≠ 31 := fun z => by subst z; unfold bgn at hb; omega
  have hty29 : ty ≠ 29 := fun z => by subst z; unfold bgn at hb; omega
  have hmem : ∀ y ∈ shE ty m ++ r, y.1 ≠ 98 ∧ y.1 ≠ 104 := fun y hy => by
    rcases List.mem_append.mp hy with z | z
    · obtain ⟨_, w, hw', e2⟩ := shE_mem z
      rw [e2]
      refine ⟨?_, ?_⟩
      · rcases shp_98 ty w hw' with u | u
        · exact u
        · exact absurd u hty29
      · exact (shE_ok (R := newN R m ty x.2.1) (newN_0 _ _ _ _) (newN_6 _ _ _ _) y z).2.2.2.2.1 ∘ (fun w1 => e2.trans w1)
    · exact ⟨hno98 y z, hno104 y z⟩
  have h00 : h104 (shE ty m ++ r) = 0 := by
    cases hc : shE ty m ++ r with
    | nil => rfl
    | cons y l => exact if_neg (hmem y (by rw [hc]; exact List.mem_cons_self)).2
  have hnq : nq (x :: r) = nq r + if x.1 = 41 then 1 else 0 := rfl
  rw [if_neg (by omega)] at hnq
  have hX : XR lo kp pk M M5 := ⟨fun y b c d' => g1 y b c (by omega) (by omega), fun k b c _ d1 d2 d3 => gf k b (by omega) d1 d2 d3, fun i b => gp i (by omega), fun y i b c d' => gr y i b c (by omega) (fun _ _ => by omega), fun y i b _ => by rw [g1 y (by omega) (by omega) (by omega) (by omega)]⟩
  refine ⟨a1.tr hX (gf 20 (by decide) (by decide) (by decide) (by decide) (by decide)), g39, by omega, ?_, gs, ?_, fun _ => ?_, fun i i0 i1 => ?_, fun y hy h98 => absurd h98 (hmem y hy).1, fun y r' he hh => absurd hh (hmem y (by dsimp only at he; rw [he]; exact List.mem_cons_self)).2⟩
  · dsimp only; rw [e37, h00]; omega
  · dsimp only
    rw [nq_app _ _ (fun y hy => by
      obtain ⟨_, z, hz, e'⟩ := shE_mem hy
      rw [e']; exact shp_41 ty z hz)]
    omega
  · rcases hq2.2 with ⟨r', e1, _, e3⟩ | ⟨b1, b2⟩
    · dsimp only at e1 e3
      rw [g40.1 (by rw [(List.cons.inj e1).1]), e3]
    · dsimp only at b1 b2
      rw [g40.2 (b2 x List.mem_cons_self (by omega))]
      exact a7 b1
  · dsimp only at i1 ⊢
    rw [e37]
    by_cases hi : i = m
    · subst hi
      have hn : ∀ f : Nat, f ≠ 7 ∧ f ≠ 4 → nodR R i ty nm v x.2.1 x.2.2.1 f i = newN R i ty x.2.1 f i := fun f hf => nodR_m f hmo hf hs
      have h4 : nodR R i ty nm v x.2.1 x.2.2.1 4 i = if ty = 35 then nm else 0 := by
        unfold nodR setv
        by_cases c1 : ty = 34
        · rw [if_pos c1, if_neg (by omega), im_rdn _ _ _ _ (by decide)]
          rcases hs with hs | hs
          · rw [hs, lnk_r]; exact newN_4 _ _ _ _
          · rw [lnk_ne 4 i (by omega) hs]; exact newN_4 _ _ _ _
        · rw [if_neg c1]
          by_cases c2 : ty = 35
          · rw [if_pos c2, if_pos c2, im_rds]
          · rw [if_neg c2, if_neg c2]
            rcases hs with hs | hs
            · rw [hs, lnk_r]; exact newN_4 _ _ _ _
            · rw [lnk_ne 4 i (by omega) hs]; exact newN_4 _ _ _ _
      have h7 : ty = 34 → nodR R i ty nm v x.2.1 x.2.2.1 7 i = v := fun c1 => by
        unfold nodR setv
        rw [if_pos c1, im_rds]
      have n16 : newN R i ty x.2.1 16 i = -1 := by
        unfold newN
        repeat rw [im_rdn _ _ _ _ (by decide)]
        exact im_rds _ _ _ _
      have n17 : newN R i ty x.2.1 17 i = -1 := by
        unfold newN
        repeat rw [im_rdn _ _ _ _ (by decide)]
        exact im_rds _ _ _ _
      have n18 : newN R i ty x.2.1 18 i = -1 := by
        unfold newN
        repeat rw [im_rdn _ _ _ _ (by decide)]
        exact im_rds _ _ _ _
      have n19 : newN R i ty x.2.1 19 i = -1 := by
        unfold newN
        exact im_rds _ _ _ _
      unfold rowR
      rw [hn 0 (by decide), hn 3 (by decide), hn 5 (by decide), hn 6 (by decide), hn 16 (by decide), hn 17 (by decide), hn 18 (by decide), hn 19 (by decide), newN_0, newN_3, newN_5, newN_6, n16, n17, n18, n19, h4]
      refine ⟨gk, fun _ => ⟨ga, gb.1⟩, fun _ => ⟨gb.2, gz.2⟩, gn, fun z => by rw [h7 z]; exact gv z, fun z => ⟨fun w => absurd rfl w, fun _ => ⟨gz.1, fun w => ?_⟩⟩, fun z => absurd z hty29⟩
      exfalso
      have hm : ((116, i, 0, 2) : en) ∈ shE ty i ++ r := by
        rw [z]
        exact List.mem_append_left _ (by show ((116, i, 0, 2) : en) ∈ [(91, i, 0, 4), (107, i, 0, 3), (116, i, 0, 2), (99, i, 2, 1)]; exact List.mem_cons_of_mem _ (List.mem_cons_of_mem _ List.mem_cons_self))
      exact w _ hm rfl rfl
    · have hrow := a8 i i0 (by omega)
      have hst116 : (∀ y ∈ shE ty m ++ r, y.1 = 116 → y.2.1 ≠ i) → ∀ y ∈ (x :: r), y.1 = 116 → y.2.1 ≠ i := fun z y hy => by
        rcases List.mem_cons.mp hy with w | w
        · intro w1; rw [w] at w1; omega
        · exact z y (List.mem_append_right _ w)
      have hpool := gp
      have hlow : ∀ (y : Nat) (j : Int), y = 6973 ∨ y = 6974 → j < M 6952 37 → M5 y j = M y j := fun y j b _ => by rw [g1 y (by omega) (by omega) (by omega) (by omega)]
      by_cases hio : x.2.1 ≠ -1 ∧ i = x.2.1
      · obtain ⟨hn1, hio⟩ := hio
        subst hio
        have hsl := hs.resolve_left hn1
        have hgr : ∀ y : Nat, 6960 ≤ y → y ≤ 6972 → y ≠ 6963 + x.2.2.1.toNat → M5 y x.2.1 = M y x.2.1 := fun y b c d' => gr y _ b c hi (fun z => absurd z d')
        have hRn : ∀ f : Nat, f ≠ 15 + x.2.2.1.toNat → nodR R m ty nm v x.2.1 x.2.2.1 f x.2.1 = R f x.2.1 := fun f hf => by
          unfold nodR
          rw [setv_ne f _ (Or.inr hi)]
          unfold lnk
          rw [if_neg hn1, im_rdn _ _ _ _ hf]
          exact newN_ne f hi
        have hRf : nodR R m ty nm v x.2.1 x.2.2.1 (15 + x.2.2.1.toNat) x.2.1 = m := by
          unfold nodR
          rw [setv_ne _ _ (Or.inr hi)]
          unfold lnk
          rw [if_neg hn1, im_rds]
        have hgl := gl hn1
        generalize nodR R m ty nm v x.2.1 x.2.2.1 = R' at hRn hRf ⊢
        obtain ⟨b1, b2, b3, b4, b5, b6, b7⟩ := hrow
        have hlk : ∀ f : Nat, 16 ≤ f → f ≤ 19 → M (6948 + f) x.2.1 = R f x.2.1 → M5 (6948 + f) x.2.1 = R' f x.2.1 := fun f f0 f1 hh => by
          by_cases hf : f = 15 + x.2.2.1.toNat
          · have e1 : 6948 + f = 6963 + x.2.2.1.toNat := by omega
            rw [e1, hgl, hf, hRf]
          · rw [hgr (6948 + f) (by omega) (by omega) (by omega), hRn f hf]; exact hh
        unfold rowR
        rw [hRn 0 (by omega), hRn 3 (by omega), hRn 4 (by omega), hRn 5 (by omega), hRn 6 (by omega), hRn 7 (by omega), hgr 6960 (by decide) (by decide) (by omega), hgr 6961 (by decide) (by decide) (by omega), hgr 6962 (by decide) (by decide) (by omega), hgr 6963 (by decide) (by decide) (by omega), hgr 6968 (by decide) (by decide) (by omega), hgr 6969 (by decide) (by decide) (by omega), hgr 6970 (by decide) (by decide) (by omega), hgr 6971 (by decide) (by decide) (by omega), hgr 6972 (by decide) (by decide) (by omega)]
        refine ⟨b1, b2, b3, ⟨hlk 16 (by decide) (by decide) b4.1, hlk 17 (by decide) (by decide) b4.2.1, hlk 18 (by decide) (by decide) b4.2.2.1, hlk 19 (by decide) (by decide) b4.2.2.2⟩, fun z => rnp_congr (b5 z) hpool g7.1, fun z => ⟨(b6 z).1, fun z2 => ⟨((b6 z).2 z2).1, fun z3 => ((b6 z).2 z2).2 (hst116 z3)⟩⟩, fun z => ?_⟩
        obtain ⟨c1, c2, c3, c4⟩ := b7 z
        refine ⟨c1, c2, c3, fun j hj => ?_⟩
        have h64 := hc29 _ i0 (by omega) z
        rw [hlow 6973 _ (Or.inl rfl) (by omega), hlow 6974 _ (Or.inr rfl) (by omega), hRn (8 + j) (by omega), hRn (12 + j) (by omega)]
        exact ⟨rnp_congr (c4 j hj).1 hpool g7.1, rnp_congr (c4 j hj).2 hpool g7.1⟩
      · exact rowR_congr hrow (fun y b c => gr y i b c hi (fun _ z w => hio ⟨z, w⟩)) hpool hlow (fun f => nodR_ne f i hi (by omega) hs) g7.1 (Int.le_refl _) (fun _ _ => hst116)
end RPAR7
