/-! THE REFERENCE tries to mint -/
/-- what mint says before it is written -/
noncomputable def miC (w : Wd) (pa tk' v : Int) : Int := if v ≤ 0 then -5 else ifq (¬ sm (hld w.gMi tk' 0 + v)) (-8) <| if (¬ hs2 w.gWa pa tk' ∧ 60 ≤ w.gWa.1) ∨ (¬ hs2 w.gMi tk' 0 ∧ 60 ≤ w.gMi.1) then -9 else 0
/-- the frame of what is worked out -/
def mqF (M M' : im_M) : Prop := (∀ x, x ≠ 6952 → x ≠ 6955 → x ≠ 7031 → x ≠ 7032 → x ≠ 7033 → M' x = M x) ∧ (∀ k, k ≠ 7 → k ≠ 8 → k ≠ 65 → k ≠ 101 → k ≠ 116 → k ≠ 149 → k ≠ 150 → M' 6952 k = M 6952 k) ∧ (∀ i, i < M 6952 6 → M' 6955 i = M 6955 i) ∧ (M' 6952 8 = 0 ∨ M' 6952 8 = 1) ∧ (0 ≤ M' 6952 116 ∧ M' 6952 116 ≤ 60)
theorem mqF.rsf {M M' : im_M} (h : mqF M M') : RSF M M' := ⟨fun x a b c d f => h.1 x a (by omega) (by omega) (by omega) (by omega), fun x i a b c => by rw [h.1 x (by omega) (by omega) (by omega) (by omega) (by omega)], fun x i a b => by rw [h.1 x (by omega) (by omega) (by omega) (by omega) (by omega)], h.2.2.1, fun k hk => h.2.1 k (by omega) (by omega) (by omega) (by omega) (by omega) (by omega) (by omega)⟩
section RMINT4
variable {g : im_g} {d : Nat} {e : im_E} {M : im_M} {K : im_K} {w : Wd} {t : Int → Int} {n : Int}
theorem c_sumQ {a b va vb : Int} (ha : rnp M 0 (M 6952 7) a va) (hb : rnp M 0 (M 6952 7) b vb) (h101 : M 6952 101 = 0 ∨ M 6952 101 = -8) (h7 : M 6952 7 + 310 ≤ 1100000) (hd : 5 ≤ d)
    (hK : ∀ M' r, (∀ x, x ≠ 6952 → x ≠ 6955 → M' x = M x) → (∀ k, k ≠ 7 → k ≠ 8 → k ≠ 101 → M' 6952 k = M 6952 k) → (∀ i, i < M 6952 7 → M' 6955 i = M 6955 i) → (M 6952 7 ≤ M' 6952 7 ∧ M' 6952 7 ≤ M 6952 7 + 303) → (M' 6952 8 = 0 ∨ M' 6952 8 = 1) → im_i32 r → ((sm (va + vb) ∧ M' 6952 101 = M 6952 101 ∧ rnp M' 0 (M' 6952 7) r (va + vb)) ∨ (¬ sm (va + vb) ∧ M' 6952 101 = -8)) → K (.inl (some (vI r))) e M') : im_T g d 371 0 [some (.ref 6952), some (vI a), some (vI b), some (vI 1), none] [] e M K := by
  obtain ⟨n1, a1, a2, a3, a4⟩ := ha
  obtain ⟨n2, b1, b2, b3, b4⟩ := hb
  have e7 : im_u M 6952 8 0 6952 7 = M 6952 7 := im_rdk _ _ _ (by decide)
  have e55 : im_u M 6952 8 0 6955 = M 6955 := im_u_ne _ _ _ (by decide)
  have e8 : im_u M 6952 8 0 6952 8 = 0 := im_rds _ _ _ _
  refine b_sum_0 (by omega) (c_plus (na := n1) (nb := n2) (va := va) (vb := vb) (by rw [e55]; exact a1) (by rw [e55]; exact b1) a2 b2 (by rw [e7]; exact a3) (by rw [e7]; exact b3) a4 b4 (Or.inl rfl) (by rw [e7]; omega) (Or.inl e8) (by omega) (fun M' n' f1 f2 f3 f4 f5 => ⟨_, rfl, rfl, ?_⟩))
  rw [e7] at f1 f2 f4 ⊢
  rw [e8] at f5
  rw [Int.one_mul] at f2
  have hsm := rn_small f2
  have hx : ∀ x, x ≠ 6952 → x ≠ 6955 → M' x = M x := fun x a b => (f1.1 x (fun z => by cases z) b a).trans (im_u_ne _ _ _ a)
  have hk : ∀ k, k ≠ 7 → k ≠ 8 → M' 6952 k = M 6952 k := fun k a b => (f1.2.1 k (by simp [a, b])).trans (im_rdk _ _ _ b)
  have hi : ∀ i, i < M 6952 7 → M' 6955 i = M 6955 i := fun i hi => by rw [f1.2.2 i hi, e55]
  have h101' : M' 6952 101 = M 6952 101 := hk 101 (by decide) (by decide)
  by_cases hs : sm (va + vb)
  · have hn : n' ≤ 300 := hsm.mpr hs
    rw [if_pos ⟨rfl, hn⟩] at f5
    exact ⟨fun _ => hK M' _ hx (fun k a b _ => hk k a b) hi (by omega) (Or.inl f5) (by constructor <;> omega) (Or.inl ⟨hs, h101', n', f2, by omega, by omega, hn⟩), fun z => absurd f5 z⟩
  · rw [if_neg (fun z => hs (hsm.mp z.2))] at f5
    refine ⟨fun z => by omega, fun _ => b_refuse_0 (fun x hx' => ?_)⟩
    have : x = -8 := by omega
    rw [this]
    exact ⟨by decide, rfl, rfl, hK _ _ (fun x a b => by rw [im_u_ne _ _ _ a]; exact hx x a b) (fun k a b c => by rw [im_rdk _ _ _ c]; exact hk k a b) (fun i hi' => by rw [im_rdn _ _ _ _ (by decide)]; exact hi i hi') (by rw [im_rdk _ _ _ (by decide)]; omega) (by rw [im_rdk _ _ _ (by decide)]; exact Or.inr f5) (by constructor <;> omega) (Or.inr ⟨hs, im_rds _ _ _ _⟩)⟩
theorem c_tryMint {pa tk' : Int} (h : RW M w) (hrt : rtx M t n) (hde : w.gDe ≤ 16384) (hpw : posb w.gWa) (hpm : posb w.gMi) (hcon : hld w.gWa pa tk' ≤ hld w.gMi tk' 0) (hpa : im_i64 pa) (htk : im_i64 tk') (hd : 8 ≤ d)
    (hKn : ¬ nmV pa ∨ ¬ nmV tk' → K (.inl (some (vI (-101)))) e M)
    (hKf : nmV pa → nmV tk' → ∀ f, nuT t n = .inl f → ∀ M', RSF M M' → (M' 6952 13 = M 6952 13 ∧ M' 6952 0 = M 6952 0) → M' 6959 = M 6959 → rFau M' f.1 f.2 → rScr M' → K (.inl (some (vI (-1)))) e M')
    (hKs : nmV pa → nmV tk' → ∀ v, nuT t n = .inr v → ∀ M' r, RSF M M' → (M' 6952 13 = M 6952 13 ∧ M' 6952 0 = M 6952 0) → M' 6959 = M 6959 → rFau M' 0 (-1) → rScr M' → r = miC w pa tk' v → (r = 0 → M' 6952 116 = (w.gWa.1 : Int) ∧ (∀ q : Nat, q < w.gWa.1 → M' 7031 q = M' 7042 q ∧ M' 7032 q = M' 7043 q) ∧ ∃ T, T ≤ 1100000 ∧ rnp M' 0 T (M' 6952 149) (hld w.gMi tk' 0 + v) ∧ rnp M' 0 T (M' 6952 150) (hld w.gWa pa tk' + v)) → K (.inl (some (vI r))) e M') :
    im_T g d 422 0 [some (.ref 6952), some (vL pa), none, some (vL tk'), none, none, none, none, none] [] e M K := by
  obtain ⟨_, ⟨⟨p1, p2, ⟨p3, p3'⟩, p4, p4'⟩, _, _⟩, ⟨_, hsw, hmi⟩, _, _, _, ⟨s8, s116, s99, s100⟩⟩ := id h
  have hn0 : 0 ≤ n := hrt.2.1
  have hk1 := tk_ok (t := t) hn0
  refine b_tryMint_0 (by omega) (c_isNameR hpa (by omega) (fun hN => ⟨_, rfl, rfl, by decide, fun z => absurd z (by decide), fun _ => ?_⟩) (fun hN => ⟨_, rfl, rfl, by decide, fun _ => hKn (Or.inl hN), fun z => absurd rfl z⟩))
  refine c_isNameR htk (by omega) (fun hN2 => ⟨_, rfl, rfl, by decide, fun _ => ?_, fun z => absurd z (by decide)⟩) (fun hN2 => ⟨_, rfl, rfl, by decide, fun z => absurd rfl z, fun _ => hKn (Or.inr hN2)⟩)
  have hscr : ∀ (M' : im_M) (x : Int), NX M M' → rScr (im_u M' 6952 65 x) ∧ (im_u M' 6952 65 x 6952 13 = M 6952 13 ∧ im_u M' 6952 65 x 6952 0 = M 6952 0) ∧ im_u M' 6952 65 x 6959 = M 6959 ∧ RSF M (im_u M' 6952 65 x) := fun M' x X => by
    have f : ∀ k, k ≠ 7 → (k < 14 ∨ 20 < k) → k ≠ 65 → im_u M' 6952 65 x 6952 k = M 6952 k := fun k a b c => (im_rdk _ _ _ c).trans (X.2.1 k a b)
    have N2 : RSF M' (im_u M' 6952 65 x) := ⟨fun y a _ _ _ _ => im_u_ne _ _ _ a, fun y i a b _ => im_rdn _ _ _ _ (by omega), fun y i a _ => im_rdn _ _ _ _ (by omega), fun i _ => im_rdn _ _ _ _ (by decide), fun k hk => im_rdk _ _ _ (by omega)⟩
    exact ⟨⟨by rw [f 8 (by decide) (by decide) (by decide)]; exact s8, by rw [f 116 (by decide) (by decide) (by decide)]; exact s116, by rw [f 99 (by decide) (by decide) (by decide)]; exact s99, by rw [f 100 (by decide) (by decide) (by decide)]; exact s100⟩, ⟨f 13 (by decide) (by decide) (by decide), f 0 (by decide) (by decide) (by decide)⟩, (im_u_ne _ _ _ (by decide)).trans (X.1 6959 (by decide) (by decide)), X.rsf.trans N2⟩
  unfold nuT at hKf hKs
  generalize (tk t n 0).1 = p at hk1 hKf hKs
  generalize hq : (tk t n 0).2.1 = q at hk1 hKf hKs
  generalize (tk t n 0).2.2.1 = ty at hk1 hKf hKs
  generalize (tk t n 0).2.2.2.1 = nm1 at hk1
  generalize (tk t n 0).2.2.2.2 = v at hk1 hKf hKs
  refine c_rreadNumber (t := t) (nt := n) (p := p) (q := q) (ty := ty) (nm := nm1) (v := v) (p2 := (tk t n q).1) (q2 := (tk t n q).2.1) (ty2 := (tk t n q).2.2.1) (nm2 := (tk t n q).2.2.2.1) (v2 := (tk t n q).2.2.2.2) hrt s8 p3 (by omega) hk1 (fun z => tk_ok (tkn_q hk1 (by omega)).2.2.1) (by omega) (fun c pp hc M1 r X1 h19 h20 => ?_) (fun h34 h41 M1 X1 h19 h20 h7 hrn => ?_)
  · obtain ⟨q1, q2, q3, q4⟩ := hscr M1 (r.bmod 4294967296) X1
    have hcp : 0 < c := by
      rcases hc with ⟨_, z, _⟩ | ⟨_, _, z, _⟩
      · rw [z]; exact (ftk_pos ty).1
      · rw [z]; unfold fte; (repeat' split) <;> decide
    refine ⟨r.bmod 4294967296, by rw [vI_bm], rfl, bm_i32 _, fun z => by omega, fun _ => ?_⟩
    refine hKf hN hN2 (c, pp) ?_ _ q4 q2 q3 ⟨by rw [im_rdk _ _ _ (by decide)]; exact h19, by rw [im_rdk _ _ _ (by decide)]; exact h20⟩ q1
    rcases hc with ⟨z1, z2, z3⟩ | ⟨z1, z2, z3, z4⟩
    · rw [if_pos z1, z2, z3]
    · rw [if_neg (Decidable.not_not.mpr z1), if_pos z2, z3, z4]
  have hKs := hKs hN hN2 v (by rw [if_neg (Decidable.not_not.mpr h34), if_neg (Decidable.not_not.mpr h41)])
  obtain ⟨q1, q2, q3, q4⟩ := hscr M1 (M 6952 6) X1
  refine ⟨_, rfl, rfl, by constructor <;> omega, fun _ => ?_, fun z => by omega⟩
  have hsg : M1 6955 (M 6952 6) = sg v := by obtain ⟨_, z, _⟩ := hrn; exact rn_sg z
  have hvs : sm v := by obtain ⟨_, z, _, _, z2⟩ := hrn; exact (rn_small z).mp z2
  have F2 : rFau (im_u M1 6952 65 (M 6952 6)) 0 (-1) := ⟨by rw [im_rdk _ _ _ (by decide)]; exact h19, by rw [im_rdk _ _ _ (by decide)]; exact h20⟩
  have e7 : im_u M1 6952 65 (M 6952 6) 6952 7 = M1 6952 7 := im_rdk _ _ _ (by decide)
  have e65 : im_u M1 6952 65 (M 6952 6) 6952 65 = M 6952 6 := im_rds _ _ _ _
  have e6 : im_u M1 6952 65 (M 6952 6) 6952 6 = M 6952 6 := q4.2.2.2.2 6 (by omega)
  have r2 : rnp (im_u M1 6952 65 (M 6952 6)) 0 (M1 6952 7) (M 6952 6) v := rnp_congr hrn (fun j _ => by rw [im_rdn _ _ _ _ (by decide)]) (Int.le_refl _)
  have t6 := X1.2.2.2
  clear hrn h19 h20
  rw [hsg]
  refine ⟨⟨p3, by omega⟩, fun hpos => ?_, fun hle => ?_⟩
  rotate_left
  · have hv : v ≤ 0 := by unfold sg at hle; split at hle; omega; split at hle <;> omega
    exact hKs _ _ q4 q2 q3 F2 q1 (by unfold miC; rw [if_pos hv]) (fun z => absurd z (by decide))
  have hv : 0 < v := by unfold sg at hpos; split at hpos; omega; split at hpos <;> omega
  have hC : miC w pa tk' v = ifq (¬ sm (hld w.gMi tk' 0 + v)) (-8) (if (¬ hs2 w.gWa pa tk' ∧ 60 ≤ w.gWa.1) ∨ (¬ hs2 w.gMi tk' 0 ∧ 60 ≤ w.gMi.1) then -9 else 0) := by unfold miC; rw [if_neg (by omega)]
  rw [hC] at hKs
  have W2 := h.scr q4 F2 q1
  obtain ⟨_, _, ⟨_, hsw2, hmi2⟩, _⟩ := id W2
  generalize im_u M1 6952 65 (M 6952 6) = M2 at *
  have hsw2 : swl M2 w.gWa := hsw2
  have hmi2 : rMi M2 w.gMi := hmi2
  clear W2 X1 hscr hC
  refine c_rtakeWalletsP hsw2 (by omega) (by omega) (by omega) (fun M3 g1 g2 g3 g4 g5 g6 => ⟨rfl, rfl, ?_⟩)
  have hmi3 : rMi M3 w.gMi := rMi_congr hmi2 (g2 134 (by decide) (by decide)) (g1 _ (by decide) (by decide) (by decide) (by decide) (by decide)) (g1 _ (by decide) (by decide) (by decide) (by decide) (by decide))
  have h60 : w.gWa.1 ≤ 60 := hsw2.2.1
  have hQ : ∀ M', (∀ x, x ≠ 6952 → x ≠ 6955 → M' x = M3 x) → (∀ k, k ≠ 7 → k ≠ 8 → k ≠ 101 → k ≠ 149 → k ≠ 150 → M' 6952 k = M3 6952 k) → (∀ i, i < M3 6952 7 → M' 6955 i = M3 6955 i) → (M' 6952 8 = 0 ∨ M' 6952 8 = 1) → RSF M M' ∧ (M' 6952 13 = M 6952 13 ∧ M' 6952 0 = M 6952 0) ∧ M' 6959 = M 6959 ∧ rFau M' 0 (-1) ∧ rScr M' ∧ M' 6952 116 = (w.gWa.1 : Int) ∧ (∀ q : Nat, q < w.gWa.1 → M' 7031 q = M' 7042 q ∧ M' 7032 q = M' 7043 q) := fun M' a1 a2 a3 a4 => by
    have k0 : ∀ k, k ≠ 7 → k ≠ 8 → k ≠ 101 → k ≠ 149 → k ≠ 150 → k ≠ 116 → M' 6952 k = M2 6952 k := fun k b1 b2 b3 b4 b5 b6 => (a2 k b1 b2 b3 b4 b5).trans (g2 k b1 b6)
    have x0 : ∀ x, x ≠ 6952 → x ≠ 6955 → x ≠ 7031 → x ≠ 7032 → x ≠ 7033 → M' x = M2 x := fun x b1 b2 b3 b4 b5 => (a1 x b1 b2).trans (g1 x b1 b2 b3 b4 b5)
    have h116 : M' 6952 116 = (w.gWa.1 : Int) := (a2 116 (by decide) (by decide) (by decide) (by decide) (by decide)).trans g5
    have Q : mqF M2 M' := ⟨x0, fun k b1 b2 _ b3 b6 b4 b5 => k0 k b1 b2 b3 b4 b5 b6, fun i hi => (a3 i (by omega)).trans (g3 i (by omega)), a4, by rw [h116]; omega⟩
    refine ⟨q4.trans Q.rsf, ⟨by rw [k0 13 (by decide) (by decide) (by decide) (by decide) (by decide) (by decide)]; exact q2.1, by rw [k0 0 (by decide) (by decide) (by decide) (by decide) (by decide) (by decide)]; exact q2.2⟩, by rw [x0 6959 (by decide) (by decide) (by decide) (by decide) (by decide)]; exact q3, ⟨by rw [k0 19 (by decide) (by decide) (by decide) (by decide) (by decide) (by decide)]; exact F2.1, by rw [k0 20 (by decide) (by decide) (by decide) (by decide) (by decide) (by decide)]; exact F2.2⟩, ⟨a4, by rw [h116]; omega, by rw [k0 99 (by decide) (by decide) (by decide) (by decide) (by decide) (by decide)]; exact q1.2.2.1, by rw [k0 100 (by decide) (by decide) (by decide) (by decide) (by decide) (by decide)]; exact q1.2.2.2⟩, h116, fun q hq => ?_⟩
    rw [a1 7031 (by decide) (by decide), a1 7032 (by decide) (by decide), x0 7042 (by decide) (by decide) (by decide) (by decide) (by decide), x0 7043 (by decide) (by decide) (by decide) (by decide) (by decide)]
    exact ⟨(g6 q hq).1, (g6 q hq).2.1⟩
  have hL : ∀ M', (∀ x, x ≠ 6952 → x ≠ 6955 → M' x = M3 x) → (∀ k, k ≠ 7 → k ≠ 8 → k ≠ 101 → k ≠ 149 → k ≠ 150 → M' 6952 k = M3 6952 k) → (∀ i, i < M3 6952 7 → M' 6955 i = M3 6955 i) → (M' 6952 8 = 0 ∨ M' 6952 8 = 1) → ¬ sm (hld w.gMi tk' 0 + v) → K (.inl (some (vI (-8)))) e M' := fun M' a1 a2 a3 a4 hs => by
    obtain ⟨z1, z2, z3, z4, z5, _, _⟩ := hQ M' a1 a2 a3 a4
    exact hKs M' _ z1 z2 z3 z4 z5 (by rw [ifq_pos hs]) (fun z => absurd z (by decide))
  have hW : ∀ M', (∀ x, x ≠ 6952 → x ≠ 6955 → M' x = M3 x) → (∀ k, k ≠ 7 → k ≠ 8 → k ≠ 101 → k ≠ 149 → k ≠ 150 → M' 6952 k = M3 6952 k) → (∀ i, i < M3 6952 7 → M' 6955 i = M3 6955 i) → (M' 6952 8 = 0 ∨ M' 6952 8 = 1) → sm (hld w.gMi tk' 0 + v) → (¬ hs2 w.gWa pa tk' ∧ 60 ≤ w.gWa.1) ∨ (¬ hs2 w.gMi tk' 0 ∧ 60 ≤ w.gMi.1) → K (.inl (some (vI (-9)))) e M' := fun M' a1 a2 a3 a4 hs hw => by
    obtain ⟨z1, z2, z3, z4, z5, _, _⟩ := hQ M' a1 a2 a3 a4
    exact hKs M' _ z1 z2 z3 z4 z5 (by rw [ifq_neg (Classical.not_not.mpr hs), if_pos hw]) (fun z => absurd z (by decide))
  have hG : ∀ M' ra rb, (∀ x, x ≠ 6952 → x ≠ 6955 → M' x = M3 x) → (∀ k, k ≠ 7 → k ≠ 8 → k ≠ 101 → k ≠ 149 → k ≠ 150 → M' 6952 k = M3 6952 k) → (∀ i, i < M3 6952 7 → M' 6955 i = M3 6955 i) → (M' 6952 8 = 0 ∨ M' 6952 8 = 1) → sm (hld w.gMi tk' 0 + v) → ¬ ((¬ hs2 w.gWa pa tk' ∧ 60 ≤ w.gWa.1) ∨ (¬ hs2 w.gMi tk' 0 ∧ 60 ≤ w.gMi.1)) → M' 6952 7 ≤ 1100000 → rnp M' 0 (M' 6952 7) ra (hld w.gMi tk' 0 + v) → rnp M' 0 (M' 6952 7) rb (hld w.gWa pa tk' + v) → K (.inl (some (vI 0))) e (im_u (im_u M' 6952 149 ra) 6952 150 rb) := fun M' ra rb a1 a2 a3 a4 hs hw hT c1 c2 => by
    have f1 : ∀ k, k ≠ 149 → k ≠ 150 → im_u (im_u M' 6952 149 ra) 6952 150 rb 6952 k = M' 6952 k := fun k b1 b2 => by rw [im_rdk _ _ _ b2, im_rdk _ _ _ b1]
    have f2 : ∀ x, x ≠ 6952 → im_u (im_u M' 6952 149 ra) 6952 150 rb x = M' x := fun x b => by rw [im_u_ne _ _ _ b, im_u_ne _ _ _ b]
    have f3 : im_u (im_u M' 6952 149 ra) 6952 150 rb 6952 149 = ra := by rw [im_rdk _ _ _ (by decide), im_rds]
    have f4 : im_u (im_u M' 6952 149 ra) 6952 150 rb 6952 150 = rb := im_rds _ _ _ _
    generalize im_u (im_u M' 6952 149 ra) 6952 150 rb = N at f1 f2 f3 f4 ⊢
    obtain ⟨z1, z2, z3, z4, z5, z6, z7⟩ := hQ N (fun x a b => (f2 x a).trans (a1 x a b)) (fun k b1 b2 b3 b4 b5 => (f1 k b4 b5).trans (a2 k b1 b2 b3 b4 b5)) (fun i hi => by rw [f2 6955 (by decide)]; exact a3 i hi) (by rw [f1 8 (by decide) (by decide)]; exact a4)
    refine hKs N _ z1 z2 z3 z4 z5 (by rw [ifq_neg (Classical.not_not.mpr hs), if_neg hw]) (fun _ => ⟨z6, z7, M' 6952 7, hT, ?_, ?_⟩)
    · rw [f3]; exact rnp_congr c1 (fun j _ => by rw [f2 6955 (by decide)]) (Int.le_refl _)
    · rw [f4]; exact rnp_congr c2 (fun j _ => by rw [f2 6955 (by decide)]) (Int.le_refl _)
  have e130 : M3 6952 130 = w.gWa.1 := (g2 130 (by decide) (by decide)).trans hsw2.1
  have e134 : M3 6952 134 = w.gMi.1 := hmi3.1
  have e653 : M3 6952 65 = M 6952 6 := (g2 65 (by decide) (by decide)).trans e65
  have r3 : rnp M3 0 (M3 6952 7) (M 6952 6) v := rnp_congr r2 (fun j hj => g3 j (by omega)) (by omega)
  have e83 : M3 6952 8 = 0 ∨ M3 6952 8 = 1 := by rw [g2 8 (by decide) (by decide)]; exact q1.1
  have m60 := hmi3.2.1
  have hwall : ∀ y : Int, 0 ≤ y → y < M3 6952 116 → M3 7031 y = pa → M3 7032 y = tk' → hs2 w.gWa pa tk' ∧ rnp M3 0 (M3 6952 7) (M3 7033 y) (hld w.gWa pa tk') := fun y y0 y1 z1 z2 => by
    have ey : ((y.toNat : Nat) : Int) = y := by omega
    obtain ⟨c1, c2, c3⟩ := g6 y.toNat (by omega)
    have c4 := (hsw2.2.2.1 y.toNat (by omega)).1
    rw [← c1, ← c2] at c3 c4
    rw [ey, z1, z2] at c3 c4
    exact ⟨c4, c3⟩
  have hwno : (∀ x, 0 ≤ x → x < M3 6952 116 → ¬ (M3 7031 x = pa ∧ M3 7032 x = tk')) → ¬ hs2 w.gWa pa tk' := fun hno z => by
    obtain ⟨i, i1, i2, i3⟩ := hsw2.2.2.2.2 pa tk' z
    obtain ⟨c1, c2, _⟩ := g6 i i1
    exact hno i (by omega) (by omega) ⟨c1.trans i2, c2.trans i3⟩
  clear hQ hKs hKf hKn hsw hmi
  obtain ⟨hw1, hw0⟩ := hld_pos hpw (a := pa) (b := tk')
  obtain ⟨hm1, hm0⟩ := hld_pos hpm (a := tk') (b := 0)
  have hws : sm (hld w.gMi tk' 0 + v) → sm (hld w.gWa pa tk' + v) := fun hs => by
    have hL0 := LIM_pos
    have : 0 ≤ hld w.gWa pa tk' := by
      by_cases c : hs2 w.gWa pa tk'
      · have := (hw1 c).1; omega
      · rw [hw0 c]; exact Int.le_refl _
    have := hs.2
    exact ⟨by omega, by omega⟩
  have n0 : ∀ k, k ≠ 101 → im_u M3 6952 101 0 6952 k = M3 6952 k := fun k hk => im_rdk _ _ _ hk
  have nx : ∀ x, x ≠ 6952 → im_u M3 6952 101 0 x = M3 x := fun x hx => im_u_ne _ _ _ hx
  have n101 : im_u M3 6952 101 0 6952 101 = 0 := im_rds _ _ _ _
  refine c_mintedAt hmi3 htk (fun qm hqm hqa hh => ⟨_, rfl, rfl, ?_⟩) (fun hh => ⟨_, rfl, rfl, ?_⟩)
  · have hsnm : sn M3 7046 qm (hld w.gMi tk' 0) := by have := (hmi3.2.2.1 qm hqm).2; rw [hqa] at this; exact this
    have step : ∀ (x22 : Int) (K2 : im_K), (∀ M5 r, (∀ x, x ≠ 6952 → x ≠ 6955 → M5 x = M3 x) → (∀ k, k ≠ 7 → k ≠ 8 → k ≠ 101 → k ≠ 149 → k ≠ 150 → M5 6952 k = M3 6952 k) → (∀ i, i < M3 6952 7 → M5 6955 i = M3 6955 i) → (M5 6952 8 = 0 ∨ M5 6952 8 = 1) → (M3 6952 7 ≤ M5 6952 7 ∧ M5 6952 7 ≤ M3 6952 7 + 605) → im_i32 r → ((sm (hld w.gMi tk' 0 + v) ∧ M5 6952 101 = 0 ∧ rnp M5 0 (M5 6952 7) r (hld w.gMi tk' 0 + v)) ∨ (¬ sm (hld w.gMi tk' 0 + v) ∧ M5 6952 101 = -8)) → K2 (.inl (some (vI r))) e M5) → im_T g (d - 1) 345 0 [some (.ref 6952), some (.ref 7046), some (vI (qm : Int)), none, none, none] [] e (im_u M3 6952 101 0) (im_ri (fun x27 e_ M26 => e = e_ ∧ im_T g (d - 1) 371 0 [some (.ref 6952), some (vI x27), some (vI (M26 6952 65)), some (vI 1), none] [] e M26 K2)) := fun x22 K2 hK2 => by
      generalize im_u M3 6952 101 0 = N at n0 nx n101 ⊢
      have e7' := n0 7 (by decide)
      refine c_rload (c := 7046) (n1 := 18120) (x := hld w.gMi tk' 0) sf_7046 (by decide) (by decide) (by decide) (by omega) (by omega) (sn_congr hsnm (fun i _ _ => by rw [nx 7046 (by decide)])) (by omega) (by omega) (fun M4 f1 f2 f3 => ⟨_, rfl, rfl, ?_⟩)
      have k4 : ∀ k, k ≠ 7 → k ≠ 101 → M4 6952 k = M3 6952 k := fun k a b => (f1.2.1 k (by simp [a])).trans (n0 k b)
      have x4 : ∀ x, x ≠ 6952 → x ≠ 6955 → M4 x = M3 x := fun x a b => (f1.1 x (fun z => by cases z) b a).trans (nx x a)
      have i4 : ∀ i, i < M3 6952 7 → M4 6955 i = M3 6955 i := fun i hi => by rw [f1.2.2 i (by omega), nx 6955 (by decide)]
      rw [k4 65 (by decide) (by decide), e653]
      refine c_sumQ f3 (rnp_congr r3 i4 (by omega)) (Or.inl ((f1.2.1 101 (by simp)).trans n101)) (by omega) (by omega) (fun M5 r a1 a2 a3 a4 a5 a6 a7 => ?_)
      rw [f1.2.1 101 (by simp), n101] at a7
      exact hK2 M5 r (fun x a b => (a1 x a b).trans (x4 x a b)) (fun k b1 b2 b3 _ _ => (a2 k b1 b2 b3).trans (k4 k b1 b3)) (fun i hi => (a3 i (by omega)).trans (i4 i hi)) a5 (by omega) a6 a7
    refine c_walletAt ⟨by omega, by omega⟩ hpa htk (fun y y0 y1 z1 z2 => ⟨_, rfl, rfl, by constructor <;> omega, fun _ => ?_, fun z => by omega⟩) (fun hno => ⟨_, rfl, rfl, by constructor <;> omega, fun _ => ?_, fun z => by omega⟩)
    · obtain ⟨hhw, hrw⟩ := hwall y y0 y1 z1 z2
      refine step y _ (fun M5 r a1 a2 a3 a4 a5 a6 a7 => ⟨_, rfl, rfl, by constructor <;> omega, fun _ => ⟨⟨y0, by omega⟩, ?_⟩, fun z => by omega⟩)
      rw [a1 7033 (by decide) (by decide), a2 65 (by decide) (by decide) (by decide) (by decide) (by decide), e653]
      refine c_sumQ (rnp_congr hrw a3 a5.1) (rnp_congr r3 a3 a5.1) (by rcases a7 with z | z; exact Or.inl z.2.1; exact Or.inr z.2) (by omega) (by omega) (fun M6 r' b1 b2 b3 b4 b5 b6 b7 => ⟨_, rfl, rfl, ?_⟩)
      have F1 : ∀ x, x ≠ 6952 → x ≠ 6955 → M6 x = M3 x := fun x a b => (b1 x a b).trans (a1 x a b)
      have F2' : ∀ k, k ≠ 7 → k ≠ 8 → k ≠ 101 → k ≠ 149 → k ≠ 150 → M6 6952 k = M3 6952 k := fun k c1 c2 c3 c4 c5 => (b2 k c1 c2 c3).trans (a2 k c1 c2 c3 c4 c5)
      have F3 : ∀ i, i < M3 6952 7 → M6 6955 i = M3 6955 i := fun i hi => (b3 i (by omega)).trans (a3 i hi)
      rcases a7 with ⟨hs, c1, c2⟩ | ⟨hs, c1⟩
      · rcases b7 with ⟨_, d1, d2⟩ | ⟨d0, _⟩
        · rw [d1, c1]
          refine ⟨⟨fun _ z => by omega, fun z => absurd z (by decide)⟩, fun _ => ⟨fun z => by omega, fun _ => ⟨a6, b6, ?_⟩⟩⟩
          exact hG M6 r r' F1 F2' F3 b5 hs (fun z => z.elim (fun q => q.1 hhw) (fun q => q.1 hh)) (by omega) (rnp_congr c2 b3 b4.1) d2
        · exact absurd (hws hs) d0
      · have h101 : M6 6952 101 = -8 := by
          rcases b7 with ⟨_, d1, _⟩ | ⟨_, d1⟩
          · rw [d1, c1]
          · exact d1
        rw [h101]
        exact ⟨⟨fun z => absurd z (by decide), fun _ => hL M6 F1 F2' F3 b5 hs⟩, fun z => by rcases z with z | z <;> exact absurd z.1 (by decide)⟩
    · have hnw := hwno hno
      refine step (-1) _ (fun M5 r a1 a2 a3 a4 a5 a6 a7 => ⟨_, rfl, rfl, by decide, fun z => absurd rfl z, fun _ => ?_⟩)
      rw [a2 130 (by decide) (by decide) (by decide) (by decide) (by decide), a2 65 (by decide) (by decide) (by decide) (by decide) (by decide), e653, e130]
      rcases a7 with ⟨hs, c1, c2⟩ | ⟨hs, c1⟩
      · rw [c1]
        refine ⟨⟨fun _ _ z => hW M5 a1 a2 a3 a4 hs (Or.inl ⟨hnw, by omega⟩), fun z => absurd z (by decide)⟩, fun hor => ⟨fun z => by omega, fun _ => ⟨a6, ?_⟩⟩⟩
        have hw0' := hw0 hnw
        exact hG M5 r _ a1 a2 a3 a4 hs (fun z => z.elim (fun q => by have := q.2; omega) (fun q => q.1 hh)) (by omega) c2 (by rw [hw0', Int.zero_add]; exact rnp_congr r3 a3 a5.1)
      · rw [c1]
        exact ⟨⟨fun z => absurd z (by decide), fun _ => hL M5 a1 a2 a3 a4 hs⟩, fun z => by rcases z with z | z <;> exact absurd z.1 (by decide)⟩
  · have hm0' := hm0 hh
    have hnw : ¬ hs2 w.gWa pa tk' := fun z => by have := (hw1 z).1; omega
    have hw0' := hw0 hnw
    refine c_walletAt ⟨by omega, by omega⟩ hpa htk (fun y y0 y1 z1 z2 => absurd (hwall y y0 y1 z1 z2).1 hnw) (fun hno => ⟨_, rfl, rfl, by decide, fun z => absurd rfl z, fun _ => ⟨by decide, fun z => absurd rfl z, fun _ => ?_⟩⟩)
    rw [e130, e134, e653]
    generalize im_u M3 6952 101 0 = N at n0 nx n101 ⊢
    have A1 : ∀ x, x ≠ 6952 → x ≠ 6955 → N x = M3 x := fun x a _ => nx x a
    have A2 : ∀ k, k ≠ 7 → k ≠ 8 → k ≠ 101 → k ≠ 149 → k ≠ 150 → N 6952 k = M3 6952 k := fun k _ _ a _ _ => n0 k a
    have A3 : ∀ i, i < M3 6952 7 → N 6955 i = M3 6955 i := fun i _ => by rw [nx 6955 (by decide)]
    have A4 : N 6952 8 = 0 ∨ N 6952 8 = 1 := by rw [n0 8 (by decide)]; exact e83
    have hs : sm (hld w.gMi tk' 0 + v) := by rw [hm0', Int.zero_add]; exact hvs
    refine ⟨fun _ z => hW N A1 A2 A3 A4 hs (Or.inl ⟨hnw, by omega⟩), fun hor => ⟨fun _ z => hW N A1 A2 A3 A4 hs (Or.inr ⟨hh, by omega⟩), fun hor2 => ?_⟩⟩
    have r4 : rnp N 0 (N 6952 7) (M 6952 6) v := rnp_congr r3 A3 (by rw [n0 7 (by decide)]; exact Int.le_refl _)
    exact hG N _ _ A1 A2 A3 A4 hs (fun z => z.elim (fun q => by have := q.2; omega) (fun q => by have := q.2; omega)) (by rw [n0 7 (by decide)]; omega) (by rw [hm0', Int.zero_add]; exact r4) (by rw [hw0', Int.zero_add]; exact r4)
end RMINT4
