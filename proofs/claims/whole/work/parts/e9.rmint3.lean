/-! THE REFERENCE mints, once it may -/
section RMINT3
variable {g : im_g} {d : Nat} {e : im_E} {M : im_M} {K : im_K} {w : Wd}
/-- the wallet's half -/
theorem l_dmW {pa tk' r x T : Int} {β : Bk} (h : RW M w) (hsb : sbk w.gWa) (hpa : im_i64 pa) (htk : im_i64 tk') (h116 : M 6952 116 = (w.gWa.1 : Int)) (hpos : ∀ q : Nat, q < w.gWa.1 → M 7031 q = M 7042 q ∧ M 7032 q = M 7043 q) (h150 : M 6952 150 = r) (hr : rnp M 0 T r x) (hT : T ≤ 1100000)
    (hβ1 : hs2 w.gWa pa tk' → β = bset w.gWa pa tk' x) (hβ0 : ¬ hs2 w.gWa pa tk' → w.gWa.1 < 60 ∧ β = bins w.gWa pa tk' x)
    (hK : ∀ M', (∀ y, y < 6952 ∨ 7080 < y → M' y = M y) → M' 6952 0 = M 6952 0 → RW M' (w.sWa β) → K (.inl (some (vI 0))) e M') :
    im_T g (d - 1) 370 0 [some (.ref 6952), some (vL pa), none, some (vL tk'), none, none] [] e M (im_ri (fun x11 e_ M10 => e = e_ ∧ (im_i32 x11) ∧ ((¬ x11 = (-1) → (0 ≤ x11 ∧ x11 < 60) ∧ (im_i64 pa) ∧ im_T g (d - 1) 340 0 [some (.ref 6952), some (.ref 7044), some (vI x11), some (vI (M10 6952 150)), none] [] e (im_u (im_u M10 7042 x11 pa) 7043 x11 tk') (im_r0 (fun e_ M18 => e = e_ ∧ K (.inl (some (vI 0))) e M18))) ∧ (x11 = (-1) → (im_i32 ((M10 6952 130) + 1)) ∧ (0 ≤ (M10 6952 130) ∧ (M10 6952 130) < 60) ∧ (im_i64 pa) ∧ im_T g (d - 1) 340 0 [some (.ref 6952), some (.ref 7044), some (vI (M10 6952 130)), some (vI (M10 6952 150)), none] [] e (im_u (im_u (im_u M10 6952 130 ((M10 6952 130) + 1)) 7042 (M10 6952 130) pa) 7043 (M10 6952 130) tk') (im_r0 (fun e_ M25 => e = e_ ∧ K (.inl (some (vI 0))) e M25)))))) := by
  obtain ⟨_, _, ⟨_, hwa, _⟩, _⟩ := id h
  obtain ⟨m1, m2, m3, m4, m5⟩ := id hwa
  refine c_walletAt ⟨by omega, by omega⟩ hpa htk (fun y y0 y1 e1 e2 => ⟨_, rfl, rfl, by constructor <;> omega, fun _ => ⟨⟨y0, by omega⟩, hpa, ?_⟩, fun z => by omega⟩) (fun hno => ⟨_, rfl, rfl, by decide, fun z => absurd rfl z, fun _ => ?_⟩)
  · have ey : ((y.toNat : Nat) : Int) = y := by omega
    obtain ⟨q1, q2⟩ := hpos y.toNat (by omega)
    rw [ey] at q1 q2
    have a1 : M 7042 ((y.toNat : Nat) : Int) = pa := by rw [ey, ← q1]; exact e1
    have a2 : M 7043 ((y.toNat : Nat) : Int) = tk' := by rw [ey, ← q2]; exact e2
    have hh : hs2 w.gWa pa tk' := by have := (m3 y.toNat (by omega)).1; rw [a1, a2] at this; exact this
    rw [h150]
    generalize hN : im_u (im_u M 7042 y pa) 7043 y tk' = N
    have n1 : ∀ z, z ≠ 7042 → z ≠ 7043 → N z = M z := fun z a b => by rw [← hN, im_u_ne _ _ _ b, im_u_ne _ _ _ a]
    have n2 : ∀ q, N 7042 q = if q = y then pa else M 7042 q := fun q => by rw [← hN, im_rdn _ _ _ _ (by decide), im_rdx]
    have n3 : ∀ q, N 7043 q = if q = y then tk' else M 7043 q := fun q => by rw [← hN, im_rdx, im_rdn _ _ _ _ (by decide)]
    clear hN
    refine c_save (c := 7044) (n1 := 18120) (x := x) (T := T) sf_7044 (by decide) (by decide) y0 (by omega) (rnp_congr hr (fun q _ => by rw [n1 6955 (by decide) (by decide)]) (Int.le_refl _)) hT (fun M' s1 s2 s3 => ⟨rfl, rfl, ?_⟩)
    have e0 : M' 6952 = M 6952 := by rw [s1 6952 (by decide), n1 6952 (by decide) (by decide)]
    have S : swl M' (bset w.gWa pa tk' x) := swl_set (q := y.toNat) hwa (by omega) a1 a2 hh (by rw [e0]) (fun q => by rw [ey, s1 7042 (by decide)]; exact n2 q) (fun q => by rw [ey, s1 7043 (by decide)]; exact n3 q) (fun q hq => by rw [ey] at hq; rw [s2 q hq, n1 7044 (by decide) (by decide)]) (by rw [ey]; exact s3)
    rw [hβ1 hh] at hK
    exact hK M' (fun z hz => by rw [s1 z (by omega)]; exact n1 z (by omega) (by omega)) (by rw [e0]) (h.wa (fun z a b => by rw [s1 z (by omega)]; exact n1 z (by omega) (by omega)) (fun k _ => by rw [e0]) S)
  · have hh : ¬ hs2 w.gWa pa tk' := fun z => by
      obtain ⟨i, i1, i2, i3⟩ := m5 pa tk' z
      obtain ⟨q1, q2⟩ := hpos i i1
      exact hno i (by omega) (by omega) ⟨q1.trans i2, q2.trans i3⟩
    obtain ⟨h60, hβ⟩ := hβ0 hh
    rw [m1, h150]
    refine ⟨by constructor <;> omega, ⟨by omega, by omega⟩, hpa, ?_⟩
    generalize hN : im_u (im_u (im_u M 6952 130 ((w.gWa.1 : Int) + 1)) 7042 (w.gWa.1 : Int) pa) 7043 (w.gWa.1 : Int) tk' = N
    have n1 : ∀ z, z ≠ 6952 → z ≠ 7042 → z ≠ 7043 → N z = M z := fun z c a b => by rw [← hN, im_u_ne _ _ _ b, im_u_ne _ _ _ a, im_u_ne _ _ _ c]
    have n0 : ∀ k, k ≠ 130 → N 6952 k = M 6952 k := fun k hk => by rw [← hN, im_rdn _ _ _ _ (by decide), im_rdn _ _ _ _ (by decide), im_rdk _ _ _ hk]
    have n4 : N 6952 130 = (w.gWa.1 : Int) + 1 := by rw [← hN, im_rdn _ _ _ _ (by decide), im_rdn _ _ _ _ (by decide), im_rds]
    have n2 : ∀ q, N 7042 q = if q = w.gWa.1 then pa else M 7042 q := fun q => by rw [← hN, im_rdn _ _ _ _ (by decide), im_rdx, im_rdn _ _ _ _ (by decide)]
    have n3 : ∀ q, N 7043 q = if q = w.gWa.1 then tk' else M 7043 q := fun q => by rw [← hN, im_rdx, im_rdn _ _ _ _ (by decide), im_rdn _ _ _ _ (by decide)]
    clear hN
    refine c_save (c := 7044) (n1 := 18120) (x := x) (T := T) sf_7044 (by decide) (by decide) (by omega) (by omega) (rnp_congr hr (fun q _ => by rw [n1 6955 (by decide) (by decide) (by decide)]) (Int.le_refl _)) hT (fun M' s1 s2 s3 => ⟨rfl, rfl, ?_⟩)
    have e0 : M' 6952 = N 6952 := s1 6952 (by decide)
    have S : swl M' (bins w.gWa pa tk' x) := swl_app hwa hsb h60 hh (by rw [e0]; exact n4) (fun q => by rw [s1 7042 (by decide)]; exact n2 q) (fun q => by rw [s1 7043 (by decide)]; exact n3 q) (fun q hq => by rw [s2 q hq, n1 7044 (by decide) (by decide) (by decide)]) s3
    rw [hβ] at hK
    exact hK M' (fun z hz => by rw [s1 z (by omega)]; exact n1 z (by omega) (by omega) (by omega)) (by rw [e0]; exact n0 0 (by decide)) (h.wa (fun z a b => by rw [s1 z (by omega)]; exact n1 z a (by omega) (by omega)) (fun k hk => by rw [e0]; exact n0 k hk) S)
theorem c_doMint {pa tk' ra rb xa xb T : Int} {β γ : Bk} (h : RW M w) (hsb : sbk w.gWa) (hsm : sbk w.gMi) (hpa : im_i64 pa) (htk : im_i64 tk') (h116 : M 6952 116 = (w.gWa.1 : Int)) (hpos : ∀ q : Nat, q < w.gWa.1 → M 7031 q = M 7042 q ∧ M 7032 q = M 7043 q) (h149 : M 6952 149 = ra) (hra : rnp M 0 T ra xa) (h150 : M 6952 150 = rb) (hrb : rnp M 0 T rb xb) (hT : T ≤ 1100000)
    (hβ1 : hs2 w.gWa pa tk' → β = bset w.gWa pa tk' xb) (hβ0 : ¬ hs2 w.gWa pa tk' → w.gWa.1 < 60 ∧ β = bins w.gWa pa tk' xb)
    (hγ1 : hs2 w.gMi tk' 0 → γ = bset w.gMi tk' 0 xa) (hγ0 : ¬ hs2 w.gMi tk' 0 → w.gMi.1 < 60 ∧ γ = bins w.gMi tk' 0 xa) (hd : 2 ≤ d)
    (hK : ∀ M', (∀ y, y < 6952 ∨ 7080 < y → M' y = M y) → M' 6952 0 = M 6952 0 → RW M' ((w.sMi γ).sWa β) → K (.inl (some (vI 0))) e M') :
    im_T g d 424 0 [some (.ref 6952), some (vL pa), none, some (vL tk'), none, none, none] [] e M K := by
  obtain ⟨_, _, ⟨_, _, hmi⟩, _⟩ := id h
  obtain ⟨m1, m2, m3, m4, m5⟩ := id hmi
  refine b_doMint_0 (by omega) (c_mintedAt hmi htk (fun q hq hqa hh => ⟨_, rfl, rfl, by constructor <;> omega, fun _ => ⟨⟨by omega, by omega⟩, htk, ?_⟩, fun z => by omega⟩) (fun hh => ⟨_, rfl, rfl, by decide, fun z => absurd rfl z, fun _ => ?_⟩))
  · rw [h149]
    generalize hN : im_u M 7045 (q : Int) tk' = N
    have n1 : ∀ z, z ≠ 7045 → N z = M z := fun z a => by rw [← hN, im_u_ne _ _ _ a]
    have n2 : ∀ i, N 7045 i = if i = q then tk' else M 7045 i := fun i => by rw [← hN, im_rdx]
    clear hN
    refine c_save (c := 7046) (n1 := 18120) (x := xa) (T := T) sf_7046 (by decide) (by decide) (by omega) (by omega) (rnp_congr hra (fun j _ => by rw [n1 6955 (by decide)]) (Int.le_refl _)) hT (fun M' s1 s2 s3 => ⟨rfl, rfl, ?_⟩)
    have ex : ∀ z, z ≠ 7045 → z ≠ 7046 → M' z = M z := fun z a b => (s1 z b).trans (n1 z a)
    have e0 := ex 6952 (by decide) (by decide)
    have S : rMi M' (bset w.gMi tk' 0 xa) := rMi_set (q := q) hmi hq hqa hh (by rw [e0]) (fun i => by rw [s1 7045 (by decide)]; exact n2 i) (fun i hi => by rw [s2 i hi, n1 7046 (by decide)]) s3
    rw [← hγ1 hh] at S
    have W1 := h.mi (fun z a b => ex z (by omega) (by omega)) (fun k _ => by rw [e0]) S
    exact l_dmW (w := w.sMi γ) W1 hsb hpa htk (by rw [e0]; exact h116) (fun i hi => by rw [ex 7031 (by decide) (by decide), ex 7032 (by decide) (by decide), ex 7042 (by decide) (by decide), ex 7043 (by decide) (by decide)]; exact hpos i hi) (by rw [e0]; exact h150) (rnp_congr hrb (fun j _ => by rw [ex 6955 (by decide) (by decide)]) (Int.le_refl _)) hT hβ1 hβ0 (fun M2 f2 c2 W2 => hK M2 (fun z hz => (f2 z hz).trans (ex z (by omega) (by omega))) (by rw [c2, e0]) W2)
  · obtain ⟨h60, hγ⟩ := hγ0 hh
    rw [m1, h149]
    refine ⟨by constructor <;> omega, ⟨by omega, by omega⟩, htk, ?_⟩
    generalize hN : im_u (im_u M 6952 134 ((w.gMi.1 : Int) + 1)) 7045 (w.gMi.1 : Int) tk' = N
    have n1 : ∀ z, z ≠ 6952 → z ≠ 7045 → N z = M z := fun z c a => by rw [← hN, im_u_ne _ _ _ a, im_u_ne _ _ _ c]
    have n0 : ∀ k, k ≠ 134 → N 6952 k = M 6952 k := fun k hk => by rw [← hN, im_rdn _ _ _ _ (by decide), im_rdk _ _ _ hk]
    have n4 : N 6952 134 = (w.gMi.1 : Int) + 1 := by rw [← hN, im_rdn _ _ _ _ (by decide), im_rds]
    have n2 : ∀ i, N 7045 i = if i = w.gMi.1 then tk' else M 7045 i := fun i => by rw [← hN, im_rdx, im_rdn _ _ _ _ (by decide)]
    clear hN
    refine c_save (c := 7046) (n1 := 18120) (x := xa) (T := T) sf_7046 (by decide) (by decide) (by omega) (by omega) (rnp_congr hra (fun j _ => by rw [n1 6955 (by decide) (by decide)]) (Int.le_refl _)) hT (fun M' s1 s2 s3 => ⟨rfl, rfl, ?_⟩)
    have ex : ∀ z, z ≠ 6952 → z ≠ 7045 → z ≠ 7046 → M' z = M z := fun z c a b => (s1 z b).trans (n1 z c a)
    have ek : ∀ k, k ≠ 134 → M' 6952 k = M 6952 k := fun k hk => by rw [s1 6952 (by decide)]; exact n0 k hk
    have S : rMi M' (bins w.gMi tk' 0 xa) := rMi_app hmi hsm h60 hh (by rw [s1 6952 (by decide)]; exact n4) (fun i => by rw [s1 7045 (by decide)]; exact n2 i) (fun i hi => by rw [s2 i hi, n1 7046 (by decide) (by decide)]) s3
    rw [← hγ] at S
    have W1 := h.mi (fun z a b => ex z a (by omega) (by omega)) ek S
    exact l_dmW (w := w.sMi γ) W1 hsb hpa htk (by rw [ek 116 (by decide)]; exact h116) (fun i hi => by rw [ex 7031 (by decide) (by decide) (by decide), ex 7032 (by decide) (by decide) (by decide), ex 7042 (by decide) (by decide) (by decide), ex 7043 (by decide) (by decide) (by decide)]; exact hpos i hi) (by rw [ek 150 (by decide)]; exact h150) (rnp_congr hrb (fun j _ => by rw [ex 6955 (by decide) (by decide) (by decide)]) (Int.le_refl _)) hT hβ1 hβ0 (fun M2 f2 c2 W2 => hK M2 (fun z hz => (f2 z hz).trans (ex z (by omega) (by omega) (by omega))) (by rw [c2]; exact ek 0 (by decide)) W2)
end RMINT3
