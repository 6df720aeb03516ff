/-! THE REFERENCE mints, as it is called -/
theorem bcre_r {β0 β : Bk} {n : Nat} {a b v : Int} (hp : posb β0) (h : bcre β0 n a b v = .inr β) : (hs2 β0 a b → β = bset β0 a b (hld β0 a b + v)) ∧ (¬ hs2 β0 a b → β0.1 < n ∧ β = bins β0 a b (hld β0 a b + v)) := by
  unfold bcre at h
  obtain ⟨h1, h2⟩ := hld_pos hp (a := a) (b := b)
  refine ⟨fun q => ?_, fun q => ?_⟩
  · rw [if_pos q, ← (h1 q).2] at h
    by_cases c : -LIM < hld β0 a b + v ∧ hld β0 a b + v < LIM
    · rw [if_pos c] at h; cases h; rfl
    · rw [if_neg c] at h; cases h
  · rw [if_neg q] at h
    by_cases c : β0.1 < n
    · rw [if_pos c] at h; cases h
      rw [h2 q, Int.zero_add]; exact ⟨c, rfl⟩
    · rw [if_neg c] at h; cases h
theorem miO_eq {w : Wd} {ag pa tk' : Int} {t : Int → Int} {n v : Int} (h1 : nmV pa) (h2 : nmV tk') (hv : nuT t n = .inr v) (hpw : posb w.gWa) (hpm : posb w.gMi) (hcon : hld w.gWa pa tk' ≤ hld w.gMi tk' 0) :
    (miC w pa tk' v ≠ 0 → miO w ag pa tk' t n = (miC w pa tk' v, (w.sFc 0).sFp (-1)) ∧ (miC w pa tk' v = -5 ∨ miC w pa tk' v = -8 ∨ miC w pa tk' v = -9)) ∧
    (miC w pa tk' v = 0 → (entO ag w.gJr 5 2 pa tk' 0 t n).1 ≠ 0 → miO w ag pa tk' t n = ((entO ag w.gJr 5 2 pa tk' 0 t n).1, ((w.sFc 0).sFp (-1)).sJr (entO ag w.gJr 5 2 pa tk' 0 t n).2)) ∧
    (miC w pa tk' v = 0 → (entO ag w.gJr 5 2 pa tk' 0 t n).1 = 0 → ∃ β γ, bcre w.gWa 60 pa tk' v = .inr β ∧ bcre w.gMi 60 tk' 0 v = .inr γ ∧ miO w ag pa tk' t n = (0, ((((w.sFc 0).sFp (-1)).sJr (entO ag w.gJr 5 2 pa tk' 0 t n).2).sWa β).sMi γ)) := by
  have hn : ¬ (¬ nmV pa ∨ ¬ nmV tk') := fun z => z.elim (fun q => q h1) (fun q => q h2)
  unfold miO miC
  rw [ifq_neg hn, hv]
  dsimp only
  by_cases c1 : v ≤ 0
  · rw [if_pos c1, if_pos c1]
    exact ⟨fun _ => ⟨rfl, Or.inl rfl⟩, fun z => absurd z (by decide), fun z => absurd z (by decide)⟩
  rw [if_neg c1, if_neg c1]
  by_cases c2 : sm (hld w.gMi tk' 0 + v)
  · rw [ifq_neg (Classical.not_not.mpr c2), ifq_neg (Classical.not_not.mpr c2)]
    by_cases c3 : (¬ hs2 w.gWa pa tk' ∧ 60 ≤ w.gWa.1) ∨ (¬ hs2 w.gMi tk' 0 ∧ 60 ≤ w.gMi.1)
    · rw [if_pos c3, if_pos c3]
      exact ⟨fun _ => ⟨rfl, Or.inr (Or.inr rfl)⟩, fun z => absurd z (by decide), fun z => absurd z (by decide)⟩
    · rw [if_neg c3, if_neg c3]
      refine ⟨fun z => absurd rfl z, fun _ z => by rw [if_pos z], fun _ z => ?_⟩
      rw [if_neg (Decidable.not_not.mpr z)]
      cases hβ : bcre w.gWa 60 pa tk' v with
      | inl x => exact absurd hβ (bcre_no hpw (by omega) hcon c2 (fun z => c3 (Or.inl z)))
      | inr β =>
        cases hγ : bcre w.gMi 60 tk' 0 v with
        | inl x => exact absurd hγ (bcre_no hpm (by omega) (Int.le_refl _) c2 (fun z => c3 (Or.inr z)))
        | inr γ => exact ⟨β, γ, rfl, rfl, rfl⟩
  · rw [ifq_pos c2, ifq_pos c2]
    exact ⟨fun _ => ⟨rfl, Or.inr (Or.inl rfl)⟩, fun z => absurd z (by decide), fun z => absurd z (by decide)⟩
theorem sWaMi (w : Wd) (β γ : Bk) : (w.sWa β).sMi γ = (w.sMi γ).sWa β := by
  have h1 : (w.sWa β).sMi γ = ((w.gTp, w.gTn, w.gOb, w.gOn, w.gFc, w.gFp, w.gRw, w.gM, w.gRt, w.gIn, w.gPm, β, γ, w.gPy, w.gWr, w.gMd, w.gDe, w.gJr) : Wd) := rfl
  have h2 : (w.sMi γ).sWa β = ((w.gTp, w.gTn, w.gOb, w.gOn, w.gFc, w.gFp, w.gRw, w.gM, w.gRt, w.gIn, w.gPm, β, γ, w.gPy, w.gWr, w.gMd, w.gDe, w.gJr) : Wd) := rfl
  rw [h1, h2]
section RMINT5
variable {g : im_g} {d : Nat} {e : im_E} {M : im_M} {K : im_K} {w : Wd}
theorem c_R_mint {pa tk' : Int} (h : RW M w) (hJo : jOk w.gJr) (hde : w.gDe ≤ 16384) (hsb : sbk w.gWa) (hsm : sbk w.gMi) (hpw : posb w.gWa) (hpm : posb w.gMi) (hcon : hld w.gWa pa tk' ≤ hld w.gMi tk' 0) (hpa : im_i64 pa) (htk : im_i64 tk') (hd : 10 ≤ d)
    (hKd : w.gJr.2.2.2.2 ≠ 0 → ∀ M', (∀ x, x < 6952 ∨ 7080 < x → M' x = M x) → RW M' w → M' 6952 0 = 2 → K (.inl (some (vI 0))) e M')
    (hK : w.gJr.2.2.2.2 = 0 → ∀ M' v, (∀ x, x < 6952 ∨ 7080 < x → M' x = M x) → RW M' (miO w.tk 0 pa tk' w.gTp w.gTn).2 → M' 6952 0 = tcA2 (miO w.tk 0 pa tk' w.gTp w.gTn).1 → (tcA2 (miO w.tk 0 pa tk' w.gTp w.gTn).1 = 0 → v = (miO w.tk 0 pa tk' w.gTp w.gTn).1) → K (.inl (some (vI v))) e M') :
    im_T g d 421 0 [some (.ref 6952), some (vL pa), none, some (vL tk'), none, none] [] e M K := by
  obtain ⟨⟨ht, _, _⟩, _, _, _, _, ⟨_, _, _, _, j4⟩, _⟩ := id h
  refine b_mint_0 (by omega) ?_
  rw [j4]
  refine ⟨fun hz => ?_, fun hz => hKd hz _ (fun x hx => im_u_ne _ _ _ (by omega)) (h.cd (cdf M 2).1 (cdf M 2).2) (im_rds _ _ _ _)⟩
  have hK := hK hz
  refine c_takeTapeR ht (fun M1 a1 a2 a3 r1 => ⟨rfl, rfl, ?_⟩)
  have W1 := h.tkn a1 a2 a3
  have f1 : ∀ x, x < 6952 ∨ 7080 < x → M1 x = M x := fun x hx => a1 x (by omega) (by omega)
  have d1 : M1 6952 180 = 0 := by rw [a2 180 (by decide) (by decide), j4]; exact hz
  have bad : (¬ nmV pa ∨ ¬ nmV tk') → ∀ K2 : im_K, (∀ M', K (.inl (some (vI 0))) e M' → K2 (.inl (some (vI 0))) e M') → im_T g (d - 1) 264 0 [some (.ref 6952), some (vI 2), some (vI 0), some (vI 1), some (vI 1)] [] e M1 K2 := fun hN K2 hK2 => by
    unfold miO at hK
    rw [ifq_pos hN] at hK
    refine c_may (by decide) (Or.inl rfl) (Or.inr rfl) (Or.inr rfl) (fun x hx => ?_)
    rw [d1, if_neg (by decide), if_pos rfl] at hx
    rw [if_neg (by omega)]
    exact hK2 _ (hK _ 0 (fun y hy => by rw [im_u_ne _ _ _ (by omega)]; exact f1 y hy) (W1.cd (cdf M1 x).1 (cdf M1 x).2) (by rw [im_rds, hx]; rfl) (fun z => absurd z (show tcA2 (-102) ≠ 0 by decide)))
  refine c_isNameR hpa (by omega) (fun hN => ⟨_, rfl, rfl, by decide, fun z => absurd z (by decide), fun _ => ?_⟩) (fun hN => ⟨_, rfl, rfl, by decide, fun _ => ?_, fun z => absurd rfl z⟩)
  rotate_left
  · exact bad (Or.inl hN) _ (fun M' k => ⟨_, rfl, rfl, by decide, fun z => absurd rfl z, fun _ => k⟩)
  refine c_isNameR htk (by omega) (fun hN2 => ⟨_, rfl, rfl, by decide, fun z => absurd z (by decide), fun _ => ?_⟩) (fun hN2 => ⟨_, rfl, rfl, by decide, fun _ => ?_, fun z => absurd rfl z⟩)
  rotate_left
  · exact bad (Or.inr hN2) _ (fun M' k => ⟨_, rfl, rfl, by decide, fun z => absurd rfl z, fun _ => k⟩)
  clear bad
  refine c_may (by decide) (Or.inr rfl) (Or.inr rfl) (Or.inr rfl) (fun x hx => ⟨_, rfl, rfl, by split <;> decide, fun _ => ?_, fun heq => ?_⟩)
  rotate_left
  · rw [d1, if_neg (by decide), if_neg (by decide), if_neg (by decide), if_neg (by decide)] at hx
    rw [if_pos hx] at heq; exact absurd heq (by decide)
  rw [d1, if_neg (by decide), if_neg (by decide), if_neg (by decide), if_neg (by decide)] at hx
  have W2 : RW (im_u M1 6952 0 x) w.tk := W1.cd (cdf M1 x).1 (cdf M1 x).2
  have r2 : rtx (im_u M1 6952 0 x) w.gTp w.gTn := r1.tx (im_rdk _ _ _ (by decide)) (im_u_ne _ _ _ (by decide))
  have hc0 : im_u M1 6952 0 x 6952 0 = 0 := by rw [im_rds]; exact hx
  have f2 : ∀ x', x' < 6952 ∨ 7080 < x' → im_u M1 6952 0 x x' = M x' := fun x' hx' => by rw [im_u_ne _ _ _ (by omega)]; exact f1 x' hx'
  generalize im_u M1 6952 0 x = M2 at W2 r2 hc0 f2
  have rs : ∀ M3, RSF M2 M3 → ∀ x', x' < 6952 ∨ 7080 < x' → M3 x' = M x' := fun M3 F x' hx' => (F.1 x' (by omega) (by omega) (by omega) (by omega) (by omega)).trans (f2 x' hx')
  refine c_tryMint (w := w.tk) (t := w.gTp) (n := w.gTn) W2 r2 hde hpw hpm hcon hpa htk (by omega) (fun hno => (hno.elim (fun q => q hN) (fun q => q hN2)).elim) (fun _ _ f hf M3 F3 e3 _ hfa hs3 => ⟨_, rfl, rfl, by decide, fun _ => ⟨fun _ => ⟨fun z => absurd z (by decide), fun _ => ?_⟩, fun z => absurd z (by decide)⟩, fun z => absurd z (by decide)⟩) (fun _ _ v hv M3 r F3 e3 e59 hfa hs3 hr hnum => ⟨_, rfl, rfl, ?_⟩)
  · unfold miO at hK
    rw [ifq_neg (fun z => z.elim (fun q => q hN) (fun q => q hN2)), hf] at hK
    exact hK M3 (-1) (rs M3 F3) (W2.scr F3 hfa hs3) (by rw [e3.2, hc0]; rfl) (fun _ => rfl)
  have W3 := W2.scr F3 hfa hs3
  obtain ⟨E1, E2, E3⟩ := miO_eq (w := w.tk) (ag := 0) hN hN2 hv hpw hpm hcon
  by_cases h0 : r = 0
  · rw [h0] at hr hnum ⊢
    refine ⟨by decide, fun z => absurd rfl z, fun _ => ?_⟩
    have E2 := E2 hr.symm
    have E3 := E3 hr.symm
    obtain ⟨_, _, _, _, _, j3, _⟩ := id W3
    have r3 : rtx M3 w.gTp w.gTn := r2.tx e3.1 e59
    have he : entO 0 w.tk.gJr 5 2 pa tk' 0 w.gTp w.gTn = jwO w.gJr 5 2 pa tk' 0 w.gTp w.gTn := if_pos rfl
    have ei := entO_i (ag := 0) (J := w.tk.gJr) (kd := 5) (many := 2) (a := pa) (b := tk') (c := 0) (t := w.gTp) (n := w.gTn)
    rw [he] at E2 E3 ei
    refine c_rwr (J := w.gJr) (t := w.gTp) (n := w.gTn) (kd := 5) (many := 2) j3 hJo hz (by decide) (by decide) (Or.inr ⟨rfl, r3.1.symm⟩) ⟨r3.2.1, r3.2.2.1⟩ r3.2.2.2 hpa htk (by decide) (by omega) (fun M4 g1 g2 j5 => ⟨_, rfl, rfl, ?_, ?_⟩)
    · split
      · decide
      · constructor <;> omega
    · have W4 := W3.jr (fun x a b => g1 x a b) g2 j5
      have f4 : ∀ x', x' < 6952 ∨ 7080 < x' → M4 x' = M x' := fun x' hx' => (g1 x' (by omega) (by omega)).trans (rs M3 F3 x' hx')
      have hc4 : M4 6952 0 = 0 := by rw [g2 0 (by decide), e3.2]; exact hc0
      by_cases hne : (jwO w.gJr 5 2 pa tk' 0 w.gTp w.gTn).1 = 0
      · obtain ⟨β, γ, hβ, hγ, hE⟩ := E3 hne
        rw [hE] at hK
        dsimp only at hK
        rw [if_neg (by omega), hne]
        refine ⟨fun _ => ⟨fun _ => ?_, fun z => absurd z (by decide)⟩, fun z => absurd z (by decide)⟩
        obtain ⟨h116, hps, T, hT, ha, hb⟩ := hnum rfl
        obtain ⟨W', hW'⟩ : ∃ x, x = ((w.tk.sFc 0).sFp (-1)).sJr (jwO w.gJr 5 2 pa tk' 0 w.gTp w.gTn).2 := ⟨_, rfl⟩
        have eW : W'.gWa = w.gWa := by rw [hW']; rfl
        have eM : W'.gMi = w.gMi := by rw [hW']; rfl
        have hK' : ∀ M' v, (∀ x, x < 6952 ∨ 7080 < x → M' x = M x) → RW M' ((W'.sMi γ).sWa β) → M' 6952 0 = tcA2 0 → (tcA2 0 = 0 → v = 0) → K (.inl (some (vI v))) e M' := by rw [hW', ← sWaMi]; exact hK
        rw [← hW'] at W4
        have hβ : bcre w.gWa 60 pa tk' v = .inr β := hβ
        have hγ : bcre w.gMi 60 tk' 0 v = .inr γ := hγ
        obtain ⟨b1, b0⟩ := bcre_r hpw hβ
        obtain ⟨c1, c0⟩ := bcre_r hpm hγ
        have k55 : ∀ j, j < T → M4 6955 j = M3 6955 j := fun j _ => by rw [g1 6955 (by decide) (by decide)]
        refine c_doMint (w := W') (ra := M4 6952 149) (rb := M4 6952 150) (T := T) (xa := hld w.gMi tk' 0 + v) (xb := hld w.gWa pa tk' + v) (β := β) (γ := γ) W4 (by rw [eW]; exact hsb) (by rw [eM]; exact hsm) hpa htk (by rw [g2 116 (by decide), eW]; exact h116) (fun q hq => ?_) rfl ?_ rfl ?_ hT (by rw [eW]; exact b1) (by rw [eW]; exact b0) (by rw [eM]; exact c1) (by rw [eM]; exact c0) (by omega) (fun M5 f5 e5 W5 => ⟨_, rfl, rfl, hK' M5 _ (fun x hx => (f5 x hx).trans (f4 x hx)) W5 (by rw [e5, hc4]; rfl) (fun _ => rfl)⟩)
        · rw [eW] at hq
          rw [g1 7031 (by decide) (by decide), g1 7032 (by decide) (by decide), g1 7042 (by decide) (by decide), g1 7043 (by decide) (by decide)]
          exact hps q hq
        · rw [g2 149 (by decide)]; exact rnp_congr ha k55 (Int.le_refl _)
        · rw [g2 150 (by decide)]; exact rnp_congr hb k55 (Int.le_refl _)
      · rw [E2 hne] at hK
        dsimp only at hK
        by_cases h103 : (jwO w.gJr 5 2 pa tk' 0 w.gTp w.gTn).1 = -103
        · rw [if_pos h103]
          refine ⟨fun z => absurd rfl z, fun _ => hK _ 0 (fun x hx => by rw [im_u_ne _ _ _ (by omega)]; exact f4 x hx) (W4.cd (cdf M4 2).1 (cdf M4 2).2) (by rw [im_rds, h103]; rfl) (fun z => ?_)⟩
          rw [h103] at z; exact absurd z (by decide)
        · rw [if_neg h103]
          have h10 : (jwO w.gJr 5 2 pa tk' 0 w.gTp w.gTn).1 = -10 := by omega
          refine ⟨fun _ => ⟨fun z => by omega, fun _ => hK M4 _ f4 W4 (by rw [hc4, h10]; rfl) (fun _ => rfl)⟩, fun z => by omega⟩
  · obtain ⟨E1a, E1b⟩ := E1 (by rw [← hr]; exact h0)
    rw [E1a] at hK
    rw [← hr] at hK E1b
    dsimp only at hK
    have htc : tcA2 r = 0 := by unfold tcA2; rw [if_neg (by omega), if_neg (by omega)]
    refine ⟨by constructor <;> omega, fun _ => ⟨fun _ => ⟨fun z => by omega, fun _ => hK M3 r (rs M3 F3) W3 (by rw [e3.2, hc0, htc]) (fun _ => rfl)⟩, fun z => by omega⟩, fun z => absurd z h0⟩
end RMINT5
