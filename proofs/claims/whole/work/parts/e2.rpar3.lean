/-! THE REFERENCE takes a parameter, as it is called -/
theorem NX.rsf {M M' : im_M} (h : NX M M') : RSF M M' := ⟨fun x a b c d f => h.1 x a (by omega), fun x i a b c => by rw [h.1 x (by omega) (by omega)], fun x i a b => by rw [h.1 x (by omega) (by omega)], h.2.2.1, fun k hk => h.2.1 k (by omega) (by omega)⟩
def tcA2 (r : Int) : Int := if r = -103 then 2 else if r = -102 then 1 else 0
section RPARAM3
variable {g : im_g} {d : Nat} {e : im_E} {M : im_M} {K : im_K} {w : Wd} {t : Int → Int} {n : Int}
theorem c_tryParameter {nm : Int} (h : RW M w) (hrt : rtx M t n) (hde : w.gDe ≤ 16384) (hnm : im_i64 nm) (hd : 8 ≤ d)
    (hKn : ¬ nmV nm → K (.inl (some (vI (-101)))) e M)
    (hKf : nmV nm → ∀ f, nuT t n = .inl f → ∀ M', RSF M M' → (M' 6952 13 = M 6952 13 ∧ M' 6952 0 = M 6952 0) → M' 6959 = M 6959 → rFau M' f.1 f.2 → rScr M' → K (.inl (some (vI (-1)))) e M')
    (hKs : nmV nm → ∀ v, nuT t n = .inr v → ∀ M', RSF M M' → (M' 6952 13 = M 6952 13 ∧ M' 6952 0 = M 6952 0) → M' 6959 = M 6959 → rFau M' 0 (-1) → rScr M' → (∃ T, T ≤ 1100000 ∧ rnp M' 0 T (M' 6952 65) v) → K (.inl (some (vI (if ¬ hs2 w.gPm nm 0 ∧ 20 ≤ w.gPm.1 then -9 else 0)))) e M') :
    im_T g d 334 0 [some (.ref 6952), some (vL nm), none] [] e M K := by
  obtain ⟨_, ⟨⟨p1, p2, ⟨p3, p3'⟩, p4, p4'⟩, _, _⟩, ⟨⟨b1, b2, b3, b4⟩, _, _⟩, _, _, _, ⟨s8, s116, s99, s100⟩⟩ := id h
  have hn0 : 0 ≤ n := hrt.2.1
  have hk1 := tk_ok (t := t) hn0
  refine b_tryParameter_0 (by omega) (c_isNameR hnm (by omega) (fun hN => ⟨_, rfl, rfl, by decide, fun _ => ?_, fun z => absurd z (by decide)⟩) (fun hN => ⟨_, rfl, rfl, by decide, fun z => absurd rfl z, fun _ => hKn hN⟩))
  have hscr : ∀ (M' : im_M) (x : Int), NX M M' → rScr (im_u M' 6952 65 x) ∧ (im_u M' 6952 65 x 6952 13 = M 6952 13 ∧ im_u M' 6952 65 x 6952 0 = M 6952 0) ∧ im_u M' 6952 65 x 6959 = M 6959 ∧ RSF M (im_u M' 6952 65 x) := fun M' x X => by
    have f : ∀ k, k ≠ 7 → (k < 14 ∨ 20 < k) → k ≠ 65 → im_u M' 6952 65 x 6952 k = M 6952 k := fun k a b c => (im_rdk _ _ _ c).trans (X.2.1 k a b)
    have N2 : RSF M' (im_u M' 6952 65 x) := ⟨fun y a _ _ _ _ => im_u_ne _ _ _ a, fun y i a b _ => im_rdn _ _ _ _ (by omega), fun y i a _ => im_rdn _ _ _ _ (by omega), fun i _ => im_rdn _ _ _ _ (by decide), fun k hk => im_rdk _ _ _ (by omega)⟩
    exact ⟨⟨by rw [f 8 (by decide) (by decide) (by decide)]; exact s8, by rw [f 116 (by decide) (by decide) (by decide)]; exact s116, by rw [f 99 (by decide) (by decide) (by decide)]; exact s99, by rw [f 100 (by decide) (by decide) (by decide)]; exact s100⟩, ⟨f 13 (by decide) (by decide) (by decide), f 0 (by decide) (by decide) (by decide)⟩, (im_u_ne _ _ _ (by decide)).trans (X.1 6959 (by decide) (by decide)), X.rsf.trans N2⟩
  unfold nuT at hKf hKs
  generalize (tk t n 0).1 = p at hk1 hKf hKs
  generalize hq : (tk t n 0).2.1 = q at hk1 hKf hKs
  generalize (tk t n 0).2.2.1 = ty at hk1 hKf hKs
  generalize (tk t n 0).2.2.2.1 = nm1 at hk1
  generalize (tk t n 0).2.2.2.2 = v at hk1 hKf hKs
  refine c_rreadNumber (t := t) (nt := n) (p := p) (q := q) (ty := ty) (nm := nm1) (v := v) (p2 := (tk t n q).1) (q2 := (tk t n q).2.1) (ty2 := (tk t n q).2.2.1) (nm2 := (tk t n q).2.2.2.1) (v2 := (tk t n q).2.2.2.2) hrt s8 p3 (by omega) hk1 (fun z => tk_ok (tkn_q hk1 (by omega)).2.2.1) (by omega) (fun c pp hc M1 r X1 h19 h20 => ?_) (fun h34 h41 M1 X1 h19 h20 h7 hrn => ?_)
  · obtain ⟨q1, q2, q3, q4⟩ := hscr M1 (r.bmod 4294967296) X1
    have hcp : 0 < c := by
      rcases hc with ⟨_, z, _⟩ | ⟨_, _, z, _⟩
      · rw [z]; exact (ftk_pos ty).1
      · rw [z]; unfold fte; (repeat' split) <;> decide
    refine ⟨r.bmod 4294967296, by rw [vI_bm], rfl, bm_i32 _, fun z => by omega, fun _ => ?_⟩
    refine hKf hN (c, pp) ?_ _ q4 q2 q3 ⟨by rw [im_rdk _ _ _ (by decide)]; exact h19, by rw [im_rdk _ _ _ (by decide)]; exact h20⟩ q1
    rcases hc with ⟨z1, z2, z3⟩ | ⟨z1, z2, z3, z4⟩
    · rw [if_pos z1, z2, z3]
    · rw [if_neg (Decidable.not_not.mpr z1), if_pos z2, z3, z4]
  · obtain ⟨q1, q2, q3, q4⟩ := hscr M1 (M 6952 6) X1
    refine ⟨_, rfl, rfl, by constructor <;> omega, fun _ => ?_, fun z => by omega⟩
    have hps := ps_ok w.gPm nm 0
    rw [b3] at hps
    have hk62 : im_u M1 6952 65 (M 6952 6) 6952 62 = w.gPm.1 := by rw [im_rdk _ _ _ (by decide), X1.2.1 62 (by decide) (by decide)]; exact b1
    have fin := hKs hN v (by rw [if_neg (Decidable.not_not.mpr h34), if_neg (Decidable.not_not.mpr h41)]) _ q4 q2 q3 ⟨by rw [im_rdk _ _ _ (by decide)]; exact h19, by rw [im_rdk _ _ _ (by decide)]; exact h20⟩ q1 ⟨M1 6952 7, by omega, by rw [im_rds]; exact rnp_congr hrn (fun j _ => by rw [im_rdn _ _ _ _ (by decide)]) (Int.le_refl _)⟩
    refine c_hasParameter (k := w.gPm.1) (A := w.gPm.2.1) hk62 b2 (fun i hi => by rw [im_rdn _ _ _ _ (by decide), X1.1 6992 (by decide) (by decide)]; exact (b4 i hi).1) hnm hps (by omega) (fun hh => ⟨_, rfl, rfl, by decide, fun z => absurd z (by decide), fun _ => ?_⟩) (fun hh => ⟨_, rfl, rfl, by decide, ?_⟩)
    · rw [if_neg (fun z => z.1 ⟨hh.1, hh.2.1, by rw [b3]; rfl⟩)] at fin
      exact fin
    · have hs : ¬ hs2 w.gPm nm 0 := fun z => hh ⟨z.1, z.2.1, rfl⟩
      rw [hk62]
      refine ⟨fun _ z20 => ?_, fun hor => ?_⟩
      · rw [if_pos ⟨hs, by omega⟩] at fin
        exact fin
      · rw [if_neg (fun z => by omega)] at fin
        exact fin
theorem c_R_parameter {nm : Int} (h : RW M w) (hJo : jOk w.gJr) (hde : w.gDe ≤ 16384) (hnm : im_i64 nm) (hd : 10 ≤ d)
    (hKd : w.gJr.2.2.2.2 ≠ 0 → ∀ M', (∀ x, x < 6952 ∨ 7080 < x → M' x = M x) → RW M' w → M' 6952 0 = 2 → K (.inl (some (vI 0))) e M')
    (hK : w.gJr.2.2.2.2 = 0 → ∀ M' v, (∀ x, x < 6952 ∨ 7080 < x → M' x = M x) → RW M' (paO w.tk 0 nm w.gTp w.gTn).2 → M' 6952 0 = tcA2 (paO w.tk 0 nm w.gTp w.gTn).1 → (tcA2 (paO w.tk 0 nm w.gTp w.gTn).1 = 0 → v = (paO w.tk 0 nm w.gTp w.gTn).1) → K (.inl (some (vI v))) e M') :
    im_T g d 332 0 [some (.ref 6952), some (vL nm), none, none] [] e M K := by
  obtain ⟨⟨ht, _, _⟩, _, ⟨⟨_, pm20, _⟩, _⟩, _, _, ⟨_, _, _, _, j4⟩, _⟩ := id h
  refine b_parameter_0 (by omega) ?_
  rw [j4]
  refine ⟨fun hz => ?_, fun hz => hKd hz _ (fun x hx => im_u_ne _ _ _ (by omega)) (h.cd (cdf M 2).1 (cdf M 2).2) (im_rds _ _ _ _)⟩
  have hK := hK hz
  refine c_takeTapeR ht (fun M1 a1 a2 a3 r1 => ⟨rfl, rfl, ?_⟩)
  have W1 := h.tkn a1 a2 a3
  have f1 : ∀ x, x < 6952 ∨ 7080 < x → M1 x = M x := fun x hx => a1 x (by omega) (by omega)
  have d1 : M1 6952 180 = 0 := by rw [a2 180 (by decide) (by decide), j4]; exact hz
  unfold paO at hK
  refine c_isNameR hnm (by omega) (fun hN => ⟨_, rfl, rfl, ?_⟩) (fun hN => ⟨_, rfl, rfl, ?_⟩)
  · rw [ifq_neg (Classical.not_not.mpr hN)] at hK
    refine c_may (by decide) (Or.inr rfl) (Or.inr rfl) (Or.inr rfl) (fun x hx => ⟨_, rfl, rfl, by split <;> decide, fun _ => ?_, fun heq => ?_⟩)
    · rw [d1, if_neg (by decide), if_neg (by decide), if_neg (by decide), if_neg (by decide)] at hx
      have W2 : RW (im_u M1 6952 0 x) w.tk := W1.cd (cdf M1 x).1 (cdf M1 x).2
      have r2 : rtx (im_u M1 6952 0 x) w.gTp w.gTn := r1.tx (im_rdk _ _ _ (by decide)) (im_u_ne _ _ _ (by decide))
      have hc0 : im_u M1 6952 0 x 6952 0 = 0 := by rw [im_rds]; exact hx
      have f2 : ∀ x', x' < 6952 ∨ 7080 < x' → im_u M1 6952 0 x x' = M x' := fun x' hx' => by rw [im_u_ne _ _ _ (by omega)]; exact f1 x' hx'
      generalize im_u M1 6952 0 x = M2 at W2 r2 hc0 f2
      have rs : ∀ M3, RSF M2 M3 → ∀ x', x' < 6952 ∨ 7080 < x' → M3 x' = M x' := fun M3 F x' hx' => (F.1 x' (by omega) (by omega) (by omega) (by omega) (by omega)).trans (f2 x' hx')
      refine c_tryParameter (w := w.tk) (t := w.gTp) (n := w.gTn) W2 r2 hde hnm (by omega) (fun hno => absurd hN hno) (fun _ f hf M3 F3 e3 _ hfa hs3 => ⟨_, rfl, rfl, by decide, fun _ => ⟨fun _ => ⟨fun z => absurd z (by decide), fun _ => ?_⟩, fun z => absurd z (by decide)⟩, fun z => absurd z (by decide)⟩) (fun _ v hv M3 F3 e3 e59 hfa hs3 hnum => ⟨_, rfl, rfl, ?_, ?_⟩)
      · rw [hf] at hK
        exact hK M3 (-1) (rs M3 F3) (W2.scr F3 hfa hs3) (by rw [e3.2, hc0]; rfl) (fun _ => rfl)
      · split <;> decide
      · rw [hv] at hK
        dsimp only at hK
        have W3 := W2.scr F3 hfa hs3
        by_cases h4 : ¬ hs2 w.tk.gPm nm 0 ∧ 20 ≤ w.tk.gPm.1
        · rw [if_pos h4] at hK ⊢
          exact ⟨fun _ => ⟨fun _ => ⟨fun z => absurd z (by decide), fun _ => hK M3 (-9) (rs M3 F3) W3 (by rw [e3.2, hc0]; rfl) (fun _ => rfl)⟩, fun z => absurd z (by decide)⟩, fun z => absurd z (by decide)⟩
        · rw [if_neg h4] at hK ⊢
          refine ⟨fun z => absurd rfl z, fun _ => ?_⟩
          obtain ⟨_, _, _, _, _, j3, _⟩ := id W3
          have r3 : rtx M3 w.gTp w.gTn := r2.tx e3.1 e59
          have he : entO 0 w.tk.gJr 7 1 nm 0 0 w.gTp w.gTn = jwO w.gJr 7 1 nm 0 0 w.gTp w.gTn := if_pos rfl
          have ei := entO_i (ag := 0) (J := w.tk.gJr) (kd := 7) (many := 1) (a := nm) (b := 0) (c := 0) (t := w.gTp) (n := w.gTn)
          rw [he] at hK ei
          refine c_rwr (J := w.gJr) (t := w.gTp) (n := w.gTn) (kd := 7) (many := 1) j3 hJo hz (by decide) (by decide) (Or.inr ⟨rfl, r3.1.symm⟩) ⟨r3.2.1, r3.2.2.1⟩ r3.2.2.2 hnm (by decide) (by decide) (by omega) (fun M4 g1 g2 j5 => ⟨_, rfl, rfl, ?_, ?_⟩)
          · split
            · decide
            · constructor <;> omega
          · have W4 := W3.jr (fun x a b => g1 x a b) g2 j5
            have f4 : ∀ x', x' < 6952 ∨ 7080 < x' → M4 x' = M x' := fun x' hx' => (g1 x' (by omega) (by omega)).trans (rs M3 F3 x' hx')
            have hc4 : M4 6952 0 = 0 := by rw [g2 0 (by decide), e3.2]; exact hc0
            by_cases hne : (jwO w.gJr 7 1 nm 0 0 w.gTp w.gTn).1 = 0
            · rw [if_neg (Decidable.not_not.mpr hne)] at hK
              rw [if_neg (by omega), hne]
              refine ⟨fun _ => ⟨fun _ => ?_, fun z => absurd z (by decide)⟩, fun z => absurd z (by decide)⟩
              obtain ⟨T, hT, hrn⟩ := hnum
              cases hb : bput w.tk.gPm 20 nm 0 v with
              | none =>
                exfalso
                unfold bput at hb
                by_cases c1 : hs2 w.tk.gPm nm 0
                · rw [if_pos c1] at hb; cases hb
                · rw [if_neg c1] at hb
                  by_cases c2 : w.tk.gPm.1 < 20
                  · rw [if_pos c2] at hb; cases hb
                  · exact h4 ⟨c1, by omega⟩
              | some β =>
                rw [hb] at hK
                dsimp only at hK
                obtain ⟨W', hW'⟩ : ∃ x, x = ((w.tk.sFc 0).sFp (-1)).sJr (jwO w.gJr 7 1 nm 0 0 w.gTp w.gTn).2 := ⟨_, rfl⟩
                have eP : W'.gPm = w.tk.gPm := by rw [hW']; rfl
                rw [← hW'] at W4 hK
                refine c_doParameter (w := W') (r := M4 6952 65) (T := T) (v := v) (β := β) W4 hnm rfl ?_ hT (by rw [eP]; exact hb) (by omega) (fun M5 f5 e5 W5 => ⟨_, rfl, rfl, ?_⟩)
                · rw [g2 65 (by decide)]
                  exact rnp_congr hrn (fun j _ => by rw [g1 6955 (by decide) (by decide)]) (Int.le_refl _)
                · have htc : tcA2 (β.1 : Int) = 0 := by unfold tcA2; rw [if_neg (by omega), if_neg (by omega)]
                  exact hK M5 _ (fun x hx => (f5 x hx).trans (f4 x hx)) W5 (by rw [e5, hc4]; exact htc.symm) (fun _ => rfl)
            · rw [if_pos hne] at hK
              by_cases h103 : (jwO w.gJr 7 1 nm 0 0 w.gTp w.gTn).1 = -103
              · rw [if_pos h103]
                refine ⟨fun z => absurd rfl z, fun _ => hK _ 0 (fun x hx => by rw [im_u_ne _ _ _ (by omega)]; exact f4 x hx) (W4.cd (cdf M4 2).1 (cdf M4 2).2) (by rw [im_rds, h103]; rfl) (fun z => ?_)⟩
                rw [h103] at z; exact absurd z (by decide)
              · rw [if_neg h103]
                have h10 : (jwO w.gJr 7 1 nm 0 0 w.gTp w.gTn).1 = -10 := by omega
                refine ⟨fun _ => ⟨fun z => by omega, fun _ => hK M4 _ f4 W4 (by rw [hc4, h10]; rfl) (fun _ => rfl)⟩, fun z => by omega⟩
    · rw [d1, if_neg (by decide), if_neg (by decide), if_neg (by decide), if_neg (by decide)] at hx
      rw [if_pos hx] at heq; exact absurd heq (by decide)
  · rw [ifq_pos hN] at hK
    refine c_may (by decide) (Or.inl rfl) (Or.inr rfl) (Or.inr rfl) (fun x hx => ⟨_, rfl, rfl, by split <;> decide, fun hne => ?_, fun _ => ?_⟩)
    · exfalso
      rw [d1, if_neg (by decide), if_pos rfl] at hx
      rw [if_neg (by omega)] at hne; exact hne rfl
    · rw [d1, if_neg (by decide), if_pos rfl] at hx
      exact hK _ 0 (fun y hy => by rw [im_u_ne _ _ _ (by omega)]; exact f1 y hy) (W1.cd (cdf M1 x).1 (cdf M1 x).2) (by rw [im_rds, hx]; rfl) (fun z => absurd z (show tcA2 (-102) ≠ 0 by decide))
end RPARAM3
