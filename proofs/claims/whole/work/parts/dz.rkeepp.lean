/-! THE REFERENCE keeps a contract, as it is called -/
section RKEEPP
variable {g : im_g} {d : Nat} {e : im_E} {M : im_M} {K : im_K} {w : Wd} {w0 : Int}
theorem c_R_keep {k : Int} (h : RW M w) (hJo : jOk w.gJr) (hW : WFP w.gRw w.gM) (hm4 : w.gM ≤ 4000) (hde : w.gDe ≤ 16384) (hrt : ∀ i, 0 ≤ i → i < 16 → w.gRt i = -1 ∨ (0 ≤ w.gRt i ∧ w.gRt i < w.gM)) (hee : ∀ i, 0 ≤ i → i < w.gM → ∃ x, ends (w.gRw 1) w.gM i x) (hroot : ∀ S, prsT w.gTp w.gTn w.gM w0 = .inr S → ends (S.2.1 1) S.2.2.1 w.gM S.2.2.1 ∧ S.2.1 1 w.gM = 0) (hk : im_i32 k) (hd : 12 ≤ d)
    (hKd : w.gJr.2.2.2.2 ≠ 0 → ∀ M', (∀ x, x < 6952 ∨ 7080 < x → M' x = M x) → RW M' w → M' 6952 0 = 2 → K (.inl (some (vI 0))) e M')
    (hK : w.gJr.2.2.2.2 = 0 → ∀ M' v, (∀ x, x < 6952 ∨ 7080 < x → M' x = M x) → RW M' (keO w.tk 0 k w.gTp w.gTn w0).2 → M' 6952 0 = tc12 (keO w.tk 0 k w.gTp w.gTn w0).1 → (tc12 (keO w.tk 0 k w.gTp w.gTn w0).1 = 0 → v = (keO w.tk 0 k w.gTp w.gTn w0).1) → K (.inl (some (vI v))) e M') :
    im_T g d 270 0 [some (.ref 6952), some (vI k), none] [] e M K := by
  obtain ⟨⟨ht, _, _⟩, ⟨_, hr, _⟩, _, _, _, ⟨_, _, _, _, j4⟩, _⟩ := id h
  have hm0 := hW.1
  refine b_keep_0 (by omega) ?_
  rw [j4]
  refine ⟨fun hz => ?_, fun hz => hKd hz _ (fun x hx => im_u_ne _ _ _ (by omega)) (h.cd (cdf M 2).1 (cdf M 2).2) (im_rds _ _ _ _)⟩
  have hK := hK hz
  refine c_takeTapeR ht (fun M1 a1 a2 a3 r1 => ⟨rfl, rfl, hk, ?_⟩)
  have W1 := h.tkn a1 a2 a3
  have f1 : ∀ x, x < 6952 ∨ 7080 < x → M1 x = M x := fun x hx => a1 x (by omega) (by omega)
  have d1 : M1 6952 180 = 0 := by rw [a2 180 (by decide) (by decide), j4]; exact hz
  obtain ⟨_, ⟨_, hr1, _⟩, _⟩ := id W1
  have hr1 : ∀ k, 0 ≤ k → k < 16 → (w.gRt k = -1 → M1 6984 k = 0) ∧ (w.gRt k ≠ -1 → M1 6984 k = 1 ∧ _) := hr1
  unfold keO at hK
  have nomay : ∀ x6 : Int, (x6 = 0 ∨ x6 = 1) → (∀ M', (∀ x, x < 6952 ∨ 7080 < x → M' x = M x) → RW M' w.tk → M' 6952 0 = (if x6 = 0 then 1 else 2) → K (.inl (some (vI 0))) e M') → ∀ Z : im_M → Prop, im_T g (d - 1) 264 0 [some (.ref 6952), some (vI 2), some (vI x6), some (vI 0), some (vI 1)] [] e M1 (im_ri (fun x15 e_ M14 => e = e_ ∧ (im_i32 x15) ∧ ((¬ x15 = 0 → Z M14) ∧ (x15 = 0 → K (.inl (some (vI 0))) e M14)))) := by
    intro x6 h6 hz' Z
    refine c_may (by decide) h6 (Or.inl rfl) (Or.inr rfl) (fun x hx => ⟨_, rfl, rfl, by split <;> decide, fun hne => ?_, fun _ => ?_⟩)
    · exfalso
      rw [d1, if_neg (by decide)] at hx
      have : x ≠ 0 := by
        by_cases c2 : x6 = 0
        · rw [if_pos c2] at hx; omega
        · rw [if_neg c2, if_pos rfl] at hx; omega
      rw [if_neg this] at hne; exact hne rfl
    · rw [d1, if_neg (by decide)] at hx
      refine hz' _ (fun y hy => by rw [im_u_ne _ _ _ (by omega)]; exact f1 y hy) (W1.cd (cdf M1 x).1 (cdf M1 x).2) ?_
      rw [im_rds, hx]
      by_cases c2 : x6 = 0
      · rw [if_pos c2, if_pos c2]
      · rw [if_neg c2, if_neg c2, if_pos rfl]
  refine c_isIn (by constructor <;> omega) (by decide) (by decide) (fun hI => ⟨_, rfl, rfl, ?_⟩) (fun hI => ⟨_, rfl, rfl, ?_⟩)
  · refine c_isIn (by constructor <;> omega) (by decide) (by decide) (fun _ => ⟨_, rfl, rfl, by decide, fun _ => ⟨⟨hI.1, by omega⟩, fun h0 => ?_⟩, fun hor => ?_⟩) (fun hI' => absurd hI hI')
    · have hk16 : 0 ≤ k ∧ k < 16 := ⟨hI.1, by omega⟩
      have hrk : w.gRt k = -1 := by
        by_cases z : w.gRt k = -1
        · exact z
        · have := ((hr1 k hk16.1 hk16.2).2 z).1; omega
      rw [if_neg (Decidable.not_not.mpr hk16), if_neg (Decidable.not_not.mpr (show w.tk.gRt k = -1 from hrk))] at hK
      refine c_may (by decide) (Or.inr rfl) (Or.inr rfl) (Or.inr rfl) (fun x hx => ⟨_, rfl, rfl, by split <;> decide, fun _ => ?_, fun heq => ?_⟩)
      · rw [d1, if_neg (by decide), if_neg (by decide), if_neg (by decide), if_neg (by decide)] at hx
        have W2 : RW (im_u M1 6952 0 x) w.tk := W1.cd (cdf M1 x).1 (cdf M1 x).2
        have r2 : rtx (im_u M1 6952 0 x) w.gTp w.gTn := r1.tx (im_rdk _ _ _ (by decide)) (im_u_ne _ _ _ (by decide))
        have hc0 : im_u M1 6952 0 x 6952 0 = 0 := by rw [im_rds]; exact hx
        have f2 : ∀ x', x' < 6952 ∨ 7080 < x' → im_u M1 6952 0 x x' = M x' := fun x' hx' => by rw [im_u_ne _ _ _ (by omega)]; exact f1 x' hx'
        generalize im_u M1 6952 0 x = M2 at W2 r2 hc0 f2
        have rs : ∀ M3, RSF M2 M3 → ∀ x', x' < 6952 ∨ 7080 < x' → M3 x' = M x' := fun M3 F x' hx' => (F.1 x' (by omega) (by omega) (by omega) (by omega) (by omega)).trans (f2 x' hx')
        refine c_tryKeep (w := w.tk) (t := w.gTp) (n := w.gTn) (w0 := w0) W2 r2 hm0 hm4 hde hk (by omega) (fun hno => absurd ⟨hk16.1, hk16.2, hrk⟩ hno) (fun _ _ f hf M3 F3 e3 _ hfa hs3 => ⟨_, rfl, rfl, by decide, fun _ => ⟨fun _ => ⟨fun z => absurd z (by decide), fun _ => ?_⟩, fun z => absurd z (by decide)⟩, fun z => absurd z (by decide)⟩) (fun _ _ S hS M3 F3 e3 e59 hfa hs3 hD => ⟨_, rfl, rfl, ?_, ?_⟩)
        · have hf : prsT w.gTp w.gTn w.tk.gM w0 = .inl f := hf
          rw [hf] at hK
          exact hK M3 (-1) (rs M3 F3) (W2.scr F3 hfa hs3) (by rw [e3.2, hc0]; rfl) (fun _ => rfl)
        · split <;> decide
        · have hS' : prsT w.gTp w.gTn w.tk.gM w0 = .inr S := hS
          rw [hS'] at hK
          dsimp only at hK
          have W3 := W2.scr F3 hfa hs3
          by_cases h4 : 4000 < S.2.2.1
          · rw [if_pos h4] at hK ⊢
            refine ⟨fun _ => ⟨fun _ => ⟨fun z => absurd z (by decide), fun _ => hK M3 (-9) (rs M3 F3) W3 (by rw [e3.2, hc0]; rfl) (fun _ => rfl)⟩, fun z => absurd z (by decide)⟩, fun z => absurd z (by decide)⟩
          · rw [if_neg h4] at hK ⊢
            refine ⟨fun z => absurd rfl z, fun _ => ?_⟩
            obtain ⟨_, _, _, _, _, j3, _⟩ := id W3
            have r3 : rtx M3 w.gTp w.gTn := r2.tx e3.1 e59
            have he : entO 0 w.tk.gJr 1 1 k 0 0 w.gTp w.gTn = jwO w.gJr 1 1 k 0 0 w.gTp w.gTn := if_pos rfl
            have ei := entO_i (ag := 0) (J := w.tk.gJr) (kd := 1) (many := 1) (a := k) (b := 0) (c := 0) (t := w.gTp) (n := w.gTn)
            rw [he] at hK ei
            refine c_rwr (J := w.gJr) (t := w.gTp) (n := w.gTn) (kd := 1) (many := 1) j3 hJo hz (by decide) (by decide) (Or.inr ⟨rfl, r3.1.symm⟩) ⟨r3.2.1, r3.2.2.1⟩ r3.2.2.2 (by constructor <;> omega) (by decide) (by decide) (by omega) (fun M4 g1 g2 j5 => ⟨_, rfl, rfl, ?_, ?_⟩)
            · split
              · decide
              · constructor <;> omega
            · have W4 := W3.jr (fun x a b => g1 x a b) g2 j5
              have f4 : ∀ x', x' < 6952 ∨ 7080 < x' → M4 x' = M x' := fun x' hx' => (g1 x' (by omega) (by omega)).trans (rs M3 F3 x' hx')
              have hc4 : M4 6952 0 = 0 := by rw [g2 0 (by decide), e3.2]; exact hc0
              by_cases hne : (jwO w.gJr 1 1 k 0 0 w.gTp w.gTn).1 = 0
              · rw [if_neg (Decidable.not_not.mpr hne)] at hK
                rw [if_neg (by omega), hne]
                refine ⟨fun _ => ⟨fun _ => ?_, fun z => absurd z (by decide)⟩, fun z => absurd z (by decide)⟩
                obtain ⟨q1, q2⟩ := hroot S hS
                have k6 := F3.2.2.2.2 6 (by omega)
                have k36 := F3.2.2.2.2 36 (by omega)
                have hD4 : RD M2 M4 w.gM (M4 6952 6) (M4 6952 36) w.gTn S := by
                  obtain ⟨d1, d2, d3, d4, d5, d6, d7, d8⟩ := hD
                  rw [g2 6 (by decide), g2 36 (by decide), k6, k36]
                  refine ⟨d1, d2, d3, by rw [g2 39 (by decide)]; exact d4, by rw [g2 7 (by decide)]; exact d5, by rw [g2 37 (by decide)]; exact d6, by rw [g2 40 (by decide)]; exact d7, fun q q0 q1 => ?_⟩
                  rw [g2 7 (by decide), g2 37 (by decide)]
                  exact rowR_congr (d8 q q0 q1) (fun x a b => by rw [g1 x (by omega) (by omega)]) (fun j _ => by rw [g1 6955 (by decide) (by decide)]) (fun x j a _ => by rw [g1 x (by omega) (by omega)]) (fun _ => rfl) (Int.le_refl _) (Int.le_refl _) (fun _ _ z => z)
                obtain ⟨W', hW'⟩ : ∃ x, x = ((w.tk.sFc 0).sFp (-1)).sJr (jwO w.gJr 1 1 k 0 0 w.gTp w.gTn).2 := ⟨_, rfl⟩
                have eR : W'.gRw = w.tk.gRw := by rw [hW']; rfl
                have eM : W'.gM = w.tk.gM := by rw [hW']; rfl
                have eT : W'.gRt = w.tk.gRt := by rw [hW']; rfl
                have eD : W'.gDe = w.tk.gDe := by rw [hW']; rfl
                rw [← hW'] at W4 hK
                refine c_doKeep (w := W') (n := w.gTn) (M0 := M2) (S := S) W4 hk16 (by rw [eR, eM]; exact hW) (by omega) (by rw [eT, eM]; exact hrt) (by rw [eR, eM]; exact hee) (by rw [eM]; exact hD4) r3.2.1 (by rw [eM]; exact q1) (by rw [eM]; exact q2) (fun M5 f5 e5 W5 => ⟨_, rfl, rfl, ?_⟩)
                have hlt := hD.2.2.1
                rw [eR, eM, eT, eD] at W5
                rw [eM]
                have htc : tc12 (S.2.2.1 - w.tk.gM) = 0 := by
                  have : w.tk.gM = w.gM := rfl
                  rw [this]
                  have hlt : w.gM < S.2.2.1 := hlt
                  unfold tc12; rw [if_neg (by omega), if_neg (by omega)]
                exact hK M5 _ (fun x hx => (f5 x hx).trans (f4 x hx)) W5 (by rw [e5, hc4]; exact htc.symm) (fun _ => rfl)
              · rw [if_pos hne] at hK
                by_cases h103 : (jwO w.gJr 1 1 k 0 0 w.gTp w.gTn).1 = -103
                · rw [if_pos h103]
                  refine ⟨fun z => absurd rfl z, fun _ => hK _ 0 (fun x hx => by rw [im_u_ne _ _ _ (by omega)]; exact f4 x hx) (W4.cd (cdf M4 2).1 (cdf M4 2).2) (by rw [im_rds, h103]; rfl) (fun z => ?_)⟩
                  rw [h103] at z; exact absurd z (by decide)
                · rw [if_neg h103]
                  have h10 : (jwO w.gJr 1 1 k 0 0 w.gTp w.gTn).1 = -10 := by omega
                  refine ⟨fun _ => ⟨fun z => by omega, fun _ => hK M4 _ f4 W4 (by rw [hc4, h10]; rfl) (fun _ => rfl)⟩, fun z => by omega⟩
      · rw [d1, if_neg (by decide), if_neg (by decide), if_neg (by decide), if_neg (by decide)] at hx
        rw [if_pos hx] at heq; exact absurd heq (by decide)
    · have hk16 : 0 ≤ k ∧ k < 16 := ⟨hI.1, by omega⟩
      have hrk : w.tk.gRt k ≠ -1 := fun z => by
        have := (hr1 k hk16.1 hk16.2).1 z
        rcases hor with q | q
        · exact absurd q (by decide)
        · exact q.2 this
      rw [if_neg (Decidable.not_not.mpr hk16), if_pos hrk] at hK
      exact nomay 1 (Or.inr rfl) (fun M' f W' hc => hK M' 0 f W' (by rw [hc]; rfl) (fun z => absurd z (show tc12 (-103) ≠ 0 by decide))) _
  · refine c_isIn (by constructor <;> omega) (by decide) (by decide) (fun hI' => absurd hI' hI) (fun _ => ⟨_, rfl, rfl, by decide, fun z => absurd rfl z, fun _ => ?_⟩)
    rw [if_pos (by omega)] at hK
    exact nomay 0 (Or.inl rfl) (fun M' f W' hc => hK M' 0 f W' (by rw [hc]; rfl) (fun z => absurd z (show tc12 (-101) ≠ 0 by decide))) _
end RKEEPP
