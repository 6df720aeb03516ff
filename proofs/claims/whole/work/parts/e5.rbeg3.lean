/-! THE REFERENCE begins an instance, as it is called -/
def tc123 (r : Int) : Int := if r = -103 then 3 else if r = -102 then 2 else if r = -101 then 1 else 0
section RBEG3
variable {g : im_g} {d : Nat} {e : im_E} {M : im_M} {K : im_K} {w : Wd}
theorem c_tryBegin {i k tm : Int} (h : RW M w) (hW : WFP w.gRw w.gM) (hde : w.gDe ≤ 16384) (hee : 0 ≤ w.gRt k → w.gRt k < w.gM → ∃ x, ends (w.gRw 1) w.gM (w.gRt k) x) (hrt : 0 ≤ k ∧ k < 16 → w.gRt k = -1 ∨ (0 ≤ w.gRt k ∧ w.gRt k < w.gM)) (hi : im_i32 i) (hk : im_i32 k) (htm : im_i64 tm) (hd : 5 ≤ d)
    (hKn : ¬ ((0 ≤ i ∧ i < 16 ∧ 0 ≤ k ∧ k < 16) ∧ (0 ≤ tm ∧ tm ≤ 1000000000000000) ∧ (w.gIn i).1 = 0 ∧ w.gRt k ≠ -1) → K (.inl (some (vI (-101)))) e M)
    (hKs : (0 ≤ i ∧ i < 16 ∧ 0 ≤ k ∧ k < 16) → (0 ≤ tm ∧ tm ≤ 1000000000000000) → (w.gIn i).1 = 0 → w.gRt k ≠ -1 → ∀ M' x, RSF M M' → (M' 6952 0 = M 6952 0 ∧ rFau M' w.gFc w.gFp) → rScr M' → (x = 0 ∨ x = -11) → (x = -11 ↔ lks' w.gRw (w.gRt k) (eN w.gRw w.gM (w.gRt k)) w.gPm) → K (.inl (some (vI x))) e M') :
    im_T g d 343 0 [some (.ref 6952), some (vI i), some (vI k), some (vL tm), none, none] [] e M K := by
  obtain ⟨⟨_, _, fa⟩, ⟨⟨p1, p2, ⟨p3, p3'⟩, _⟩, hr, hin⟩, ⟨hpm, _, _⟩, _, _, _, ⟨s8, s116, s99, s100⟩⟩ := id h
  refine b_tryBegin_0 (by omega) ⟨hi, c_isIn (by constructor <;> omega) (by decide) (by decide) (fun hI => ⟨_, rfl, rfl, by decide, fun z => absurd z (by decide), fun _ => ⟨hk, ?_⟩⟩) (fun hI => ⟨_, rfl, rfl, by decide, fun _ => hKn (by omega), fun z => absurd rfl z⟩)⟩
  refine c_isIn (by constructor <;> omega) (by decide) (by decide) (fun hI2 => ⟨_, rfl, rfl, by decide, fun z => absurd z (by decide), fun _ => ?_⟩) (fun hI2 => ⟨_, rfl, rfl, by decide, fun _ => hKn (by omega), fun z => absurd rfl z⟩)
  refine c_isIn htm (by decide) (by decide) (fun hI3 => ⟨_, rfl, rfl, by decide, fun z => absurd z (by decide), fun _ => ⟨⟨hI.1, by omega⟩, ?_, ?_⟩⟩) (fun hI3 => ⟨_, rfl, rfl, by decide, fun _ => hKn (fun z => hI3 z.2.1), fun z => absurd rfl z⟩)
  · intro h94
    refine ⟨⟨hI2.1, by omega⟩, fun h84 => ?_⟩
    have e94 := (hin i hI.1 (by omega)).1.1
    rw [e94] at h94
    have hrk : w.gRt k ≠ -1 := fun z => h84 ((hr k hI2.1 (by omega)).1 z)
    obtain ⟨q84, q85, q86⟩ := (hr k hI2.1 (by omega)).2 hrk
    have hv := (hrt ⟨hI2.1, by omega⟩).resolve_left hrk
    obtain ⟨ee, hE⟩ := hee hv.1 hv.2
    have heN := eN_eq hE
    have hm5 := hW.2.1
    have k7 : ∀ q, q ≠ 7 → im_u M 6952 7 (M 6952 6) 6952 q = M 6952 q := fun q hq => im_rdk _ _ _ hq
    have x7 : ∀ x, x ≠ 6952 → im_u M 6952 7 (M 6952 6) x = M x := fun x hx => im_u_ne _ _ _ hx
    have v7 : im_u M 6952 7 (M 6952 6) 6952 7 = M 6952 6 := im_rds _ _ _ _
    generalize im_u M 6952 7 (M 6952 6) = M1 at k7 x7 v7
    refine c_areTold (root := w.gRt k) (ee := ee) (pm := w.gPm) hW (RP_congr p1 (k7 6 (by decide)) (k7 36 (by decide)) (fun x a b => x7 x (by omega)) (fun j _ => by rw [x7 6955 (by decide)])) (rPm_congr hpm (k7 62 (by decide)) (x7 _ (by decide)) (x7 _ (by decide))) ⟨hI2.1, by omega⟩ (by rw [x7 6985 (by decide)]; exact q85) (by rw [x7 6986 (by decide), q86, heN]) hv.1 (by have := hE.1; omega) hE.2.1 (by rw [v7, k7 6 (by decide)]; exact Int.le_refl _) (by rw [v7]; exact p3) (by rw [v7]; omega) (by omega) (fun M2 x F2 hx hl => ⟨_, rfl, rfl, by constructor <;> omega, fun y hy => ?_⟩)
    have ef : ∀ q, q ≠ 7 → M2 6952 q = M 6952 q := fun q hq => by rw [F2.2.1]; exact k7 q hq
    refine hKs ⟨hI.1, by omega, hI2.1, by omega⟩ hI3 h94 hrk M2 y ⟨fun x a b c d f => (F2.1 x a (by omega)).trans (x7 x a), fun x q a b _ => by rw [F2.1 x (by omega) (by omega), x7 x (by omega)], fun x q a _ => by rw [F2.1 x (by omega) (by omega), x7 x (by omega)], fun q hq => by rw [F2.2.2 q (by omega), x7 6955 (by decide)], fun q hq => ef q (by omega)⟩ ⟨ef 0 (by decide), (ef 19 (by decide)).trans fa.1, (ef 20 (by decide)).trans fa.2⟩ ⟨by rw [ef 8 (by decide)]; exact s8, by rw [ef 116 (by decide)]; exact s116, by rw [ef 99 (by decide)]; exact s99, by rw [ef 100 (by decide)]; exact s100⟩ (by omega) ?_
    rw [heN]
    constructor
    · intro z; exact hl.mp (by omega)
    · intro z; have := hl.mpr z; omega
  · intro hor
    refine hKn (fun z => ?_)
    obtain ⟨_, _, z1, z2⟩ := z
    have e94 := (hin i hI.1 (by omega)).1.1
    have := ((hr k hI2.1 (by omega)).2 z2).1
    rcases hor with q | q
    · exact q (e94.trans z1)
    · omega
theorem rFau_scr {M' : im_M} (h : RW M w) (hf : RSF M M') (h19 : rFau M' w.gFc w.gFp) (hs : rScr M') : RW M' w := by
  have W := h.scr hf h19 hs
  have : (w.sFc w.gFc).sFp w.gFp = w := rfl
  rw [this] at W
  exact W
theorem c_R_begin {i k tm : Int} (h : RW M w) (hJo : jOk w.gJr) (hW : WFP w.gRw w.gM) (hde : w.gDe ≤ 16384) (hb01 : 0 ≤ i ∧ i < 16 → (w.gIn i).1 = 0 ∨ (w.gIn i).1 = 1) (hee : 0 ≤ w.gRt k → w.gRt k < w.gM → ∃ x, ends (w.gRw 1) w.gM (w.gRt k) x) (hrt : 0 ≤ k ∧ k < 16 → w.gRt k = -1 ∨ (0 ≤ w.gRt k ∧ w.gRt k < w.gM)) (hi : im_i32 i) (hk : im_i32 k) (htm : im_i64 tm) (hd : 8 ≤ d)
    (hKd : w.gJr.2.2.2.2 ≠ 0 → ∀ M', (∀ x, x < 6952 ∨ 7080 < x → M' x = M x) → RW M' w → M' 6952 0 = 3 → K (.inl (some (vI 0))) e M')
    (hK : w.gJr.2.2.2.2 = 0 → ∀ M' v, (∀ x, x < 6952 ∨ 7080 < x → M' x = M x) → RW M' (beO w 0 i k tm).2 → M' 6952 0 = tc123 (beO w 0 i k tm).1 → (tc123 (beO w 0 i k tm).1 = 0 → v = (beO w 0 i k tm).1) → K (.inl (some (vI v))) e M') :
    im_T g d 342 0 [some (.ref 6952), some (vI i), some (vI k), some (vL tm), none, none, none] [] e M K := by
  obtain ⟨_, ⟨_, hr, hin⟩, _, _, _, ⟨_, _, _, _, j4⟩, _⟩ := id h
  have he : entO 0 w.gJr 3 3 i k tm z0 0 = jwO w.gJr 3 3 i k tm z0 0 := if_pos rfl
  have ei := entO_i (ag := 0) (J := w.gJr) (kd := 3) (many := 3) (a := i) (b := k) (c := tm) (t := z0) (n := 0)
  rw [he] at ei
  unfold beO at hK
  rw [he] at hK
  have nomay : ∀ a b c : Int, (a = 0 ∨ a = 1) → (b = 0 ∨ b = 1) → (c = 0 ∨ c = 1) → (a = 0 ∨ b = 0 ∨ c = 0 ∨ w.gJr.2.2.2.2 ≠ 0) → (w.gJr.2.2.2.2 = 0 → ∀ M', (∀ x, x < 6952 ∨ 7080 < x → M' x = M x) → RW M' w → M' 6952 0 = (if a = 0 then 1 else if b = 0 then 2 else 3) → K (.inl (some (vI 0))) e M') → ∀ Z : im_M → Prop, im_T g (d - 1) 264 0 [some (.ref 6952), some (vI 3), some (vI a), some (vI b), some (vI c)] [] e M (im_ri (fun x15 e_ M14 => e = e_ ∧ (im_i32 x15) ∧ ((¬ x15 = 0 → Z M14) ∧ (x15 = 0 → K (.inl (some (vI 0))) e M14)))) := by
    intro a b c h6 hb hc hno hz Z
    refine c_may (by decide) h6 hb hc (fun x hx => ⟨_, rfl, rfl, by split <;> decide, fun hne => ?_, fun _ => ?_⟩)
    · exfalso
      rw [j4] at hx
      have : x ≠ 0 := by
        rw [hx]
        (repeat' split) <;> omega
      rw [if_neg this] at hne; exact hne rfl
    · rw [j4] at hx
      by_cases c1 : w.gJr.2.2.2.2 ≠ 0
      · rw [if_pos c1] at hx
        exact hKd c1 _ (fun x hx => im_u_ne _ _ _ (by omega)) (h.cd (cdf M x).1 (cdf M x).2) (by rw [im_rds]; exact hx)
      · have c1' : w.gJr.2.2.2.2 = 0 := Decidable.not_not.mp c1
        refine hz c1' _ (fun x hx => im_u_ne _ _ _ (by omega)) (h.cd (cdf M x).1 (cdf M x).2) ?_
        rw [im_rds, hx, if_neg c1]
        by_cases c2 : a = 0
        · rw [if_pos c2, if_pos c2]
        · rw [if_neg c2, if_neg c2]
          by_cases c3 : b = 0
          · rw [if_pos c3, if_pos c3]
          · rw [if_neg c3, if_neg c3, if_pos (by omega)]
  have place : ¬ (0 ≤ i ∧ i < 16 ∧ 0 ≤ k ∧ k < 16) → w.gJr.2.2.2.2 = 0 → ∀ (M' : im_M) (b : Int), (∀ x, x < 6952 ∨ 7080 < x → M' x = M x) → RW M' w → M' 6952 0 = (if (0 : Int) = 0 then 1 else if b = 0 then 2 else 3) → K (.inl (some (vI 0))) e M' := fun hno hz M' b f W' hc => by
    have hK := hK hz
    rw [if_pos hno] at hK
    rw [if_pos rfl] at hc
    exact hK M' 0 f W' hc (fun z => absurd z (show tc123 (-101) ≠ 0 by decide))
  refine b_begin_0 (by omega) ⟨hi, c_isIn (by constructor <;> omega) (by decide) (by decide) (fun hI => ⟨_, rfl, rfl, by decide, fun z => absurd z (by decide), fun _ => ⟨hk, ?_⟩⟩) (fun hI => ⟨_, rfl, rfl, by decide, fun _ => ?_, fun z => absurd rfl z⟩)⟩
  · refine c_isIn (by constructor <;> omega) (by decide) (by decide) (fun hI2 => ⟨_, rfl, rfl, by decide, fun z => absurd z (by decide), fun _ => ?_⟩) (fun hI2 => ⟨_, rfl, rfl, by decide, fun _ => ?_, fun z => absurd rfl z⟩)
    · have hp : 0 ≤ i ∧ i < 16 ∧ 0 ≤ k ∧ k < 16 := ⟨hI.1, by omega, hI2.1, by omega⟩
      have e94 := (hin i hI.1 (by omega)).1.1
      refine c_isIn htm (by decide) (by decide) (fun hT => ⟨_, rfl, rfl, ⟨hI.1, by omega⟩, fun h94 => ⟨⟨hI2.1, by omega⟩, fun h84 => ?_⟩, fun hor => ?_⟩) (fun hT => ⟨_, rfl, rfl, ⟨hI.1, by omega⟩, fun h94 => ⟨⟨hI2.1, by omega⟩, fun h84 => ?_⟩, fun hor => ?_⟩)
      · rw [e94] at h94
        have hrk : w.gRt k ≠ -1 := fun z => h84 ((hr k hI2.1 (by omega)).1 z)
        by_cases hz : w.gJr.2.2.2.2 = 0
        · have hK := hK hz
          rw [if_neg (Decidable.not_not.mpr hp), if_neg (Decidable.not_not.mpr hT), if_neg (fun z => z.elim (fun q => q h94) hrk)] at hK
          refine c_may (by decide) (Or.inr rfl) (Or.inr rfl) (Or.inr rfl) (fun x hx => ⟨_, rfl, rfl, by split <;> decide, fun _ => ?_, fun heq => ?_⟩)
          · rw [j4, if_neg (Decidable.not_not.mpr hz), if_neg (by decide), if_neg (by decide), if_neg (by decide)] at hx
            have W1 : RW (im_u M 6952 0 x) w := h.cd (cdf M x).1 (cdf M x).2
            have hc1 : im_u M 6952 0 x 6952 0 = 0 := by rw [im_rds]; exact hx
            have f1 : ∀ y, y < 6952 ∨ 7080 < y → im_u M 6952 0 x y = M y := fun y hy => im_u_ne _ _ _ (by omega)
            generalize im_u M 6952 0 x = M1 at W1 hc1 f1
            refine c_tryBegin W1 hW hde hee hrt hi hk htm (by omega) (fun hno => absurd ⟨hp, hT, h94, hrk⟩ hno) (fun _ _ _ _ M2 y F2 e2 hs2 hy hl => ⟨_, rfl, rfl, by constructor <;> omega, ?_, ?_⟩)
            · intro hne
              have hy' : y = -11 := by omega
              rw [ifq_pos (hl.mp hy')] at hK
              have f2 : ∀ y', y' < 6952 ∨ 7080 < y' → M2 y' = M y' := fun y' hy' => (F2.1 y' (by omega) (by omega) (by omega) (by omega) (by omega)).trans (f1 y' hy')
              refine ⟨fun _ => ⟨fun _ => ?_, fun z => absurd z hne⟩, fun z => by omega⟩
              rw [hy']
              exact hK M2 (-11) f2 (rFau_scr W1 F2 e2.2 hs2) (by rw [e2.1, hc1]; rfl) (fun _ => rfl)
            · intro hy0
              have hnl : ¬ lks' w.gRw (w.gRt k) (eN w.gRw w.gM (w.gRt k)) w.gPm := fun z => by have := hl.mpr z; omega
              rw [ifq_neg hnl] at hK
              have W2 := rFau_scr W1 F2 e2.2 hs2
              have f2 : ∀ y', y' < 6952 ∨ 7080 < y' → M2 y' = M y' := fun y' hy' => (F2.1 y' (by omega) (by omega) (by omega) (by omega) (by omega)).trans (f1 y' hy')
              have hc2 : M2 6952 0 = 0 := by rw [e2.1]; exact hc1
              obtain ⟨_, ⟨_, hr2, _⟩, _, _, _, j2, _⟩ := id W2
              refine c_rwr (J := w.gJr) (t := z0) (n := 0) (kd := 3) (many := 3) j2 hJo hz (by decide) (by decide) (Or.inl ⟨rfl, rfl⟩) (by decide) (fun i a b => by omega) (by constructor <;> omega) (by constructor <;> omega) htm (by omega) (fun M3 g1 g2 j3 => ⟨_, rfl, rfl, ?_, ?_⟩)
              · split
                · decide
                · constructor <;> omega
              · have W3 := W2.jr (fun x a b => g1 x a b) g2 j3
                have f3 : ∀ y', y' < 6952 ∨ 7080 < y' → M3 y' = M y' := fun y' hy' => (g1 y' (by omega) (by omega)).trans (f2 y' hy')
                have hc3 : M3 6952 0 = 0 := by rw [g2 0 (by decide)]; exact hc2
                by_cases hne : (jwO w.gJr 3 3 i k tm z0 0).1 = 0
                · rw [if_neg (Decidable.not_not.mpr hne)] at hK
                  rw [if_neg (by omega), hne]
                  refine ⟨fun _ => ⟨fun z => absurd rfl z, fun _ => ?_⟩, fun z => absurd z (by decide)⟩
                  obtain ⟨W', hW'⟩ : ∃ x, x = w.sJr (jwO w.gJr 3 3 i k tm z0 0).2 := ⟨_, rfl⟩
                  have eI : W'.gIn = w.gIn := by rw [hW']; rfl
                  have eP : W'.gPm = w.gPm := by rw [hW']; rfl
                  rw [← hW'] at W3 hK
                  refine c_doBegin (w := W') (root := w.gRt k) W3 ⟨hI.1, by omega⟩ ⟨hI2.1, by omega⟩ (by rw [g1 6985 (by decide) (by decide)]; exact ((hr2 k hI2.1 (by omega)).2 hrk).2.1) htm (fun M4 f4 e4 W4 => ⟨rfl, rfl, ?_⟩)
                  rw [eI, eP] at W4
                  exact hK M4 0 (fun x hx => (f4 x hx).trans (f3 x hx)) W4 (by rw [e4, hc3]; rfl) (fun _ => rfl)
                · rw [if_pos hne] at hK
                  by_cases h103 : (jwO w.gJr 3 3 i k tm z0 0).1 = -103
                  · rw [if_pos h103]
                    refine ⟨fun z => absurd rfl z, fun _ => hK _ 0 (fun x hx => by rw [im_u_ne _ _ _ (by omega)]; exact f3 x hx) (W3.cd (cdf M3 3).1 (cdf M3 3).2) (by rw [im_rds, h103]; rfl) (fun z => ?_)⟩
                    rw [h103] at z; exact absurd z (by decide)
                  · rw [if_neg h103]
                    have h10 : (jwO w.gJr 3 3 i k tm z0 0).1 = -10 := by omega
                    refine ⟨fun _ => ⟨fun _ => hK M3 _ f3 W3 (by rw [hc3, h10]; rfl) (fun _ => rfl), fun z => by omega⟩, fun z => by omega⟩
          · rw [j4, if_neg (Decidable.not_not.mpr hz), if_neg (by decide), if_neg (by decide), if_neg (by decide)] at hx
            rw [if_pos hx] at heq; exact absurd heq (by decide)
        · exact nomay 1 1 1 (Or.inr rfl) (Or.inr rfl) (Or.inr rfl) (Or.inr (Or.inr (Or.inr hz))) (fun z => absurd z hz) _
      · refine nomay 1 1 0 (Or.inr rfl) (Or.inr rfl) (Or.inl rfl) (Or.inr (Or.inr (Or.inl rfl))) (fun hz M' f W' hc => ?_) _
        have hK := hK hz
        have hst : (w.gIn i).1 ≠ 0 ∨ w.gRt k = -1 := by
          rw [e94] at hor
          rcases hor with q | q
          · exact Or.inl q
          · refine Or.inr ?_
            by_cases z : w.gRt k = -1
            · exact z
            · have := ((hr k hI2.1 (by omega)).2 z).1; omega
        rw [if_neg (Decidable.not_not.mpr hp), if_neg (Decidable.not_not.mpr hT), if_pos hst] at hK
        exact hK M' 0 f W' hc (fun z => absurd z (show tc123 (-103) ≠ 0 by decide))
      · refine nomay 1 0 1 (Or.inr rfl) (Or.inl rfl) (Or.inr rfl) (Or.inr (Or.inl rfl)) (fun hz M' f W' hc => ?_) _
        have hK := hK hz
        rw [if_neg (Decidable.not_not.mpr hp), if_pos hT] at hK
        exact hK M' 0 f W' hc (fun z => absurd z (show tc123 (-102) ≠ 0 by decide))
      · refine nomay 1 0 0 (Or.inr rfl) (Or.inl rfl) (Or.inl rfl) (Or.inr (Or.inl rfl)) (fun hz M' f W' hc => ?_) _
        have hK := hK hz
        rw [if_neg (Decidable.not_not.mpr hp), if_pos hT] at hK
        exact hK M' 0 f W' hc (fun z => absurd z (show tc123 (-102) ≠ 0 by decide))
    · refine c_isIn htm (by decide) (by decide) (fun _ => ⟨_, rfl, rfl, ?_⟩) (fun _ => ⟨_, rfl, rfl, ?_⟩)
      · exact nomay 0 1 0 (Or.inl rfl) (Or.inr rfl) (Or.inl rfl) (Or.inl rfl) (fun hz M' f W' hc => place (by omega) hz M' 1 f W' hc) _
      · exact nomay 0 0 0 (Or.inl rfl) (Or.inl rfl) (Or.inl rfl) (Or.inl rfl) (fun hz M' f W' hc => place (by omega) hz M' 0 f W' hc) _
  · refine c_isIn htm (by decide) (by decide) (fun _ => ⟨_, rfl, rfl, ?_⟩) (fun _ => ⟨_, rfl, rfl, ?_⟩)
    · exact nomay 0 1 0 (Or.inl rfl) (Or.inr rfl) (Or.inl rfl) (Or.inl rfl) (fun hz M' f W' hc => place (by omega) hz M' 1 f W' hc) _
    · exact nomay 0 0 0 (Or.inl rfl) (Or.inl rfl) (Or.inl rfl) (Or.inl rfl) (fun hz M' f W' hc => place (by omega) hz M' 0 f W' hc) _
end RBEG3
