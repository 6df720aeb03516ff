/-! THE CLASS recovers -/
/-- what is left over from before: lower, the inputs' row, payments, warnings, whether a close has paid -/
abbrev Sg : Type := Int × Ip × Rl × Rl × Int
noncomputable def redoO (σ : Sg) (w : Wd) (k a b c : Int) (t : Int → Int) (n : Int) : Int × Wd := if k = 1 then keO w 1 a t n σ.1 else if k = 2 then drO w 1 a else if k = 3 then beO w 1 a b c else if k = 4 then enO w 1 a else if k = 5 then miO w 1 a b t n else if k = 6 then trO w 1 a b c t n σ.2.1 σ.2.2.1 σ.2.2.2.1 σ.2.2.2.2 else if k = 7 then paO w 1 a t n else fgO w 1
/-- the record that stands here is done again -/
noncomputable def rdO (σ : Sg) (w : Wd) : Int × Wd := redoO σ w (knR w.gJr.1 w.gJr.2.1) (dnV w.gJr.1 (w.gJr.2.1 + 3) 8) (dnV w.gJr.1 (w.gJr.2.1 + 11) 8) (dnV w.gJr.1 (w.gJr.2.1 + 19) 8) (rtT w.gJr.1 w.gJr.2.1) (rtN w.gJr.1 w.gJr.2.1)
def isRw (w : Wd) : Prop := isR w.gJr.1 w.gJr.2.1
def szW (w : Wd) : Int := szR w.gJr.1 w.gJr.2.1
def psW (w : Wd) (s : Int) : Wd := w.sJr (w.gJr.1, w.gJr.2.1 + s, w.gJr.2.2.1 + 1, w.gJr.2.2.2.1, w.gJr.2.2.2.2)
/-- records are done again until one isn't sound or can't be done -/
def reS : Nat → Wd → Wd → Prop
  | 0, _, _ => False
  | f + 1, w, wE => (¬ isRw w ∧ wE = w) ∨ (isRw w ∧ ∃ σ, ((rdO σ w).1 < 0 ∧ wE = (rdO σ w).2) ∨ (0 ≤ (rdO σ w).1 ∧ reS f (psW (rdO σ w).2 (szW w)) wE))
/-- all that doing again asks of a world -/
def RcQ (w : Wd) : Prop := (jOk w.gJr ∧ w.gJr.2.2.2.2 = 0 ∧ w.gTn = 0) ∧ (WFP w.gRw w.gM ∧ w.gM ≤ 4000 ∧ w.gDe ≤ 16384) ∧ (∀ i, 0 ≤ i ∧ i < 16 → insOk w.gRw w.gM w.gWa (w.gIn i)) ∧ (posb w.gWa ∧ posb w.gMi ∧ ∀ a b, hld w.gWa a b ≤ hld w.gMi b 0) ∧ (∀ k, 0 ≤ k ∧ k < 16 → w.gRt k = -1 ∨ (0 ≤ w.gRt k ∧ w.gRt k < w.gM)) ∧ ∀ i, 0 ≤ i → i < 16384 → 0 ≤ w.gJr.1 i ∧ w.gJr.1 i < 256
/-- what holds before a step holds behind it -/
def RcS (I : Wd → Prop) : Prop := ∀ w, I w → RcQ w ∧ (isRw w → ∀ σ, (rdO σ w).2.gTn = 0 ∧ (rdO σ w).2.gJr = w.gJr ∧ im_i32 (rdO σ w).1 ∧ (0 ≤ (rdO σ w).1 → I (psW (rdO σ w).2 (szW w))))
theorem Wd.tpn (w : Wd) : (w.sTp w.gTp).sTn w.gTn = w := by
  have h1 : (w.sTp w.gTp).sTn w.gTn = ((w.gTp, w.gTn, w.gOb, w.gOn, w.gFc, w.gFp, w.gRw, w.gM, w.gRt, w.gIn, w.gPm, w.gWa, w.gMi, w.gPy, w.gWr, w.gMd, w.gDe, w.gJr) : Wd) := rfl
  rw [h1]; exact (Wd.eta w).symm
theorem CW.tx0 {M M' : im_M} {e : im_E} {w : Wd} {ag ag' : Int} (h : CW M e w ag) (h0 : w.gTn = 0) (hs : ∀ x, x ≠ 0 → x ≠ 1 → M' x = M x) (hk : M' 0 1 = M 0 1) (h19 : M' 0 19 = ag') : CW M' e w ag' := by
  have := h.tape (t := w.gTp) (n := w.gTn) hs ⟨hk.trans h.1.1.1, fun i a b => by omega, by omega, by omega⟩ h19
  rw [Wd.tpn] at this
  exact this
theorem dnV_i (D : Int → Int) (a : Int) (k : Nat) : im_i64 (dnV D a k) := by
  cases k with
  | zero => show im_i64 0; decide
  | succ k => exact xlor_r _ _
section CREC
variable {g : im_g} {d : Nat} {e : im_E} {M : im_M} {K : im_K} {w : Wd}
theorem CW.jD (h : CW M e w 1) (hJ : jOk w.gJr) : jD M w.gJr.1 w.gJr.2.1 := by
  obtain ⟨_, _, _, _, _, ⟨j0, j1, _⟩, _⟩ := h
  exact ⟨j0, j1, hJ.1⟩
/-- the end: the faults are forgotten -/
theorem c_recEnd (h : CW M e w 1) (h0 : w.gTn = 0) (hK : ∀ M', (∀ x, 6952 ≤ x → M' x = M x) → CW M' e ((w.sFc (-1)).sFp (-1)) 0 → K (.inl (some (vI w.gJr.2.2.1))) e M') : im_T g d 149 0 [some (.ref 2)] [] e (im_u M 0 19 0) (im_r0 (fun e_ M8 => e = e_ ∧ K (.inl (some (vI (M8 2068 2)))) e M8)) := by
  have j2 := h.2.2.2.2.2.1.2.2.1
  have W1 : CW (im_u M 0 19 0) e w 0 := h.tx0 h0 (fun x a _ => im_u_ne _ _ _ a) (im_rdk _ _ _ (by decide)) (im_rds _ _ _ _)
  refine k_Reader_forgetFault_0 ⟨rfl, rfl, ?_⟩
  rw [im_u_ne _ _ _ (by decide), im_u_ne _ _ _ (by decide), im_u_ne _ _ _ (by decide), j2]
  exact hK _ (fun x hx => by rw [im_u_ne _ _ _ (by omega), im_u_ne _ _ _ (by omega), im_u_ne _ _ _ (by omega)]) (W1.fa (fun x a _ _ => by rw [im_u_ne _ _ _ a, im_u_ne _ _ _ a]) (by rw [im_rdk _ _ _ (by decide), im_rds]) (im_rds _ _ _ _))
theorem l_recC {I : Wd → Prop} {M0 : im_M} (hI : RcS I) (hd : 124 ≤ d) : ∀ (j : Nat) (w : Wd) (M : im_M) (x n : Int), w.gJr.2.1 + j = 16384 → I w → CW M e w 1 → (∀ z, 6952 ≤ z → M z = M0 z) → 0 ≤ n → 7 * n ≤ w.gJr.2.1 → (isRw w → x = szW w) → (¬ isRw w → x = 0) → (∀ f wE M', reS f w wE → (∀ z, 6952 ≤ z → M' z = M0 z) → CW M' e ((wE.sFc (-1)).sFp (-1)) 0 → K (.inl (some (vI wE.gJr.2.2.1))) e M') → im_T g d 20 19 [some (.ref 0), some (vI x), some (vI n), none, none, none, none, none, none, none, none] [] e M K := by
  intro j
  induction j using Nat.strongRecOn with
  | ind j IH =>
    intro w M x n hj hw h hF n0 hn7 hx1 hx0 hK
    obtain ⟨hQ, hS⟩ := hI w hw
    obtain ⟨⟨q1, q2, q3⟩, ⟨q4, q5, q6⟩, q7, ⟨q8, q9, q10⟩, q11, q12⟩ := id hQ
    have hjD := h.jD q1
    have hu := q1.1
    have sb := szR_b (D := w.gJr.1) (u := w.gJr.2.1) q12 hu.1
    by_cases hR : isRw w
    · have hxs := hx1 hR
      have hS := hS hR
      obtain ⟨b0, b3, bn, b7, bp⟩ := isR_b hR
      have hle : w.gJr.2.1 + szW w ≤ 16384 := hR.2.1
      have hkk := hR.1
      have hs7 : 7 ≤ szW w := b7
      have hrn : rtN w.gJr.1 w.gJr.2.1 ≤ 16384 := by
        have : rtN w.gJr.1 w.gJr.2.1 = szW w - 7 - 8 * xrec (knR w.gJr.1 w.gJr.2.1) := rfl
        omega
      refine k_P_recover_19 (by omega) ⟨by constructor <;> omega, fun _ => ⟨by rw [hxs]; unfold szW; constructor <;> omega, fun _ => ?_⟩, fun z => by omega⟩
      refine c_textInto hjD hR (by omega) (fun M1 f1 ht1 => ⟨_, rfl, rfl, ?_⟩)
      have h1 : CW M1 e w 1 := h.tx0 q3 (fun x a b => f1 x b) (by rw [f1 0 (by decide)]) (by rw [f1 0 (by decide)]; exact h.2.2.2.2.2.2.2)
      have hjD1 := h1.jD q1
      have eA : w.gJr.2.1 + 3 + 8 * 0 = w.gJr.2.1 + 3 := by omega
      have eB : w.gJr.2.1 + 3 + 8 * 1 = w.gJr.2.1 + 11 := by omega
      have eC : w.gJr.2.1 + 3 + 8 * 2 = w.gJr.2.1 + 19 := by omega
      refine c_numberAt hjD1 (by decide) (by omega) ⟨_, rfl, rfl, c_numberAt hjD1 (by decide) (by omega) ⟨_, rfl, rfl, c_numberAt hjD1 (by decide) (by omega) ⟨_, rfl, rfl, c_kindHere hjD1 ⟨_, rfl, rfl, ?_⟩⟩⟩⟩
      rw [eA, eB, eC]
      have ia := dnV_i w.gJr.1 (w.gJr.2.1 + 3) 8
      have ib := dnV_i w.gJr.1 (w.gJr.2.1 + 11) 8
      have ic := dnV_i w.gJr.1 (w.gJr.2.1 + 19) 8
      have hi1 : ∀ z, 6952 ≤ z → M1 z = M0 z := fun z hz => (f1 z (by omega)).trans (hF z hz)
      -- behind a record
      have cont : ∀ (σ : Sg) (M2 : im_M), (∀ z, 6952 ≤ z → M2 z = M1 z) → CW M2 e (rdO σ w).2 1 → (im_i32 (rdO σ w).1) ∧ ((0 ≤ (rdO σ w).1 → im_T g (d - 1) 82 0 [some (.ref 2068), some (vI x)] [] e M2 (im_r0 (fun e_ M26 => e = e_ ∧ im_T g (d - 1) 25 0 [some (.ref 2068), none, none, none, none, none, none] [] e M26 (im_ri (fun x28 e_ M27 => e = e_ ∧ im_T g d 20 19 [some (.ref 0), some (vI x28), some (vI (n + 1)), none, none, none, none, none, none, none, none] [] e M27 K))))) ∧ ((rdO σ w).1 < 0 → im_T g (d - 1) 149 0 [some (.ref 2)] [] e (im_u M2 0 19 0) (im_r0 (fun e_ M31 => e = e_ ∧ K (.inl (some (vI (M31 2068 2)))) e M31)))) := by
        intro σ M2 f2 W2
        obtain ⟨s1, s2, s3, s4⟩ := hS σ
        have t0 := s1
        refine ⟨s3, fun hge => ?_, fun hlt => c_recEnd W2 t0 (fun M' f' W' => hK 1 _ M' (Or.inr ⟨hR, σ, Or.inl ⟨hlt, rfl⟩⟩) (fun z hz => (f' z hz).trans ((f2 z hz).trans (hi1 z hz))) W')⟩
        have hI2 := s4 hge
        obtain ⟨_, _, _, _, _, ⟨j0, j1, j2, j3, j4⟩, _⟩ := id W2
        rw [s2] at j0 j1 j2 j3 j4
        refine k_Journal_pass_0 ?_
        rw [j1, j2]
        refine ⟨by rw [hxs]; constructor <;> omega, by have := q1.2.1; constructor <;> omega, rfl, rfl, ?_⟩
        have W3 : CW (im_u (im_u M2 2068 1 (w.gJr.2.1 + x)) 2068 2 (w.gJr.2.2.1 + 1)) e (psW (rdO σ w).2 (szW w)) 1 := by
          refine W2.jr (fun x hx => by rw [im_u_ne _ _ _ (by omega), im_u_ne _ _ _ (by omega)]) ?_
          rw [s2]
          refine ⟨by rw [im_u_ne _ _ _ (by decide), im_u_ne _ _ _ (by decide)]; exact j0, ?_, im_rds _ _ _ _, ?_, ?_⟩
          · rw [im_rdk _ _ _ (by decide), im_rds, hxs]
          · rw [im_rdk _ _ _ (by decide), im_rdk _ _ _ (by decide)]; exact j3
          · rw [im_rdk _ _ _ (by decide), im_rdk _ _ _ (by decide)]; exact j4
        obtain ⟨⟨⟨p1, _, _⟩, _⟩, _⟩ := hI _ hI2
        have eJ : (psW (rdO σ w).2 (szW w)).gJr.2.1 = w.gJr.2.1 + szW w := by
          show (rdO σ w).2.gJr.2.1 + szW w = _
          rw [s2]
        have hjD3 := W3.jD p1
        refine c_soundLength hjD3 (by omega) (fun x' hx1' hx0' => ⟨_, rfl, rfl, ?_⟩)
        refine IH (j - (szW w).toNat) (by omega) (psW (rdO σ w).2 (szW w)) _ x' (n + 1) (by rw [eJ]; omega) hI2 W3 (fun z hz => by rw [im_u_ne _ _ _ (by omega), im_u_ne _ _ _ (by omega)]; exact (f2 z hz).trans (hi1 z hz)) (by omega) (by rw [eJ]; omega) hx1' hx0' (fun f wE M' hre => hK (f + 1) wE M' (Or.inr ⟨hR, σ, Or.inr ⟨hge, hre⟩⟩))
      have hn16 : 0 ≤ rtN w.gJr.1 w.gJr.2.1 ∧ rtN w.gJr.1 w.gJr.2.1 ≤ 16384 := ⟨bn, hrn⟩
      have rdE : ∀ (σ : Sg) (r : Int × Wd), (∀ k, k = knR w.gJr.1 w.gJr.2.1 → redoO σ w k (dnV w.gJr.1 (w.gJr.2.1 + 3) 8) (dnV w.gJr.1 (w.gJr.2.1 + 11) 8) (dnV w.gJr.1 (w.gJr.2.1 + 19) 8) (rtT w.gJr.1 w.gJr.2.1) (rtN w.gJr.1 w.gJr.2.1) = r) → rdO σ w = r := fun σ r hr => hr _ rfl
      obtain ⟨_, _, _, _, _, _, ⟨⟨_, _, _, ⟨ρ1, k1⟩, ⟨ρ2, k2⟩, _⟩, ⟨⟨J0, k0⟩, ⟨w0, k26⟩, _⟩⟩, _⟩ := id h1
      obtain ⟨σ, hσ⟩ : ∃ σ : Sg, σ = (w0, J0, ρ1, ρ2, M1 931 13) := ⟨_, rfl⟩
      have cont := cont σ
      generalize hkn : knR w.gJr.1 w.gJr.2.1 = kn at hkk rdE
      refine ⟨by constructor <;> omega, fun z => ?_, fun z => ?_, fun z => ?_, fun z => ?_, fun z => ?_, fun z => ?_, fun z => ?_, fun z => ?_⟩
      · have er : rdO σ w = keO w 1 (dnV w.gJr.1 (w.gJr.2.1 + 3) 8) (rtT w.gJr.1 w.gJr.2.1) (rtN w.gJr.1 w.gJr.2.1) w0 := rdE σ _ (fun k hk => by unfold redoO; rw [hk, if_pos z, hσ])
        rw [er] at cont
        exact c_keepText h1 (Or.inr rfl) q1 q2 q4 q5 q6 ia hn16 ht1 k26 (by omega) (fun M2 f2 W2 => ⟨_, rfl, rfl, cont M2 f2 W2⟩)
      · have er : rdO σ w = drO w 1 (dnV w.gJr.1 (w.gJr.2.1 + 3) 8) := rdE σ _ (fun k hk => by unfold redoO; rw [hk, if_neg (by omega), if_pos z])
        rw [er] at cont
        exact c_dropContract h1 (Or.inr rfl) q1 q2 ia (by omega) (fun M2 f2 W2 => ⟨_, rfl, rfl, cont M2 f2 W2⟩)
      · have er : rdO σ w = beO w 1 (dnV w.gJr.1 (w.gJr.2.1 + 3) 8) (dnV w.gJr.1 (w.gJr.2.1 + 11) 8) (dnV w.gJr.1 (w.gJr.2.1 + 19) 8) := rdE σ _ (fun k hk => by unfold redoO; rw [hk, if_neg (by omega), if_neg (by omega), if_pos z])
        rw [er] at cont
        exact c_beginInstance h1 (Or.inr rfl) q1 q2 q4 (fun z => (q7 _ z).1) (fun z => q11 _ z) ia ib ic (by omega) (fun M2 f2 W2 => ⟨_, rfl, rfl, cont M2 f2 W2⟩)
      · have er : rdO σ w = enO w 1 (dnV w.gJr.1 (w.gJr.2.1 + 3) 8) := rdE σ _ (fun k hk => by unfold redoO; rw [hk, if_neg (by omega), if_neg (by omega), if_neg (by omega), if_pos z])
        rw [er] at cont
        exact c_endInstance h1 (Or.inr rfl) q1 q2 q4 (fun z => q7 _ z) ia (by omega) (fun M2 f2 W2 => ⟨_, rfl, rfl, cont M2 f2 W2⟩)
      · have er : rdO σ w = miO w 1 (dnV w.gJr.1 (w.gJr.2.1 + 3) 8) (dnV w.gJr.1 (w.gJr.2.1 + 11) 8) (rtT w.gJr.1 w.gJr.2.1) (rtN w.gJr.1 w.gJr.2.1) := rdE σ _ (fun k hk => by unfold redoO; rw [hk, if_neg (by omega), if_neg (by omega), if_neg (by omega), if_neg (by omega), if_pos z])
        rw [er] at cont
        exact c_mintText h1 (Or.inr rfl) q1 q2 q8 q9 (q10 _ _) ia ib hn16 ht1 (by omega) (fun M2 f2 W2 => ⟨_, rfl, rfl, cont M2 f2 W2⟩)
      · have er : rdO σ w = trO w 1 (dnV w.gJr.1 (w.gJr.2.1 + 3) 8) (dnV w.gJr.1 (w.gJr.2.1 + 11) 8) (dnV w.gJr.1 (w.gJr.2.1 + 19) 8) (rtT w.gJr.1 w.gJr.2.1) (rtN w.gJr.1 w.gJr.2.1) J0 ρ1 ρ2 (M1 931 13) := rdE σ _ (fun k hk => by unfold redoO; rw [hk, if_neg (by omega), if_neg (by omega), if_neg (by omega), if_neg (by omega), if_neg (by omega), if_pos z, hσ])
        rw [er] at cont
        exact c_transactText h1 (Or.inr rfl) q1 q2 q4 (fun z => q7 _ z) ia ib ic hn16 ht1 k0 k1 k2 rfl (by omega) (fun M2 f2 W2 _ => ⟨_, rfl, rfl, cont M2 f2 W2⟩)
      · have er : rdO σ w = paO w 1 (dnV w.gJr.1 (w.gJr.2.1 + 3) 8) (rtT w.gJr.1 w.gJr.2.1) (rtN w.gJr.1 w.gJr.2.1) := rdE σ _ (fun k hk => by unfold redoO; rw [hk, if_neg (by omega), if_neg (by omega), if_neg (by omega), if_neg (by omega), if_neg (by omega), if_neg (by omega), if_pos z])
        rw [er] at cont
        exact c_parameterText h1 (Or.inr rfl) q1 q2 ia hn16 ht1 (by omega) (fun M2 f2 W2 => ⟨_, rfl, rfl, cont M2 f2 W2⟩)
      · have er : rdO σ w = fgO w 1 := rdE σ _ (fun k hk => by unfold redoO; rw [hk, if_neg (by omega), if_neg (by omega), if_neg (by omega), if_neg (by omega), if_neg (by omega), if_neg (by omega), if_neg (by omega)])
        rw [er] at cont
        exact c_forgetParameters h1 (Or.inr rfl) q1 q2 (by omega) (fun M2 f2 W2 => ⟨_, rfl, rfl, cont M2 f2 W2⟩)
    · have hxs := hx0 hR
      refine k_P_recover_19 (by omega) ⟨by constructor <;> omega, fun _ => ⟨by rw [hxs]; decide, fun z => by omega⟩, fun _ => c_recEnd h q3 (fun M' f' W' => hK 1 w M' (Or.inl ⟨hR, rfl⟩) (fun z hz => (f' z hz).trans (hF z hz)) W')⟩
end CREC
