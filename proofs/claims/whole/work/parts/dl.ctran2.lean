/-! THE CLASS does a transaction, from what it holds to what it holds -/
def trS (I : Ins) (wa : Bk) (ρ ρ' : Rl) (cp : Int) : TS := (I.2.2.2.1, I.2.2.2.2.1, I.2.2.2.2.2.1, I.2.1, wa, ρ, ρ', cp)
def trI (I : Ins) (le : Int) (s : TS) : Ins := (I.1, s.nd, le, s.acc, s.cho, s.lts, I.2.2.2.2.2.2)
noncomputable def trR (w : Wd) (i fr to : Int) (J : Ip) (ρ ρ' : Rl) (cp : Int) : Sum Int TS := runO w.gRw (w.gIn i).2.2.2.2.2.2 0 fr to (w.gIn i).2.2.1 J.2.1 J.2.2.1 J.2.2.2.1 J.2.2.2.2.1 J.2.2.2.2.2 J.1.toNat 0 (trS (w.gIn i) w.gWa ρ ρ' cp)
/-- what a transaction does to the world, written or not -/
def trW (w : Wd) (i fr : Int) (s : TS) : Wd := ((((w.sIn (upI w.gIn i (trI (w.gIn i) (max fr (w.gIn i).2.2.1) s))).sWa s.wal).sPy s.pay).sWr s.wrn)
noncomputable def trO (w : Wd) (ag i fr to : Int) (t : Int → Int) (n : Int) (J0 : Ip) (ρ ρ' : Rl) (cp : Int) : Int × Wd :=
  if ¬ (0 ≤ i ∧ i < 16) then (-101, w) else if (w.gIn i).1 = 0 then (-103, w) else
  match inpT t n J0 with
  | .inl f => (-1, (w.sFc f.1).sFp f.2)
  | .inr J => match trR w i fr to J ρ ρ' cp with
    | .inl z => (z, (w.sFc 0).sFp (-1))
    | .inr s => if (entO ag w.gJr 6 3 i fr to t n).1 ≠ 0 then ((entO ag w.gJr 6 3 i fr to t n).1, ((w.sFc 0).sFp (-1)).sJr (entO ag w.gJr 6 3 i fr to t n).2)
      else (0, trW (((w.sFc 0).sFp (-1)).sJr (entO ag w.gJr 6 3 i fr to t n).2) i fr s)
/-- an instance that is begun is well formed -/
def insOk (R : Rw) (m : Int) (wa : Bk) (I : Ins) : Prop := (I.1 = 0 ∨ I.1 = 1) ∧ (I.1 = 1 → (sbk I.2.2.2.1 ∧ posb I.2.2.2.1) ∧ sbk I.2.2.2.2.1 ∧ (sbk I.2.2.2.2.2.1 ∧ I.2.2.2.2.2.1.2.2.1 = z0) ∧ (sbk wa ∧ posb wa) ∧ (0 ≤ I.2.1 ∧ I.2.1 < m ∧ (0 ≤ R 0 I.2.1 ∧ R 0 I.2.1 ≤ 5)) ∧ (0 ≤ I.2.2.1 ∧ I.2.2.1 ≤ 1000000000000000))
theorem inpT_n {t : Int → Int} {n : Int} {J0 J : Ip} : ∀ (f : Nat) (a : Int) (sh : List Int) (I : Ip), (0 ≤ I.1 ∧ I.1 ≤ 40) → inp t n f a sh I = .inr J → 0 ≤ J.1 ∧ J.1 ≤ 40 := by
  intro f
  induction f with
  | zero => intro a sh I hI h; cases h
  | succ f ih =>
    intro a sh I hI h
    cases sh with
    | nil =>
      rw [inp] at h
      split at h
      · cases h; exact hI
      · split at h
        · cases h
        · split at h
          · cases h
          · refine ih _ _ _ ?_ h
            show 0 ≤ I.1 + 1 ∧ I.1 + 1 ≤ 40
            omega
    | cons x sh =>
      rw [inp] at h
      by_cases hc : (tk t n a).2.2.1 = (if x = 110 then 34 else 36)
      · rw [if_pos hc] at h
        refine ih _ _ _ ?_ h
        have : ∀ w, (ipP I x w).1 = I.1 := fun w => by unfold ipP; split <;> (try split) <;> (try split) <;> rfl
        rw [this]; exact hI
      · rw [if_neg hc] at h; cases h
theorem inp_f {t : Int → Int} {n c p : Int} : ∀ (f : Nat) (a : Int) (sh : List Int) (I : Ip), 0 ≤ a → a ≤ n → (n - a).toNat + 2 ≤ f → inp t n f a sh I = .inl (c, p) → (0 < c ∧ c ≤ 9) ∧ (0 ≤ p ∧ p ≤ n) := by
  intro f
  induction f with
  | zero => intro a sh I h0 hn hf h; omega
  | succ f ih =>
    intro a sh I h0 hn hf h
    have hk := tk_ok (t := t) hn
    have k1 := hk.1
    have k2 := hk.2.1
    have hft := ftk_pos (tk t n a).2.2.1
    cases sh with
    | nil =>
      rw [inp] at h
      by_cases c1 : (tk t n a).2.2.1 = 41
      · rw [if_pos c1] at h; cases h
      · rw [if_neg c1] at h
        have kq := tkn_q hk c1
        by_cases c2 : ¬ (28 ≤ (tk t n a).2.2.1 ∧ (tk t n a).2.2.1 ≤ 30)
        · rw [if_pos c2] at h; cases h; exact ⟨⟨hft.1, by omega⟩, by omega, k2⟩
        · rw [if_neg c2] at h
          by_cases c3 : I.1 = 40
          · rw [if_pos c3] at h; cases h; exact ⟨⟨by decide, by decide⟩, by omega, k2⟩
          · rw [if_neg c3] at h
            exact ih _ _ _ (by omega) kq.2.2.1 (by omega) h
    | cons x sh =>
      rw [inp] at h
      by_cases hc : (tk t n a).2.2.1 = (if x = 110 then 34 else 36)
      · rw [if_pos hc] at h
        have c1 : (tk t n a).2.2.1 ≠ 41 := by rw [hc]; split <;> decide
        have kq := tkn_q hk c1
        exact ih _ _ _ (by omega) kq.2.2.1 (by omega) h
      · rw [if_neg hc] at h; cases h; exact ⟨⟨hft.1, by omega⟩, by omega, k2⟩
theorem CT.mach {M : im_M} {e : im_E} {R : Rw} {m E : Int} {giv : Bk} {st en lk fl : Int} {s : TS} {bp np : Nat} (h : CT M e R m E giv st en lk fl s 666 bp np) : cMach M := by
  obtain ⟨⟨c1, c2, c3, c4, ⟨d1, d2, d3, d4⟩, ⟨c6, c6'⟩, c7, c8⟩, _, h3, _, h5, h6, h7, h8, _⟩ := h
  exact ⟨⟨⟨_, d1⟩, ⟨_, d2⟩, ⟨_, d3⟩⟩, h3, h5.2, ⟨_, h6⟩, ⟨_, h7⟩, h8, by rw [c6]; exact c7, by rw [c6']; exact c8⟩
theorem entO_ok {ag : Int} {J : Jw} {kd many a b c n : Int} {t : Int → Int} (h : jOk J) (hm : 0 ≤ many) (hn : 0 ≤ n) : jOk (entO ag J kd many a b c t n).2 ∧ J.2.1 ≤ (entO ag J kd many a b c t n).2.2.1 := by
  unfold entO
  split
  · have := jwO_ok (kd := kd) (a := a) (b := b) (c := c) (t := t) h hm hn
    exact ⟨this.1, this.2.1⟩
  · exact ⟨h, Int.le_refl _⟩
theorem entO_i {ag : Int} {J : Jw} {kd many a b c n : Int} {t : Int → Int} : (entO ag J kd many a b c t n).1 = 0 ∨ (entO ag J kd many a b c t n).1 = -10 ∨ (entO ag J kd many a b c t n).1 = -103 := by
  unfold entO jwO
  split
  · split
    · exact Or.inr (Or.inl rfl)
    · split
      · exact Or.inl rfl
      · exact Or.inr (Or.inr rfl)
  · exact Or.inl rfl
section CTRAN2
variable {g : im_g} {d : Nat} {e : im_E} {M : im_M} {K : im_K} {w : Wd} {ag : Int} {t : Int → Int} {n : Int}
theorem c_transactText {i fr' to : Int} {J0 : Ip} {ρ ρ' : Rl} {cp : Int} (h : CW M e w ag) (hag : ag = 0 ∨ ag = 1) (hJo : jOk w.gJr) (hdr : w.gJr.2.2.2.2 = 0) (hW : WFP w.gRw w.gM) (hio : 0 ≤ i ∧ i < 16 → insOk w.gRw w.gM w.gWa (w.gIn i)) (hi : im_i64 i) (hfi : im_i64 fr') (hti : im_i64 to) (hn : 0 ≤ n ∧ n ≤ 16384) (ht : txt (M 1) t n) (k0 : CIr M 328 J0) (k1 : rw6 M 1333 ρ) (k2 : rw6 M 1459 ρ') (k3 : M 931 13 = cp) (hd : 120 ≤ d)
    (hK : ∀ M', (∀ x, 6952 ≤ x → M' x = M x) → CW M' e (trO w ag i fr' to t n J0 ρ ρ' cp).2 ag → im_i32 (trO w ag i fr' to t n J0 ρ ρ' cp).1 → K (.inl (some (vI (trO w ag i fr' to t n J0 ρ ρ' cp).1))) e M') :
    im_T g d 102 0 [some (.ref 0), some (vL i), none, some (vL fr'), none, some (vL to), none, some (vI n), none, none] [] e M K := by
  obtain ⟨⟨t1, t2, t3, t4⟩, ⟨⟨p1, p1', p1''⟩, p2, p3⟩, ⟨b1, b2, b3⟩, ⟨r1, r2⟩, s1, j1, ⟨⟨⟨x1, x2, x3⟩, mNP, mW, mP, mQ, m34, m10, m11⟩, m2⟩, a1⟩ := id h
  unfold trO at hK
  refine k_P_transactText_0 (by omega) ⟨hi, fun i0 i1 => ⟨⟨i0, i1⟩, ?_⟩, fun hh => ?_⟩
  · have hin : 0 ≤ i ∧ i < 16 := ⟨i0, i1⟩
    rw [if_neg (Decidable.not_not.mpr hin)] at hK
    have hiN : ((i.toNat : Nat) : Int) = i := by omega
    obtain ⟨q1, q2⟩ := p3 i.toNat (by omega)
    rw [hiN] at q1 q2
    have hio := hio hin
    generalize hb8 : 2072 + 305 * i.toNat = b8 at q1 q2
    have hbr : 2072 ≤ b8 ∧ b8 + 305 ≤ 6952 := by omega
    have hst : stN e b8 20 := by rw [← hb8]; exact st_inst i.toNat (by omega)
    obtain ⟨⟨f6, f5, f4⟩, ca, cc, cl, cg⟩ := id q2
    refine ⟨b8, q1, hst.1, fun hne => ?_, fun hz => ?_⟩
    · rw [f6] at hne
      rw [if_neg hne] at hK
      obtain ⟨oa, oc, ol, ow, ov, ole⟩ := hio.2 (by have := hio.1; omega)
      refine c_inputsText (I0 := J0) (t := t) (n := n) (b := 1) (nb := 16384) (br := 328) sf_1 (by decide) hn.2 hn.1 hn.2 ht t4 rw_328 (by decide) (Or.inl (by decide)) k0 (by omega) (fun c p hc M1 F1 F1' hI1 hp => ⟨_, rfl, rfl, ?_⟩) (fun J hJ M1 F1 F1' hI1 => ⟨_, rfl, rfl, ?_⟩)
      · rw [hc] at hK
        dsimp only at hK
        obtain ⟨⟨c0, c9⟩, pp0, ppn⟩ := inp_f _ _ _ _ (Int.le_refl _) hn.1 (by omega) hc
        refine c_isFaulty (c := c) (p := p) (by constructor <;> omega) (by constructor <;> omega) (fun _ => hp) (fun M2 G1 G2 G8 G9 => ⟨_, rfl, rfl, by split <;> decide, fun z => ?_, fun _ => ?_⟩)
        · rw [if_neg (by omega)] at z; exact absurd z (by decide)
        · rw [if_neg (by omega)] at G9
          have fr : ∀ x, x ≠ 2 → x ≠ 5 → x ≠ 6 → (x < 328 ∨ 328 + 86 ≤ x) → M2 x = M x := fun x a b c d => (G1 x a).trans (F1 x a b c d)
          refine hK M2 (fun x hx => fr x (by omega) (by omega) (by omega) (by omega)) (h.rd (fun x a b c _ d _ => fr x a b c d) ⟨G8, G9⟩ (cMach_congr ⟨⟨x1, x2, x3⟩, mNP, mW, mP, mQ, m34, m10, m11⟩ (fun x _ _ => fr x (by omega) (by omega) (by omega) (by omega))) ?_) (by decide)
          obtain ⟨_, ⟨w1, g3⟩, ⟨w2, g4⟩, ⟨w3, g5⟩⟩ := m2
          obtain ⟨I', k, g1, g2⟩ := hI1
          exact ⟨⟨I', k, g1, crw_congr g2 (fun x _ _ => G1 x (by omega))⟩, ⟨w1, cn_congr g3 (fr _ (by decide) (by decide) (by decide) (by decide)) (fr _ (by decide) (by decide) (by decide) (by decide))⟩, ⟨w2, cn_congr g4 (fr _ (by decide) (by decide) (by decide) (by decide)) (fr _ (by decide) (by decide) (by decide) (by decide))⟩, ⟨w3, cn_congr g5 (fr _ (by decide) (by decide) (by decide) (by decide)) (fr _ (by decide) (by decide) (by decide) (by decide))⟩⟩
      · rw [hJ] at hK
        dsimp only at hK
        have hJn := inpT_n (J0 := J0) _ _ _ _ (show (0 : Int) ≤ (0, J0.2).1 ∧ (0, J0.2).1 ≤ 40 from ⟨Int.le_refl _, show (0 : Int) ≤ 40 by decide⟩) hJ
        refine c_isFaulty (c := 0) (p := 0) (by decide) (by decide) (fun z => absurd rfl z) (fun M2 G1 G2 G8 G9 => ⟨_, rfl, rfl, by decide, fun _ => ?_, fun z => absurd rfl z⟩)
        rw [if_pos rfl] at G9
        have fr : ∀ x, x ≠ 2 → x ≠ 5 → x ≠ 6 → (x < 328 ∨ 328 + 86 ≤ x) → M2 x = M x := fun x a b c d => (G1 x a).trans (F1 x a b c d)
        have hC2 : CIr M2 328 J := by
          obtain ⟨k, g1, g2⟩ := hI1
          exact ⟨k, g1, crw_congr g2 (fun x _ _ => G1 x (by omega))⟩
        refine c_scopy (a := 666) (p := b8) st_666 hst (cbx_congr x1 (fun x _ _ => fr x (by omega) (by omega) (by omega) (by omega))) (cbx_congr x2 (fun x _ _ => fr x (by omega) (by omega) (by omega) (by omega))) (cbx_congr x3 (fun x _ _ => fr x (by omega) (by omega) (by omega) (by omega))) (cb_congr ca (fun x _ _ => fr x (by omega) (by omega) (by omega) (by omega))) (cb_congr cc (fun x _ _ => fr x (by omega) (by omega) (by omega) (by omega))) (cb_congr cl (fun x _ _ => fr x (by omega) (by omega) (by omega) (by omega))) (by omega) (by omega) (fun M3 H1 H2 H4 H5 d1 d2 d3 => ⟨rfl, rfl, ?_⟩)
        have fr3 : ∀ x, x ≠ 2 → x ≠ 5 → x ≠ 6 → (x < 328 ∨ 328 + 86 ≤ x) → (x < 666 ∨ 925 ≤ x) → M3 x = M x := fun x a b c d i => (H1 x (by omega)).trans (fr x a b c d)
        refine c_bcp bk_1207 (cbx_congr mW (fun x _ _ => fr3 x (by omega) (by omega) (by omega) (by omega) (by omega))) bk_76 (cb_congr b2 (fun x _ _ => fr3 x (by omega) (by omega) (by omega) (by omega) (by omega))) (cb_le b2) (by omega) (by omega) (fun M4 B4 dW => ⟨rfl, rfl, 20, hst.2.2.2.2.1, ?_⟩)
        refine k_Machine_aim_0 st_666.1 hst.2.2.2.2.1 ⟨by decide, rfl, rfl, ?_⟩
        generalize hM5 : im_u (im_u (im_u M4 931 4 ((666 : Nat) : Int)) 931 5 ((b8 + 259 : Nat) : Int)) 931 6 0 = M5
        have e5 : ∀ x, x ≠ 931 → M5 x = M4 x := fun x hx => by rw [← hM5, im_u_ne _ _ _ hx, im_u_ne _ _ _ hx, im_u_ne _ _ _ hx]
        have e5k : ∀ k, k ≠ 4 → k ≠ 5 → k ≠ 6 → M5 931 k = M4 931 k := fun k a b c => by rw [← hM5, im_rdk _ _ _ c, im_rdk _ _ _ b, im_rdk _ _ _ a]
        have e54 : M5 931 4 = ((666 : Nat) : Int) := by rw [← hM5, im_rdk _ _ _ (by decide), im_rdk _ _ _ (by decide), im_rds]
        have e55 : M5 931 5 = ((b8 + 259 : Nat) : Int) := by rw [← hM5, im_rdk _ _ _ (by decide), im_rds]
        have e56 : M5 931 6 = 0 := by rw [← hM5, im_rds]
        clear hM5
        have fr5 : ∀ x, x ≠ 2 → x ≠ 5 → x ≠ 6 → (x < 328 ∨ 328 + 86 ≤ x) → (x < 666 ∨ 925 ≤ x) → x ≠ 931 → (x < 1207 ∨ 1333 ≤ x) → M5 x = M x := fun x a b c d i j k => by rw [e5 x j, B4 x (by omega)]; exact fr3 x a b c d i
        have f931 : ∀ k, k ≠ 4 → k ≠ 5 → k ≠ 6 → M5 931 k = M 931 k := fun k a b c => by rw [e5k k a b c, B4 931 (by omega)]; rw [fr3 931 (by decide) (by decide) (by decide) (by decide) (by decide)]
        have f666 : M5 666 = M3 666 := by rw [e5 666 (by decide), B4 666 (by omega)]
        have hCT : CT M5 e w.gRw w.gM (M 13 10) (w.gIn i).2.2.2.2.2.2 (M 931 10) (M 931 11) 0 (M 931 12) (trS (w.gIn i) w.gWa ρ ρ' cp) 666 (b8 + 259) 20 := by
          refine ⟨⟨⟨e54, e55⟩, ⟨st_666.1, st_666.2.1, st_666.2.2.1, st_666.2.2.2.1, hst.2.2.2.2⟩, Or.inl (by decide), Or.inr (by omega), ⟨cb_congr d1 (fun x _ _ => by rw [e5 x (by omega), B4 x (by omega)]), cb_congr d2 (fun x _ _ => by rw [e5 x (by omega), B4 x (by omega)]), cb_congr d3 (fun x _ _ => by rw [e5 x (by omega), B4 x (by omega)]), cb_congr cg (fun x _ _ => fr5 x (by omega) (by omega) (by omega) (by omega) (by omega) (by omega) (by omega))⟩, ⟨f931 10 (by decide) (by decide) (by decide), f931 11 (by decide) (by decide) (by decide)⟩, m10, m11⟩, CP_congr p1 (fun x _ _ => fr5 x (by omega) (by omega) (by omega) (by omega) (by omega) (by omega) (by omega)), mNP.congr (fr5 932 (by decide) (by decide) (by decide) (by decide) (by decide) (by decide) (by decide)) (fun x _ _ => fr5 x (by omega) (by omega) (by omega) (by omega) (by omega) (by omega) (by omega)), ⟨f931 12 (by decide) (by decide) (by decide), e56, by rw [f931 13 (by decide) (by decide) (by decide)]; exact k3, ?_⟩, cwb_of (cb_congr dW (fun x _ _ => e5 x (by omega))), rw6_congr k1 (fun x _ _ => fr5 x (by omega) (by omega) (by omega) (by omega) (by omega) (by omega) (by omega)), rw6_congr k2 (fun x _ _ => fr5 x (by omega) (by omega) (by omega) (by omega) (by omega) (by omega) (by omega)), ?_, ⟨by decide, Or.inl rfl, Or.inl (by omega)⟩⟩
          · rw [f666, H5, fr b8 (by omega) (by omega) (by omega) (by omega)]; exact f5
          · obtain ⟨v, hv⟩ := m34
            exact ⟨v, cn_congr hv (fr5 _ (by decide) (by decide) (by decide) (by decide) (by decide) (by decide) (by decide)) (fr5 _ (by decide) (by decide) (by decide) (by decide) (by decide) (by decide) (by decide))⟩
        obtain ⟨kk, hk1, hk2⟩ := hC2
        have hk2' : crw M5 328 40 kk J.2.1 J.2.2.1 J.2.2.2.1 J.2.2.2.2.1 J.2.2.2.2.2 := crw_congr hk2 (fun x _ _ => by rw [e5 x (by omega), B4 x (by omega), H1 x (by omega)])
        have hkn : J.1.toNat = kk := by omega
        have h285 : M5 328 5 = ((J.1.toNat : Nat) : Int) := by rw [hkn]; exact hk2'.1
        rw [h285]
        have hl4 : M5 666 4 = (w.gIn i).2.2.1 := by rw [f666, H4, fr b8 (by omega) (by omega) (by omega) (by omega)]; exact f4
        have mach5 : ∀ M6, XU 666 M5 M6 → cMach M6 → CW M6 e ((w.sFc 0).sFp (-1)) ag ∧ (∀ x, 6952 ≤ x → M6 x = M x) := by
          intro M6 X6 hm6
          have fr6 : ∀ x, x ≠ 2 → x ≠ 5 → x ≠ 6 → (x < 328 ∨ 328 + 86 ≤ x) → (x < 666 ∨ 1793 ≤ x) → M6 x = M x := fun x a b c d i => (X6.1 x (by omega) (by omega) (by omega) (by omega) (by omega) (by omega) (by omega)).trans (fr5 x a b c d (by omega) (by omega) (by omega))
          have s2 : M6 2 = M2 2 := by rw [X6.1 2 (by decide) (by decide) (by decide) (by decide) (by decide) (by decide) (by decide), e5 2 (by decide), B4 2 (by omega), H1 2 (by omega)]
          refine ⟨h.rd (fun x a b c _ d i => fr6 x a b c d i) ⟨by rw [s2]; exact G8, by rw [s2]; exact G9⟩ hm6 ?_, fun x hx => fr6 x (by omega) (by omega) (by omega) (by omega) (by omega)⟩
          obtain ⟨_, ⟨w1, g3⟩, ⟨w2, g4⟩, ⟨w3, g5⟩⟩ := m2
          exact ⟨⟨J, kk, hk1, crw_congr hk2' (fun x _ _ => X6.1 x (by omega) (by omega) (by omega) (by omega) (by omega) (by omega) (by omega))⟩, ⟨w1, cn_congr g3 (fr6 _ (by decide) (by decide) (by decide) (by decide) (by decide)) (fr6 _ (by decide) (by decide) (by decide) (by decide) (by decide))⟩, ⟨w2, cn_congr g4 (fr6 _ (by decide) (by decide) (by decide) (by decide) (by decide)) (fr6 _ (by decide) (by decide) (by decide) (by decide) (by decide))⟩, ⟨w3, cn_congr g5 (fr6 _ (by decide) (by decide) (by decide) (by decide) (by decide)) (fr6 _ (by decide) (by decide) (by decide) (by decide) (by decide))⟩⟩
        have hOT : OT (trS (w.gIn i) w.gWa ρ ρ' cp) := ⟨oa, oc, ol, ow⟩
        have hVN : VN w.gRw w.gM (trS (w.gIn i) w.gWa ρ ρ' cp) := ov
        refine c_run (d := d - 1) (br := 328) (nr := 40) (n0 := J.1.toNat) (i0 := 0) (t := J.2.1) (a := J.2.2.1) (b := J.2.2.2.1) (c := J.2.2.2.2.1) (v := J.2.2.2.2.2) hW (by omega) (by omega) ⟨by decide, by decide⟩ rw_328 hCT hOT hVN hl4 ole hfi hti (fun k g0 g1 => ?_) (fun s hs M6 X6 hle C6 O6 V6 => ⟨_, rfl, rfl, by decide, fun z => absurd rfl z, fun _ => ?_⟩) (fun z hz z0 zi M6 st' en' X6 C6 => ⟨_, rfl, rfl, zi, fun _ => ⟨fun _ => ?_, fun z1 => absurd z1 z0⟩, fun z1 => absurd z1 z0⟩)
        · obtain ⟨n1, n2, n3, n4, n5⟩ := hk2'
          have hkN : ((k.toNat : Nat) : Int) = k := by omega
          have q4 := n4 k.toNat (by omega)
          have q3 := n3 k.toNat (by omega)
          have q5 := n5 k.toNat (by omega)
          rw [hkN] at q4 q3 q5
          exact ⟨rw_328, ⟨g0, by omega⟩, ⟨Or.inl (by decide), Or.inl (by decide)⟩, q4, q3, q5⟩
        · have hs : trR w i fr' to J ρ ρ' cp = .inr s := hs
          rw [hs] at hK
          dsimp only at hK
          obtain ⟨W6, fhi⟩ := mach5 M6 X6 C6.mach
          obtain ⟨⟨y1, _, _, _⟩, ⟨_, _, y3⟩, ⟨_, z2, _⟩, ⟨z3, z4⟩, _, yj, ⟨_, _⟩, ya⟩ := id W6
          have e1 : M6 1 = M 1 := by rw [X6.1 1 (by decide) (by decide) (by decide) (by decide) (by decide) (by decide) (by decide)]; exact fr5 1 (by decide) (by decide) (by decide) (by decide) (by decide) (by decide) (by decide)
          obtain ⟨eo1, eo2⟩ := entO_ok (ag := ag) (kd := 6) (many := 3) (a := i) (b := fr') (c := to) (t := t) (n := n) hJo (by decide) hn.1
          have ei := entO_i (ag := ag) (J := w.gJr) (kd := 6) (many := 3) (a := i) (b := fr') (c := to) (t := t) (n := n)
          refine c_enter (ag := ag) (J := w.gJr) (t := t) (kd := 6) (many := 3) (n := n) ya hag yj hJo hdr (by decide) (by decide) (by decide) hn (by rw [e1]; exact ht) hi hfi hti (by omega) (fun M7 F7 j7 => ⟨_, rfl, rfl, by constructor <;> omega, fun hne => ?_, fun heq => ?_⟩)
          · rw [if_pos hne] at hK
            exact hK M7 (fun x hx => by rw [F7 x (by omega) (by omega)]; exact fhi x hx) (W6.jr (fun x hx => F7 x (by omega) (by omega)) j7) (by constructor <;> omega)
          · rw [if_neg (Decidable.not_not.mpr heq)] at hK
            have W7 := W6.jr (fun x hx => F7 x (by omega) (by omega)) j7
            obtain ⟨g1, g2⟩ := y3 i.toNat (by omega)
            have g2 : cInB M6 (2072 + 305 * i.toNat) (w.gIn ((i.toNat : Nat) : Int)) := g2
            rw [hb8, hiN] at g2
            obtain ⟨⟨u6, u5, u4⟩, ua, uc, ul, ug⟩ := g2
            obtain ⟨⟨_, _, _, _, ⟨v1, v2, v3, _⟩, _⟩, _, _, ⟨_, _, _, v5⟩, ⟨vW, _⟩, vP, vQ, _, _⟩ := id C6
            have vW := vW rfl
            have fe : ∀ x, x ≠ 2068 → x ≠ 2069 → M7 x = M6 x := F7
            refine c_scopy (a := b8) (p := 666) hst st_666 ⟨_, cb_congr ua (fun x _ _ => fe x (by omega) (by omega))⟩ ⟨_, cb_congr uc (fun x _ _ => fe x (by omega) (by omega))⟩ ⟨_, cb_congr ul (fun x _ _ => fe x (by omega) (by omega))⟩ (cb_congr v1 (fun x _ _ => fe x (by omega) (by omega))) (cb_congr v2 (fun x _ _ => fe x (by omega) (by omega))) (cb_congr v3 (fun x _ _ => fe x (by omega) (by omega))) (by omega) (by omega) (fun M8 H1 H2 H4 H5 d1 d2 d3 => ⟨rfl, rfl, ?_⟩)
            have W8 := W7.ins (i := i.toNat) (I := trI (w.gIn i) (max fr' (w.gIn i).2.2.1) s) (M' := M8) (by omega) (fun x hx => H1 x (by omega)) (by
              rw [hb8]
              refine ⟨⟨?_, ?_, ?_⟩, d1, d2, d3, cb_congr ug (fun x _ _ => by rw [H1 x (by omega)]; exact fe x (by omega) (by omega))⟩
              · rw [H2 6 (by decide) (by decide), fe b8 (by omega) (by omega)]; exact u6
              · rw [H5, fe 666 (by decide) (by decide)]; exact v5
              · rw [H4, fe 666 (by decide) (by decide)]; exact hle)
            have f8 : ∀ x, x ≠ 2068 → x ≠ 2069 → (x < b8 ∨ b8 + 259 ≤ x) → M8 x = M6 x := fun x a b c => (H1 x c).trans (fe x a b)
            refine c_bcp bk_76 ⟨_, cb_congr z2 (fun x _ _ => f8 x (by omega) (by omega) (by omega))⟩ bk_1207 (cb_congr vW (fun x _ _ => f8 x (by omega) (by omega) (by omega))) (cb_le vW) (by omega) (by omega) (fun M9 B9 dw => ⟨rfl, rfl, ?_⟩)
            have W9 := W8.wa (fun x hx => B9 x (by omega)) dw
            refine c_rcp rw_414 ⟨_, rw6_congr z3 (fun x _ _ => by rw [B9 x (by omega)]; exact f8 x (by omega) (by omega) (by omega))⟩ rw_1333 (rw6_congr vP (fun x _ _ => by rw [B9 x (by omega)]; exact f8 x (by omega) (by omega) (by omega))) (by omega) (by omega) (fun Ma Ba dp => ⟨rfl, rfl, ?_⟩)
            have Wa := W9.py (fun x hx => Ba x (by omega)) dp
            refine c_rcp rw_540 ⟨_, rw6_congr z4 (fun x _ _ => by rw [Ba x (by omega), B9 x (by omega)]; exact f8 x (by omega) (by omega) (by omega))⟩ rw_1459 (rw6_congr vQ (fun x _ _ => by rw [Ba x (by omega), B9 x (by omega)]; exact f8 x (by omega) (by omega) (by omega))) (by omega) (by omega) (fun Mb Bb dq => ⟨rfl, rfl, ?_⟩)
            have Wb := Wa.wr (fun x hx => Bb x (by omega)) dq
            rw [hiN] at Wb
            rw [heq]
            exact hK Mb (fun x hx => by rw [Bb x (by omega), Ba x (by omega), B9 x (by omega), f8 x (by omega) (by omega) (by omega)]; exact fhi x hx) Wb (show im_i32 0 by decide)
        · have hz : trR w i fr' to J ρ ρ' cp = .inl z := hz
          rw [hz] at hK
          dsimp only at hK
          obtain ⟨s', fl', C7⟩ := C6
          obtain ⟨W6, fhi⟩ := mach5 M6 X6 C7.mach
          exact hK M6 fhi W6 zi
    · rw [f6] at hz
      rw [if_pos hz] at hK
      exact hK M (fun _ _ => rfl) h (show im_i32 (-103) by decide)
  · rw [if_pos (by omega)] at hK
    exact hK M (fun _ _ => rfl) h (show im_i32 (-101) by decide)
end CTRAN2
