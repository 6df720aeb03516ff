/-! THE CLASS keeps a contract -/
def glR (R : Rw) (m : Int) (S : Rw) : Rw := fun f i => if i < m then R f i else S f i
theorem glR_lt {R S : Rw} {m i : Int} {f : Nat} (h : i < m) : glR R m S f i = R f i := if_pos h
theorem glR_ge {R S : Rw} {m i : Int} {f : Nat} (h : m ≤ i) : glR R m S f i = S f i := if_neg (by omega)
noncomputable def keO (w : Wd) (ag k : Int) (t : Int → Int) (n w0 : Int) : Int × Wd :=
  if ¬ (0 ≤ k ∧ k < 16) then (-101, w) else if w.gRt k ≠ -1 then (-103, w) else
  match prsT t n w.gM w0 with
  | .inl f => (-1, (w.sFc f.1).sFp f.2)
  | .inr S => if 4000 < S.2.2.1 then (-9, (w.sFc 0).sFp (-1))
    else if (entO ag w.gJr 1 1 k 0 0 t n).1 ≠ 0 then ((entO ag w.gJr 1 1 k 0 0 t n).1, ((w.sFc 0).sFp (-1)).sJr (entO ag w.gJr 1 1 k 0 0 t n).2)
    else (S.2.2.1 - w.gM, ((((((w.sFc 0).sFp (-1)).sJr (entO ag w.gJr 1 1 k 0 0 t n).2).sRt (im_up w.gRt k w.gM)).sRw (glR w.gRw w.gM S.2.1)).sM S.2.2.1).sDe (w.gDe + n + 1))
theorem ends_mono {D D' : Int → Int} {m m' i e : Int} (h : ends D m i e) (hm : m ≤ m') (hD : ∀ j, j < m → D' j = D j) (h0 : m < m' → D' m ≤ D i) (hi : i < m) : ends D' m' i e := by
  obtain ⟨h1, h2, h3, h4⟩ := h
  refine ⟨h1, by omega, fun j a b => by rw [hD i hi, hD j (by omega)]; exact h3 j a b, fun z => ?_⟩
  rw [hD i hi]
  by_cases c : e < m
  · rw [hD e c]; exact h4 c
  · have : e = m := by omega
    rw [this]; exact h0 (by omega)
theorem CP_glue {M M' : im_M} {R S : Rw} {m m' E E' : Int} (h : CP M R m E) (hm : m ≤ m') (hE : E ≤ E') (hE' : E' ≤ 32836) (h21 : ∀ (x : Nat) (i : Int), 14 ≤ x → x ≤ 21 → i < m → M' x i = M x i) (h22 : ∀ j, j < E → M' 22 j = M 22 j) (hd : ∀ i, 0 ≤ i → i < m → 0 ≤ R 1 i) (h9 : ∀ i, 0 ≤ i → i < m → R 0 i = 29 → R 6 i ≤ 4) (hr : m < m' → S 1 m = 0) (hn : ∀ i, m ≤ i → i < m' → rowC M' S E' i ∧ ends (S 1) m' i (M' 15 i)) (hn9 : ∀ i, m ≤ i → i < m' → S 0 i = 29 → S 6 i ≤ 4) : CP M' (glR R m S) m' E' := by
  refine ⟨⟨by have := h.1; omega, hE'⟩, fun i i0 i1 => ?_⟩
  by_cases c : i < m
  · obtain ⟨a, b⟩ := h.2 i i0 c
    refine ⟨rowC_congr (R' := glR R m S) a (fun x x1 x2 => h21 x i x1 x2 c) h22 (fun f _ => glR_lt c) hE (h9 i i0 c), ?_⟩
    rw [h21 15 i (by decide) (by decide) c]
    refine ends_mono b hm (fun j hj => glR_lt hj) (fun z => ?_) c
    rw [glR_ge (Int.le_refl _), hr z]; exact hd i i0 c
  · obtain ⟨a, b⟩ := hn i (by omega) i1
    refine ⟨rowC_congr (R' := glR R m S) a (fun _ _ _ => rfl) (fun _ _ => rfl) (fun f _ => glR_ge (by omega)) (Int.le_refl _) (hn9 i (by omega) i1), ?_⟩
    obtain ⟨e1, e2, e3, e4⟩ := b
    refine ⟨e1, e2, fun j p q => ?_, fun z => ?_⟩
    · rw [glR_ge (by omega), glR_ge (by omega)]; exact e3 j p q
    · rw [glR_ge (by omega), glR_ge (by omega)]; exact e4 z
section CKEEP
variable {g : im_g} {d : Nat} {e : im_E} {M : im_M} {K : im_K} {w : Wd} {ag : Int} {t : Int → Int} {n : Int}
theorem CW.kp {M' : im_M} {c p m de : Int} {R : Rw} (h : CW M e w ag) (hs : ∀ x, x ≠ 2 → x ≠ 5 → x ≠ 6 → (x < 13 ∨ 27 < x) → M' x = M x) (h8 : M' 2 8 = c) (h9 : M' 2 9 = p) (hp : cPool M' R m de) (hw : ∃ v, cn M' 26 v) : CW M' e (((((w.sFc c).sFp p).sRw R).sM m).sDe de) ag := by
  have e1 : ∀ x, x ≠ 2 → x ≠ 5 → x ≠ 6 → (fun x => if x = 2 ∨ x = 5 ∨ x = 6 then M' x else M x : im_M) x = M x := fun x a b c => if_neg (by omega)
  have W1 := h.fa (M' := fun x => if x = 2 ∨ x = 5 ∨ x = 6 then M' x else M x) e1 (c := c) (p := p) h8 h9
  refine W1.nodes (M' := M') (fun x hx => ?_) hp hw
  by_cases c : x = 2 ∨ x = 5 ∨ x = 6
  · exact (if_pos c).symm
  · exact (hs x (by omega) (by omega) (by omega) (by omega)).trans (e1 x (by omega) (by omega) (by omega)).symm
theorem kpw (w : Wd) (c p : Int) : (((((w.sFc c).sFp p).sRw w.gRw).sM w.gM).sDe w.gDe) = (w.sFc c).sFp p := rfl
theorem CW.kp0 {M' : im_M} {c p : Int} (h : CW M e w ag) (hs : ∀ x, x ≠ 2 → x ≠ 5 → x ≠ 6 → (x < 13 ∨ 27 < x) → M' x = M x) (h8 : M' 2 8 = c) (h9 : M' 2 9 = p) (hp : cPool M' w.gRw w.gM w.gDe) (hw : ∃ v, cn M' 26 v) : CW M' e ((w.sFc c).sFp p) ag := by
  have W := h.kp hs h8 h9 hp hw
  rw [kpw] at W
  exact W
theorem prs_f {lo : Int} : ∀ (f : Nat) (a : Int) (S : pS), 0 ≤ a → a ≤ n → (n - a).toNat + 2 ≤ f → (∀ c p, prs t n lo f a S = .inl (c, p) → (0 < c ∧ c ≤ 9) ∧ (0 ≤ p ∧ p ≤ n)) ∧ (∀ S' a', prs t n lo f a S = .inr (S', a') → 0 ≤ a' ∧ a' ≤ n) := by
  intro f
  induction f with
  | zero => intro a S h0 hn hf; omega
  | succ f ih =>
    intro a S h0 hn hf
    have hk := tk_ok (t := t) hn
    have k1 := hk.1
    have k2 := hk.2.1
    rw [prs]
    by_cases c1 : S.1 = []
    · rw [if_pos c1]
      exact ⟨fun c p h => (by cases h), fun S' a' h => (by cases h; exact ⟨h0, hn⟩)⟩
    · rw [if_neg c1]
      by_cases c2 : (tk t n a).2.2.1 < 0
      · rw [if_pos c2]
        have kq := tkn_q hk (by omega)
        exact ⟨fun c p h => (by cases h; exact ⟨⟨by omega, by omega⟩, by omega, k2⟩), fun S' a' h => (by cases h)⟩
      · rw [if_neg c2]
        by_cases c3 : (tk t n a).2.2.1 = 41
        · rw [if_pos c3]
          exact ⟨fun c p h => (by cases h; exact ⟨⟨by decide, by decide⟩, by omega, k2⟩), fun S' a' h => (by cases h)⟩
        · rw [if_neg c3]
          have kq := tkn_q hk c3
          cases hs : stp lo (tk t n a).2.2.1 (tk t n a).2.2.2.1 (tk t n a).2.2.2.2 S with
          | inl c0 =>
            have := stp_c hs
            exact ⟨fun c p h => (by cases h; exact ⟨⟨by omega, by omega⟩, by omega, k2⟩), fun S' a' h => (by cases h)⟩
          | inr S1 => exact ih _ S1 (by omega) kq.2.2.1 (by omega)
theorem prsT_f {w0 c p lo : Int} (hn : 0 ≤ n) (h : prsT t n lo w0 = .inl (c, p)) : (0 < c ∧ c ≤ 9) ∧ (0 ≤ p ∧ p ≤ n) := by
  unfold prsT at h
  obtain ⟨q1, q2⟩ := prs_f (t := t) (n := n) (lo := lo) (n.toNat + 2) 0 (bgS lo w0) (Int.le_refl _) hn (by omega)
  cases hp : prs t n lo (n.toNat + 2) 0 (bgS lo w0) with
  | inl f =>
    rw [hp] at h
    cases h
    exact q1 c p hp
  | inr Sa =>
    obtain ⟨S, a⟩ := Sa
    rw [hp] at h
    dsimp only at h
    obtain ⟨a0, an⟩ := q2 S a hp
    have hk := tk_ok (t := t) an
    have k1 := hk.1
    have k2 := hk.2.1
    by_cases c2 : (tk t n a).2.2.1 < 0
    · rw [if_pos c2] at h
      have kq := tkn_q hk (by omega)
      cases h; exact ⟨⟨by omega, by omega⟩, by omega, k2⟩
    · rw [if_neg c2] at h
      by_cases c3 : (tk t n a).2.2.1 = 41
      · rw [if_pos c3] at h; cases h
      · rw [if_neg c3] at h; cases h; exact ⟨⟨by decide, by decide⟩, by omega, k2⟩
theorem c_keepText {k w0 : Int} (h : CW M e w ag) (hag : ag = 0 ∨ ag = 1) (hJo : jOk w.gJr) (hdr : w.gJr.2.2.2.2 = 0) (hW : WFP w.gRw w.gM) (hm4 : w.gM ≤ 4000) (hde : w.gDe ≤ 16384) (hk : im_i64 k) (hn : 0 ≤ n ∧ n ≤ 16384) (ht : txt (M 1) t n) (hw0 : cn M 26 w0) (hd : 12 ≤ d)
    (hK : ∀ M', (∀ x, 6952 ≤ x → M' x = M x) → CW M' e (keO w ag k t n w0).2 ag → K (.inl (some (vI (keO w ag k t n w0).1))) e M') : im_T g d 36 0 [some (.ref 0), some (vL k), none, some (vI n), none] [] e M K := by
  obtain ⟨⟨_, _, _, t4⟩, ⟨⟨p1, p1', p1''⟩, p2, _⟩, _, _, _, j1, _, a1⟩ := id h
  have ei := entO_i (ag := ag) (J := w.gJr) (kd := 1) (many := 1) (a := k) (b := 0) (c := 0) (t := t) (n := n)
  have hm0 := hW.1
  unfold keO at hK
  refine k_P_keepText_0 (by omega) ⟨hk, fun k0 k1 => ⟨⟨k0, k1⟩, ?_⟩, fun hh => ?_⟩
  · rw [if_neg (Decidable.not_not.mpr ⟨k0, k1⟩)] at hK
    rw [p2 k k0 k1]
    refine ⟨fun heq => ?_, fun hne => ?_⟩
    · rw [if_neg (Decidable.not_not.mpr heq)] at hK
      refine c_parse (t := t) (n := n) (b := 1) (nb := 16384) (lo := w.gM) (dg := M 13 10) (w0 := w0) sf_1 (by decide) (Or.inl (by decide)) hn.2 hn.1 hn.2 ht t4 p1' rfl p1''.1 (by omega) hm0 (by omega) hw0 (by omega) (fun c p hc M1 F1 hp => ⟨_, rfl, rfl, ?_⟩) (fun S hS M1 F1 hQ h7 h50 h5n hrow => ⟨_, rfl, rfl, ?_⟩)
      · rw [hc] at hK
        dsimp only at hK
        obtain ⟨⟨c0, c9⟩, pp0, ppn⟩ := prsT_f hn.1 hc
        obtain ⟨f1, f2, f3, f4, f5, f6⟩ := F1
        refine c_isFaulty (c := c) (p := p) (by constructor <;> omega) (by constructor <;> omega) (fun _ => hp) (fun M2 G1 G2 G8 G9 => ⟨_, rfl, rfl, by split <;> decide, fun z => ?_, fun _ => ?_⟩)
        · rw [if_neg (by omega)] at z; exact absurd z (by decide)
        · rw [if_neg (by omega)] at G9
          have fr : ∀ x, x ≠ 2 → x ≠ 5 → x ≠ 6 → (x < 13 ∨ 27 < x) → M2 x = M x := fun x a b c d => (G1 x a).trans (f1 x a b c (by omega))
          have e13 : M2 13 = M 13 := (G1 13 (by decide)).trans (f1 13 (by decide) (by decide) (by decide) (by decide))
          refine hK M2 (fun x hx => fr x (by omega) (by omega) (by omega) (by omega)) ?_
          have W2 := h.kp0 (M' := M2) fr G8 G9 ?_ ?_
          · exact W2
          · refine ⟨?_, by rw [e13]; exact p1', by rw [e13]; exact p1''⟩
            rw [e13]
            refine ⟨p1.1, fun i i0 i1 => ?_⟩
            obtain ⟨a, b⟩ := p1.2 i i0 i1
            refine ⟨rowC_congr (M' := M2) a (fun x x1 x2 => by rw [G1 x (by omega)]; exact f3 x i x1 x2 i1) (fun j hj => by rw [G1 22 (by decide)]; exact f4 j hj) (fun _ _ => rfl) (Int.le_refl _) (fun z => ((hW.2.2 i i0 i1).2.2.2 z).2), ?_⟩
            rw [G1 15 (by decide), f3 15 i (by decide) (by decide) i1]; exact b
          · obtain ⟨v, hv⟩ := f6 ⟨w0, hw0⟩
            exact ⟨v, cn_congr hv (G1 _ (by decide)) (G1 _ (by decide))⟩
      · rw [hS] at hK
        dsimp only at hK
        obtain ⟨iQ, iE, iN, iT⟩ := prsT_inv hS hn.1 hm0 (by omega)
        have hlt : w.gM ≤ S.2.2.1 := hQ.1.2.1
        have hm5 : S.2.2.1 ≤ 5000 := by have := hQ.1.2.2.1; omega
        have hc29 : ∀ i, w.gM ≤ i → i < S.2.2.1 → S.2.1 0 i = 29 → S.2.1 6 i ≤ 4 := fun i i0 i1 z => by
          have := hQ.2.1 i i0 i1 z
          omega
        obtain ⟨f1, f2, f3, f4, f5, f6⟩ := F1
        refine c_isFaulty (c := 0) (p := 0) (by decide) (by decide) (fun z => absurd rfl z) (fun M2 G1 G2 G8 G9 => ⟨_, rfl, rfl, by decide, fun _ => ?_, fun z => absurd rfl z⟩)
        rw [if_pos rfl] at G9
        have fr : ∀ x, x ≠ 2 → x ≠ 5 → x ≠ 6 → (x < 13 ∨ 27 < x) → M2 x = M x := fun x a b c d => (G1 x a).trans (f1 x a b c (by omega))
        have e13 : M2 13 = M 13 := (G1 13 (by decide)).trans (f1 13 (by decide) (by decide) (by decide) (by decide))
        have e23 : M2 23 = M1 23 := G1 23 (by decide)
        have hold : cPool M2 w.gRw w.gM w.gDe := by
          refine ⟨?_, by rw [e13]; exact p1', by rw [e13]; exact p1''⟩
          rw [e13]
          refine ⟨p1.1, fun i i0 i1 => ?_⟩
          obtain ⟨a, b⟩ := p1.2 i i0 i1
          refine ⟨rowC_congr (M' := M2) a (fun x x1 x2 => by rw [G1 x (by omega)]; exact f3 x i x1 x2 i1) (fun j hj => by rw [G1 22 (by decide)]; exact f4 j hj) (fun _ _ => rfl) (Int.le_refl _) (fun z => ((hW.2.2 i i0 i1).2.2.2 z).2), ?_⟩
          rw [G1 15 (by decide), f3 15 i (by decide) (by decide) i1]; exact b
        have h26 : ∃ v, cn M2 26 v := by
          obtain ⟨v, hv⟩ := f6 ⟨w0, hw0⟩
          exact ⟨v, cn_congr hv (G1 _ (by decide)) (G1 _ (by decide))⟩
        have W2 : CW M2 e ((w.sFc 0).sFp (-1)) ag := h.kp0 fr G8 G9 hold h26
        rw [e13, p1', e23, h7]
        refine ⟨by constructor <;> omega, fun hle => ?_, fun hgt => ?_⟩
        · rw [if_neg (by omega)] at hK
          obtain ⟨_, _, _, _, _, j2, _, a2⟩ := id W2
          refine c_enter (ag := ag) (J := w.gJr) (t := t) (kd := 1) (many := 1) (n := n) a2 hag j2 hJo hdr (by decide) (by decide) (by decide) hn (by rw [fr 1 (by decide) (by decide) (by decide) (by decide)]; exact ht) hk (by decide) (by decide) (by omega) (fun M3 F3 J3 => ⟨_, rfl, rfl, by constructor <;> omega, fun z => ?_, fun z => ?_⟩)
          · rw [if_neg (Decidable.not_not.mpr z)] at hK
            have W3 := W2.jr (fun x hx => F3 x (by omega) (by omega)) J3
            have e3 : ∀ x, x ≠ 2068 → x ≠ 2069 → M3 x = M2 x := F3
            have e13' : M3 13 = M 13 := (e3 13 (by decide) (by decide)).trans e13
            rw [e13', p1']
            generalize hM4 : im_u M3 28 k w.gM = M4
            have e4 : ∀ x, x ≠ 28 → M4 x = M3 x := fun x hx => by rw [← hM4, im_u_ne _ _ _ hx]
            have W4 := W3.rt (M' := M4) e4 (rt := im_up w.gRt k w.gM) (fun i i0 i1 => by
              rw [← hM4, im_rdx]; unfold im_up
              split
              · rfl
              · rw [e3 28 (by decide) (by decide), fr 28 (by decide) (by decide) (by decide) (by decide)]; exact p2 i i0 i1)
            have e13'' : M4 13 = M 13 := (e4 13 (by decide)).trans e13'
            have e23'' : M4 23 = M1 23 := by rw [e4 23 (by decide), e3 23 (by decide) (by decide), e23]
            clear hM4
            refine k_Parser_accept_0 ?_
            rw [e13'', e23'', p1', h7]
            refine ⟨by constructor <;> omega, by constructor <;> omega, rfl, rfl, ?_⟩
            rw [show w.gM + (S.2.2.1 - w.gM) = S.2.2.1 from by omega]
            generalize hM5 : im_u (im_u M4 13 8 S.2.2.1) 13 10 (M 13 10 + M1 23 5) = M5
            have e5 : ∀ x, x ≠ 13 → M5 x = M4 x := fun x hx => by rw [← hM5, im_u_ne _ _ _ hx, im_u_ne _ _ _ hx]
            have e58 : M5 13 8 = S.2.2.1 := by rw [← hM5, im_rdk _ _ _ (by decide), im_rds]
            have e510 : M5 13 10 = M 13 10 + M1 23 5 := by rw [← hM5, im_rds]
            clear hM5
            have g5 : ∀ x, 14 ≤ x → x ≤ 27 → M5 x = M1 x := fun x a b => by rw [e5 x (by omega), e4 x (by omega), e3 x (by omega) (by omega), G1 x (by omega)]
            rw [e5 23 (by decide), e23'', h7]
            have W5 := W4.nodes (M' := M5) (R := glR w.gRw w.gM S.2.1) (m := S.2.2.1) (de := w.gDe + n + 1) (fun x hx => e5 x (by omega)) ⟨?_, e58, by rw [e510]; omega⟩ ?_
            · refine hK M5 (fun x hx => by rw [e5 x (by omega), e4 x (by omega), e3 x (by omega) (by omega)]; exact fr x (by omega) (by omega) (by omega) (by omega)) ?_
              exact W5
            · rw [e510]
              refine CP_glue p1 hlt (by omega) (by omega) (fun x i x1 x2 hi => by rw [g5 x x1 (by omega)]; exact f3 x i x1 x2 hi) (fun j hj => by rw [g5 22 (by decide) (by decide)]; exact f4 j hj) (fun i i0 i1 => (hW.2.2 i i0 i1).2.2.1.1) (fun i i0 i1 z => ((hW.2.2 i i0 i1).2.2.2 z).2) (fun z => (iN.2 z).1) (fun i i0 i1 => ?_) hc29
              · obtain ⟨a, b⟩ := hrow i i0 i1
                refine ⟨rowC_congr (M' := M5) a (fun x x1 x2 => by rw [g5 x x1 (by omega)]) (fun j _ => by rw [g5 22 (by decide) (by decide)]) (fun _ _ => rfl) (Int.le_refl _) (hc29 i i0 i1), ?_⟩
                rw [g5 15 (by decide) (by decide)]; exact b
            · obtain ⟨v, hv⟩ := h26
              exact ⟨v, cn_congr hv (by rw [e5 _ (by decide), e4 _ (by decide), e3 _ (by decide) (by decide)]) (by rw [e5 _ (by decide), e4 _ (by decide), e3 _ (by decide) (by decide)])⟩
          · rw [if_pos z] at hK
            exact hK M3 (fun x hx => by rw [F3 x (by omega) (by omega)]; exact fr x (by omega) (by omega) (by omega) (by omega)) (W2.jr (fun x hx => F3 x (by omega) (by omega)) J3)
        · rw [if_pos (by omega)] at hK
          exact hK M2 (fun x hx => fr x (by omega) (by omega) (by omega) (by omega)) W2
    · rw [if_pos hne] at hK
      exact hK M (fun _ _ => rfl) h
  · rw [if_pos (by omega)] at hK
    exact hK M (fun _ _ => rfl) h
end CKEEP
