/-! THE REFERENCE takes an input -/
/-- the i-th input -/
def IR (M : im_M) (i t a b c v T : Int) : Prop := (0 ≤ i ∧ i < 40) ∧ (t = 28 ∨ t = 29 ∨ t = 30) ∧ M 6979 i = t - 20 ∧ (t ≠ 30 → M 6980 i = a ∧ M 6981 i = b ∧ rnp M 0 T (M 6983 i) v) ∧ (t = 28 → M 6982 i = c)
theorem IR.rx {M M' : im_M} {i t a b c v T : Int} (h : IR M i t a b c v T) (hX : RX M M') (hT : T ≤ M 6952 7) : IR M' i t a b c v T := by
  have e1 := hX.1 6979 (by decide) (by decide) (by decide) (by decide)
  have e2 := hX.1 6980 (by decide) (by decide) (by decide) (by decide)
  have e3 := hX.1 6981 (by decide) (by decide) (by decide) (by decide)
  have e4 := hX.1 6982 (by decide) (by decide) (by decide) (by decide)
  have e5 := hX.1 6983 (by decide) (by decide) (by decide) (by decide)
  unfold IR
  rw [e1, e2, e3, e4, e5]
  exact ⟨h.1, h.2.1, h.2.2.1, fun z => ⟨(h.2.2.2.1 z).1, (h.2.2.2.1 z).2.1, rnp_congr (h.2.2.2.1 z).2.2 (fun j hj => hX.2.2.1 j (by omega)) (Int.le_refl _)⟩, h.2.2.2.2⟩
section RCHO
variable {g : im_g} {d : Nat} {e : im_E} {M : im_M} {K : im_K} {R : Rw} {m : Int} {giv : Bk} {st en lk : Int} {s : TS}
theorem l_insC {k : Nat} {i a b r p : Int} {M0 : im_M} (hk : k < 40) (hp : 0 ≤ p ∧ p ≤ k) (hi : 0 ≤ i ∧ i < 40) (ha : M0 6980 i = a) (hb : M0 6981 i = b) (hr : M0 6983 i = r) (h89 : M0 6952 89 = k) (hK : ∀ M', (∀ x, x ≠ 6952 → x ≠ 7014 → x ≠ 7015 → x ≠ 7016 → M' x = M0 x) → (∀ k, k ≠ 89 → M' 6952 k = M0 6952 k) → M' 6952 89 = (k : Int) + 1 → (∀ M1, sh1 M0 M1 7014 p k → (∀ x, M' 7014 x = if x = p then a else M1 7014 x) → sh1 M0 M1 7015 p k → (∀ x, M' 7015 x = if x = p then b else M1 7015 x) → sh1 M0 M1 7016 p k → (∀ x, M' 7016 x = if x = p then r else M1 7016 x) → K (.inl none) e M')) :
    ∀ (n : Nat) (j : Int) (M : im_M), j = p + n → j ≤ k → (∀ x, x ≠ 7014 → x ≠ 7015 → x ≠ 7016 → M x = M0 x) → sh1 M0 M 7014 j k → sh1 M0 M 7015 j k → sh1 M0 M 7016 j k → im_T g d 412 70 [some (.ref 6952), some (vI i), some (vI p), some (vI j)] [] e M K := by
  intro n
  induction n with
  | zero =>
    intro j M hj hjk hF h1 h2 h3
    have : j = p := by omega
    subst this
    refine b_choose_70 ?_
    rw [hF 6952 (by decide) (by decide) (by decide), h89, hF 6980 (by decide) (by decide) (by decide), hF 6981 (by decide) (by decide) (by decide), hF 6983 (by decide) (by decide) (by decide), ha, hb, hr]
    refine ⟨by constructor <;> omega, by constructor <;> omega, fun _ => ⟨by constructor <;> omega, hi, by constructor <;> omega, ?_⟩, fun z => by omega⟩
    refine hK _ (fun x a b c d => ?_) (fun k' hk' => ?_) ?_ M h1 (fun x => ?_) h2 (fun x => ?_) h3 (fun x => ?_)
    · rw [im_u_ne _ _ _ d, im_u_ne _ _ _ c, im_u_ne _ _ _ b, im_u_ne _ _ _ a]; exact hF x b c d
    · rw [im_rdn _ _ _ _ (by decide), im_rdn _ _ _ _ (by decide), im_rdn _ _ _ _ (by decide), im_rdk _ _ _ hk', hF 6952 (by decide) (by decide) (by decide)]
    · rw [im_rdn _ _ _ _ (by decide), im_rdn _ _ _ _ (by decide), im_rdn _ _ _ _ (by decide), im_rds]
    · rw [im_rdn _ _ _ _ (by decide), im_rdn _ _ _ _ (by decide), im_rdx, im_rdn _ _ _ _ (by decide)]
    · rw [im_rdn _ _ _ _ (by decide), im_rdx, im_rdn _ _ _ _ (by decide), im_rdn _ _ _ _ (by decide)]
    · rw [im_rdx, im_rdn _ _ _ _ (by decide), im_rdn _ _ _ _ (by decide), im_rdn _ _ _ _ (by decide)]
  | succ n ih =>
    intro j M hj hjk hF h1 h2 h3
    refine b_choose_70 ?_
    refine ⟨by constructor <;> omega, by constructor <;> omega, fun z => by omega, fun _ => ⟨by constructor <;> omega, by constructor <;> omega, ?_⟩⟩
    refine ih (j + -1) _ (by omega) (by omega) (fun x a b c => by rw [im_u_ne _ _ _ c, im_u_ne _ _ _ b, im_u_ne _ _ _ a]; exact hF x a b c) (sh1_s h1 hjk (fun x => ?_)) (sh1_s h2 hjk (fun x => ?_)) (sh1_s h3 hjk (fun x => ?_))
    · rw [im_rdn _ _ _ _ (by decide), im_rdn _ _ _ _ (by decide), im_rdx]
    · rw [im_rdn _ _ _ _ (by decide), im_rdx, im_rdn _ _ _ _ (by decide)]
    · rw [im_rdx, im_rdn _ _ _ _ (by decide), im_rdn _ _ _ _ (by decide)]
theorem c_rchoose {i a b c v T : Int} (h : RT M R m giv st en lk s) (hI : IR M i 29 a b c v T) (hT : T ≤ M 6952 7) (hd : 3 ≤ d)
    (hKs : ∀ β, bput s.cho 40 a b v = some β → ∀ M', RX M M' → M' 6952 7 = M 6952 7 → RT M' R m giv st en lk (s.sCho β) → K (.inl none) e M')
    (hKe : bput s.cho 40 a b v = none → ∀ M', RZ M M' R m giv lk (-9) → K (.inl none) e M') : im_T g d 412 0 [some (.ref 6952), some (vI i), none, none] [] e M K := by
  obtain ⟨r1, r2, r3, r4⟩ := h.2.1.2.1
  obtain ⟨⟨i0, i1⟩, _, _, i2, _⟩ := hI
  obtain ⟨n1, n2, hv⟩ := i2 (by decide)
  clear i2
  have hv : rnp M 0 (M 6952 7) (M 6983 i) v := rnp_congr hv (fun _ _ => rfl) hT
  have h101 := h.2.2.2.1.2.1
  refine im_rng (j := i) sf_6980 i0 (by show i < 40; omega) (fun ha => im_rng (j := i) sf_6981 i0 (by show i < 40; omega) (fun hb => ?_))
  have ha : im_i64 (M 6980 i) := ha
  have hb : im_i64 (M 6981 i) := hb
  rw [n1] at ha
  rw [n2] at hb
  have hps := ps_ok s.cho a b
  have hp0 := hps.1
  have hp1 := hps.2.1
  unfold bput at hKs hKe
  refine b_choose_0 (by omega) ?_
  rw [n1, n2]
  refine ⟨⟨i0, i1⟩, c_choiceAt r1 r2 r3 ha hb hps ⟨_, rfl, rfl, ?_⟩⟩
  rw [n1, n2]
  refine c_hasChoice r1 r2 r3 ha hb hps (by omega) (fun hh => ⟨_, rfl, rfl, by decide, fun z => absurd z (by decide), fun _ => ⟨?_, ?_⟩⟩) (fun hh => ⟨_, rfl, rfl, by decide, fun _ => ?_, fun z => absurd rfl z⟩)
  · have := hh.1
    constructor <;> omega
  · have hh' : hs2 s.cho a b := hh
    rw [if_pos hh'] at hKs
    have e52 : im_u M 7016 (ps s.cho a b) (M 6983 i) 6952 = M 6952 := im_u_ne _ _ _ (by decide)
    have e5x : im_u M 7016 (ps s.cho a b) (M 6983 i) 6955 = M 6955 := im_u_ne _ _ _ (by decide)
    have hnew : rb2 (im_u M 7016 (ps s.cho a b) (M 6983 i)) 89 7014 7015 7016 (bset s.cho a b v) (im_u M 7016 (ps s.cho a b) (M 6983 i) 6952 7) := by
      rw [e52]
      refine ⟨by rw [e52]; exact r1, r2, fun q hq => ?_, fun q hq => ?_⟩
      · rw [im_rdn _ _ _ _ (by decide), im_rdn _ _ _ _ (by decide)]; exact r3 q hq
      · show rnp _ 0 _ _ (im_up s.cho.2.2.2 (ps s.cho a b) v q)
        rw [im_rdx]
        unfold im_up
        by_cases w : (q : Int) = ps s.cho a b
        · rw [if_pos w, if_pos w]; exact rnp_congr hv (fun j _ => by rw [e5x]) (Int.le_refl _)
        · rw [if_neg w, if_neg w]
          exact rnp_congr (r4 q hq) (fun j _ => by rw [e5x]) (Int.le_refl _)
    obtain ⟨C7, X7⟩ := h.cho (M' := im_u M 7016 (ps s.cho a b) (M 6983 i)) (fun y a _ b => im_u_ne _ _ _ (by omega)) (fun k _ _ _ => by rw [e52]) (fun i _ => by rw [e5x]) (by rw [e52]; exact Int.le_refl _) (by rw [e52]; exact h.2.2.2.2.1.2.2) hnew
    exact hKs _ rfl _ X7 (by rw [e52]) C7
  · have hh' : ¬ hs2 s.cho a b := hh
    rw [if_neg hh'] at hKs hKe
    rw [r1]
    refine ⟨fun hn => ?_, fun hn => ?_⟩
    · have r2 : s.cho.1 ≤ 40 := r2
      have hn : ¬ (s.cho.1 : Int) = 40 := hn
      rw [if_pos (show s.cho.1 < 40 by omega)] at hKs
      refine l_insC (k := s.cho.1) (M0 := M) (by omega) ⟨hp0, hp1⟩ ⟨i0, i1⟩ n1 n2 rfl r1 (fun M' f1 f2 f3 M1 a1 a2 b1 b2 c1 c2 => ?_) ((s.cho.1 : Int) - ps s.cho a b).toNat s.cho.1 M (by omega) (Int.le_refl _) (fun _ _ _ _ => rfl) (sh1_0 _ _ _) (sh1_0 _ _ _) (sh1_0 _ _ _)
      have e55 : M' 6955 = M 6955 := f1 6955 (by decide) (by decide) (by decide) (by decide)
      have e7 := f2 7 (by decide)
      have hA := sh1_f (A := s.cho.2.1) a1 (fun i hi => (r3 i hi).1) ⟨hp0, hp1⟩ a2
      have hB := sh1_f (A := s.cho.2.2.1) b1 (fun i hi => (r3 i hi).2) ⟨hp0, hp1⟩ b2
      have hnew : rb2 M' 89 7014 7015 7016 (bins s.cho a b v) (M' 6952 7) := by
        refine ⟨by rw [f3]; rfl, by show s.cho.1 + 1 ≤ 40; omega, fun i hi => ⟨hA i hi, hB i hi⟩, fun q hq => ?_⟩
        have hq : q < s.cho.1 + 1 := hq
        show rnp M' 0 (M' 6952 7) (M' 7016 q) (insF s.cho.2.2.2 (ps s.cho a b) v q)
        rw [c2 q, e7]
        unfold insF
        by_cases d1 : (q : Int) < ps s.cho a b
        · rw [if_neg (by omega), if_pos d1, c1 q]
          unfold shf
          rw [if_neg (by omega)]
          exact rnp_congr (r4 q (show q < s.cho.1 by omega)) (fun j _ => by rw [e55]) (Int.le_refl _)
        · rw [if_neg d1]
          by_cases d2 : (q : Int) = ps s.cho a b
          · rw [if_pos d2, if_pos d2]
            exact rnp_congr hv (fun j _ => by rw [e55]) (Int.le_refl _)
          · rw [if_neg d2, if_neg d2, c1 q]
            unfold shf
            rw [if_pos (by omega)]
            have := r4 (q - 1) (show q - 1 < s.cho.1 by omega)
            rw [show ((q - 1 : Nat) : Int) = (q : Int) - 1 by omega] at this
            exact rnp_congr this (fun j _ => by rw [e55]) (Int.le_refl _)
      obtain ⟨C1, X1⟩ := h.cho (M' := M') (fun x a _ b => f1 x a (by omega) (by omega) (by omega)) (fun k _ _ a => f2 k a) (fun i _ => by rw [e55]) (by omega) (by rw [f2 8 (by decide)]; exact h.2.2.2.2.1.2.2) hnew
      exact hKs _ rfl M' X1 e7 C1
    · have hn : (s.cho.1 : Int) = 40 := hn
      rw [if_neg (show ¬ s.cho.1 < 40 by omega)] at hKe
      exact c_refuse h101 (by decide) ⟨rfl, rfl, hKe rfl _ (h.rz (RX.rf M) (-9))⟩
end RCHO
