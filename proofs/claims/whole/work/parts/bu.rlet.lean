section RLET
variable {g : im_g} {d : Nat} {e : im_E} {M : im_M} {K : im_K} {R : Rw} {m : Int} {giv : Bk} {st en lk : Int} {s : TS}
theorem l_insL {k : Nat} {n a r p : Int} {M0 : im_M} (hk : k < 40) (hp : 0 ≤ p ∧ p ≤ k) (hn : 0 ≤ n ∧ n < 5100) (ha : M0 6961 n = a) (hr : im_i32 r) (h93 : M0 6952 93 = k) (hK : ∀ M', (∀ x, x ≠ 6952 → x ≠ 7017 → x ≠ 7018 → M' x = M0 x) → (∀ k, k ≠ 93 → M' 6952 k = M0 6952 k) → M' 6952 93 = (k : Int) + 1 → (∀ M1, sh1 M0 M1 7017 p k → (∀ x, M' 7017 x = if x = p then a else M1 7017 x) → sh1 M0 M1 7018 p k → (∀ x, M' 7018 x = if x = p then r else M1 7018 x) → K (.inl none) e M')) :
    ∀ (z : Nat) (j : Int) (M : im_M), j = p + z → j ≤ k → (∀ x, x ≠ 7017 → x ≠ 7018 → M x = M0 x) → sh1 M0 M 7017 j k → sh1 M0 M 7018 j k → im_T g d 407 107 [some (.ref 6952), some (vI n), some (vI r), some (vI p), some (vI j)] [] e M K := by
  intro z
  induction z with
  | zero =>
    intro j M hj hjk hF h1 h2
    have : j = p := by omega
    subst this
    refine b_stepLet_107 ?_
    rw [hF 6952 (by decide) (by decide), h93, hF 6961 (by decide) (by decide), ha]
    refine ⟨by constructor <;> omega, by constructor <;> omega, fun _ => ⟨by constructor <;> omega, hn, by constructor <;> omega, hr, ?_⟩, fun z => by omega⟩
    refine hK _ (fun x a b c => ?_) (fun k' hk' => ?_) ?_ M h1 (fun x => ?_) h2 (fun x => ?_)
    · rw [im_u_ne _ _ _ c, im_u_ne _ _ _ b, im_u_ne _ _ _ a]; exact hF x b c
    · rw [im_rdn _ _ _ _ (by decide), im_rdn _ _ _ _ (by decide), im_rdk _ _ _ hk', hF 6952 (by decide) (by decide)]
    · rw [im_rdn _ _ _ _ (by decide), im_rdn _ _ _ _ (by decide), im_rds]
    · rw [im_rdn _ _ _ _ (by decide), im_rdx, im_rdn _ _ _ _ (by decide)]
    · rw [im_rdx, im_rdn _ _ _ _ (by decide), im_rdn _ _ _ _ (by decide)]
  | succ z ih =>
    intro j M hj hjk hF h1 h2
    refine b_stepLet_107 ?_
    refine ⟨by constructor <;> omega, by constructor <;> omega, fun z => by omega, fun _ => ⟨by constructor <;> omega, by constructor <;> omega, ?_⟩⟩
    refine ih (j + -1) _ (by omega) (by omega) (fun x a b => by rw [im_u_ne _ _ _ b, im_u_ne _ _ _ a]; exact hF x a b) (sh1_s h1 hjk (fun x => ?_)) (sh1_s h2 hjk (fun x => ?_))
    · rw [im_rdn _ _ _ _ (by decide), im_rdx]
    · rw [im_rdx, im_rdn _ _ _ _ (by decide)]
theorem c_stepLet {e1 : Int} (h : RT M R m giv st en lk s) (hO : OT s) (hW : WFP R m) (n0 : 0 ≤ s.nd) (n1 : s.nd < m) (hk : R 0 s.nd = 4) (hen : ends (R 1) m (s.nd + 1) e1) (h7 : M 6952 7 + 660 * (e1 - (s.nd + 1)) ≤ 1100000) (h7' : M 6952 7 + 1100 ≤ 1100000) (hd : 12 ≤ d)
    (hKl : ev R (s.env giv st en) 101 (s.nd + 1) = none → ∀ M', RZ M M' R m giv lk (-8) → K (.inl none) e M')
    (hKs : ∀ x, ev R (s.env giv st en) 101 (s.nd + 1) = some x → ∀ s', letN R s s.nd x = .inr s' → ∀ M', RX M M' → M' 6952 7 ≤ M 6952 7 + 302 → RT M' R m giv st en lk s' → K (.inl none) e M')
    (hKe : ∀ x, ev R (s.env giv st en) 101 (s.nd + 1) = some x → ∀ z, letN R s s.nd x = .inl z → z < 0 → ∀ M', RZ M M' R m giv lk z → K (.inl none) e M') : im_T g d 407 0 [some (.ref 6952), none, none, none, none] [] e M K := by
  obtain ⟨⟨j0, j1, j2, j3, _⟩, _⟩ := kids_c (hW.2.2 _ n0 n1).1 (Or.inr (Or.inr (Or.inl hk)))
  have hm := hW.2.1
  have h83 : M 6952 83 = s.nd := h.2.2.2.1.1
  obtain ⟨q1, q2, q3, q4, q5, q6⟩ := h.1.row n0 n1 (by omega) (by omega)
  have hvk := j3 (Or.inr hk)
  refine im_rng (j := s.nd) sf_6961 n0 (by show s.nd < 5100; omega) (fun ra => ?_)
  have ra : im_i64 (M 6961 s.nd) := ra
  rw [q1] at ra
  refine b_stepLet_0 (by omega) ?_
  rw [h83, q4, j0]
  replace hvk : Wr (vkd (R 0 (s.nd + 1))) := hvk
  replace j3 : Wr _ := j3
  refine ⟨by constructor <;> omega, c_worked h hW (by omega) j1 (Or.inl hvk) hen h7 (by omega) (fun M4 r x hx X4 t4 C4 v4 _ => ⟨_, rfl, rfl, ?_⟩) (fun hx M4 Z4 => ⟨_, rfl, rfl, ?_⟩)⟩
  · have h101 := C4.2.2.2.1.2.1
    have hv := v4 hvk
    obtain ⟨kk, w1, w2, w3, w4⟩ := id hv
    obtain ⟨p1, p2, p3, p4, p5, p6⟩ := C4.1.row n0 n1 (by omega) (by omega)
    obtain ⟨C5, X5⟩ := C4.setnd (R 17 s.nd)
    have X45 := (RX.wx X4).trans X5
    have hKs := hKs x hx
    have hKe := hKe x hx
    rw [letN_L] at hKs hKe
    unfold letL at hKs hKe
    have e7 : im_u M4 6952 83 (R 17 s.nd) 6952 7 = M4 6952 7 := im_rdk _ _ _ (by decide)
    have e55 : im_u M4 6952 83 (R 17 s.nd) 6955 = M4 6955 := im_u_ne _ _ _ (by decide)
    have hv5 : rnp (im_u M4 6952 83 (R 17 s.nd)) 0 (im_u M4 6952 83 (R 17 s.nd) 6952 7) r x := by rw [e7]; exact rnp_congr hv (fun i _ => by rw [e55]) (Int.le_refl _)
    have hri : im_i32 r := by constructor <;> omega
    have h747 := X4.2.2.2
    rw [h101, p1, p5]
    refine ⟨fun _ => ?_, fun z => absurd z (by decide)⟩
    generalize im_u M4 6952 83 (R 17 s.nd) = M5 at C5 X5 X45 e7 e55 hv5 ⊢
    obtain ⟨b1, b2, b3, b4, b5⟩ := C5.2.1.2.2.1
    have b1 : M5 6952 93 = (s.lts.1 : Int) := b1
    have b2 : s.lts.1 ≤ 40 := b2
    have b3 : s.lts.2.2.1 = z0 := b3
    have hps := ps_ok s.lts (R 4 s.nd) 0
    have hp0 := hps.1
    have hp1 := hps.2.1
    have hps' := hps
    rw [b3] at hps'
    have h101' := C5.2.2.2.1.2.1
    obtain ⟨o1, o2, o3, o4, o5, o6⟩ := C5.1.row n0 n1 (by omega) (by omega)
    have hl : (s.sNd (R 17 s.nd)).lts = s.lts := rfl
    refine c_letAt b1 b2 b4 ra hps' ⟨_, rfl, rfl, ?_⟩
    rw [o1]
    refine c_hasLet b1 b2 b4 ra hps' (by omega) (fun hh => ⟨_, rfl, rfl, by decide, fun z => absurd z (by decide), fun _ => ?_⟩) (fun hh => ⟨_, rfl, rfl, by decide, fun _ => ?_, fun z => absurd rfl z⟩)
    · have hh' : hs2 (s.sNd (R 17 s.nd)).lts (R 4 s.nd) 0 := ⟨hh.1, hh.2.1, by rw [hl, b3]; rfl⟩
      rw [if_pos hh', hl] at hKs hKe
      have hlt := hh.1
      have ei : (((ps s.lts (R 4 s.nd) 0).toNat : Nat) : Int) = ps s.lts (R 4 s.nd) 0 := by omega
      have hvo := b5 (ps s.lts (R 4 s.nd) 0).toNat (by show _ < s.lts.1; omega)
      rw [ei] at hvo
      have hvo : rnp M5 0 (M5 6952 7) (M5 7018 (ps s.lts (R 4 s.nd) 0)) (s.lts.2.2.2 (ps s.lts (R 4 s.nd) 0)) := hvo
      have hvi : im_i32 (M5 7018 (ps s.lts (R 4 s.nd) 0)) := by
        obtain ⟨k2, _, y2, y3, _⟩ := hvo
        constructor <;> omega
      rw [o1]
      refine ⟨by constructor <;> omega, c_rwarn C5 (by decide) ra (by decide) (by decide) hvi (fun _ => hvo) (by omega) (fun s2 hs2' M6 X6 f6 g6 C6 => ⟨rfl, rfl, hri, ?_⟩) (fun hw => ⟨rfl, rfl, hri, ?_⟩)⟩
      · rw [hs2'] at hKs
        dsimp only at hKs
        obtain ⟨_, _, _, l6⟩ := warnO_ok (s := s.sNd (R 17 s.nd)) hO hs2'
        have l6 : s2.lts = s.lts := l6
        have e75 := g6 7 (by decide)
        have e555 : M6 6955 = M5 6955 := f6 6955 (by decide) (by decide)
        have e52 : im_u M6 7018 (ps s.lts (R 4 s.nd) 0) r 6952 = M6 6952 := im_u_ne _ _ _ (by decide)
        have e5x : im_u M6 7018 (ps s.lts (R 4 s.nd) 0) r 6955 = M6 6955 := im_u_ne _ _ _ (by decide)
        have hnew : rb1 (im_u M6 7018 (ps s.lts (R 4 s.nd) 0) r) 93 7017 7018 (bset s.lts (R 4 s.nd) 0 x) (im_u M6 7018 (ps s.lts (R 4 s.nd) 0) r 6952 7) := by
          rw [e52]
          refine ⟨by rw [e52, g6 93 (by decide)]; exact b1, b2, b3, fun i hi => ?_, fun i hi => ?_⟩
          · rw [im_rdn _ _ _ _ (by decide), f6 7017 (by decide) (by decide)]; exact b4 i hi
          · show rnp _ 0 _ _ (im_up s.lts.2.2.2 (ps s.lts (R 4 s.nd) 0) x i)
            rw [im_rdx, e75]
            unfold im_up
            by_cases c : (i : Int) = ps s.lts (R 4 s.nd) 0
            · rw [if_pos c, if_pos c]; exact rnp_congr hv5 (fun j _ => by rw [e5x, e555]) (Int.le_refl _)
            · rw [if_neg c, if_neg c, f6 7018 (by decide) (by decide)]
              exact rnp_congr (b5 i hi) (fun j _ => by rw [e5x, e555]) (Int.le_refl _)
        obtain ⟨C7, X7⟩ := C6.lts (M' := im_u M6 7018 (ps s.lts (R 4 s.nd) 0) r) (fun y a _ b => im_u_ne _ _ _ (by omega)) (fun k _ _ _ => by rw [e52]) (fun i _ => by rw [e5x]) (by rw [e52]; exact Int.le_refl _) (by rw [e52]; exact C6.2.2.2.2.1.2.2) hnew
        exact hKs _ rfl _ ((X45.trans X6).trans X7) (by rw [e52]; omega) C7
      · rw [hw] at hKe
        have Z := C5.rz X45 (-9)
        obtain ⟨z1, z2, z3, z4, z5, z6⟩ := Z
        refine hKe (-9) rfl (by decide) _ ⟨z1.trans ⟨fun y a b c d => im_u_ne _ _ _ (by omega), fun k _ _ _ _ _ _ _ _ _ _ _ _ _ => im_rdn _ _ _ _ (by decide), fun i _ => im_rdn _ _ _ _ (by decide), Int.le_of_eq (im_rdn _ _ _ _ (by decide)).symm⟩, (im_rdn _ _ _ _ (by decide)).trans z2, (im_rdn _ _ _ _ (by decide)).trans z3, by rw [show ∀ w u, im_u (im_u M5 6952 101 (-9)) 7018 w u 6952 8 = im_u M5 6952 101 (-9) 6952 8 from fun w u => im_rdn _ _ _ _ (by decide)]; exact z4, ?_, by rw [show ∀ w u, im_u (im_u M5 6952 101 (-9)) 7018 w u 6952 116 = im_u M5 6952 101 (-9) 6952 116 from fun w u => im_rdn _ _ _ _ (by decide)]; exact z6⟩
        rcases z5 with w | w
        · exact Or.inl w
        · exact Or.inr ⟨w.1, fun Γ hg => KN_congr (w.2 Γ hg) (fun y a b => im_u_ne _ _ _ (by omega))⟩
    · have hh' : ¬ hs2 (s.sNd (R 17 s.nd)).lts (R 4 s.nd) 0 := fun z => hh ⟨z.1, z.2.1, rfl⟩
      rw [if_neg hh', hl] at hKs hKe
      rw [b1]
      refine ⟨fun hc => ?_, fun hc => ?_⟩
      · rw [if_pos (show s.lts.1 < 40 by omega)] at hKs
        refine l_insL (k := s.lts.1) (M0 := M5) (by omega) ⟨hp0, hp1⟩ (by omega) o1 hri b1 (fun M' f1 f2 f3 M1 a1 a2 c1 c2 => ?_) ((s.lts.1 : Int) - ps s.lts (R 4 s.nd) 0).toNat s.lts.1 M5 (by omega) (Int.le_refl _) (fun _ _ _ => rfl) (sh1_0 _ _ _) (sh1_0 _ _ _)
        have f55 : M' 6955 = M5 6955 := f1 6955 (by decide) (by decide) (by decide)
        have f7 := f2 7 (by decide)
        have hA := sh1_f (A := s.lts.2.1) a1 (fun i hi => b4 i hi) ⟨hp0, hp1⟩ a2
        have hnew : rb1 M' 93 7017 7018 (bins s.lts (R 4 s.nd) 0 x) (M' 6952 7) := by
          refine ⟨by rw [f3]; rfl, by show s.lts.1 + 1 ≤ 40; omega, ?_, fun i hi => hA i hi, fun i hi => ?_⟩
          · show insF s.lts.2.2.1 (ps s.lts (R 4 s.nd) 0) 0 = z0
            rw [b3]; exact insF_z0 _
          have hi : i < s.lts.1 + 1 := hi
          show rnp M' 0 (M' 6952 7) (M' 7018 i) (insF s.lts.2.2.2 (ps s.lts (R 4 s.nd) 0) x i)
          rw [c2 i, f7]
          unfold insF
          by_cases d1 : (i : Int) < ps s.lts (R 4 s.nd) 0
          · rw [if_neg (by omega), if_pos d1, c1 i]
            unfold shf
            rw [if_neg (by omega)]
            exact rnp_congr (b5 i (by show i < s.lts.1; omega)) (fun j _ => by rw [f55]) (Int.le_refl _)
          · rw [if_neg d1]
            by_cases d2 : (i : Int) = ps s.lts (R 4 s.nd) 0
            · rw [if_pos d2, if_pos d2]
              exact rnp_congr hv5 (fun j _ => by rw [f55]) (Int.le_refl _)
            · rw [if_neg d2, if_neg d2, c1 i]
              unfold shf
              rw [if_pos (by omega)]
              have := b5 (i - 1) (by show i - 1 < s.lts.1; omega)
              rw [show ((i - 1 : Nat) : Int) = (i : Int) - 1 by omega] at this
              exact rnp_congr this (fun j _ => by rw [f55]) (Int.le_refl _)
        obtain ⟨C7, X7⟩ := C5.lts (M' := M') (fun y a _ b => f1 y a (by omega) (by omega)) (fun k _ _ a => f2 k a) (fun i _ => by rw [f55]) (by omega) (by rw [f2 8 (by decide)]; exact C5.2.2.2.2.1.2.2) hnew
        exact hKs _ rfl M' (X45.trans X7) (by omega) C7
      · rw [if_neg (show ¬ s.lts.1 < 40 by omega)] at hKe
        exact c_refuse h101' (by decide) ⟨rfl, rfl, hKe (-9) rfl (by decide) _ (C5.rz X45 (-9))⟩
  · rw [Z4.2.1]
    exact ⟨fun z => absurd z (by decide), fun _ => hKl hx _ Z4⟩
end RLET
