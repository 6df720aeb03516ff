/-! THE CLASS recovers: all is taken away first -/
def rwW (w : Wd) : Wd := (w.gTp, 0, w.gOb, 0, w.gFc, w.gFp, w.gRw, 0, (fun _ => -1), (fun i => (0, (w.gIn i).2)), (0, w.gPm.2), (0, w.gWa.2), (0, w.gMi.2), (0, w.gPy.2), (0, w.gWr.2), 0, 0, (w.gJr.1, 0, 0, -1, 0))
theorem cbz {M M' : im_M} {b n : Nat} {β : Bk} (h : cb M b n β) (hs : ∀ x, b ≤ x → x < b + 6 + 2 * n → x ≠ b → M' x = M x) (h4 : M' b 4 = 0) : cb M' b n (0, β.2) := by
  obtain ⟨π, ⟨_, _, c3, c4, _⟩, _, d2⟩ := h
  refine ⟨π, ⟨h4, Nat.zero_le _, fun i hi => ⟨(c3 i hi).1, by rw [hs (b + 5) (by omega) (by omega) (by omega)]; exact (c3 i hi).2⟩, c4, fun i hi => absurd hi (Nat.not_lt_zero i)⟩, fun i hi => absurd hi (Nat.not_lt_zero i), ?_⟩
  by_cases hn : 0 < n
  · exact cn_congr d2 (hs (b + 1) (by omega) (by omega) (by omega)) (hs (b + 2) (by omega) (by omega) (by omega))
  · exact cn_congr d2 (hs (b + 1) (by omega) (by omega) (by omega)) (hs (b + 2) (by omega) (by omega) (by omega))
theorem rw6z {M M' : im_M} {b : Nat} {ρ : Rl} (h : rw6 M b ρ) (hs : ∀ x, b ≤ x → x < b + 126 → x ≠ b → M' x = M x) (h5 : M' b 5 = 0) : rw6 M' b (0, ρ.2) := by
  obtain ⟨V, ⟨_, _, c3, _, c5⟩, _⟩ := h
  exact ⟨V, ⟨h5, Nat.zero_le _, fun i hi => by rw [hs (b + 5) (by omega) (by omega) (by omega)]; exact c3 i hi, fun i hi => absurd hi (Nat.not_lt_zero i), fun i hi => cn_congr (c5 i hi) (hs _ (by omega) (by omega) (by omega)) (hs _ (by omega) (by omega) (by omega))⟩, fun i hi => absurd hi (Nat.not_lt_zero i)⟩
section CREC2
variable {g : im_g} {d : Nat} {e : im_E} {M : im_M} {K : im_K} {w : Wd}
/-- what is taken away, and what stays -/
def tkA (M N : im_M) : Prop := (∀ x, x ≠ 0 → x ≠ 7 → x ≠ 13 → x ≠ 28 → x ≠ 30 → x ≠ 76 → x ≠ 202 → x ≠ 414 → x ≠ 540 → x ≠ 1793 → x ≠ 2068 → (∀ i : Nat, i < 16 → x ≠ 2072 + 305 * i) → N x = M x) ∧ (N 0 1 = 0 ∧ N 7 1 = 0 ∧ (N 13 8 = 0 ∧ N 13 10 = 0) ∧ N 30 4 = 0 ∧ N 76 4 = 0 ∧ N 202 4 = 0 ∧ N 414 5 = 0 ∧ N 540 5 = 0 ∧ N 1793 9 = 0) ∧ (N 2068 1 = 0 ∧ N 2068 2 = 0 ∧ N 2068 3 = -1 ∧ N 2068 4 = 0) ∧ (∀ i : Int, 0 ≤ i → i < 16 → N 28 i = -1) ∧ (∀ i : Nat, i < 16 → N (2072 + 305 * i) 6 = 0 ∧ ∀ k, k ≠ 6 → N (2072 + 305 * i) k = M (2072 + 305 * i) k)
theorem l_takeAll {M0 : im_M} (hin : ∀ i : Nat, i < 16 → M0 29 i = ((2072 + 305 * i : Nat) : Int)) (h0 : M0 0 1 = 0 ∧ M0 7 1 = 0 ∧ M0 13 8 = 0 ∧ M0 13 10 = 0) (hd : 1 ≤ d) (hK : ∀ N, tkA M0 N → K (.inl none) e N) : ∀ (j k : Nat) (M : im_M), k + j = 16 → (∀ x, x ≠ 28 → (∀ i : Nat, i < 16 → x ≠ 2072 + 305 * i) → M x = M0 x) → (∀ i : Nat, i < 16 → (i < k → M 28 i = -1 ∧ M (2072 + 305 * i) 6 = 0) ∧ ∀ q, q ≠ 6 → M (2072 + 305 * i) q = M0 (2072 + 305 * i) q) → im_T g d 21 21 [some (.ref 0), some (vI k)] [] e M K := by
  intro j
  induction j with
  | zero =>
    intro k M hk hF hQ
    have : k = 16 := by omega
    subst this
    refine k_P_takeAllAway_21 hd ⟨by decide, fun _ => k_Journal_rewind_0 ⟨rfl, rfl, hK _ ?_⟩, fun z => absurd z (by decide)⟩
    generalize hN : im_u (im_u (im_u (im_u (im_u (im_u (im_u (im_u (im_u (im_u M 30 4 0) 76 4 0) 202 4 0) 414 5 0) 540 5 0) 1793 9 0) 2068 1 0) 2068 2 0) 2068 3 (-1)) 2068 4 0 = N
    have nx : ∀ x, x ≠ 30 → x ≠ 76 → x ≠ 202 → x ≠ 414 → x ≠ 540 → x ≠ 1793 → x ≠ 2068 → N x = M x := fun x a b c d f g' i => by rw [← hN, im_u_ne _ _ _ i, im_u_ne _ _ _ i, im_u_ne _ _ _ i, im_u_ne _ _ _ i, im_u_ne _ _ _ g', im_u_ne _ _ _ f, im_u_ne _ _ _ d, im_u_ne _ _ _ c, im_u_ne _ _ _ b, im_u_ne _ _ _ a]
    have n30 : N 30 4 = 0 := by rw [← hN, im_rdn _ _ _ _ (by decide), im_rdn _ _ _ _ (by decide), im_rdn _ _ _ _ (by decide), im_rdn _ _ _ _ (by decide), im_rdn _ _ _ _ (by decide), im_rdn _ _ _ _ (by decide), im_rdn _ _ _ _ (by decide), im_rdn _ _ _ _ (by decide), im_rdn _ _ _ _ (by decide), im_rds]
    have n76 : N 76 4 = 0 := by rw [← hN, im_rdn _ _ _ _ (by decide), im_rdn _ _ _ _ (by decide), im_rdn _ _ _ _ (by decide), im_rdn _ _ _ _ (by decide), im_rdn _ _ _ _ (by decide), im_rdn _ _ _ _ (by decide), im_rdn _ _ _ _ (by decide), im_rdn _ _ _ _ (by decide), im_rds]
    have n202 : N 202 4 = 0 := by rw [← hN, im_rdn _ _ _ _ (by decide), im_rdn _ _ _ _ (by decide), im_rdn _ _ _ _ (by decide), im_rdn _ _ _ _ (by decide), im_rdn _ _ _ _ (by decide), im_rdn _ _ _ _ (by decide), im_rdn _ _ _ _ (by decide), im_rds]
    have n414 : N 414 5 = 0 := by rw [← hN, im_rdn _ _ _ _ (by decide), im_rdn _ _ _ _ (by decide), im_rdn _ _ _ _ (by decide), im_rdn _ _ _ _ (by decide), im_rdn _ _ _ _ (by decide), im_rdn _ _ _ _ (by decide), im_rds]
    have n540 : N 540 5 = 0 := by rw [← hN, im_rdn _ _ _ _ (by decide), im_rdn _ _ _ _ (by decide), im_rdn _ _ _ _ (by decide), im_rdn _ _ _ _ (by decide), im_rdn _ _ _ _ (by decide), im_rds]
    have n1793 : N 1793 9 = 0 := by rw [← hN, im_rdn _ _ _ _ (by decide), im_rdn _ _ _ _ (by decide), im_rdn _ _ _ _ (by decide), im_rdn _ _ _ _ (by decide), im_rds]
    have nJ : N 2068 1 = 0 ∧ N 2068 2 = 0 ∧ N 2068 3 = -1 ∧ N 2068 4 = 0 := by
      rw [← hN]
      exact ⟨by rw [im_rdk _ _ _ (by decide), im_rdk _ _ _ (by decide), im_rdk _ _ _ (by decide), im_rds], by rw [im_rdk _ _ _ (by decide), im_rdk _ _ _ (by decide), im_rds], by rw [im_rdk _ _ _ (by decide), im_rds], im_rds _ _ _ _⟩
    clear hN
    have e0 : ∀ x, (x = 0 ∨ x = 7 ∨ x = 13) → N x = M0 x := fun x hx => by
      rw [nx x (by omega) (by omega) (by omega) (by omega) (by omega) (by omega) (by omega)]
      exact hF x (by omega) (fun i hi => by omega)
    refine ⟨fun x a0 a7 a13 a28 a30 a76 a202 a414 a540 a1793 a2068 hi => by rw [nx x a30 a76 a202 a414 a540 a1793 a2068]; exact hF x a28 hi, ⟨by rw [e0 0 (by decide)]; exact h0.1, by rw [e0 7 (by decide)]; exact h0.2.1, ⟨by rw [e0 13 (by decide)]; exact h0.2.2.1, by rw [e0 13 (by decide)]; exact h0.2.2.2⟩, n30, n76, n202, n414, n540, n1793⟩, nJ, fun i i0 i1 => ?_, fun i hi => ?_⟩
    · rw [nx 28 (by decide) (by decide) (by decide) (by decide) (by decide) (by decide) (by decide)]
      have := ((hQ i.toNat (by omega)).1 (by omega)).1
      rw [show ((i.toNat : Nat) : Int) = i by omega] at this
      exact this
    · have := hQ i hi
      rw [nx (2072 + 305 * i) (by omega) (by omega) (by omega) (by omega) (by omega) (by omega) (by omega)]
      exact ⟨(this.1 hi).2, this.2⟩
  | succ j ih =>
    intro k M hk hF hQ
    have e29 : M 29 k = ((2072 + 305 * k : Nat) : Int) := by rw [hF 29 (by decide) (fun i hi => by omega)]; exact hin k (by omega)
    refine k_P_takeAllAway_21 hd ⟨by constructor <;> omega, fun z => by omega, fun _ => ⟨⟨by omega, by omega⟩, 2072 + 305 * k, e29, (st_inst k (by omega)).1, ?_⟩⟩
    have := ih (k + 1) (im_u (im_u M 28 k (-1)) (2072 + 305 * k) 6 0) (by omega) (fun x a b => by rw [im_u_ne _ _ _ (b k (by omega)), im_u_ne _ _ _ a]; exact hF x a b) (fun i hi => ⟨fun hik => ?_, fun q hq => ?_⟩)
    · rw [show ((k + 1 : Nat) : Int) = (k : Int) + 1 by omega] at this
      exact this
    · by_cases c : i = k
      · subst c
        exact ⟨by rw [im_rdn _ _ _ _ (by omega), im_rds], im_rds _ _ _ _⟩
      · have hq := (hQ i hi).1 (by omega)
        exact ⟨by rw [im_rdn _ _ _ _ (by omega), im_rdk _ _ _ (by omega)]; exact hq.1, by rw [im_rdn _ _ _ _ (by omega), im_rdn _ _ _ _ (by omega)]; exact hq.2⟩
    · by_cases c : i = k
      · subst c
        rw [im_rdk _ _ _ hq, im_rdn _ _ _ _ (by omega)]; exact (hQ i hi).2 q hq
      · rw [im_rdn _ _ _ _ (by omega), im_rdn _ _ _ _ (by omega)]; exact (hQ i hi).2 q hq
theorem CW.rwnd {M N : im_M} {ag : Int} (h : CW M e w ag) (hA : tkA M N) (h19 : N 0 19 = 1) : CW N e (rwW w) 1 := by
  obtain ⟨ax, ⟨a0, a7, ⟨a13, a13'⟩, a30, a76, a202, a414, a540, a93⟩, ⟨j1, j2, j3, j4⟩, ar, ai⟩ := hA
  obtain ⟨⟨⟨t1, t2, t3⟩, ⟨o1, o2, o3⟩, ⟨f1, f2⟩, kw⟩, ⟨⟨p1, p2, p3⟩, rt, hin⟩, ⟨b1, b2, b3⟩, ⟨r1, r2⟩, ⟨s1, ⟨T, A, B, C, V, s2⟩, s3, s4⟩, ⟨d0, d1⟩, ⟨mach, scr⟩, ag0⟩ := h
  have X : ∀ x, (x < 2068 ∨ x = 2069 ∨ x = 2070 ∨ x = 2071 ∨ 6952 ≤ x) → x ≠ 0 → x ≠ 7 → x ≠ 13 → x ≠ 28 → x ≠ 30 → x ≠ 76 → x ≠ 202 → x ≠ 414 → x ≠ 540 → x ≠ 1793 → N x = M x := fun x hx b0 b7 b13 b28 b30 b76 b202 b414 b540 b1793 => ax x b0 b7 b13 b28 b30 b76 b202 b414 b540 b1793 (by omega) (fun i hi => by omega)
  refine ⟨⟨⟨a0, fun i p q => absurd q (by show ¬ i < (0 : Int); omega), show (0 : Int) ≤ 0 ∧ (0 : Int) ≤ 16384 by decide⟩, ⟨a7, fun i p q => absurd q (by show ¬ i < (0 : Int); omega), show (0 : Int) ≤ 0 ∧ (0 : Int) ≤ 16384 by decide⟩, ⟨by rw [X 2 (by decide) (by decide) (by decide) (by decide) (by decide) (by decide) (by decide) (by decide) (by decide) (by decide) (by decide)]; exact f1, by rw [X 2 (by decide) (by decide) (by decide) (by decide) (by decide) (by decide) (by decide) (by decide) (by decide) (by decide) (by decide)]; exact f2⟩, fun i p q => by rw [X 3 (by decide) (by decide) (by decide) (by decide) (by decide) (by decide) (by decide) (by decide) (by decide) (by decide) (by decide)]; exact kw i p q⟩, ⟨⟨⟨by rw [a13']; decide, fun i p q => absurd q (by show ¬ i < (0 : Int); omega)⟩, a13, by rw [a13']; show (0 : Int) ≤ 0 ∧ (0 : Int) ≤ 0; decide⟩, fun i p q => ar i p q, fun i hi => ?_⟩, ⟨cbz b1 (fun x p q r => X x (by omega) (by omega) (by omega) (by omega) (by omega) r (by omega) (by omega) (by omega) (by omega) (by omega)) a30, cbz b2 (fun x p q r => X x (by omega) (by omega) (by omega) (by omega) (by omega) (by omega) r (by omega) (by omega) (by omega) (by omega)) a76, cbz b3 (fun x p q r => X x (by omega) (by omega) (by omega) (by omega) (by omega) (by omega) (by omega) r (by omega) (by omega) (by omega)) a202⟩, ⟨rw6z r1 (fun x p q r => X x (by omega) (by omega) (by omega) (by omega) (by omega) (by omega) (by omega) (by omega) r (by omega) (by omega)) a414, rw6z r2 (fun x p q r => X x (by omega) (by omega) (by omega) (by omega) (by omega) (by omega) (by omega) (by omega) (by omega) r (by omega)) a540⟩, ⟨a93, ⟨T, A, B, C, V, ?_⟩, ?_, ?_⟩, ⟨by rw [X 2069 (by decide) (by decide) (by decide) (by decide) (by decide) (by decide) (by decide) (by decide) (by decide) (by decide) (by decide)]; exact d0, j1, j2, j3, j4⟩, ⟨?_, ?_⟩, h19⟩
  · obtain ⟨c1, ⟨c2, c3, c4⟩, c5, c6, c7, c8⟩ := hin i hi
    obtain ⟨i1, i2⟩ := ai i hi
    have Y : ∀ x, 2072 + 305 * i < x → x < 2072 + 305 * i + 305 → N x = M x := fun x p q => ax x (by omega) (by omega) (by omega) (by omega) (by omega) (by omega) (by omega) (by omega) (by omega) (by omega) (by omega) (fun i' hi' => by omega)
    refine ⟨by rw [X 29 (by decide) (by decide) (by decide) (by decide) (by decide) (by decide) (by decide) (by decide) (by decide) (by decide) (by decide)]; exact c1, ⟨i1, by rw [i2 5 (by decide)]; exact c3, by rw [i2 4 (by decide)]; exact c4⟩, cb_congr c5 (fun x p q => Y x (by omega) (by omega)), cb_congr c6 (fun x p q => Y x (by omega) (by omega)), cb_congr c7 (fun x p q => Y x (by omega) (by omega)), cb_congr c8 (fun x p q => Y x (by omega) (by omega))⟩
  · rcases s2 with z | ⟨k, z⟩
    · exact Or.inl (crw_congr z (fun x p q => X x (by omega) (by omega) (by omega) (by omega) (by omega) (by omega) (by omega) (by omega) (by omega) (by omega) (by omega)))
    · exact Or.inr ⟨k, crw_congr z (fun x p q => X x (by omega) (by omega) (by omega) (by omega) (by omega) (by omega) (by omega) (by omega) (by omega) (by omega) (by omega))⟩
  · obtain ⟨v, hv⟩ := s3
    exact ⟨v, cn_congr hv (X _ (by decide) (by decide) (by decide) (by decide) (by decide) (by decide) (by decide) (by decide) (by decide) (by decide) (by decide)) (X _ (by decide) (by decide) (by decide) (by decide) (by decide) (by decide) (by decide) (by decide) (by decide) (by decide) (by decide))⟩
  · exact cLv_congr s4 (fun x hx => X x (by omega) (by omega) (by omega) (by omega) (by omega) (by omega) (by omega) (by omega) (by omega) (by omega) (by omega))
  · exact cMach_congr mach (fun x p q => X x (by omega) (by omega) (by omega) (by omega) (by omega) (by omega) (by omega) (by omega) (by omega) (by omega) (by omega))
  · exact cScr_congr scr (fun x hx => X x (by omega) (by omega) (by omega) (by omega) (by omega) (by omega) (by omega) (by omega) (by omega) (by omega) (by omega))
theorem c_P_recover {I : Wd → Prop} (h : CW M e w 0) (hI : RcS I) (hw : I (rwW w)) (hd : 125 ≤ d)
    (hK : ∀ f wE M', reS f (rwW w) wE → (∀ z, 6952 ≤ z → M' z = M z) → CW M' e ((wE.sFc (-1)).sFp (-1)) 0 → K (.inl (some (vI wE.gJr.2.2.1))) e M') : im_T g d 20 0 [some (.ref 0), none, none, none, none, none, none, none, none, none, none] [] e M K := by
  obtain ⟨_, ⟨_, _, hin⟩, _, _, _, _, _, ag0⟩ := id h
  refine k_P_recover_0 (by omega) (k_P_takeAllAway_0 (by omega) (k_Writer_clear_0 ⟨rfl, rfl, k_Pool_clear_0 ⟨rfl, rfl, ?_⟩⟩))
  generalize hB : im_u (im_u (im_u (im_u M 0 1 0) 7 1 0) 13 8 0) 13 10 0 = B
  have bx : ∀ x, x ≠ 0 → x ≠ 7 → x ≠ 13 → B x = M x := fun x a b c => by rw [← hB, im_u_ne _ _ _ c, im_u_ne _ _ _ c, im_u_ne _ _ _ b, im_u_ne _ _ _ a]
  have b0 : B 0 1 = 0 := by rw [← hB, im_rdn _ _ _ _ (by decide), im_rdn _ _ _ _ (by decide), im_rdn _ _ _ _ (by decide), im_rds]
  have b19 : B 0 19 = M 0 19 := by rw [← hB, im_rdn _ _ _ _ (by decide), im_rdn _ _ _ _ (by decide), im_rdn _ _ _ _ (by decide), im_rdk _ _ _ (by decide)]
  have b7 : B 7 1 = 0 := by rw [← hB, im_rdn _ _ _ _ (by decide), im_rdn _ _ _ _ (by decide), im_rds]
  have b8 : B 13 8 = 0 := by rw [← hB, im_rdk _ _ _ (by decide), im_rds]
  have b10 : B 13 10 = 0 := by rw [← hB, im_rds]
  have b13 : ∀ k, k ≠ 8 → k ≠ 10 → B 13 k = M 13 k := fun k a b => by rw [← hB, im_rdk _ _ _ b, im_rdk _ _ _ a, im_rdn _ _ _ _ (by decide), im_rdn _ _ _ _ (by decide)]
  clear hB
  refine l_takeAll (M0 := B) (fun i hi => by rw [bx 29 (by decide) (by decide) (by decide)]; exact (hin i hi).1) ⟨b0, b7, b8, b10⟩ (by omega) (fun N hA => ⟨rfl, rfl, ?_⟩) 16 0 B rfl (fun _ _ _ => rfl) (fun i _ => ⟨fun z => absurd z (Nat.not_lt_zero i), fun _ _ => rfl⟩)
  obtain ⟨ax, a1, a2, ar, ai⟩ := hA
  have hA1 : tkA M (im_u N 0 19 1) := by
    refine ⟨fun x p0 p7 p13 p28 p30 p76 p202 p414 p540 p1793 p2068 pi => by rw [im_u_ne _ _ _ p0, ax x p0 p7 p13 p28 p30 p76 p202 p414 p540 p1793 p2068 pi]; exact bx x p0 p7 p13, ?_, ?_, fun i p q => by rw [im_u_ne _ _ _ (by decide)]; exact ar i p q, fun i hi => ?_⟩
    · obtain ⟨c1, c2, ⟨c3, c4⟩, c5, c6, c7, c8, c9, c10⟩ := a1
      exact ⟨by rw [im_rdk _ _ _ (by decide)]; exact c1, by rw [im_u_ne _ _ _ (by decide)]; exact c2, ⟨by rw [im_u_ne _ _ _ (by decide)]; exact c3, by rw [im_u_ne _ _ _ (by decide)]; exact c4⟩, by rw [im_u_ne _ _ _ (by decide)]; exact c5, by rw [im_u_ne _ _ _ (by decide)]; exact c6, by rw [im_u_ne _ _ _ (by decide)]; exact c7, by rw [im_u_ne _ _ _ (by decide)]; exact c8, by rw [im_u_ne _ _ _ (by decide)]; exact c9, by rw [im_u_ne _ _ _ (by decide)]; exact c10⟩
    · rw [im_u_ne _ _ _ (by decide)]; exact a2
    · rw [im_u_ne _ _ _ (by omega)]
      exact ⟨(ai i hi).1, fun k hk => by rw [(ai i hi).2 k hk, bx _ (by omega) (by omega) (by omega)]⟩
  have W1 : CW (im_u N 0 19 1) e (rwW w) 1 := h.rwnd hA1 (im_rds _ _ _ _)
  have hF : ∀ z, 6952 ≤ z → im_u N 0 19 1 z = M z := fun z hz => hA1.1 z (by omega) (by omega) (by omega) (by omega) (by omega) (by omega) (by omega) (by omega) (by omega) (by omega) (by omega) (fun i hi => by omega)
  obtain ⟨⟨⟨q1, _, _⟩, _⟩, _⟩ := hI _ hw
  refine c_soundLength (W1.jD q1) (by omega) (fun x hx1 hx0 => ⟨_, rfl, rfl, ?_⟩)
  exact l_recC (M0 := M) hI (by omega) 16384 (rwW w) _ x 0 (by show (0 : Int) + ((16384 : Nat) : Int) = 16384; omega) hw W1 hF (Int.le_refl _) (by show 7 * (0 : Int) ≤ 0; omega) hx1 hx0 hK
end CREC2
