/-! THE REFERENCE pays and warns -/
def RZ (M M' : im_M) (R : Rw) (m : Int) (giv : Bk) (lk c : Int) : Prop := RX M M' ∧ M' 6952 101 = c ∧ M' 6952 102 = lk ∧ (M' 6952 8 = 0 ∨ M' 6952 8 = 1) ∧ (lk = 0 ∨ (lk = 1 ∧ ∀ Γ : Env, Γ.2.2.2.1 = giv → KN M' R m Γ)) ∧ (0 ≤ M' 6952 116 ∧ M' 6952 116 ≤ 60)
theorem RT.rz {M0 M : im_M} {R : Rw} {m : Int} {giv : Bk} {st en lk : Int} {s : TS} (h : RT M R m giv st en lk s) (hX : RX M0 M) (c : Int) : RZ M0 (im_u M 6952 101 c) R m giv lk c := by
  obtain ⟨c1, c2, c3, c4, ⟨c15, c16, c17⟩, ⟨c18, c19, c20⟩, c21, c22⟩ := h
  refine ⟨hX.trans ⟨fun x a _ _ _ => im_u_ne _ _ _ a, fun k _ _ _ _ _ _ a _ _ _ _ _ _ => im_rdk _ _ _ a, fun i _ => by rw [im_rdn _ _ _ _ (by decide)], by rw [im_rdk _ _ _ (by decide)]; exact Int.le_refl _⟩, im_rds _ _ _ _, by rw [im_rdk _ _ _ (by decide)]; exact c15, by rw [im_rdk _ _ _ (by decide)]; exact c17, ?_, by rw [im_rdk _ _ _ (by decide)]; exact ⟨c18, c19⟩⟩
  rcases c16 with z | z
  · exact Or.inl z
  · exact Or.inr ⟨z.1, fun Γ hg => KN_env (KN_congr z.2 (fun x a b => im_u_ne _ _ _ (by omega))) hg⟩
def sh1 (M0 M : im_M) (c : Nat) (j k : Int) : Prop := ∀ x, M c x = shf (M0 c) j k x
theorem sh1_0 (M : im_M) (c : Nat) (k : Int) : sh1 M M c k k := fun x => by unfold shf; rw [if_neg (by omega)]
theorem sh1_s {M0 M M' : im_M} {c : Nat} {j k : Int} (h : sh1 M0 M c j k) (hjk : j ≤ k) (hM : ∀ x, M' c x = if x = j then M c (j - 1) else M c x) : sh1 M0 M' c (j - 1) k := fun x => by
  rw [hM x]
  by_cases c1 : x = j
  · rw [if_pos c1, h (j - 1)]
    unfold shf
    rw [if_neg (by omega), if_pos (by omega), c1]
  · rw [if_neg c1, h x]
    unfold shf
    by_cases c2 : j < x ∧ x ≤ k
    · rw [if_pos c2, if_pos (by omega)]
    · rw [if_neg c2, if_neg (by omega)]
theorem sh1_f {M0 M M' : im_M} {c : Nat} {p a : Int} {k : Nat} {A : Int → Int} (h : sh1 M0 M c p k) (hA : ∀ i : Nat, i < k → M0 c i = A i) (hp : 0 ≤ p ∧ p ≤ k) (hM : ∀ x, M' c x = if x = p then a else M c x) : ∀ i : Nat, i < k + 1 → M' c i = insF A p a i := fun i hi => by
  rw [hM i]
  unfold insF
  by_cases c1 : (i : Int) < p
  · rw [if_neg (by omega), if_pos c1, h i]
    unfold shf
    rw [if_neg (by omega)]
    exact hA i (by omega)
  · rw [if_neg c1]
    by_cases c2 : (i : Int) = p
    · rw [if_pos c2, if_pos c2]
    · rw [if_neg c2, if_neg c2, h i]
      unfold shf
      rw [if_pos (by omega)]
      have := hA (i - 1) (by omega)
      rw [show ((i - 1 : Nat) : Int) = (i : Int) - 1 by omega] at this
      exact this
def sr1 (M0 M : im_M) (c : Nat) (p j : Int) : Prop := ∀ x, M c x = shr (M0 c) p j x
theorem sr1_0 (M : im_M) (c : Nat) (p : Int) : sr1 M M c p p := fun x => by unfold shr; rw [if_neg (by omega)]
theorem sr1_s {M0 M M' : im_M} {c : Nat} {p j : Int} (h : sr1 M0 M c p j) (hpj : p ≤ j) (hM : ∀ x, M' c x = if x = j then M c (j + 1) else M c x) : sr1 M0 M' c p (j + 1) := fun x => by
  rw [hM x]
  by_cases c1 : x = j
  · rw [if_pos c1, h (j + 1)]
    unfold shr
    rw [if_neg (by omega), if_pos (by omega), c1]
  · rw [if_neg c1, h x]
    unfold shr
    by_cases c2 : p ≤ x ∧ x < j
    · rw [if_pos c2, if_pos (by omega)]
    · rw [if_neg c2, if_neg (by omega)]
theorem sr1_f {M0 M : im_M} {c : Nat} {p : Int} {k : Nat} {A : Int → Int} (h : sr1 M0 M c p ((k : Int) - 1)) (hA : ∀ i : Nat, i < k → M0 c i = A i) : ∀ i : Nat, i < k - 1 → M c i = remF A p i := fun i hi => by
  rw [h i]
  unfold shr remF
  by_cases c1 : (i : Int) < p
  · rw [if_neg (by omega), if_pos c1]; exact hA i (by omega)
  · rw [if_neg c1, if_pos (by omega)]
    have := hA (i + 1) (by omega)
    rw [show ((i + 1 : Nat) : Int) = (i : Int) + 1 by omega] at this
    exact this
theorem im_rdx (M : im_M) (c : Nat) (j v x : Int) : im_u M c j v c x = if x = j then v else M c x := by
  by_cases h : x = j
  · rw [if_pos h, h, im_rds]
  · rw [if_neg h, im_rdk _ _ _ h]
section RPAY
variable {g : im_g} {d : Nat} {e : im_E} {M : im_M} {K : im_K} {R : Rw} {m : Int} {giv : Bk} {st en lk : Int} {s : TS}
theorem c_refuse {c : Int} (h0 : M 6952 101 = 0) (hc : im_i32 c) (hK : K (.inl none) e (im_u M 6952 101 c)) : im_T g d 368 0 [some (.ref 6952), some (vI c)] [] e M K := by
  refine b_refuse_0 (fun x hx => ?_)
  rw [h0] at hx
  have : x = c := by omega
  rw [this]; exact ⟨hc, hK⟩
/-- frame of sums -/
def SX (M M' : im_M) : Prop := (∀ x, x ≠ 6952 → x ≠ 6955 → M' x = M x) ∧ (∀ k, k ≠ 7 → k ≠ 8 → M' 6952 k = M 6952 k) ∧ (∀ i, i < M 6952 7 → M' 6955 i = M 6955 i) ∧ M 6952 7 ≤ M' 6952 7
theorem c_sum {a b σ va vb : Int} (ha : rnp M 0 (M 6952 7) a va) (hb : rnp M 0 (M 6952 7) b vb) (hσ : σ = 1 ∨ σ = -1) (h101 : M 6952 101 = 0) (h7 : M 6952 7 + 310 ≤ 1100000) (hd : 5 ≤ d)
    (hKs : sm (va + σ * vb) → ∀ M' r, SX M M' → M' 6952 7 ≤ M 6952 7 + 303 → M' 6952 8 = 0 → rnp M' 0 (M' 6952 7) r (va + σ * vb) → K (.inl (some (vI r))) e M')
    (hKe : ¬ sm (va + σ * vb) → ∀ M' r, (0 ≤ r ∧ r ≤ 1100000) → SX M M' → M' 6952 7 ≤ M 6952 7 + 303 → M' 6952 8 = 1 → K (.inl (some (vI r))) e (im_u M' 6952 101 (-8))) : im_T g d 371 0 [some (.ref 6952), some (vI a), some (vI b), some (vI σ), none] [] e M K := by
  obtain ⟨n1, a1, a2, a3, a4⟩ := ha
  obtain ⟨n2, b1, b2, b3, b4⟩ := hb
  have e7 : im_u M 6952 8 0 6952 7 = M 6952 7 := im_rdk _ _ _ (by decide)
  have e55 : im_u M 6952 8 0 6955 = M 6955 := im_u_ne _ _ _ (by decide)
  have e8 : im_u M 6952 8 0 6952 8 = 0 := im_rds _ _ _ _
  refine b_sum_0 (by omega) (c_plus (na := n1) (nb := n2) (va := va) (vb := vb) (by rw [e55]; exact a1) (by rw [e55]; exact b1) a2 b2 (by rw [e7]; exact a3) (by rw [e7]; exact b3) a4 b4 hσ (by rw [e7]; omega) (Or.inl e8) (by omega) (fun M' n' f1 f2 f3 f4 f5 => ⟨_, rfl, rfl, ?_⟩))
  rw [e7] at f1 f2 f4 ⊢
  rw [e8] at f5
  have hsm := rn_small f2
  have hS : SX M M' := ⟨fun x a b => (f1.1 x (fun z => by cases z) b a).trans (im_u_ne _ _ _ a), fun k a b => (f1.2.1 k (by simp [a, b])).trans (im_rdk _ _ _ b), fun i hi => by rw [f1.2.2 i hi, e55], by omega⟩
  have h101' : M' 6952 101 = 0 := (hS.2.1 101 (by decide) (by decide)).trans h101
  by_cases hs : sm (va + σ * vb)
  · have hn : n' ≤ 300 := hsm.mpr hs
    rw [if_pos ⟨rfl, hn⟩] at f5
    exact ⟨fun _ => hKs hs M' _ hS (by omega) f5 ⟨n', f2, by omega, by omega, hn⟩, fun z => absurd f5 z⟩
  · rw [if_neg (fun z => hs (hsm.mp z.2))] at f5
    exact ⟨fun z => by omega, fun _ => c_refuse h101' (by decide) ⟨rfl, rfl, hKe hs M' _ (by omega) hS (by omega) f5⟩⟩
theorem SX.rx {M' : im_M} (h : SX M M') : RX M M' := ⟨fun x a b _ _ => h.1 x a (by omega), fun k a b _ _ _ _ _ _ _ _ _ _ _ => h.2.1 k a b, h.2.2.1, h.2.2.2⟩
theorem SX.rt {M' : im_M} (h : RT M R m giv st en lk s) (hX : SX M M') (h8 : M' 6952 8 = 0 ∨ M' 6952 8 = 1) : RT M' R m giv st en lk s := by
  refine h.wx ⟨fun x a b c => hX.1 x a (by omega), fun k a b _ _ => hX.2.1 k a b, hX.2.2.1, hX.2.2.2⟩ h8 ?_
  obtain ⟨_, _, _, _, ⟨c15, c16, _⟩, _⟩ := h
  rw [hX.2.1 102 (by decide) (by decide), c15]
  rcases c16 with z | z
  · exact Or.inl z
  · exact Or.inr ⟨z.1, KN_congr z.2 (fun x a b => hX.1 x (by omega) (by omega))⟩
/-- a warning -/
theorem c_rwarn {t a b c r v : Int} (h : RT M R m giv st en lk s) (ht : im_i32 t) (ha : im_i64 a) (hb : im_i64 b) (hc : im_i64 c) (hr : im_i32 r) (hv : t ≠ 5 → rnp M 0 (M 6952 7) r v) (hd : 1 ≤ d)
    (hKs : ∀ s', warnO s t a b c v = .inr s' → ∀ M', RX M M' → (∀ x, x ≠ 6952 → (x < 7026 ∨ 7030 < x) → M' x = M x) → (∀ k, k ≠ 110 → M' 6952 k = M 6952 k) → RT M' R m giv st en lk s' → K (.inl none) e M')
    (hKe : warnO s t a b c v = .inl (-9) → K (.inl none) e (im_u M 6952 101 (-9))) (h5 : t = 5 → r = -1 := by intro h; first | (exact absurd h (by decide)) | rfl) : im_T g d 405 0 [some (.ref 6952), some (vI t), some (vL a), none, some (vL b), none, some (vL c), none, some (vI r)] [] e M K := by
  obtain ⟨w1, w2, w3⟩ := h.2.2.2.2.2.2.2
  have h101 := h.2.2.2.1.2.1
  unfold warnO at hKs hKe
  refine b_warn_0 (by omega) ?_
  rw [w1]
  refine ⟨fun hn => ⟨by constructor <;> omega, ht, ha, hb, hc, hr, by constructor <;> omega, ?_⟩, fun hn => ?_⟩
  · rw [if_pos (show s.wrn.1 < 60 by omega)] at hKs
    generalize hM' : im_u (im_u (im_u (im_u (im_u (im_u M 7026 s.wrn.1 t) 7027 s.wrn.1 a) 7028 s.wrn.1 b) 7029 s.wrn.1 c) 7030 s.wrn.1 r) 6952 110 ((s.wrn.1 : Int) + 1) = M'
    have g0 : ∀ x, x ≠ 6952 → (x < 7026 ∨ 7030 < x) → M' x = M x := fun x a b => by rw [← hM', im_u_ne _ _ _ a, im_u_ne _ _ _ (by omega), im_u_ne _ _ _ (by omega), im_u_ne _ _ _ (by omega), im_u_ne _ _ _ (by omega), im_u_ne _ _ _ (by omega)]
    have gf : ∀ k, k ≠ 110 → M' 6952 k = M 6952 k := fun k hk => by rw [← hM', im_rdk _ _ _ hk, im_rdn _ _ _ _ (by decide), im_rdn _ _ _ _ (by decide), im_rdn _ _ _ _ (by decide), im_rdn _ _ _ _ (by decide), im_rdn _ _ _ _ (by decide)]
    have gk : M' 6952 110 = (s.wrn.1 : Int) + 1 := by rw [← hM', im_rds]
    have x1 : ∀ x, M' 7026 x = if x = s.wrn.1 then t else M 7026 x := fun x => by rw [← hM', im_rdn _ _ _ _ (by decide), im_rdn _ _ _ _ (by decide), im_rdn _ _ _ _ (by decide), im_rdn _ _ _ _ (by decide), im_rdn _ _ _ _ (by decide), im_rdx]
    have x2 : ∀ x, M' 7027 x = if x = s.wrn.1 then a else M 7027 x := fun x => by rw [← hM', im_rdn _ _ _ _ (by decide), im_rdn _ _ _ _ (by decide), im_rdn _ _ _ _ (by decide), im_rdn _ _ _ _ (by decide), im_rdx, im_rdn _ _ _ _ (by decide)]
    have x3 : ∀ x, M' 7028 x = if x = s.wrn.1 then b else M 7028 x := fun x => by rw [← hM', im_rdn _ _ _ _ (by decide), im_rdn _ _ _ _ (by decide), im_rdn _ _ _ _ (by decide), im_rdx, im_rdn _ _ _ _ (by decide), im_rdn _ _ _ _ (by decide)]
    have x4 : ∀ x, M' 7029 x = if x = s.wrn.1 then c else M 7029 x := fun x => by rw [← hM', im_rdn _ _ _ _ (by decide), im_rdn _ _ _ _ (by decide), im_rdx, im_rdn _ _ _ _ (by decide), im_rdn _ _ _ _ (by decide), im_rdn _ _ _ _ (by decide)]
    have x5 : ∀ x, M' 7030 x = if x = s.wrn.1 then r else M 7030 x := fun x => by rw [← hM', im_rdn _ _ _ _ (by decide), im_rdx, im_rdn _ _ _ _ (by decide), im_rdn _ _ _ _ (by decide), im_rdn _ _ _ _ (by decide), im_rdn _ _ _ _ (by decide)]
    clear hM'
    have e7 := gf 7 (by decide)
    have e55 : M' 6955 = M 6955 := g0 6955 (by decide) (by decide)
    have hnew : rr5 M' 110 7026 7027 7028 7029 7030 (radd s.wrn t a b c v) (M' 6952 7) := by
      refine ⟨by rw [gk]; rfl, by show s.wrn.1 + 1 ≤ 60; omega, fun i hi => ?_⟩
      have hi : i < s.wrn.1 + 1 := hi
      show (M' 7026 i = im_up s.wrn.2.1 s.wrn.1 t i ∧ M' 7027 i = im_up s.wrn.2.2.1 s.wrn.1 a i ∧ M' 7028 i = im_up s.wrn.2.2.2.1 s.wrn.1 b i ∧ M' 7029 i = im_up s.wrn.2.2.2.2.1 s.wrn.1 c i) ∧ (im_up s.wrn.2.1 s.wrn.1 t i ≠ 5 → rnp M' 0 (M' 6952 7) (M' 7030 i) (im_up s.wrn.2.2.2.2.2 s.wrn.1 v i)) ∧ (im_up s.wrn.2.1 s.wrn.1 t i = 5 → M' 7030 i = -1)
      rw [x1, x2, x3, x4, x5, e7]
      unfold im_up
      by_cases hc' : (i : Int) = s.wrn.1
      · rw [if_pos hc', if_pos hc', if_pos hc', if_pos hc', if_pos hc', if_pos hc', if_pos hc', if_pos hc', if_pos hc', if_pos hc']
        exact ⟨⟨rfl, rfl, rfl, rfl⟩, fun z => rnp_congr (hv z) (fun i _ => by rw [e55]) (Int.le_refl _), h5⟩
      · rw [if_neg hc', if_neg hc', if_neg hc', if_neg hc', if_neg hc', if_neg hc', if_neg hc', if_neg hc', if_neg hc', if_neg hc']
        obtain ⟨y1, y2, y3⟩ := w3 i (by omega)
        exact ⟨y1, fun z => rnp_congr (y2 z) (fun i _ => by rw [e55]) (Int.le_refl _), y3⟩
    obtain ⟨C1, X1⟩ := h.wrn (M' := M') (ρ := radd s.wrn t a b c v) (fun x a _ b => g0 x a b) (fun k _ _ a => gf k a) (fun i _ => by rw [e55]) (by omega) (by rw [gf 8 (by decide)]; exact h.2.2.2.2.1.2.2) hnew
    exact hKs _ rfl M' X1 g0 gf C1
  · rw [if_neg (show ¬ s.wrn.1 < 60 by omega)] at hKe
    exact c_refuse h101 (by decide) ⟨rfl, rfl, hKe rfl⟩
end RPAY
