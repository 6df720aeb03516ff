/-! THE REFERENCE remembers what is steady -/
def stdy (R : Rw) : Nat → Int → Prop
  | 0, _ => False
  | f + 1, n => (lfk (R 0 n) → R 0 n = 34 ∨ R 0 n = 35 ∨ R 0 n = 26 ∨ R 0 n = 27) ∧ (¬ lfk (R 0 n) → stdy R f (R 16 n) ∧ (R 0 n ≠ 7 → R 0 n ≠ 19 → stdy R f (R 17 n)) ∧ (R 0 n = 16 → stdy R f (R 18 n)))
theorem lfv_stdy {R : Rw} {Γ Γ' : Env} {n : Int} (hg : Γ'.2.2.2.1 = Γ.2.2.2.1) (h : R 0 n = 34 ∨ R 0 n = 35 ∨ R 0 n = 26 ∨ R 0 n = 27) : lfv R Γ' n = lfv R Γ n := by
  unfold lfv
  rcases h with h | h | h | h <;> simp [h, hg]
theorem ev_stdy {R : Rw} {Γ Γ' : Env} (hg : Γ'.2.2.2.1 = Γ.2.2.2.1) : ∀ (f : Nat) (n : Int), stdy R f n → ev R Γ' f n = ev R Γ f n := by
  intro f
  induction f with
  | zero => intro n h; exact h.elim
  | succ f ih =>
    intro n h
    show (if lfk (R 0 n) then some (lfv R Γ' n) else (ev R Γ' f (R 16 n)).bind (fun x => if R 0 n = 7 then some (-x) else if R 0 n = 19 then some (1 - x) else if R 0 n = 16 then (if x = 1 then ev R Γ' f (R 17 n) else ev R Γ' f (R 18 n)) else (ev R Γ' f (R 17 n)).bind (fun y => opv (R 0 n) x y))) = (if lfk (R 0 n) then some (lfv R Γ n) else (ev R Γ f (R 16 n)).bind (fun x => if R 0 n = 7 then some (-x) else if R 0 n = 19 then some (1 - x) else if R 0 n = 16 then (if x = 1 then ev R Γ f (R 17 n) else ev R Γ f (R 18 n)) else (ev R Γ f (R 17 n)).bind (fun y => opv (R 0 n) x y)))
    by_cases hl : lfk (R 0 n)
    · rw [if_pos hl, if_pos hl, lfv_stdy hg (h.1 hl)]
    rw [if_neg hl, if_neg hl]
    obtain ⟨h1, h2, h3⟩ := h.2 hl
    rw [ih _ h1]
    congr 1
    funext x
    by_cases c7 : R 0 n = 7
    · rw [if_pos c7, if_pos c7]
    rw [if_neg c7, if_neg c7]
    by_cases c19 : R 0 n = 19
    · rw [if_pos c19, if_pos c19]
    rw [if_neg c19, if_neg c19, ih _ (h2 c7 c19)]
    by_cases c16 : R 0 n = 16
    · rw [if_pos c16, if_pos c16, ih _ (h3 c16)]
    · rw [if_neg c16, if_neg c16]
section RWORK4
variable {g : im_g} {d : Nat} {e : im_E} {K : im_K} {R : Rw} {m T : Int} {Γ : Env}
def VF (L : Int) (M M' : im_M) : Prop := (∀ x, x ≠ 7041 → M' x = M x) ∧ ∀ i, i < L → M' 7041 i = M 7041 i
theorem VF.trans {L L' : Int} {M M1 M2 : im_M} (h : VF L M M1) (h' : VF L' M1 M2) (hl : L ≤ L') : VF L M M2 := ⟨fun x a => (h'.1 x a).trans (h.1 x a), fun i a => (h'.2 i (by omega)).trans (h.2 i a)⟩
theorem VF.u {L : Int} {M M1 : im_M} (h : VF L M M1) {i : Int} (hi : L ≤ i) (v : Int) : VF L M (im_u M1 7041 i v) := ⟨fun x a => (im_u_ne _ _ _ a).trans (h.1 x a), fun j a => (im_rdk _ _ _ (by omega)).trans (h.2 j a)⟩
theorem VF.mk0 {L : Int} {M M' : im_M} (h : VF L M M') (hl : 0 ≤ L) : VF 0 M M' := ⟨h.1, fun i a => h.2 i (by omega)⟩
theorem VF.rf (L : Int) (M : im_M) : VF L M M := ⟨fun _ _ => rfl, fun _ _ => rfl⟩
theorem VF.rp {L : Int} {M M' : im_M} (h : VF L M M') (hP : RP M R m) : RP M' R m := RP_congr hP (by rw [h.1 6952 (by decide)]) (by rw [h.1 6952 (by decide)]) (fun x a b => h.1 x (by omega)) (fun i _ => by rw [h.1 6955 (by decide)])
theorem l_sty (hW : WFP R m) (hd : 1 ≤ d) : ∀ (f : Nat) (n L : Int) (M : im_M), 0 ≤ n → n < m → (vkd (R 0 n) ∨ okd (R 0 n)) → RP M R m → 101 ≤ R 1 n + f → 0 ≤ L → L ≤ 2 * R 1 n → M 7041 L = n →
    (∀ M', stdy R f n → VF L M M' → im_T g d 404 11 [some (.ref 6952), none, some (vI L), some (vI 1), none, none] [] e M' K) →
    (∀ M', VF 0 M M' → K (.inl (some (vI 0))) e M') →
    im_T g d 404 11 [some (.ref 6952), none, some (vI (L + 1)), some (vI 1), none, none] [] e M K := by
  intro f
  induction f with
  | zero =>
    intro n L M n0 n1 _ _ hf
    have := (hW.2.2 n n0 n1).2.2.1
    omega
  | succ f ih =>
    intro n L M n0 n1 hk hP hf L0 L1 hL hKs hKf
    obtain ⟨tr, nv, ⟨D0, D1⟩, _⟩ := hW.2.2 n n0 n1
    have hm := hW.2.1
    obtain ⟨q1, _, _, ⟨q64, q65, q66, _⟩, _⟩ := hP n n0 n1
    have hkn : Wr ((kR (R 0 n) (R 3 n) = 32 ↔ R 0 n = 16) ∧ (kR (R 0 n) (R 3 n) = 23 ↔ R 0 n = 7) ∧ (kR (R 0 n) (R 3 n) = 42 ↔ R 0 n = 19)) := kR_ne (a := R 3 n) hk
    have n32 : Wr (kR (R 0 n) (R 3 n) = 32 ↔ R 0 n = 16) := (kR_ne (a := R 3 n) hk).1
    have n23 : Wr (kR (R 0 n) (R 3 n) = 23 ↔ R 0 n = 7) := (kR_ne (a := R 3 n) hk).2.1
    have n42 : Wr (kR (R 0 n) (R 3 n) = 42 ↔ R 0 n = 19) := (kR_ne (a := R 3 n) hk).2.2
    have hkr : (R 0 n = 34 ∧ kR (R 0 n) (R 3 n) = 20) ∨ (R 0 n = 35 ∧ kR (R 0 n) (R 3 n) = 21) ∨ (6 ≤ R 0 n ∧ R 0 n ≤ 16 ∧ kR (R 0 n) (R 3 n) = R 0 n + 16) ∨ (17 ≤ R 0 n ∧ R 0 n ≤ 27 ∧ kR (R 0 n) (R 3 n) = R 0 n + 23) := by
      rcases hk with h | h
      · have := kR_v (a := R 3 n) h
        unfold vkd at h; omega
      · have := kR_o (a := R 3 n) h
        unfold okd at h; omega
    have hlf : Wr (lfk (R 0 n) → (kR (R 0 n) (R 3 n) = 20 ∨ kR (R 0 n) (R 3 n) = 21 ∨ kR (R 0 n) (R 3 n) = 49 ∨ kR (R 0 n) (R 3 n) = 50) → R 0 n = 34 ∨ R 0 n = 35 ∨ R 0 n = 26 ∨ R 0 n = 27) := fun hl z => by
      unfold lfk at hl
      generalize kR (R 0 n) (R 3 n) = u at *
      generalize R 0 n = k at *
      clear hk
      omega
    replace hkr : Wr ((R 0 n = 34 ∧ kR (R 0 n) (R 3 n) = 20) ∨ (R 0 n = 35 ∧ kR (R 0 n) (R 3 n) = 21) ∨ (6 ≤ R 0 n ∧ R 0 n ≤ 16 ∧ kR (R 0 n) (R 3 n) = R 0 n + 16) ∨ (17 ≤ R 0 n ∧ R 0 n ≤ 27 ∧ kR (R 0 n) (R 3 n) = R 0 n + 23)) := hkr
    replace hk : Wr (vkd (R 0 n) ∨ okd (R 0 n)) := hk
    have hstop : ∀ M' L', VF 0 M M' → 0 ≤ L' → L' < 6000 → im_T g d 404 11 [some (.ref 6952), none, some (vI L'), some (vI 0), none, none] [] e M' K := fun M' L' hv a b => b_isSteady_11 hd ⟨by constructor <;> omega, fun _ => ⟨by decide, fun z => absurd rfl z⟩, fun _ => ⟨by decide, hKf M' hv⟩⟩
    refine b_isSteady_11 hd ?_
    rw [show L + 1 + -1 = L by omega, hL, q1]
    refine ⟨by constructor <;> omega, fun _ => ⟨by decide, fun _ => ⟨by constructor <;> omega, by constructor <;> omega, ?_⟩⟩, fun z => by omega⟩
    refine c_risLeaf hk (fun hl => ⟨_, rfl, rfl, by decide, ⟨fun z => absurd z (by decide), fun _ a1 a2 a3 a4 => hstop M L (VF.rf _ _) L0 (by omega)⟩, fun z => ?_⟩) (fun hl => ⟨_, rfl, rfl, by decide, ⟨fun _ => ?_, fun z => absurd rfl z⟩, fun z => ?_⟩)
    · refine hKs M ⟨fun _ => hlf hl ?_, fun z => absurd hl z⟩ (VF.rf _ _)
      rcases z with z | z | z | z
      · exact Or.inl z.2
      · exact Or.inr (Or.inl z.2.2)
      · exact Or.inr (Or.inr (Or.inl z.2.2.2))
      · exact Or.inr (Or.inr (Or.inr z.2.2.2.2))
    · obtain ⟨⟨k1, k2, k3, k4⟩, k5, k6⟩ := kids_v tr hk hl
      replace hl : Wr (¬ lfk (R 0 n)) := hl
      replace k5 : Wr (R 0 n ≠ 7 → R 0 n ≠ 19 → nx R (n + 1) (R 17 n) ∧ n + 1 < R 17 n ∧ R 17 n < m ∧ R 1 (R 17 n) = R 1 n + 1 ∧ bgn (srt2 (R 0 n)) (R 0 (R 17 n))) := k5
      replace k6 : Wr (R 0 n = 16 → nx R (R 17 n) (R 18 n) ∧ R 17 n < R 18 n ∧ R 18 n < m ∧ R 1 (R 18 n) = R 1 n + 1 ∧ bgn 118 (R 0 (R 18 n))) := k6
      replace k4 : Wr (vkd (R 0 (n + 1)) ∨ okd (R 0 (n + 1))) := bgn_s k4 (srt1_2 _)
      rw [q64, q65, q66, k1]
      refine ⟨fun h23 h42 => ⟨by constructor <;> omega, fun h32 => ?_, fun h32 => ⟨by constructor <;> omega, ?_⟩⟩, fun h => ⟨fun h32 => ?_, fun h32 => ?_⟩⟩
      · have c16 : R 0 n ≠ 16 := fun z => h32 (n32.mpr z)
        have c7 : R 0 n ≠ 7 := fun z => h23 (n23.mpr z)
        have c19 : R 0 n ≠ 19 := fun z => h42 (n42.mpr z)
        obtain ⟨j1, j2, j3, j4, j5⟩ := k5 c7 c19
        replace j5 : Wr (vkd (R 0 (R 17 n)) ∨ okd (R 0 (R 17 n))) := bgn_s j5 (srt2_2 _)
        have hX : VF L M (im_u (im_u M 7041 L (n + 1)) 7041 (L + 1) (R 17 n)) := ((VF.rf L M).u (Int.le_refl _) _).u (by omega) _
        have g1 : im_u (im_u M 7041 L (n + 1)) 7041 (L + 1) (R 17 n) 7041 (L + 1) = R 17 n := im_rds _ _ _ _
        have g0 : im_u (im_u M 7041 L (n + 1)) 7041 (L + 1) (R 17 n) 7041 L = n + 1 := by rw [im_rdk _ _ _ (by omega), im_rds]
        generalize im_u (im_u M 7041 L (n + 1)) 7041 (L + 1) (R 17 n) = M1 at hX g0 g1 ⊢
        refine ih (R 17 n) (L + 1) M1 (by omega) j3 j5 (hX.rp hP) (by omega) (by omega) (by omega) g1 (fun M2 s2 X2 => ?_) (fun M2 X2 => hKf M2 (VF.trans (VF.mk0 hX L0) X2 (Int.le_refl _)))
        have hX2 : VF L M M2 := hX.trans X2 (by omega)
        refine ih (n + 1) L M2 (by omega) k2 k4 (hX2.rp hP) (by omega) L0 (by omega) ((X2.2 L (by omega)).trans g0) (fun M3 s3 X3 => ?_) (fun M3 X3 => hKf M3 (VF.trans (VF.mk0 hX2 L0) X3 (Int.le_refl _)))
        exact hKs M3 ⟨fun z => absurd z hl, fun _ => ⟨by rw [k1]; exact s3, fun _ _ => s2, fun z => absurd z c16⟩⟩ (hX2.trans X3 (Int.le_refl _))
      · have c16 : R 0 n = 16 := n32.mp h32
        obtain ⟨j1, j2, j3, j4, j5⟩ := k5 (by omega) (by omega)
        obtain ⟨i1, i2, i3, i4, i5⟩ := k6 c16
        replace j5 : Wr (vkd (R 0 (R 17 n)) ∨ okd (R 0 (R 17 n))) := bgn_s j5 (srt2_2 _)
        replace i5 : Wr (vkd (R 0 (R 18 n)) ∨ okd (R 0 (R 18 n))) := Or.inl (bgn_v i5)
        have hX : VF L M (im_u (im_u (im_u M 7041 L (n + 1)) 7041 (L + 1) (R 17 n)) 7041 (L + 1 + 1) (R 18 n)) := (((VF.rf L M).u (Int.le_refl _) _).u (by omega) _).u (by omega) _
        have g2 : im_u (im_u (im_u M 7041 L (n + 1)) 7041 (L + 1) (R 17 n)) 7041 (L + 1 + 1) (R 18 n) 7041 (L + 1 + 1) = R 18 n := im_rds _ _ _ _
        have g1 : im_u (im_u (im_u M 7041 L (n + 1)) 7041 (L + 1) (R 17 n)) 7041 (L + 1 + 1) (R 18 n) 7041 (L + 1) = R 17 n := by rw [im_rdk _ _ _ (by omega), im_rds]
        have g0 : im_u (im_u (im_u M 7041 L (n + 1)) 7041 (L + 1) (R 17 n)) 7041 (L + 1 + 1) (R 18 n) 7041 L = n + 1 := by rw [im_rdk _ _ _ (by omega), im_rdk _ _ _ (by omega), im_rds]
        generalize im_u (im_u (im_u M 7041 L (n + 1)) 7041 (L + 1) (R 17 n)) 7041 (L + 1 + 1) (R 18 n) = M1 at hX g0 g1 g2 ⊢
        refine ih (R 18 n) (L + 1 + 1) M1 (by omega) i3 i5 (hX.rp hP) (by omega) (by omega) (by omega) g2 (fun M2 s2 X2 => ?_) (fun M2 X2 => hKf M2 (VF.trans (VF.mk0 hX L0) X2 (Int.le_refl _)))
        have hX2 : VF L M M2 := hX.trans X2 (by omega)
        refine ih (R 17 n) (L + 1) M2 (by omega) j3 j5 (hX2.rp hP) (by omega) (by omega) (by omega) ((X2.2 (L + 1) (by omega)).trans g1) (fun M3 s3 X3 => ?_) (fun M3 X3 => hKf M3 (VF.trans (VF.mk0 hX2 L0) X3 (Int.le_refl _)))
        have hX3 : VF L M M3 := hX2.trans X3 (by omega)
        refine ih (n + 1) L M3 (by omega) k2 k4 (hX3.rp hP) (by omega) L0 (by omega) ((X3.2 L (by omega)).trans ((X2.2 L (by omega)).trans g0)) (fun M4 s4 X4 => ?_) (fun M4 X4 => hKf M4 (VF.trans (VF.mk0 hX3 L0) X4 (Int.le_refl _)))
        exact hKs M4 ⟨fun z => absurd z hl, fun _ => ⟨by rw [k1]; exact s4, fun _ _ => s3, fun _ => s2⟩⟩ (hX3.trans X4 (Int.le_refl _))
      · have h719 : R 0 n = 7 ∨ R 0 n = 19 := by
          rcases h with z | z
          · exact Or.inl (n23.mp z)
          · exact Or.inr (n42.mp z.2)
        have hX : VF L M (im_u M 7041 L (n + 1)) := (VF.rf L M).u (Int.le_refl _) _
        have g0 : im_u M 7041 L (n + 1) 7041 L = n + 1 := im_rds _ _ _ _
        generalize im_u M 7041 L (n + 1) = M1 at hX g0 ⊢
        refine ih (n + 1) L M1 (by omega) k2 k4 (hX.rp hP) (by omega) L0 (by omega) g0 (fun M2 s2 X2 => ?_) (fun M2 X2 => hKf M2 (VF.trans (VF.mk0 hX L0) X2 (Int.le_refl _)))
        exact hKs M2 ⟨fun z => absurd z hl, fun _ => ⟨by rw [k1]; exact s2, fun a b => (by rcases h719 with z | z; exact absurd z a; exact absurd z b), fun z => (by rcases h719 with w | w <;> omega)⟩⟩ (hX.trans X2 (Int.le_refl _))
      · exfalso
        have c16 := n32.mp h32
        rcases h with z | z
        · have := n23.mp z; omega
        · have := n42.mp z.2; omega
    · exfalso
      rcases z with z | z | z | z <;> exact z.1 rfl
theorem c_isSteady {M : im_M} {n : Int} (hW : WFP R m) (n0 : 0 ≤ n) (n1 : n < m) (hk : vkd (R 0 n) ∨ okd (R 0 n)) (hP : RP M R m) (hd : 1 ≤ d)
    (hK1 : stdy R 101 n → ∀ M', (∀ x, x ≠ 7041 → M' x = M x) → K (.inl (some (vI 1))) e M') (hK0 : ∀ M', (∀ x, x ≠ 7041 → M' x = M x) → K (.inl (some (vI 0))) e M') : im_T g d 404 0 [some (.ref 6952), some (vI n), none, none, none, none] [] e M K := by
  have hm := hW.2.1
  have hD := (hW.2.2 n n0 n1).2.2.1
  have hX : VF 0 M (im_u M 7041 0 n) := (VF.rf 0 M).u (Int.le_refl _) _
  refine b_isSteady_0 ⟨by constructor <;> omega, l_sty hW hd 101 n 0 _ n0 n1 hk (hX.rp hP) (by omega) (Int.le_refl _) (by omega) (im_rds _ _ _ _) (fun M' hs X' => ?_) (fun M' X' => hK0 M' (hX.trans X' (Int.le_refl _)).1)⟩
  refine b_isSteady_11 hd ⟨by decide, fun z => absurd z (by decide), fun _ => ⟨by decide, hK1 hs M' (hX.trans X' (Int.le_refl _)).1⟩⟩
end RWORK4
