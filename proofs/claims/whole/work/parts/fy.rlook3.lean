/-! THE REFERENCE's look: whether it may -/
section RLOOKQ
variable {g : im_g} {d : Nat} {e : im_E} {M : im_M} {K : im_K} {w : Wd}
def lkA (k : Int) : Prop := 0 ≤ k ∧ k ≤ 15
def lkB (mask fuel : Int) : Prop := (1 ≤ mask ∧ mask ≤ 31) ∧ (0 ≤ fuel ∧ fuel ≤ 400)
def lkC (w : Wd) (k fr : Int) : Prop := (0 ≤ k ∧ k ≤ 15) ∧ (fr = 0 → (w.gIn k).1 = 1) ∧ (¬ fr = 0 → w.gRt k ≠ -1)
theorem c_lkGrp {k fr b x3 : Int} {B : Prop} {Go : im_M → Prop} (h : RW M w) (hfr : fr = 0 ∨ fr = 1) (hb01 : 0 ≤ k ∧ k < 16 → (w.gIn k).1 = 0 ∨ (w.gIn k).1 = 1) (hx3 : (x3 = 1 ∧ (0 ≤ k ∧ k ≤ 15)) ∨ (x3 = 0 ∧ ¬ (0 ≤ k ∧ k ≤ 15))) (hb : (b = 1 ∧ B) ∨ (b = 0 ∧ ¬ B))
    (hKt : mco 3 w.gJr.2.2.2.2 (lkA k) B (lkC w k fr) ≠ 0 → ∀ M', (∀ z, z < 6952 ∨ 7080 < z → M' z = M z) → RW M' w → M' 6952 0 = mco 3 w.gJr.2.2.2.2 (lkA k) B (lkC w k fr) → K (.inl (some (vI 0))) e M')
    (hGo : w.gJr.2.2.2.2 = 0 → lkA k → B → lkC w k fr → ∀ M', RW M' w → M' 6952 0 = 0 → (∀ z, z ≠ 6952 → M' z = M z) → Go M') :
    (im_i32 x3) ∧ ((((¬ x3 = 0 → (im_i32 fr) ∧ ((fr = 0 → (0 ≤ k ∧ k < 16)) ∧ (¬ fr = 0 → (0 ≤ k ∧ k < 16)))))) ∧ ((((¬ x3 = 0) ∧ (fr = 0) ∧ (¬ (M 6994 k) = 0)) ∨ ((¬ x3 = 0) ∧ (¬ fr = 0) ∧ (¬ (M 6984 k) = 0))) → im_T g (d - 1) 264 0 [some (.ref 6952), some (vI 3), some (vI x3), some (vI b), some (vI 1)] [] e M (im_ri (fun x24 e_ M23 => e = e_ ∧ (im_i32 x24) ∧ ((¬ x24 = 0 → Go M23) ∧ (x24 = 0 → K (.inl (some (vI 0))) e M23))))) ∧ ((((x3 = 0)) ∨ ((¬ x3 = 0) ∧ (fr = 0) ∧ ((M 6994 k) = 0)) ∨ ((¬ x3 = 0) ∧ (¬ fr = 0) ∧ ((M 6984 k) = 0))) → im_T g (d - 1) 264 0 [some (.ref 6952), some (vI 3), some (vI x3), some (vI b), some (vI 0)] [] e M (im_ri (fun x24 e_ M23 => e = e_ ∧ (im_i32 x24) ∧ ((¬ x24 = 0 → Go M23) ∧ (x24 = 0 → K (.inl (some (vI 0))) e M23)))))) := by
  have hin : 0 ≤ k ∧ k ≤ 15 → (M 6994 k = (w.gIn k).1) ∧ (w.gRt k = -1 → M 6984 k = 0) ∧ (w.gRt k ≠ -1 → M 6984 k = 1) := fun hk => by
    obtain ⟨_, ⟨_, r, i⟩, _⟩ := id h
    exact ⟨(i k hk.1 (by omega)).1.1, (r k hk.1 (by omega)).1, fun z => ((r k hk.1 (by omega)).2 z).1⟩
  have site : ∀ c : Int, ((c = 1 ∧ lkC w k fr) ∨ (c = 0 ∧ ¬ lkC w k fr)) → im_T g (d - 1) 264 0 [some (.ref 6952), some (vI 3), some (vI x3), some (vI b), some (vI c)] [] e M (im_ri (fun x24 e_ M23 => e = e_ ∧ (im_i32 x24) ∧ ((¬ x24 = 0 → Go M23) ∧ (x24 = 0 → K (.inl (some (vI 0))) e M23)))) := fun c hc => by
    refine c_mayQ (A := lkA k) (B := B) (C := lkC w k fr) h (by decide) (by decide) hx3 hb hc (fun hne M' W' h0 hx hk => ⟨_, rfl, rfl, by decide, fun z => absurd rfl z, fun _ => hKt hne M' (fun z hz => hx z (by omega)) W' h0⟩) (fun hz hA hB hC M' W' h0 hx hk => ⟨_, rfl, rfl, by decide, fun _ => hGo hz hA hB hC M' W' h0 hx, fun z => absurd z (by decide)⟩)
  refine ⟨by rcases hx3 with z | z <;> rw [z.1] <;> decide, fun hne => ⟨by rcases hfr with z | z <;> rw [z] <;> decide, fun _ => by omega, fun _ => by omega⟩, fun hor => site 1 (Or.inl ⟨rfl, ?_⟩), fun hor => site 0 (Or.inr ⟨rfl, fun hC => ?_⟩)⟩
  · have hk : 0 ≤ k ∧ k ≤ 15 := by omega
    obtain ⟨i1, i2, i3⟩ := hin hk
    refine ⟨hk, fun z => ?_, fun z w => ?_⟩
    · have := hb01 (by omega)
      omega
    · have := i2 w
      omega
  · obtain ⟨hk, c1, c2⟩ := hC
    obtain ⟨i1, i2, i3⟩ := hin hk
    rcases hor with z | z | z
    · omega
    · have := c1 z.2.1
      omega
    · have := i3 (c2 z.2.1)
      omega
theorem c_R_look {k fr mask fuel e0 : Int} {N : Nat} {P : Nat → Pe} {o : Int × Int × (Nat → Pe) × Nat} (h : RW M w) (hW : WFP w.gRw w.gM) (hde : w.gDe ≤ 16384) (hn : ∀ j, 0 ≤ j → j < w.gM → w.gRw 4 j ≤ 9223372036854775807 ∧ w.gRw 5 j ≤ 9223372036854775807 ∧ w.gRw 6 j ≤ 9223372036854775807) (hk : im_i32 k) (hfr : fr = 0 ∨ fr = 1) (hmk : im_i32 mask) (hfu : im_i32 fuel) (hb01 : 0 ≤ k ∧ k < 16 → (w.gIn k).1 = 0 ∨ (w.gIn k).1 = 1) (hrt : 0 ≤ k ∧ k < 16 → w.gRt k = -1 ∨ (0 ≤ w.gRt k ∧ w.gRt k < w.gM)) (hee : 0 ≤ w.gRt k → w.gRt k < w.gM → ∃ x, ends (w.gRw 1) w.gM (w.gRt k) x)
    (hH : lkC w k fr → (¬ fr = 0 → ¬ lks' w.gRw (w.gRt k) (eN w.gRw w.gM (w.gRt k)) w.gPm) → lkH w k fr e0) (hr : w.gJr.2.2.2.2 = 0 → lkA k → lkB mask fuel → lkC w k fr → (¬ fr = 0 → ¬ lks' w.gRw (w.gRt k) (eN w.gRw w.gM (w.gRt k)) w.gPm) → srS w.gRw (lkG w k fr) mask fuel N 0 [(lkL w k fr, ofs w.gRw (lkG w k fr) (lkL w k fr))] P o) (hd : 24 ≤ d)
    (hKt : mco 3 w.gJr.2.2.2.2 (lkA k) (lkB mask fuel) (lkC w k fr) ≠ 0 → ∀ M', (∀ z, z < 6952 ∨ 7080 < z → M' z = M z) → RW M' w → M' 6952 0 = mco 3 w.gJr.2.2.2.2 (lkA k) (lkB mask fuel) (lkC w k fr) → K (.inl (some (vI 0))) e M')
    (hKu : w.gJr.2.2.2.2 = 0 → lkA k → lkB mask fuel → lkC w k fr → ¬ fr = 0 → lks' w.gRw (w.gRt k) (eN w.gRw w.gM (w.gRt k)) w.gPm → ∀ M', (∀ z, z < 6952 ∨ 7080 < z → M' z = M z) → RW M' w → M' 6952 0 = 0 → K (.inl (some (vI (-11)))) e M')
    (hK : w.gJr.2.2.2.2 = 0 → lkA k → lkB mask fuel → lkC w k fr → (¬ fr = 0 → ¬ lks' w.gRw (w.gRt k) (eN w.gRw w.gM (w.gRt k)) w.gPm) → ∀ M', (∀ z, z < 6952 ∨ 7080 < z → M' z = M z) → RW M' (lkW w o) → M' 6952 0 = 0 → K (.inl (some (vI o.1))) e M') :
    im_T g d 428 0 [some (.ref 6952), some (vI k), some (vI fr), some (vI mask), some (vI fuel), none, none] [] e M K := by
  -- the state of an instance is taken
  have goI : w.gJr.2.2.2.2 = 0 → lkA k → lkB mask fuel → lkC w k fr → ∀ N1, RW N1 w → N1 6952 0 = 0 → (∀ z, z ≠ 6952 → N1 z = M z) → fr = 0 → im_T g (d - 1) 361 0 [some (.ref 6952), some (vI k), none] [] e (im_u N1 6952 7 (N1 6952 6)) (im_r0 (fun  e_ M31 => e = e_ ∧ im_T g d 428 146 [some (.ref 6952), none, none, some (vI mask), some (vI fuel), none, some (vI 0)] [] e (im_u (im_u (im_u M31 6952 175 0) 6952 4 0) 6952 102 1) K)) := by
    intro hz hA hB hC N1 W1 h0 hx hf0
    have hk16 : 0 ≤ k ∧ k < 16 := by unfold lkA at hA; omega
    have hl : ¬ fr = 0 → ¬ lks' w.gRw (w.gRt k) (eN w.gRw w.gM (w.gRt k)) w.gPm := fun z => absurd hf0 z
    obtain ⟨_, ⟨⟨q1, q2, q3, q4⟩, _, i⟩, _⟩ := id W1
    obtain ⟨⟨i1, i2, i3⟩, i4, i5, i6, i7, i8⟩ := i k hk16.1 hk16.2
    have u7 : im_u N1 6952 7 (N1 6952 6) 6952 7 = N1 6952 6 := im_rds _ _ _ _
    have ux : ∀ x, x ≠ 6952 → im_u N1 6952 7 (N1 6952 6) x = N1 x := fun x a => im_u_ne _ _ _ a
    have uk : ∀ f, f ≠ 7 → im_u N1 6952 7 (N1 6952 6) 6952 f = N1 6952 f := fun f a => im_rdk _ _ _ a
    have ii : rIn1 (im_u N1 6952 7 (N1 6952 6)) k (w.gIn k) := rIn1_congr ⟨⟨i1, i2, i3⟩, i4, i5, i6, i7, i8⟩ (fun x _ _ => ux x (by omega))
    obtain ⟨⟨_, j2, j3⟩, j4, j5, j6, j7, j8⟩ := ii
    generalize im_u N1 6952 7 (N1 6952 6) = N2 at u7 ux uk j2 j3 j4 j5 j6 j7
    have eL : lkL w k fr = ((w.gIn k).2.1, (w.gIn k).2.2.1, (w.gIn k).2.2.2.1, (w.gIn k).2.2.2.2.1, (w.gIn k).2.2.2.2.2.1) := if_pos hf0
    have eG : lkG w k fr = (w.gIn k).2.2.2.2.2.2 := if_pos hf0
    refine c_rtakeState hk16 j4 j5 j6 j7 j8 (by rw [u7]; exact q3.1) (by rw [u7]; omega) (by omega) (fun N3 G3 a83 a84 b1 b2 b3 b4 => ⟨rfl, rfl, ?_⟩)
    obtain ⟨G1, G2, G4, G5⟩ := G3
    rw [u7] at G4 G5
    refine c_rlkGo (k := k) (fr := fr) (M0 := N1) W1 hW hde hn hB.2 (hH hC hl) (hr hz hA hB hC hl) (by omega) (fun x a b c => (G1 x a b c).trans (ux x a)) (fun f a b c d i j q => (G2 f a b c d i j q).trans (uk f a)) (fun i hi => by rw [G4 i hi, ux 6955 (by decide)]) ⟨G5.1, by omega⟩ ?_ ?_ ?_ ?_ ?_ (by rw [eG]; exact j8) h0 (fun M' f W c => hK hz hA hB hC hl M' (fun z hz => (f z hz).trans (hx z (by omega))) W c)
    · rw [eL]
      exact ⟨a83.trans j2, a84.trans j3⟩
    · rw [eL]; exact b1
    · rw [eL]; exact b2
    · rw [eL]; exact b3
    · rw [eG]; exact b4
  have goF : w.gJr.2.2.2.2 = 0 → lkA k → lkB mask fuel → lkC w k fr → ∀ N1, RW N1 w → N1 6952 0 = 0 → (∀ z, z ≠ 6952 → N1 z = M z) → ¬ fr = 0 → im_T g (d - 1) 344 0 [some (.ref 6952), some (vI k), none, none, none, none] [] e (im_u N1 6952 7 (N1 6952 6)) (im_ri (fun x36 e_ M35 => e = e_ ∧ (im_i32 x36) ∧ ((¬ x36 = 0 → ((fr = 0 → im_T g (d - 1) 361 0 [some (.ref 6952), some (vI k), none] [] e M35 (im_r0 (fun  e_ M40 => e = e_ ∧ im_T g d 428 146 [some (.ref 6952), none, none, some (vI mask), some (vI fuel), none, some (vI 0)] [] e (im_u (im_u (im_u M40 6952 175 0) 6952 4 0) 6952 102 1) K))) ∧ (¬ fr = 0 → im_T g (d - 1) 429 0 [some (.ref 6952), some (vI k), none] [] e M35 (im_r0 (fun  e_ M42 => e = e_ ∧ im_T g d 428 146 [some (.ref 6952), none, none, some (vI mask), some (vI fuel), none, some (vI 0)] [] e (im_u (im_u (im_u M42 6952 175 0) 6952 4 0) 6952 102 1) K))))) ∧ (x36 = 0 → K (.inl (some (vI (-11)))) e M35)))) := by
    intro hz hA hB hC N1 W1 h0 hx hf0
    have hk16 : 0 ≤ k ∧ k < 16 := by unfold lkA at hA; omega
    obtain ⟨_, ⟨⟨q1, q2, q3, q4⟩, r, i⟩, ⟨pm, _, _⟩, _, _, _, ⟨s8, s116, s99, s100⟩⟩ := id W1
    have hne : w.gRt k ≠ -1 := hC.2.2 hf0
    obtain ⟨r0, r1⟩ : 0 ≤ w.gRt k ∧ w.gRt k < w.gM := by rcases hrt hk16 with z | z; exact absurd z hne; exact z
    obtain ⟨_, r3, r4⟩ := (r k hk16.1 hk16.2).2 hne
    obtain ⟨ee, hee⟩ := hee r0 r1
    have hen := eN_eq hee
    rw [hen] at r4
    have hb1 := hee.1
    have hb2 := hee.2.1
    have u7 : im_u N1 6952 7 (N1 6952 6) 6952 7 = N1 6952 6 := im_rds _ _ _ _
    have ux : ∀ x, x ≠ 6952 → im_u N1 6952 7 (N1 6952 6) x = N1 x := fun x a => im_u_ne _ _ _ a
    have uk : ∀ f, f ≠ 7 → im_u N1 6952 7 (N1 6952 6) 6952 f = N1 6952 f := fun f a => im_rdk _ _ _ a
    generalize im_u N1 6952 7 (N1 6952 6) = N2 at u7 ux uk
    have uk6 := uk 6 (by decide)
    refine c_areTold (R := w.gRw) (m := w.gM) (pm := w.gPm) (root := w.gRt k) (ee := ee) hW (RP_congr q1 uk6 (uk 36 (by decide)) (fun x _ _ => ux x (by omega)) (fun i _ => by rw [ux 6955 (by decide)])) (rPm_congr pm (uk 62 (by decide)) (ux _ (by decide)) (ux _ (by decide))) hk16 (by rw [ux 6985 (by decide)]; exact r3) (by rw [ux 6986 (by decide)]; exact r4) r0 (by omega) (by omega) (by rw [u7, uk6]; exact Int.le_refl _) (by rw [u7]; exact q3.1) (by rw [u7]; omega) (by omega) (fun N3 x F3 hx01 hiff => ⟨_, rfl, rfl, by rcases hx01 with z | z <;> rw [z] <;> decide, fun hx1 => ⟨fun z => absurd z hf0, fun _ => ?_⟩, fun hx0 => ?_⟩)
    · have hl : ¬ fr = 0 → ¬ lks' w.gRw (w.gRt k) (eN w.gRw w.gM (w.gRt k)) w.gPm := fun _ z => hx1 (hiff.mpr (by rw [← hen]; exact z))
      obtain ⟨F1, F2, F4⟩ := F3
      have e7 : N3 6952 7 = N1 6952 6 := by rw [F2]; exact u7
      rw [u7] at F4
      have eL : lkL w k fr = (w.gRt k, 0, bE, bE, bE) := if_neg hf0
      have eG : lkG w k fr = w.gPm := if_neg hf0
      refine c_takeFresh (pm := w.gPm) hk16 (rPm_congr pm (by rw [F2]; exact uk 62 (by decide)) (by rw [F1 6992 (by decide) (by decide)]; exact ux _ (by decide)) (by rw [F1 6993 (by decide) (by decide)]; exact ux _ (by decide))) (by rw [e7]; exact q3.1) (by rw [e7]; omega) (by omega) (fun N4 G1 G2 G4 G5 G6 b4 => ⟨rfl, rfl, ?_⟩)
      rw [e7] at G4 G5
      have z2 : ∀ (fk : Int) (cA cB cN : Nat), N4 6952 fk = 0 → rb2 N4 fk cA cB cN bE (N4 6952 7) := fun fk cA cB cN hf => ⟨hf, Nat.zero_le _, fun i hi => absurd hi (Nat.not_lt_zero i), fun i hi => absurd hi (Nat.not_lt_zero i)⟩
      refine c_rlkGo (k := k) (fr := fr) (M0 := N1) W1 hW hde hn hB.2 (hH hC hl) (hr hz hA hB hC hl) (by omega) (fun x a b c => ((G1 x a b (by omega) (by omega)).trans (F1 x a b)).trans (ux x a)) (fun f a b c d i j q => (G2 f a b c d i j q).trans (by rw [F2]; exact uk f a)) (fun i hi => by rw [G4 i hi, F4 i hi, ux 6955 (by decide)]) ⟨G5.1, by omega⟩ ?_ ?_ ?_ ?_ ?_ (by rw [eG]; exact pm.2.1) h0 (fun M' f W c => hK hz hA hB hC hl M' (fun z hz => (f z hz).trans (hx z (by omega))) W c)
      · rw [eL]
        exact ⟨G6.1.trans (by rw [F1 6985 (by decide) (by decide), ux 6985 (by decide)]; exact r3), G6.2.1⟩
      · rw [eL]; exact z2 85 7011 7012 7013 G6.2.2.1
      · rw [eL]; exact z2 89 7014 7015 7016 G6.2.2.2.1
      · rw [eL]; exact ⟨G6.2.2.2.2, Nat.zero_le _, rfl, fun i hi => absurd hi (Nat.not_lt_zero i), fun i hi => absurd hi (Nat.not_lt_zero i)⟩
      · rw [eG]; exact b4
    · obtain ⟨F1, F2, F4⟩ := F3
      rw [u7] at F4
      refine hKu hz hA hB hC hf0 (by rw [hen]; exact hiff.mp hx0) N3 (fun z hz => by rw [F1 z (by omega) (by omega), ux z (by omega)]; exact hx z (by omega)) ?_ (by rw [F2, uk 0 (by decide)]; exact h0)
      exact W1.tops (fun x a b => (F1 x a b).trans (ux x a)) (fun k a _ => by rw [F2]; exact uk k a) (by rw [F2, uk 8 (by decide)]; exact s8) (fun i hi => by rw [F4 i hi, ux 6955 (by decide)])
  refine b_look4_0 (by omega) ⟨hk, c_isInQ (by constructor <;> omega) (by decide) (by decide) (fun x3 hx3 => ⟨_, rfl, rfl, hmk, ?_⟩)⟩
  refine c_isInQ (by constructor <;> omega) (by decide) (by decide) (fun x6 hx6 => ⟨_, rfl, rfl, by rcases hx6 with z | z <;> rw [z.1] <;> decide, fun z6 => ?_, fun z6 => ⟨hfu, ?_⟩⟩)
  · have hnB : ¬ lkB mask fuel := fun z => by unfold lkB at z; omega
    exact c_lkGrp (B := lkB mask fuel) h hfr hb01 hx3 (Or.inr ⟨rfl, hnB⟩) hKt (fun _ _ z => absurd z hnB)
  · refine c_isInQ (by constructor <;> omega) (by decide) (by decide) (fun x7 hx7 => ⟨_, rfl, rfl, by rcases hx7 with z | z <;> rw [z.1] <;> decide, fun z7 => ?_, fun z7 => ?_⟩)
    · have hnB : ¬ lkB mask fuel := fun z => by unfold lkB at z; omega
      exact c_lkGrp (B := lkB mask fuel) h hfr hb01 hx3 (Or.inr ⟨rfl, hnB⟩) hKt (fun _ _ z => absurd z hnB)
    · have hB : lkB mask fuel := by unfold lkB; omega
      exact c_lkGrp (B := lkB mask fuel) h hfr hb01 hx3 (Or.inl ⟨rfl, hB⟩) hKt (fun hz hA hB hC N1 W1 h0 hx => ⟨by rcases hfr with z | z <;> rw [z] <;> decide, fun hf => ⟨fun _ => goI hz hA hB hC N1 W1 h0 hx hf, fun z => absurd hf z⟩, fun hf => goF hz hA hB hC N1 W1 h0 hx hf⟩)
end RLOOKQ
