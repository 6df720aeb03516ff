/-! THE REFERENCE's print and rest -/
def lkR (R : Rw) (m : Int) : Prop := ∀ j, 0 ≤ j → j < m → ∀ s : Nat, 16 ≤ s → s ≤ 19 → -1 ≤ R s j ∧ R s j < m
theorem RW.prn {M M' : im_M} {w : Wd} {L : List Int} (h : RW M w) (hx : ∀ x, x ≠ 6952 → x ≠ 6954 → x ≠ 6987 → x ≠ 6988 → M' x = M x) (hk : ∀ k, k ≠ 4 → k ≠ 57 → M' 6952 k = M 6952 k) (ho : rOL M' L) : RW M' (ouW w L) := by
  obtain ⟨N, hN⟩ : ∃ N : im_M, N = fun x => if x = 6954 then M' 6954 else if x = 6952 then im_up (M 6952) 4 (M' 6952 4) else M x := ⟨_, rfl⟩
  have n1 : ∀ x, x ≠ 6952 → x ≠ 6954 → N x = M x := fun x a b => by rw [hN]; show (if x = 6954 then _ else if x = 6952 then _ else _) = _; rw [if_neg b, if_neg a]
  have n2 : N 6954 = M' 6954 := by rw [hN]; show (if 6954 = 6954 then _ else _) = _; rw [if_pos rfl]
  have n3 : N 6952 = im_up (M 6952) 4 (M' 6952 4) := by rw [hN]; show (if 6952 = 6954 then _ else if 6952 = 6952 then _ else _) = _; rw [if_neg (by decide), if_pos rfl]
  clear hN
  have n4 : ∀ k, k ≠ 4 → N 6952 k = M 6952 k := fun k a => by rw [n3]; exact im_up_ne _ _ a
  have n5 : N 6952 4 = M' 6952 4 := by rw [n3]; exact im_up_eq _ _ _
  have W1 : RW N (ouW w L) := h.out n1 n4 ⟨n5.trans ho.1, fun i a b => by rw [n2]; exact ho.2.1 i a b, ho.2.2⟩
  obtain ⟨s8, s116, s99, s100⟩ := h.2.2.2.2.2.2
  have kk : ∀ k, k ≠ 57 → M' 6952 k = N 6952 k := fun k a => by
    by_cases c : k = 4
    · rw [c, n5]
    · rw [n4 k c]; exact hk k c a
  have xx : ∀ x, x ≠ 6952 → x ≠ 6987 → x ≠ 6988 → M' x = N x := fun x a b c => by
    by_cases c4 : x = 6954
    · rw [c4, n2]
    · rw [n1 x a c4]; exact hx x a c4 b c
  exact W1.scr0 ⟨fun x a b c d f => xx x a (by omega) (by omega), fun x i a b c => by rw [xx x (by omega) (by omega) (by omega)], fun x i a b => by rw [xx x (by omega) (by omega) (by omega)], fun i _ => by rw [xx 6955 (by decide) (by decide) (by decide)], fun k hk' => kk k (by omega)⟩ (kk 19 (by decide)) (kk 20 (by decide)) ⟨by rw [kk 8 (by decide), n4 8 (by decide)]; exact s8, by rw [kk 116 (by decide), n4 116 (by decide)]; exact s116, by rw [kk 99 (by decide), n4 99 (by decide)]; exact s99, by rw [kk 100 (by decide), n4 100 (by decide)]; exact s100⟩
section RPRINT4
variable {g : im_g} {d : Nat} {e : im_E} {M : im_M} {K : im_K} {w : Wd}
theorem c_tellAll {n : Int} (h : RW M w) (hde : w.gDe ≤ 16384) (hW : WFP w.gRw w.gM) (hH : prH w.gRw w.gM) (hl : lkR w.gRw w.gM) (hn : 0 ≤ n ∧ n < w.gM) (hnc : ¬ (28 ≤ w.gRw 0 n ∧ w.gRw 0 n ≤ 30)) (hd : 7 ≤ d) (hK : ∀ M', (∀ z, z < 6952 ∨ 7080 < z → M' z = M z) → RW M' (ouW w (prL w n)) → M' 6952 0 = M 6952 0 → K (.inl (some (vI ((prL w n).length : Int)))) e M') : im_T g d 316 0 [some (.ref 6952), some (vI n), none, none] [] e M K := by
  obtain ⟨_, ⟨⟨p1, p2, p3, p4⟩, _, _⟩, _⟩ := id h
  have hB : QB M w.gRw w.gM := ⟨p1, hW, hH, by omega, by omega, hl⟩
  have hD := (hW.2.2 n hn.1 hn.2).2.2.1
  have m5 := hW.2.1
  have hc0 : rwp M (im_u (im_u M 6952 4 0) 6952 57 0) [] [] := ⟨⟨fun x a _ _ _ => by rw [im_u_ne _ _ _ a, im_u_ne _ _ _ a], fun k a b => by rw [im_rdk _ _ _ b, im_rdk _ _ _ a]⟩, ⟨im_rds _ _ _ _, trivial⟩, ⟨by rw [im_rdk _ _ _ (by decide)]; exact im_rds _ _ _ _, fun i a b => absurd b (by show ¬ i < (0 : Int); omega), by decide⟩⟩
  refine b_tellAll_0 (by omega) (c_layQ hc0 (by decide) (by constructor <;> omega) (by omega) (by decide) (fun M1 hc1 => ⟨rfl, rfl, ?_⟩))
  refine (l_prR (g := g) (d := d) (e := e) (K := K) hB (by omega) w.gM.toNat).1 n M1 [] [] (by omega) hn.1 hn.2 hnc (by simp only [List.length_nil]; omega) hc1 (fun M2 hc2 => ?_)
  have h57 : M2 6952 57 = 0 := hc2.2.1.1
  refine b_tellAll_16 (by omega) ⟨fun _ => ?_, fun z => by omega⟩
  have o2 : rOL M2 (prL w n) := hc2.2.2
  rw [o2.1]
  exact hK M2 (fun z hz => hc2.1.1 z (by omega) (by omega) (by omega) (by omega)) (h.prn hc2.1.1 hc2.1.2 o2) (hc2.1.2 0 (by decide) (by decide))
theorem c_R_print {k : Int} (h : RW M w) (hde : w.gDe ≤ 16384) (hW : WFP w.gRw w.gM) (hH : prH w.gRw w.gM) (hl : lkR w.gRw w.gM) (hk : im_i32 k) (hrt : 0 ≤ k ∧ k < 16 → w.gRt k ≠ -1 → (0 ≤ w.gRt k ∧ w.gRt k < w.gM) ∧ ¬ (28 ≤ w.gRw 0 (w.gRt k) ∧ w.gRw 0 (w.gRt k) ≤ 30)) (hd : 8 ≤ d)
    (hKt : mco 2 w.gJr.2.2.2.2 (0 ≤ k ∧ k < 16) (0 ≤ k ∧ k < 16 ∧ w.gRt k ≠ -1) True ≠ 0 → ∀ M', (∀ z, z < 6952 ∨ 7080 < z → M' z = M z) → RW M' w → M' 6952 0 = mco 2 w.gJr.2.2.2.2 (0 ≤ k ∧ k < 16) (0 ≤ k ∧ k < 16 ∧ w.gRt k ≠ -1) True → K (.inl (some (vI 0))) e M')
    (hK : w.gJr.2.2.2.2 = 0 → 0 ≤ k ∧ k < 16 → w.gRt k ≠ -1 → ∀ M', (∀ z, z < 6952 ∨ 7080 < z → M' z = M z) → RW M' (ouW w (prL w (w.gRt k))) → M' 6952 0 = 0 → K (.inl (some (vI ((prL w (w.gRt k)).length : Int)))) e M') : im_T g d 315 0 [some (.ref 6952), some (vI k)] [] e M K := by
  have rt := h.2.1.2.1
  refine b_print_0 (by omega) ⟨hk, c_isInQ (by constructor <;> omega) (by decide) (by decide) (fun a ha => ⟨_, rfl, rfl, c_isInQ (by constructor <;> omega) (by decide) (by decide) (fun b hb => ⟨_, rfl, rfl, by constructor <;> omega, fun hb1 => ⟨⟨by omega, by omega⟩, fun hne => ?_⟩, fun hor => ?_⟩)⟩)⟩
  · have hkI : 0 ≤ k ∧ k < 16 := by omega
    have hr : w.gRt k ≠ -1 := fun z => hne ((rt k hkI.1 hkI.2).1 z)
    refine c_mayQ (A := 0 ≤ k ∧ k < 16) (B := 0 ≤ k ∧ k < 16 ∧ w.gRt k ≠ -1) (C := True) h (by decide) (by decide) (by omega) (Or.inl ⟨rfl, hkI.1, hkI.2, hr⟩) (Or.inl ⟨rfl, trivial⟩) (fun hm M1 W1 e0 ez ek => ⟨_, rfl, rfl, by decide, fun _ => hKt hm M1 (fun z hz => ez z (by omega)) W1 e0, fun z => absurd rfl z⟩) (fun hz hA _ _ M1 W1 e0 ez ek => ⟨_, rfl, rfl, by decide, fun z => absurd z (by decide), fun _ => ?_⟩)
    have e85 : M1 6985 k = w.gRt k := by rw [ez 6985 (by decide)]; exact ((rt k hkI.1 hkI.2).2 hr).2.1
    rw [e85]
    obtain ⟨q1, q2⟩ := hrt hkI hr
    exact c_tellAll W1 hde hW hH hl q1 q2 (by omega) (fun M2 f2 W2 c2 => ⟨_, rfl, rfl, hK hz hkI hr M2 (fun z hz => (f2 z hz).trans (ez z (by omega))) W2 (c2.trans e0)⟩)
  · have hno : ¬ (0 ≤ k ∧ k < 16 ∧ w.gRt k ≠ -1) := by
      intro ⟨z1, z2, z3⟩
      have := ((rt k z1 z2).2 z3).1
      omega
    exact c_mayQ (A := 0 ≤ k ∧ k < 16) (B := 0 ≤ k ∧ k < 16 ∧ w.gRt k ≠ -1) (C := True) h (by decide) (by decide) (by omega) (Or.inr ⟨rfl, hno⟩) (Or.inl ⟨rfl, trivial⟩) (fun hm M1 W1 e0 ez ek => ⟨_, rfl, rfl, by decide, fun _ => hKt hm M1 (fun z hz => ez z (by omega)) W1 e0, fun z => absurd rfl z⟩) (fun _ _ hB _ _ _ _ _ _ => absurd hB hno)
theorem c_R_rest {i : Int} (h : RW M w) (hde : w.gDe ≤ 16384) (hW : WFP w.gRw w.gM) (hH : prH w.gRw w.gM) (hl : lkR w.gRw w.gM) (hi : im_i32 i) (hio : 0 ≤ i ∧ i < 16 → insOk w.gRw w.gM w.gWa (w.gIn i)) (hd : 8 ≤ d)
    (hKt : mco 2 w.gJr.2.2.2.2 (0 ≤ i ∧ i < 16) (0 ≤ i ∧ i < 16 ∧ (w.gIn i).1 = 1) True ≠ 0 → ∀ M', (∀ z, z < 6952 ∨ 7080 < z → M' z = M z) → RW M' w → M' 6952 0 = mco 2 w.gJr.2.2.2.2 (0 ≤ i ∧ i < 16) (0 ≤ i ∧ i < 16 ∧ (w.gIn i).1 = 1) True → K (.inl (some (vI 0))) e M')
    (hK : w.gJr.2.2.2.2 = 0 → 0 ≤ i ∧ i < 16 → (w.gIn i).1 = 1 → ∀ M', (∀ z, z < 6952 ∨ 7080 < z → M' z = M z) → RW M' (ouW w (prL w (w.gIn i).2.1)) → M' 6952 0 = 0 → K (.inl (some (vI ((prL w (w.gIn i).2.1).length : Int)))) e M') : im_T g d 350 0 [some (.ref 6952), some (vI i)] [] e M K := by
  refine b_rest_0 (by omega) ⟨hi, c_isInQ (by constructor <;> omega) (by decide) (by decide) (fun a ha => ⟨_, rfl, rfl, c_isBegunQ h hi (fun z => (hio z).1) (by omega) (fun b hb => ⟨_, rfl, rfl, ?_⟩)⟩)⟩
  refine c_mayQ (A := 0 ≤ i ∧ i < 16) (B := 0 ≤ i ∧ i < 16 ∧ (w.gIn i).1 = 1) (C := True) h (by decide) (by decide) (by omega) hb (Or.inl ⟨rfl, trivial⟩) (fun hm M1 W1 e0 ez ek => ⟨_, rfl, rfl, by decide, fun _ => hKt hm M1 (fun z hz => ez z (by omega)) W1 e0, fun z => absurd rfl z⟩) (fun hz hA hB _ M1 W1 e0 ez ek => ⟨_, rfl, rfl, by decide, fun z => absurd z (by decide), fun _ => ⟨hA, ?_⟩⟩)
  have e95 : M1 6995 i = (w.gIn i).2.1 := by rw [ez 6995 (by decide)]; exact (h.2.1.2.2 i hA.1 hA.2).1.2.1
  rw [e95]
  have ov := ((hio hA).2 hB.2.2).2.2.2.2.1
  exact c_tellAll W1 hde hW hH hl ⟨ov.1, ov.2.1⟩ (by omega) (by omega) (fun M2 f2 W2 c2 => ⟨_, rfl, rfl, hK hz hA hB.2.2 M2 (fun z hz => (f2 z hz).trans (ez z (by omega))) W2 (c2.trans e0)⟩)
end RPRINT4
