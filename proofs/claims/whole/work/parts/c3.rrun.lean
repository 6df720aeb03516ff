section RRUN
variable {g : im_g} {d : Nat} {e : im_E} {K : im_K} {R : Rw} {m : Int} {giv : Bk} {st en lk : Int}
theorem c_rapply {s : TS} {M : im_M} {i t a b c v T e0 P : Int} (hW : WFP R m) (hd : 13 ≤ d) (hC : RT M R m giv st en lk s) (hO : OT s) (hV : VN R m s) (hE : EB R m e0 s.nd) (hP' : P ≤ 1100000) (hP : M 6952 7 + 700 * (e0 - s.nd) + 400 * s.acc.1 ≤ P) (hI : IR M i t a b c v T) (hT : T ≤ M 6952 7) (h36 : M 6952 36 ≤ 20400)
    (hKs : ∀ s', appO R giv st en lk s t a b c v = .inr s' → ∀ M', RX M M' → RT M' R m giv st en lk s' → OT s' → VN R m s' → EB R m e0 s'.nd → M' 6952 7 + 700 * (e0 - s'.nd) + 400 * s'.acc.1 ≤ P → K (.inl none) e M')
    (hKe : ∀ z, appO R giv st en lk s t a b c v = .inl z → z < 0 → ∀ M', RZ M M' R m giv lk z → K (.inl none) e M') : im_T g d 408 0 [some (.ref 6952), some (vI i), none] [] e M K := by
  obtain ⟨n0, n1, k0, k5⟩ := id hV
  have hm := hW.2.1
  have h83 : M 6952 83 = s.nd := hC.2.2.2.1.1
  have hr0 : M 6960 s.nd = kR (R 0 s.nd) (R 3 s.nd) := (hC.1 s.nd n0 n1).1
  have q4 : M 6964 s.nd = R 16 s.nd := (hC.1 s.nd n0 n1).2.2.2.1.1
  have h101 := hC.2.2.2.1.2.1
  unfold appO at hKs hKe
  refine b_apply_0 ?_
  rw [h83, hr0, q4]
  refine ⟨by constructor <;> omega, fun x hx => ?_⟩
  by_cases h3 : R 0 s.nd = 3
  · have hkr : kR (R 0 s.nd) (R 3 s.nd) = 5 := by rw [h3]; unfold kR; rw [if_neg (by decide), if_neg (by decide), if_pos (by decide)]; rfl
    have hxx : x = R 16 s.nd := by omega
    rw [hxx]
    rw [if_pos h3] at hKs hKe
    obtain ⟨cs, q0, c1, c2, c3, c4, c5, c6, c7⟩ := kids_w (hW.2.2 _ n0 n1).1 h3
    exact l_rapply hW hd hO n0 hE hP' hP hI hT h36 cs s.nd _ 9 M c1 (Int.le_refl _) (fun j a b => by omega) (by omega) hC (WX.rf M) rfl hKs hKe
  · have hkr : kR (R 0 s.nd) (R 3 s.nd) ≠ 5 := by
      have hR3 : R 0 s.nd = 1 → R 3 s.nd = 0 ∨ R 3 s.nd = 1 := (hW.2.2 s.nd n0 n1).2.1.2.2.2
      unfold kR
      (repeat' split) <;> omega
    have hxx : x = -1 := by omega
    rw [hxx]
    rw [if_neg h3] at hKe
    exact b_apply_27 (by omega) ⟨by decide, fun z => absurd rfl z, fun _ => ⟨⟨fun _ => ⟨fun z => absurd rfl z, fun _ => c_refuse h101 (by decide) ⟨rfl, rfl, hKe (-5) rfl (by decide) _ (hC.rz (RX.rf M) (-5))⟩⟩, fun z => by omega⟩, fun z => by omega⟩⟩
/-- other times -/
theorem RT.tim {M M' : im_M} {s : TS} {st' en' : Int} (h : RT M R m giv st en lk s) (hs : ∀ x : Nat, x ≠ 6952 → M' x = M x) (hf : ∀ k : Int, k ≠ 84 → k ≠ 99 → k ≠ 100 → M' 6952 k = M 6952 k) (h99 : M' 6952 99 = st') (h100 : M' 6952 100 = en') (hst : 0 ≤ st' ∧ st' ≤ 1000000000000000) (hen : 0 ≤ en' ∧ en' ≤ 1000000000000000) : RT M' R m giv st' en' lk s := by
  obtain ⟨c1, ⟨c2, c3, c4, ⟨c5, c6, c7⟩, c8, c9⟩, ⟨c10, c11⟩, ⟨c12, c13, c14⟩, ⟨c15, c16, c17⟩, ⟨c18, c19, c20⟩, c21, c22⟩ := h
  have hp : ∀ T i, i < T → M' 6955 i = M 6955 i := fun _ i _ => by rw [hs 6955 (by decide)]
  have e7 : M' 6952 7 = M 6952 7 := hf 7 (by decide) (by decide) (by decide)
  have hT : M 6952 7 ≤ M' 6952 7 := Int.le_of_eq e7.symm
  refine ⟨RP_congr c1 (hf 6 (by decide) (by decide) (by decide)) (hf 36 (by decide) (by decide) (by decide)) (fun x a b => hs x (by omega)) (hp _), ⟨rb2_congr c2 (hf 85 (by decide) (by decide) (by decide)) (hs _ (by decide)) (hs _ (by decide)) (hs _ (by decide)) (hp _) hT, rb2_congr c3 (hf 89 (by decide) (by decide) (by decide)) (hs _ (by decide)) (hs _ (by decide)) (hs _ (by decide)) (hp _) hT, rb1_congr c4 (hf 93 (by decide) (by decide) (by decide)) (hs _ (by decide)) (hs _ (by decide)) (hp _) hT, ⟨rb1_congr c5 (hf 96 (by decide) (by decide) (by decide)) (hs _ (by decide)) (hs _ (by decide)) (hp _) hT, c6, c7⟩, ⟨h99, h100⟩, hst, hen⟩, ⟨by rw [hf 6 (by decide) (by decide) (by decide)]; omega, by omega⟩, ⟨by rw [hf 83 (by decide) (by decide) (by decide)]; exact c12, by rw [hf 101 (by decide) (by decide) (by decide)]; exact c13, by rw [hf 103 (by decide) (by decide) (by decide)]; exact c14⟩, ⟨by rw [hf 102 (by decide) (by decide) (by decide)]; exact c15, ?_, by rw [hf 8 (by decide) (by decide) (by decide)]; exact c17⟩, ⟨by rw [hf 116 (by decide) (by decide) (by decide)]; exact c18, by rw [hf 116 (by decide) (by decide) (by decide)]; exact c19, fun z => rwl_congr (c20 z) (hf 116 (by decide) (by decide) (by decide)) (hs _ (by decide)) (hs _ (by decide)) (hs _ (by decide)) (hp _) hT⟩, rr5_congr c21 (hf 104 (by decide) (by decide) (by decide)) (hs _ (by decide)) (hs _ (by decide)) (hs _ (by decide)) (hs _ (by decide)) (hs _ (by decide)) (hp _) hT, rr5_congr c22 (hf 110 (by decide) (by decide) (by decide)) (hs _ (by decide)) (hs _ (by decide)) (hs _ (by decide)) (hs _ (by decide)) (hs _ (by decide)) (hp _) hT⟩
  rcases c16 with z | z
  · exact Or.inl z
  · exact Or.inr ⟨z.1, KN_env (KN_congr z.2 (fun x a b => hs x (by omega))) rfl⟩
theorem c_redX {M : im_M} (h : M 6952 101 ≠ 0) (hd : 1 ≤ d) (hK : K (.inl none) e M) : im_T g d 364 0 [some (.ref 6952), none] [] e M K := by
  refine b_reduce_0 (fun x hx => ?_)
  have h0 : x = 0 := by
    rcases hx with w | w
    · exact w.2
    · exact absurd w.1 h
  rw [h0]
  exact b_reduce_13 hd ⟨by decide, fun _ => hK, fun z => absurd rfl z⟩
theorem c_runX {M : im_M} {p5 p6 : Int} (hp : im_i32 p6) (h : M 6952 101 ≠ 0) (hd : 1 ≤ d) (hK : K (.inl (some (vI (M 6952 101)))) e (im_u M 6952 84 (M 6952 99))) : im_T g d 363 102 [some (.ref 6952), none, none, none, none, some (vI p5), some (vI p6)] [] e M K :=
  b_run_102 hd ⟨hp, fun _ z => absurd z h, fun _ => ⟨fun z => absurd z h, fun _ => hK⟩⟩
end RRUN
