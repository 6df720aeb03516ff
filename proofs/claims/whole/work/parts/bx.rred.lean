section RRED
variable {g : im_g} {d : Nat} {e : im_E} {K : im_K} {R : Rw} {m : Int} {giv : Bk} {st en lk : Int}
theorem l_rreduce {e0 P : Int} (hW : WFP R m) (hT : TP R m e0 giv) (hP' : P ≤ 1100000) (hd : 15 ≤ d) : ∀ (f : Nat) (s : TS) (M : im_M), mea R s < f → RT M R m giv st en lk s → OT s → VN R m s → EB R m e0 s.nd → M 6952 7 + 700 * (e0 - s.nd) + 400 * s.acc.1 ≤ P →
    (∀ s', redO R giv st en lk f s = .inr s' → ∀ M', RX M M' → RT M' R m giv st en lk s' → OT s' → VN R m s' → EB R m e0 s'.nd → M' 6952 7 + 700 * (e0 - s'.nd) + 400 * s'.acc.1 ≤ P → K (.inl none) e M') →
    (∀ z, redO R giv st en lk f s = .inl z → z < 0 → ∀ M', RZ M M' R m giv lk z → K (.inl none) e M') →
    im_T g d 364 13 [some (.ref 6952), some (vI 1)] [] e M K := by
  intro f
  induction f with
  | zero =>
    intro s M hf hC hO hV
    exfalso
    unfold mea at hf
    by_cases h0 : R 0 s.nd = 0
    · rw [if_pos h0] at hf; omega
    · rw [if_neg h0] at hf
      have := (hW.2.2 s.nd hV.1 hV.2.1).2.2.1
      omega
  | succ f ih =>
    intro s M hf hC hO hV hE hP hKs hKe
    have stop : ∀ {M' : im_M}, K (.inl none) e M' → im_T g d 364 13 [some (.ref 6952), some (vI 0)] [] e M' K := fun {M'} hk => b_reduce_13 (by omega) ⟨by decide, fun _ => hk, fun z => absurd rfl z⟩
    refine b_reduce_13 (by omega) ⟨by decide, fun z => absurd z (by decide), fun _ => ?_⟩
    refine c_rstep hC hO hW hT hV hE hP hP' (by omega) (fun hs M1 X1 t1 C1 => ⟨_, rfl, rfl, by decide, fun z => absurd rfl z, fun _ => ?_⟩) (fun s1 hs M1 X1 C1 O1 V1 E1 P1 me => ⟨_, rfl, rfl, by decide, fun _ _ => ?_, fun z => ?_⟩) (fun z hs z0 M1 Z1 => ⟨_, rfl, rfl, by decide, fun _ w => ?_, fun _ => ?_⟩)
    · exact stop (hKs s (redO_n hs) M1 (RX.wx X1) C1 hO hV hE (by omega))
    · rw [redO_s hs] at hKs hKe
      exact ih s1 M1 (by omega) C1 O1 V1 E1 P1 (fun s2 h2 M2 X2 C2 O2 V2 E2 P2 => hKs s2 h2 M2 (X1.trans X2) C2 O2 V2 E2 P2) (fun z hz z0 M2 Z2 => hKe z hz z0 M2 (Z2.pre X1))
    · rcases z with w | w
      · exact absurd w (by decide)
      · exact absurd C1.2.2.2.1.2.1 w.2
    · rw [Z1.2.1] at w; omega
    · exact stop (hKe z (redO_e hs) z0 M1 Z1)
theorem c_rreduce {e0 P : Int} {s : TS} {M : im_M} (hW : WFP R m) (hT : TP R m e0 giv) (hP' : P ≤ 1100000) (hd : 15 ≤ d) (hC : RT M R m giv st en lk s) (hO : OT s) (hV : VN R m s) (hE : EB R m e0 s.nd) (hP : M 6952 7 + 700 * (e0 - s.nd) + 400 * s.acc.1 ≤ P)
    (hKs : ∀ s', redO R giv st en lk 142 s = .inr s' → ∀ M', RX M M' → RT M' R m giv st en lk s' → OT s' → VN R m s' → EB R m e0 s'.nd → M' 6952 7 + 700 * (e0 - s'.nd) + 400 * s'.acc.1 ≤ P → K (.inl none) e M')
    (hKe : ∀ z, redO R giv st en lk 142 s = .inl z → z < 0 → ∀ M', RZ M M' R m giv lk z → K (.inl none) e M') : im_T g d 364 0 [some (.ref 6952), none] [] e M K := by
  have hm0 : mea R s < 142 := by
    unfold mea
    have := (hW.2.2 s.nd hV.1 hV.2.1).2.2.1
    have hk : s.acc.1 ≤ 40 := hC.2.1.1.2.1
    by_cases h0 : R 0 s.nd = 0
    · rw [if_pos h0]; omega
    · rw [if_neg h0]; omega
  refine b_reduce_0 (fun x hx => ?_)
  have h1 : x = 1 := by
    rw [hC.2.2.2.1.2.1] at hx
    rcases hx with w | w
    · exact absurd rfl w.1
    · exact w.2
  rw [h1]
  exact l_rreduce hW hT hP' hd 142 s M hm0 hC hO hV hE hP hKs hKe
end RRED
