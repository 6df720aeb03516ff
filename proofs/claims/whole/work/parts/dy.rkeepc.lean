/-! THE REFERENCE keeps a contract -/
theorem XR.rsf {M M' : im_M} {lo kp pk : Int} (h : XR lo kp pk M M') (h38 : M 6952 38 = lo) (h6 : M 6952 6 = kp) (h36 : M 6952 36 = pk) : RSF M M' := by
  obtain ⟨a1, a2, a3, a4, a5⟩ := h
  exact ⟨fun x a b c d f => a1 x a (by omega) (by omega), fun x i a b c => a4 x i a b (by omega), fun x i a b => a5 x i a (by omega), fun i hi => a3 i (by omega), fun k hk => a2 k (by omega) (by omega) (by omega) (by omega) (by omega) (by omega)⟩
theorem rowR_low {M : im_M} {R : Rw} {kp T pk P i : Int} {st : List en} (h : rowR M R kp T pk P st i) (hk : 0 ≤ kp) (hp : 0 ≤ pk) : rowR M R 0 T 0 P st i := by
  have lw : ∀ r v, rnp M kp T r v → rnp M 0 T r v := fun r v ⟨k, a, b, c, d⟩ => ⟨k, a, by omega, c, d⟩
  obtain ⟨a1, a2, a3, a4, a5, a6, a7⟩ := h
  refine ⟨a1, a2, a3, a4, fun z => lw _ _ (a5 z), a6, fun z => ?_⟩
  obtain ⟨b1, b2, b3, b4⟩ := a7 z
  exact ⟨b1, by omega, b3, fun k hk => ⟨lw _ _ (b4 k hk).1, lw _ _ (b4 k hk).2⟩⟩
theorem eN_mono {R S : Rw} {m m' r e : Int} (h : ends (R 1) m r e) (hr : r < m) (hm : m ≤ m') (hd : 0 ≤ R 1 r) (hS : m < m' → S 1 m = 0) : eN (glR R m S) m' r = eN R m r := by
  rw [eN_eq h]
  refine eN_eq (ends_mono h hm (fun j hj => glR_lt hj) (fun z => ?_) hr)
  rw [glR_ge (Int.le_refl _), hS z]; exact hd
section RKEEPC
variable {g : im_g} {d : Nat} {e : im_E} {M : im_M} {K : im_K} {w : Wd} {t : Int → Int} {n w0 : Int}
theorem c_tryKeep {k : Int} (h : RW M w) (hrt : rtx M t n) (hm0 : 0 ≤ w.gM) (hm4 : w.gM ≤ 4000) (hde : w.gDe ≤ 16384) (hk : im_i32 k) (hd : 10 ≤ d)
    (hKn : ¬ (0 ≤ k ∧ k < 16 ∧ w.gRt k = -1) → K (.inl (some (vI (-101)))) e M)
    (hKf : 0 ≤ k ∧ k < 16 → w.gRt k = -1 → ∀ f, prsT t n w.gM w0 = .inl f → ∀ M', RSF M M' → (M' 6952 13 = M 6952 13 ∧ M' 6952 0 = M 6952 0) → M' 6959 = M 6959 → rFau M' f.1 f.2 → rScr M' → K (.inl (some (vI (-1)))) e M')
    (hKs : 0 ≤ k ∧ k < 16 → w.gRt k = -1 → ∀ S, prsT t n w.gM w0 = .inr S → ∀ M', RSF M M' → (M' 6952 13 = M 6952 13 ∧ M' 6952 0 = M 6952 0) → M' 6959 = M 6959 → rFau M' 0 (-1) → rScr M' → RD M M' w.gM (M 6952 6) (M 6952 36) n S → K (.inl (some (vI (if 4000 < S.2.2.1 then -9 else 0)))) e M') :
    im_T g d 272 0 [some (.ref 6952), some (vI k)] [] e M K := by
  obtain ⟨_, ⟨⟨p1, p2, ⟨p3, p3'⟩, p4, p4'⟩, hr, _⟩, _, _, _, _, ⟨s8, s116, s99, s100⟩⟩ := id h
  refine b_tryKeep_0 (by omega) ⟨hk, c_isIn (by constructor <;> omega) (by decide) (by decide) (fun hI => ⟨_, rfl, rfl, by decide, fun _ => ⟨⟨hI.1, by omega⟩, fun h0 => ?_⟩, fun hor => hKn ?_⟩) (fun hI => ⟨_, rfl, rfl, by decide, fun z => absurd rfl z, fun _ => hKn (by omega)⟩)⟩
  · have hk16 : 0 ≤ k ∧ k < 16 := ⟨hI.1, by omega⟩
    have hrk : w.gRt k = -1 := by
      by_cases z : w.gRt k = -1
      · exact z
      · have := ((hr k hk16.1 hk16.2).2 z).1; omega
    have hn : n ≤ 16384 := hrt.2.2.1
    have hscr : ∀ M', XR w.gM (M 6952 6) (M 6952 36) M M' → rScr M' ∧ (M' 6952 13 = M 6952 13 ∧ M' 6952 0 = M 6952 0) ∧ M' 6959 = M 6959 := fun M' X => by
      have f : ∀ k, k ≠ 7 → (k < 14 ∨ 20 < k) → k ≠ 37 → k ≠ 39 → k ≠ 40 → k ≠ 45 → M' 6952 k = M 6952 k := X.2.1
      refine ⟨⟨by rw [f 8 (by decide) (by decide) (by decide) (by decide) (by decide) (by decide)]; exact s8, by rw [f 116 (by decide) (by decide) (by decide) (by decide) (by decide) (by decide)]; exact s116, by rw [f 99 (by decide) (by decide) (by decide) (by decide) (by decide) (by decide)]; exact s99, by rw [f 100 (by decide) (by decide) (by decide) (by decide) (by decide) (by decide)]; exact s100⟩, ⟨f 13 (by decide) (by decide) (by decide) (by decide) (by decide) (by decide), f 0 (by decide) (by decide) (by decide) (by decide) (by decide) (by decide)⟩, X.1 6959 (by decide) (by decide) (by decide)⟩
    refine c_readText (t := t) (nt := n) (lo := w.gM) (kp := M 6952 6) (pk := M 6952 36) (w0 := w0) hrt s8 p2 rfl rfl hm0 hm4 p3 (by omega) p4 (by omega) (by omega) (fun c p hc c0 M1 X1 h19 h20 => ⟨rfl, rfl, fun x hx => ?_⟩) (fun S hS M1 X1 h19 h20 hD => ⟨rfl, rfl, fun x hx => ?_⟩)
    · obtain ⟨q1, q2, q3⟩ := hscr M1 X1
      have hcp := prsT_f hrt.2.1 hc
      have : x = -1 := by omega
      rw [this]
      exact hKf hk16 hrk (c, p) hc M1 (X1.rsf p2 rfl rfl) q2 q3 ⟨h19, h20⟩ q1
    · obtain ⟨q1, q2, q3⟩ := hscr M1 X1
      have e39 := hD.2.2.2.1
      have : x = if 4000 < S.2.2.1 then -9 else 0 := by
        rw [← e39]
        split <;> omega
      rw [this]
      exact hKs hk16 hrk S hS M1 (X1.rsf p2 rfl rfl) q2 q3 ⟨h19, h20⟩ q1 hD
  · intro ⟨a, b, c⟩
    have := (hr k a b).1 c
    rcases hor with z | z
    · exact absurd z (by decide)
    · exact z.2 this
theorem c_doKeep {k : Int} {S : pS} {M0 : im_M} (h : RW M w) (hk : 0 ≤ k ∧ k < 16) (hW : WFP w.gRw w.gM) (hS4 : S.2.2.1 ≤ 4000) (hrt : ∀ i, 0 ≤ i → i < 16 → w.gRt i = -1 ∨ (0 ≤ w.gRt i ∧ w.gRt i < w.gM)) (hee : ∀ i, 0 ≤ i → i < w.gM → ∃ x, ends (w.gRw 1) w.gM i x) (hD : RD M0 M w.gM (M 6952 6) (M 6952 36) n S) (hn : 0 ≤ n) (hroot : ends (S.2.1 1) S.2.2.1 w.gM S.2.2.1) (hr0 : S.2.1 1 w.gM = 0)
    (hK : ∀ M', (∀ x, x < 6952 ∨ 7080 < x → M' x = M x) → M' 6952 0 = M 6952 0 → RW M' ((((w.sRt (im_up w.gRt k w.gM)).sRw (glR w.gRw w.gM S.2.1)).sM S.2.2.1).sDe (w.gDe + n + 1)) → K (.inl (some (vI (S.2.2.1 - w.gM)))) e M') : im_T g d 312 0 [some (.ref 6952), some (vI k)] [] e M K := by
  obtain ⟨⟨⟨t1, t2, t3⟩, ⟨o1, o2, o3⟩, ⟨f1, f2⟩⟩, ⟨⟨p1, p2, ⟨p3, p3'⟩, p4, p4'⟩, r, i⟩, ⟨b1, b2, b3⟩, ⟨s1, s2⟩, md, ⟨j0, j1, j2, j3, j4⟩, ⟨c1, c2, c3, c4⟩⟩ := id h
  obtain ⟨d1, d2, d3, d4, ⟨d5, d5'⟩, ⟨d6, d6'⟩, d7, d8⟩ := hD
  have hm0 := hW.1
  refine b_doKeep_0 ?_
  rw [d4, p2, d7]
  refine ⟨hk, by constructor <;> omega, ?_⟩
  generalize hM1 : im_u (im_u (im_u (im_u (im_u (im_u M 6984 k 1) 6985 k w.gM) 6986 k (S.2.2.1 - w.gM)) 6952 38 S.2.2.1) 6952 36 (M 6952 37)) 6952 6 (M 6952 7) = M1
  have hs : ∀ x, x ≠ 6952 → x ≠ 6984 → x ≠ 6985 → x ≠ 6986 → M1 x = M x := fun x a b c d => by rw [← hM1, im_u_ne _ _ _ a, im_u_ne _ _ _ a, im_u_ne _ _ _ a, im_u_ne _ _ _ d, im_u_ne _ _ _ c, im_u_ne _ _ _ b]
  have hf : ∀ q, q ≠ 6 → q ≠ 36 → q ≠ 38 → M1 6952 q = M 6952 q := fun q a b c => by rw [← hM1, im_rdk _ _ _ a, im_rdk _ _ _ b, im_rdk _ _ _ c, im_rdn _ _ _ _ (by decide), im_rdn _ _ _ _ (by decide), im_rdn _ _ _ _ (by decide)]
  have e6 : M1 6952 6 = M 6952 7 := by rw [← hM1, im_rds]
  have e36 : M1 6952 36 = M 6952 37 := by rw [← hM1, im_rdk _ _ _ (by decide), im_rds]
  have e38 : M1 6952 38 = S.2.2.1 := by rw [← hM1, im_rdk _ _ _ (by decide), im_rdk _ _ _ (by decide), im_rds]
  have e84 : ∀ q, M1 6984 q = if q = k then 1 else M 6984 q := fun q => by rw [← hM1, im_rdn _ _ _ _ (by decide), im_rdn _ _ _ _ (by decide), im_rdn _ _ _ _ (by decide), im_rdn _ _ _ _ (by decide), im_rdn _ _ _ _ (by decide), im_rdx]
  have e85 : ∀ q, M1 6985 q = if q = k then w.gM else M 6985 q := fun q => by rw [← hM1, im_rdn _ _ _ _ (by decide), im_rdn _ _ _ _ (by decide), im_rdn _ _ _ _ (by decide), im_rdn _ _ _ _ (by decide), im_rdx, im_rdn _ _ _ _ (by decide)]
  have e86 : ∀ q, M1 6986 q = if q = k then S.2.2.1 - w.gM else M 6986 q := fun q => by rw [← hM1, im_rdn _ _ _ _ (by decide), im_rdn _ _ _ _ (by decide), im_rdn _ _ _ _ (by decide), im_rdx, im_rdn _ _ _ _ (by decide), im_rdn _ _ _ _ (by decide)]
  clear hM1
  have A : ∀ x, x ≠ 6952 → (x < 6984 ∨ 6986 < x) → M1 x = M x := fun x a b => hs x a (by omega) (by omega) (by omega)
  refine hK M1 (fun x hx => A x (by omega) (by omega)) (hf 0 (by decide) (by decide) (by decide)) ?_
  refine ⟨⟨⟨(hf 2 (by decide) (by decide) (by decide)).trans t1, fun q q0 q1 => by rw [A 6953 (by decide) (by decide)]; exact t2 q q0 q1, t3⟩, ⟨(hf 4 (by decide) (by decide) (by decide)).trans o1, fun q q0 q1 => by rw [A 6954 (by decide) (by decide)]; exact o2 q q0 q1, o3⟩, ⟨(hf 19 (by decide) (by decide) (by decide)).trans f1, (hf 20 (by decide) (by decide) (by decide)).trans f2⟩⟩, ⟨⟨?_, e38, ⟨?_, ?_⟩, ?_, ?_⟩, ?_, fun q q0 q1 => rIn1_congr (i q q0 q1) (fun x _ _ => A x (by omega) (by omega))⟩, ⟨rPm_congr b1 (hf 62 (by decide) (by decide) (by decide)) (A _ (by decide) (by decide)) (A _ (by decide) (by decide)), swl_congr b2 (hf 130 (by decide) (by decide) (by decide)) (A _ (by decide) (by decide)) (A _ (by decide) (by decide)) (A _ (by decide) (by decide)), rMi_congr b3 (hf 134 (by decide) (by decide) (by decide)) (A _ (by decide) (by decide)) (A _ (by decide) (by decide))⟩, ⟨sr5_congr s1 (hf 137 (by decide) (by decide) (by decide)) (A _ (by decide) (by decide)) (A _ (by decide) (by decide)) (A _ (by decide) (by decide)) (A _ (by decide) (by decide)) (A _ (by decide) (by decide)), sr5_congr s2 (hf 143 (by decide) (by decide) (by decide)) (A _ (by decide) (by decide)) (A _ (by decide) (by decide)) (A _ (by decide) (by decide)) (A _ (by decide) (by decide)) (A _ (by decide) (by decide))⟩, (hf 175 (by decide) (by decide) (by decide)).trans md, ⟨fun x x0 x1 => by rw [A 7080 (by decide) (by decide)]; exact j0 x x0 x1, (hf 177 (by decide) (by decide) (by decide)).trans j1, (hf 178 (by decide) (by decide) (by decide)).trans j2, (hf 179 (by decide) (by decide) (by decide)).trans j3, (hf 180 (by decide) (by decide) (by decide)).trans j4⟩, ⟨by rw [hf 8 (by decide) (by decide) (by decide)]; exact c1, by rw [hf 116 (by decide) (by decide) (by decide)]; exact c2, by rw [hf 99 (by decide) (by decide) (by decide)]; exact c3, by rw [hf 100 (by decide) (by decide) (by decide)]; exact c4⟩⟩
  · intro q q0 q1
    rw [e6, e36]
    by_cases c : q < w.gM
    · exact rowR_congr (R' := glR w.gRw w.gM S.2.1) (p1 q q0 c) (fun x a b => by rw [A x (by omega) (by omega)]) (fun j _ => by rw [A 6955 (by decide) (by decide)]) (fun x j a _ => by rw [A x (by omega) (by omega)]) (fun f => glR_lt c) d5 d6 (fun _ _ z => z)
    · have hh := rowR_low (d8 q (by omega) q1) p3 p4
      exact rowR_congr (R' := glR w.gRw w.gM S.2.1) hh (fun x a b => by rw [A x (by omega) (by omega)]) (fun j _ => by rw [A 6955 (by decide) (by decide)]) (fun x j a _ => by rw [A x (by omega) (by omega)]) (fun f => glR_ge (by omega)) (Int.le_refl _) (Int.le_refl _) (fun _ _ z => z)
  · rw [e6]; omega
  · show M1 6952 6 ≤ 3 * (w.gDe + n + 1)
    rw [e6]; omega
  · rw [e36]; omega
  · show 2 * M1 6952 36 ≤ w.gDe + n + 1
    rw [e36]; omega
  · intro q q0 q1
    show (im_up w.gRt k w.gM q = -1 → M1 6984 q = 0) ∧ (im_up w.gRt k w.gM q ≠ -1 → M1 6984 q = 1 ∧ M1 6985 q = im_up w.gRt k w.gM q ∧ M1 6986 q = eN (glR w.gRw w.gM S.2.1) S.2.2.1 (im_up w.gRt k w.gM q) - im_up w.gRt k w.gM q)
    rw [e84, e85, e86]
    unfold im_up
    by_cases hqk : q = k
    · rw [if_pos hqk, if_pos hqk, if_pos hqk, if_pos hqk]
      refine ⟨fun z => by omega, fun _ => ⟨rfl, rfl, ?_⟩⟩
      have : ends (glR w.gRw w.gM S.2.1 1) S.2.2.1 w.gM S.2.2.1 := by
        obtain ⟨x1, x2, x3, x4⟩ := hroot
        exact ⟨x1, x2, fun j a b => by rw [glR_ge (Int.le_refl _), glR_ge (by omega)]; exact x3 j a b, fun z => by omega⟩
      rw [eN_eq this]
    · rw [if_neg hqk, if_neg hqk, if_neg hqk, if_neg hqk]
      obtain ⟨g1, g2⟩ := r q q0 q1
      refine ⟨g1, fun z => ?_⟩
      obtain ⟨g3, g4, g5⟩ := g2 z
      have hv := (hrt q q0 q1).resolve_left z
      obtain ⟨x, hx⟩ := hee _ hv.1 hv.2
      refine ⟨g3, g4, ?_⟩
      rw [g5, eN_mono hx hv.2 (by omega) (hW.2.2 _ hv.1 hv.2).2.2.1.1 (fun _ => hr0)]
end RKEEPC
