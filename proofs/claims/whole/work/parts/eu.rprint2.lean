/-! THE REFERENCE prints a contract -/
section RPRINT2
variable {g : im_g} {d : Nat} {e : im_E} {M M0 : im_M} {K : im_K} {R : Rw} {m : Int}
theorem rwp_x {M' : im_M} {S' : List (Int × Int)} {L' : List Int} (h : rwp M0 M' S' L') (x : Nat) (hx : 6955 ≤ x ∧ x ≤ 6986) : M' x = M0 x := h.1.1 x (by omega) (by omega) (by omega) (by omega)
theorem l_pairsR {c pa : Int} {cnt : Nat} {S : List (Int × Int)} (h6 : M0 6952 6 ≤ 1100000) (hc5 : 0 ≤ c ∧ c < 5100) (e71 : M0 6971 c = pa) (e72 : M0 6972 c = cnt) (hpa : 0 ≤ pa ∧ pa + cnt ≤ 20400) (hr : ∀ k : Nat, k < cnt → rnp M0 0 (M0 6952 6) (M0 6973 (pa + k)) (R (8 + k) c) ∧ rnp M0 0 (M0 6952 6) (M0 6974 (pa + k)) (R (12 + k) c)) (hd : 2 ≤ d) {L0 : List Int} (h0 : L0.length ≠ 0)
    (hK : ∀ M', rwp M0 M' S (ltk L0 ((bl R c cnt).map numB ++ [[93]])) → K (.inl none) e M') :
    ∀ (j k : Nat) (M : im_M), k + j = cnt → rwp M0 M S (ltk L0 ((bl R c k).map numB)) → im_T g d 319 154 [some (.ref 6952), some (vI c), some (vI (pa + k))] [] e M K := by
  intro j
  induction j with
  | zero =>
    intro k M hk hc
    have : k = cnt := by omega
    subst this
    refine b_tellCase_154 (by omega) ?_
    rw [rwp_x hc 6971 (by decide), rwp_x hc 6972 (by decide), e71, e72]
    refine ⟨hc5, by constructor <;> omega, by constructor <;> omega, fun _ => c_rgap hc.2.2 (ltk_pos _ _ h0) (fun M1 f1 o1 => ⟨rfl, rfl, c_rputL o1 (by decide) (fun M2 f2 o2 => ⟨rfl, rfl, hK M2 ?_⟩)⟩), fun z => by omega⟩
    rw [ltk_app]
    exact (hc.qf f1 o1).qf f2 o2
  | succ j ih =>
    intro k M hk hc
    obtain ⟨r1, r2⟩ := hr k (by omega)
    have hpos := ltk_pos ((bl R c k).map numB) L0 h0
    refine b_tellCase_154 (by omega) ?_
    rw [rwp_x hc 6971 (by decide), rwp_x hc 6972 (by decide), e71, e72]
    refine ⟨hc5, by constructor <;> omega, by constructor <;> omega, fun z => by omega, fun _ => c_rgap hc.2.2 hpos (fun M1 f1 o1 => ⟨rfl, rfl, ⟨by omega, by omega⟩, ?_⟩)⟩
    have hc1 := hc.qf f1 o1
    rw [rwp_x hc1 6973 (by decide)]
    refine c_rnumberL (rnp_congr r1 (fun j _ => by rw [rwp_x hc1 6955 (by decide)]) (Int.le_refl _)) h6 o1 (by omega) (fun M2 f2 o2 => ⟨rfl, rfl, ?_⟩)
    have hc2 := hc1.qf f2 o2
    have hpos2 : (lps (lga (ltk L0 ((bl R c k).map numB))) (numB (R (8 + k) c))).length ≠ 0 := lps_pos _ _ (lga_pos hpos)
    refine c_rgap o2 hpos2 (fun M3 f3 o3 => ⟨rfl, rfl, ?_⟩)
    have hc3 := hc2.qf f3 o3
    rw [rwp_x hc3 6974 (by decide)]
    refine c_rnumberL (rnp_congr r2 (fun j _ => by rw [rwp_x hc3 6955 (by decide)]) (Int.le_refl _)) h6 o3 (by omega) (fun M4 f4 o4 => ⟨rfl, rfl, ?_⟩)
    have hc4 := hc3.qf f4 o4
    have := ih (k + 1) M4 (by omega) (by
      show rwp M0 M4 S (ltk L0 ((bl R c k ++ [R (8 + k) c, R (12 + k) c]).map numB))
      rw [List.map_append, ltk_app]
      exact hc4)
    rw [show (pa + ((k + 1 : Nat) : Int)) = pa + k + 1 by omega] at this
    exact this
theorem c_tellCaseR {c : Int} {S : List (Int × Int)} {L : List Int} (hB : QB M0 R m) (hc : rwp M0 M S L) (hn : 0 ≤ c ∧ c < m) (hk : 28 ≤ R 0 c ∧ R 0 c ≤ 30) (hS : S.length + 6 < 5000) (hd : 4 ≤ d)
    (hK : ∀ M', rwp M0 M' (ly (R 16 c) ++ (ly (R 17 c) ++ (ly (R 19 c) ++ S))) (ltk L (nmB (kwv 31) :: nmB (kwv (R 0 c)) :: caT R c)) → K (.inl none) e M') : im_T g d 319 0 [some (.ref 6952), some (vI c), none] [] e M K := by
  obtain ⟨hR, hW, hH, h6, h36, hlk⟩ := id hB
  have hrow := hR c hn.1 hn.2
  have r1 := hrow.1
  obtain ⟨r4a, r4b, _, r4d⟩ := hrow.2.2.2.1
  have hWn := hW.2.2 c hn.1 hn.2
  obtain ⟨v4, v5, v6⟩ := hWn.2.1.1
  obtain ⟨x4, x5, x6⟩ := (hH.2 c hn.1 hn.2).1
  have hl := hlk c hn.1 hn.2
  have l16 := hl 16 (by decide) (by decide)
  have l17 := hl 17 (by decide) (by decide)
  have l19 := hl 19 (by decide) (by decide)
  have m5 := hW.2.1
  have q2 := hrow.2.1 (by omega)
  have hkr : kR (R 0 c) (R 3 c) = R 0 c - 20 := by
    unfold kR
    rw [if_neg (by omega), if_neg (by omega), if_neg (by omega), if_neg (by omega), if_neg (by omega), if_pos (by omega)]
  rw [hkr] at r1
  have e60 : ∀ (M' : im_M) (S' : List (Int × Int)) (L' : List Int), rwp M0 M' S' L' → M' 6960 c = R 0 c - 20 := fun M' S' L' h' => by rw [rwp_x h' 6960 (by decide)]; exact r1
  have e31 : kwv 31 = 1667330917 := by decide
  have e28 : kwv 28 = 28259031251642740 := by decide
  have e29 : kwv 29 = 109300196926309 := by decide
  have e30 : kwv 30 = 121424973489785 := by decide
  refine b_tellCase_0 (by omega) ?_
  rw [← e31]
  refine c_rwordL (kwv_r (by decide)) hc.2.2 (by omega) (fun M1 f1 o1 => ⟨rfl, rfl, ⟨hn.1, by omega⟩, fun x7 h7 => ?_⟩)
  have hc1 := hc.qf f1 o1
  rw [e60 M1 _ _ hc1] at h7
  have hx7 : x7 = kwv (R 0 c) := by
    have : R 0 c = 28 ∨ R 0 c = 29 ∨ R 0 c = 30 := by omega
    rcases this with z | z | z
    · rw [z, e28]; omega
    · rw [z, e29]; omega
    · rw [z, e30]; omega
  rw [hx7]
  refine c_rwordL (kwv_r ⟨by omega, by omega⟩) o1 (by omega) (fun M2 f2 o2 => ⟨rfl, rfl, ?_⟩)
  have hc2 := hc1.qf f2 o2
  rw [rwp_x hc2 6967 (by decide), r4d]
  refine c_layR hc2 (by constructor <;> omega) (by omega) (fun M3 hc3 => ⟨rfl, rfl, ?_⟩)
  have ln3 := ly_len (R 19 c) S
  rw [rwp_x hc3 6965 (by decide), r4b]
  refine c_layR hc3 (by constructor <;> omega) (by omega) (fun M4 hc4 => ⟨rfl, rfl, ?_⟩)
  have ln4 := ly_len (R 17 c) (ly (R 19 c) ++ S)
  rw [rwp_x hc4 6964 (by decide), r4a]
  refine c_layR hc4 (by constructor <;> omega) (by omega) (fun M5 hc5 => ⟨rfl, rfl, ?_⟩)
  rw [e60 M5 _ _ hc5]
  have hpos2 : (ltk (ltk L [nmB (kwv 31)]) [nmB (kwv (R 0 c))]).length ≠ 0 ∨ True := Or.inr trivial
  unfold caT at hK
  refine ⟨fun h10 => ?_, fun h10 => ?_⟩
  · rw [if_neg (by omega)] at hK
    have e61 : M5 6961 c = R 4 c := by rw [rwp_x hc5 6961 (by decide)]; exact q2.1
    rw [e61]
    refine c_rwordL ⟨v4, x4⟩ hc5.2.2 (by omega) (fun M6 f6 o6 => ⟨rfl, rfl, ?_⟩)
    have hc6 := hc5.qf f6 o6
    have e62 : M6 6962 c = R 5 c := by rw [rwp_x hc6 6962 (by decide)]; exact q2.2
    rw [e62]
    refine c_rwordL ⟨v5, x5⟩ o6 (by omega) (fun M7 f7 o7 => ⟨rfl, rfl, ?_⟩)
    have hc7 := hc6.qf f7 o7
    rw [e60 M7 _ _ hc7]
    refine ⟨fun h8 => ?_, fun h8 => ?_⟩
    · rw [if_neg (by omega)] at hK
      have k29 : R 0 c = 29 := by omega
      obtain ⟨p1, p2, p3, p4⟩ := hrow.2.2.2.2.2.2 k29
      have hp6 := hWn.2.2.2 k29
      have hne7 : (ltk (ltk (ltk (ltk L [nmB (kwv 31)]) [nmB (kwv (R 0 c))]) [nmB (R 4 c)]) [nmB (R 5 c)]).length ≠ 0 := by
        refine ltk_pos _ _ (ltk_pos _ _ ?_)
        rw [k29]
        refine ltk_pos1 (by decide) [] _
      refine c_rgap o7 hne7 (fun M8 f8 o8 => ⟨rfl, rfl, c_rputL o8 (by decide) (fun M9 f9 o9 => ⟨rfl, rfl, ?_⟩)⟩)
      have hc9 := (hc7.qf f8 o8).qf f9 o9
      rw [rwp_x hc9 6971 (by decide)]
      have := l_pairsR (g := g) (d := d) (e := e) (K := K) (M0 := M0) (R := R) (c := c) (pa := M0 6971 c) (cnt := (R 6 c).toNat) (S := ly (R 16 c) ++ (ly (R 17 c) ++ (ly (R 19 c) ++ S))) h6 ⟨hn.1, by omega⟩ rfl (by rw [p1]; omega) ⟨p2, by omega⟩ (fun k hk' => p4 k (by omega)) (by omega) (L0 := ltk (ltk (ltk (ltk (ltk L [nmB (kwv 31)]) [nmB (kwv (R 0 c))]) [nmB (R 4 c)]) [nmB (R 5 c)]) [[91]]) (ltk_pos _ _ hne7) (fun M' h' => hK M' (by
        simp only [ltk_cons, ltk_nil] at h' ⊢
        exact h')) (R 6 c).toNat 0 M9 (by omega) hc9
      rw [show (M0 6971 c + ((0 : Nat) : Int)) = M0 6971 c by omega] at this
      exact this
    · rw [if_pos (by omega)] at hK
      have q3 := (hrow.2.2.1 (by omega)).1
      have e63 : M7 6963 c = R 6 c := by rw [rwp_x hc7 6963 (by decide)]; exact q3
      rw [e63]
      refine c_rwordL ⟨v6, x6⟩ o7 (by omega) (fun M8 f8 o8 => ⟨rfl, rfl, hK M8 ?_⟩)
      have hc8 := hc7.qf f8 o8
      simp only [ltk_cons, ltk_nil] at hc8 ⊢
      exact hc8
  · rw [if_pos (by omega)] at hK
    refine hK M5 ?_
    simp only [ltk_cons, ltk_nil] at hc5 ⊢
    exact hc5
end RPRINT2
