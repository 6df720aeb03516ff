/-! THE REFERENCE looks ahead, as it is called -/
section RLOOKP
variable {g : im_g} {d : Nat} {e : im_E} {M : im_M} {K : im_K} {w : Wd}
/-- the search, once what it begins with is taken -/
theorem c_rlkGo {k fr mask fuel e0 : Int} {N : Nat} {P : Nat → Pe} {o : Int × Int × (Nat → Pe) × Nat} {M0 : im_M} (h : RW M0 w) (hW : WFP w.gRw w.gM) (hde : w.gDe ≤ 16384) (hn : ∀ j, 0 ≤ j → j < w.gM → w.gRw 4 j ≤ 9223372036854775807 ∧ w.gRw 5 j ≤ 9223372036854775807 ∧ w.gRw 6 j ≤ 9223372036854775807) (hfu : 0 ≤ fuel ∧ fuel ≤ 400) (hH : lkH w k fr e0) (hr : srS w.gRw (lkG w k fr) mask fuel N 0 [(lkL w k fr, ofs w.gRw (lkG w k fr) (lkL w k fr))] P o) (hd : 22 ≤ d)
    (x1 : ∀ x, x ≠ 6952 → x ≠ 6955 → (x < 7011 ∨ 7020 < x) → M x = M0 x) (k1 : ∀ f, f ≠ 7 → f ≠ 83 → f ≠ 84 → f ≠ 85 → f ≠ 89 → f ≠ 93 → f ≠ 96 → M 6952 f = M0 6952 f) (p1 : ∀ i, i < M0 6952 6 → M 6955 i = M0 6955 i) (h7 : M0 6952 6 ≤ M 6952 7 ∧ M 6952 7 ≤ M0 6952 6 + 42280) (h83 : M 6952 83 = (lkL w k fr).nd ∧ M 6952 84 = (lkL w k fr).ls) (ha : rb2 M 85 7011 7012 7013 (lkL w k fr).ac (M 6952 7)) (hc : rb2 M 89 7014 7015 7016 (lkL w k fr).ch (M 6952 7)) (hl : rb1 M 93 7017 7018 (lkL w k fr).lt (M 6952 7)) (hg : rb1 M 96 7019 7020 (lkG w k fr) (M 6952 7)) (hg20 : (lkG w k fr).1 ≤ 20) (h00 : M0 6952 0 = 0)
    (hK : ∀ M', (∀ z, z < 6952 ∨ 7080 < z → M' z = M0 z) → RW M' (lkW w o) → M' 6952 0 = 0 → K (.inl (some (vI o.1))) e M') : im_T g d 428 146 [some (.ref 6952), none, none, some (vI mask), some (vI fuel), none, some (vI 0)] [] e (im_u (im_u (im_u M 6952 175 0) 6952 4 0) 6952 102 1) K := by
  obtain ⟨g1, g2, g3, g4⟩ := hH
  obtain ⟨⟨_, _, ⟨f1, f2⟩⟩, ⟨⟨q1, q2, q3, q4⟩, _, _⟩, _, _, _, _, ⟨s8, s116, s99, s100⟩⟩ := id h
  have ux : ∀ x, x ≠ 6952 → im_u (im_u (im_u M 6952 175 0) 6952 4 0) 6952 102 1 x = M x := fun x a => by rw [im_u_ne _ _ _ a, im_u_ne _ _ _ a, im_u_ne _ _ _ a]
  have uk : ∀ f, f ≠ 175 → f ≠ 4 → f ≠ 102 → im_u (im_u (im_u M 6952 175 0) 6952 4 0) 6952 102 1 6952 f = M 6952 f := fun f a b c => by rw [im_rdk _ _ _ c, im_rdk _ _ _ b, im_rdk _ _ _ a]
  have u175 : im_u (im_u (im_u M 6952 175 0) 6952 4 0) 6952 102 1 6952 175 = 0 := by rw [im_rdk _ _ _ (by decide), im_rdk _ _ _ (by decide), im_rds]
  have u4 : im_u (im_u (im_u M 6952 175 0) 6952 4 0) 6952 102 1 6952 4 = 0 := by rw [im_rdk _ _ _ (by decide), im_rds]
  have u102 : im_u (im_u (im_u M 6952 175 0) 6952 4 0) 6952 102 1 6952 102 = 1 := im_rds _ _ _ _
  generalize im_u (im_u (im_u M 6952 175 0) 6952 4 0) 6952 102 1 = B at ux uk u175 u4 u102
  have bk : ∀ f, f ≠ 7 → f ≠ 83 → f ≠ 84 → f ≠ 85 → f ≠ 89 → f ≠ 93 → f ≠ 96 → f ≠ 175 → f ≠ 4 → f ≠ 102 → B 6952 f = M0 6952 f := fun f a b c d i j q r s t => (uk f r s t).trans (k1 f a b c d i j q)
  have bx : ∀ x, x ≠ 6952 → x ≠ 6955 → (x < 7011 ∨ 7020 < x) → B x = M0 x := fun x a b c => (ux x a).trans (x1 x a b c)
  have b7 : B 6952 7 = M 6952 7 := uk 7 (by decide) (by decide) (by decide)
  have b6 : B 6952 6 = M0 6952 6 := bk 6 (by decide) (by decide) (by decide) (by decide) (by decide) (by decide) (by decide) (by decide) (by decide) (by decide)
  have b36 : B 6952 36 = M0 6952 36 := bk 36 (by decide) (by decide) (by decide) (by decide) (by decide) (by decide) (by decide) (by decide) (by decide) (by decide)
  have b99 : B 6952 99 = M0 6952 99 := bk 99 (by decide) (by decide) (by decide) (by decide) (by decide) (by decide) (by decide) (by decide) (by decide) (by decide)
  have b100 : B 6952 100 = M0 6952 100 := bk 100 (by decide) (by decide) (by decide) (by decide) (by decide) (by decide) (by decide) (by decide) (by decide) (by decide)
  have b8 : B 6952 8 = M0 6952 8 := bk 8 (by decide) (by decide) (by decide) (by decide) (by decide) (by decide) (by decide) (by decide) (by decide) (by decide)
  have b116 : B 6952 116 = M0 6952 116 := bk 116 (by decide) (by decide) (by decide) (by decide) (by decide) (by decide) (by decide) (by decide) (by decide) (by decide)
  have bp : ∀ i, B 6955 i = M 6955 i := fun i => by rw [ux 6955 (by decide)]
  have KB : KPL B w.gRw w.gM (lkG w k fr) (lkL w k fr) (M 6952 7) := by
    refine ⟨RP_congr q1 b6 b36 (fun x a b => bx x (by omega) (by omega) (by omega)) (fun i hi => by rw [bp i]; exact p1 i hi), ⟨B 6952 99, B 6952 100, ?_, ?_, ?_, ⟨?_, hg20, g1⟩, ⟨rfl, rfl⟩, by rw [b99]; exact s99, by rw [b100]; exact s100⟩, ⟨by omega, b7⟩, by rw [uk 83 (by decide) (by decide) (by decide)]; exact h83.1, by rw [uk 84 (by decide) (by decide) (by decide)]; exact h83.2⟩
    · exact rb2_congr ha (uk 85 (by decide) (by decide) (by decide)) (ux _ (by decide)) (ux _ (by decide)) (ux _ (by decide)) (fun i _ => bp i) (Int.le_refl _)
    · exact rb2_congr hc (uk 89 (by decide) (by decide) (by decide)) (ux _ (by decide)) (ux _ (by decide)) (ux _ (by decide)) (fun i _ => bp i) (Int.le_refl _)
    · exact rb1_congr hl (uk 93 (by decide) (by decide) (by decide)) (ux _ (by decide)) (ux _ (by decide)) (fun i _ => bp i) (Int.le_refl _)
    · exact rb1_congr hg (uk 96 (by decide) (by decide) (by decide)) (ux _ (by decide)) (ux _ (by decide)) (fun i _ => bp i) (Int.le_refl _)
  have hac := g4.2.2.2.1
  refine c_rsea hW g2 hn (by omega) hfu KB g4 (by rw [b6]; omega) u102 (by rw [b8]; exact s8) (by rw [b116]; exact s116) (by rw [b36]; omega) u175 ⟨u4, fun i a b => absurd b (by show ¬ i < ((0 : Nat) : Int); omega), by decide⟩ (by omega) hr (fun M1 M' F1 S1 qf m175 hout hsame => ?_)
  have mx : ∀ x, x ≠ 6952 → x ≠ 6954 → M' x = M1 x := qf.1
  have mk : ∀ f, f ≠ 4 → M' 6952 f = M1 6952 f := qf.2
  have fr : ∀ x, x ≠ 6952 → x ≠ 6954 → (x < 6955 ∨ 6958 < x) → (x < 6979 ∨ 6983 < x) → (x < 7011 ∨ 7041 < x) → (x < 7057 ∨ 7079 < x) → M' x = M0 x := fun x a b c d f i => by
    rw [mx x a b, F1.1 x a c d (by omega) (by omega) i, bx x a (by omega) (by omega)]
  have fk : ∀ f, sK f → f ≠ 96 → f ≠ 4 → f ≠ 102 → M' 6952 f = M0 6952 f := fun f a b c i => by
    rw [mk f c, F1.2.1 f a]
    exact bk f a.1 a.2.2.2.1 a.2.2.2.2.1 a.2.2.2.2.2.1 a.2.2.2.2.2.2.1 a.2.2.2.2.2.2.2.1 b a.2.2.2.2.2.2.2.2.2.2.2.2.2.2.2.2.2.2 c i
  refine hK M' (fun z hz => fr z (by omega) (by omega) (by omega) (by omega) (by omega) (by omega)) ?_ (by rw [fk 0 (by decide) (by decide) (by decide) (by decide)]; exact h00)
  refine h.lk fr (fun f hf => fk f (by omega) (by omega) (by omega) (by omega)) (fun i hi => ?_) ?_ (by rw [mk 175 (by decide)]; exact m175) ?_
  · rw [mx 6955 (by decide) (by decide), F1.2.2.1 i (by omega), bp i]; exact p1 i hi
  · by_cases z : o.1 = 1
    · rw [if_pos z]; exact hout z
    · rw [if_neg z, hsame z]
      exact ⟨by rw [F1.2.1 4 (by decide)]; exact u4, fun i a b => absurd b (by show ¬ i < ((0 : Nat) : Int); omega), by decide⟩
  · obtain ⟨_, _, _, ⟨_, _, z8⟩, z116, _, z99, z100⟩ := S1
    exact ⟨by rw [mk 8 (by decide)]; exact z8, by rw [mk 116 (by decide)]; exact z116, by rw [mk 99 (by decide)]; exact z99, by rw [mk 100 (by decide)]; exact z100⟩
end RLOOKP
