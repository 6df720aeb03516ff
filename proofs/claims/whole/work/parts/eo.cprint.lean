/-! THE CLASS prints a contract -/
def PB (M : im_M) (R : Rw) (m E : Int) : Prop := CP M R m E ∧ cKw M ∧ WFP R m ∧ prT R m ∧ ∀ j, 0 ≤ j → j < m → R 4 j ≤ 9223372036854775807 ∧ R 5 j ≤ 9223372036854775807 ∧ R 6 j ≤ 9223372036854775807
/-- the writer at work -/
def cwp (M0 M : im_M) (S : List (Int × Int)) (L : List Int) : Prop := pW M0 M ∧ (∃ v, cn M 11 v) ∧ wSt M S ∧ cOL M L
theorem PB.ends {M : im_M} {R : Rw} {m E : Int} (h : PB M R m E) : ∀ j, 0 ≤ j → j < m → ends (R 1) m j (eN R m j) := fun j a b => by
  have := (h.1.2 j a b).2
  rw [eN_eq this]; exact this
theorem PB.of {M M' : im_M} {R : Rw} {m E : Int} (h : PB M R m E) (hF : pW M M') : PB M' R m E := ⟨CP_congr h.1 (fun x a b => hF.1 x (by omega)), fun i a b => by rw [hF.1 3 (by decide)]; exact h.2.1 i a b, h.2.2⟩
section CPRINT
variable {g : im_g} {d : Nat} {e : im_E} {M M0 : im_M} {K : im_K} {R : Rw} {m E : Int}
theorem cwp.wf {M' : im_M} {S : List (Int × Int)} {L L' : List Int} (h : cwp M0 M S L) (hF : wF M M') (ho : cOL M' L') : cwp M0 M' S L' := by
  obtain ⟨a, ⟨v, b⟩, c, _⟩ := h
  exact ⟨a.trans hF.pw, ⟨v, cn_congr b (hF.1 _ (by decide) (by decide)) (hF.1 _ (by decide) (by decide))⟩, c.wf hF, ho⟩
theorem cwp.nf {M' : im_M} {S : List (Int × Int)} {L : List Int} {v : Int} (h : cwp M0 M S L) (hF : NF 11 M M') (hv : cn M' 11 v) : cwp M0 M' S L := by
  obtain ⟨a, _, c, o⟩ := h
  refine ⟨a.trans ⟨fun x hx => hF x (by omega) (by omega), fun k _ _ => by rw [hF 7 (by decide) (by decide)]⟩, ⟨v, hv⟩, ⟨by rw [hF 7 (by decide) (by decide)]; exact c.1, wst_congr S c.2 (fun i _ _ => ⟨by rw [hF 9 (by decide) (by decide)], by rw [hF 10 (by decide) (by decide)]⟩)⟩, cOut_congr o (hF 7 (by decide) (by decide)) (hF 8 (by decide) (by decide))⟩
/-- an entry is taken off -/
theorem cwp.pop {x : Int × Int} {S : List (Int × Int)} {L : List Int} (h : cwp M0 M (x :: S) L) : cwp M0 (im_u M 7 5 ((S.length : Int))) S L := by
  obtain ⟨a, ⟨v, b⟩, ⟨c1, c2⟩, o⟩ := h
  refine ⟨a.trans ⟨fun x hx => im_u_ne _ _ _ (by omega), fun k _ h5 => im_rdk _ _ _ h5⟩, ⟨v, cn_congr b (im_u_ne _ _ _ (by decide)) (im_u_ne _ _ _ (by decide))⟩, ⟨im_rds _ _ _ _, wst_congr S c2.2.2 (fun i _ _ => ⟨im_rdn _ _ _ _ (by decide), im_rdn _ _ _ _ (by decide)⟩)⟩, ⟨by rw [im_rdk _ _ _ (by decide)]; exact o.1, by rw [im_u_ne _ _ _ (by decide)]; exact o.2.1, o.2.2⟩⟩
theorem l_bounds {n : Int} {S : List (Int × Int)} (hB : PB M0 R m E) (hn : 0 ≤ n ∧ n < m) (h29 : R 0 n = 29) (hd : 4 ≤ d) {L9 : List Int} (hK : ∀ M', cwp M0 M' S L9 → K (.inl none) e M') :
    ∀ (vs : List Int) (M : im_M) (L : List Int) (at' i : Int), cwp M0 M S L → (∃ p', dsq M0 at' vs p') → i + vs.length = 2 * R 6 n → 0 ≤ i → L9 = ltk L (vs.map numB ++ [[93]]) → im_T g d 185 10 [some (.ref 7), some (.ref 13), some (vI n), some (vI at'), some (vI i)] [] e M K := by
  have h5 := hB.2.2.1.2.1
  have h6 := (hB.2.2.1.2.2 n hn.1 hn.2).2.2.2 h29
  intro vs
  induction vs with
  | nil =>
    intro M L at' i hc hq hi i0 hL
    have e21 : M 21 n = R 6 n := by rw [hc.1.1 21 (by omega)]; exact (hB.1.2 n hn.1 hn.2).1.2.2.2.2.2.1
    have hi : i = 2 * R 6 n := by simpa using hi
    refine k_Writer_bounds_10 (by omega) ?_
    rw [e21]
    refine ⟨by constructor <;> omega, ⟨hn.1, by omega⟩, by constructor <;> omega, fun _ => c_signL (by decide) hc.2.2.2 (by omega) (fun M' f o => ⟨rfl, rfl, hK M' (by rw [hL]; exact hc.wf f o)⟩), fun z => by omega⟩
  | cons v vs ih =>
    intro M L at' i hc hq hi i0 hL
    have e21 : M 21 n = R 6 n := by rw [hc.1.1 21 (by omega)]; exact (hB.1.2 n hn.1 hn.2).1.2.2.2.2.2.1
    rw [List.length_cons] at hi
    obtain ⟨pe, p1, hp1, hq'⟩ := hq
    refine k_Writer_bounds_10 (by omega) ?_
    rw [e21]
    refine ⟨by clear hq' hp1; constructor <;> omega, ⟨hn.1, by clear hq' hp1; omega⟩, by clear hq' hp1; constructor <;> omega, fun z => by clear hq' hp1; omega, fun _ => ?_⟩
    refine c_load (q := 11) nm_11 (dgs_congr hp1 (fun j _ _ => by rw [hc.1.1 22 (by omega)])) (by clear hq' hp1; omega) (fun M1 F1 c1 => ⟨_, rfl, rfl, ?_⟩)
    have hc1 := hc.nf F1 c1
    refine c_numberL nm_11 (by decide) c1 hc1.2.2.2 (by clear hq' hp1; omega) (fun M2 f2 o2 => ⟨rfl, rfl, ?_⟩)
    exact ih M2 _ p1 (i + 1) (hc1.wf f2 o2) ⟨pe, hq'⟩ (by clear hq' hp1; omega) (by clear hq' hp1; omega) hL
/-- a part that isn't a node -/
theorem c_partW {n : Int} {y : Int × Int × Int} {S : List (Int × Int)} {L : List Int} {F : Bool → Int → List (List Int)} (hB : PB M0 R m E) (hc : cwp M0 M S L) (hn : 0 ≤ n ∧ n < m) (hy : y ∈ shp (R 0 n)) (hy2 : ¬ ckd y.1) (hy3 : y.1 ≠ 107) (hy4 : y.1 ≠ 97) (hd : 6 ≤ d) (hK : ∀ M', cwp M0 M' S (ltk L (sgT1 R F n y)) → K (.inl none) e M') : im_T g d 184 0 [some (.ref 7), some (.ref 13), some (vI y.1), some (vI n)] [] e M K := by
  obtain ⟨⟨_, hrow⟩, hkw, ⟨m0, m5, hW⟩, _, hmx⟩ := id hB
  obtain ⟨⟨c1, _, _, c4, c5, c6, c7, _, c9⟩, _⟩ := hrow n hn.1 hn.2
  obtain ⟨_, ⟨⟨v4, v5, v6⟩, _, vt, v3⟩, _, vp⟩ := hW n hn.1 hn.2
  obtain ⟨x4, x5, x6⟩ := hmx n hn.1 hn.2
  have eM : ∀ x, 12 < x → M x = M0 x := fun x hx => hc.1.1 x (by omega)
  have hkwM : cKw M := fun i a b => by rw [hc.1.1 3 (by decide)]; exact hkw i a b
  have hsign : y.1 = 49 ∨ y.1 = 50 ∨ y.1 = 51 ∨ (y.1 = 100 ∧ R 0 n = 1) ∨ y.1 = 91 ∨ (y.1 = 98 ∧ R 0 n = 29) ∨ (y.1 = 116 ∧ R 0 n = 3) := by
    have : ∀ k, ∀ z ∈ shp k, z.1 = 49 ∨ z.1 = 50 ∨ z.1 = 51 ∨ (z.1 = 100 ∧ k = 1) ∨ z.1 = 91 ∨ (z.1 = 98 ∧ k = 29) ∨ (z.1 = 116 ∧ k = 3) ∨ ckd z.1 ∨ z.1 = 107 ∨ z.1 = 97 := by
      intro k
      refine shp_ind (P := fun k l => ∀ z ∈ l, z.1 = 49 ∨ z.1 = 50 ∨ z.1 = 51 ∨ (z.1 = 100 ∧ k = 1) ∨ z.1 = 91 ∨ (z.1 = 98 ∧ k = 29) ∨ (z.1 = 116 ∧ k = 3) ∨ ckd z.1 ∨ z.1 = 107 ∨ z.1 = 97) k (fun h => ?_) (fun h => ?_) (fun h => ?_) (fun h => ?_) (fun h => ?_) (fun h => ?_) (fun h => ?_) (fun h => ?_) (fun h => ?_) (fun h => ?_) (fun h => ?_) (fun h => ?_) (fun h => ?_) (fun h => ?_) (fun h => ?_) (fun h => ?_) <;> simp [ckd, h]
    rcases this _ y hy with z | z | z | z | z | z | z | z | z | z
    · exact Or.inl z
    · exact Or.inr (Or.inl z)
    · exact Or.inr (Or.inr (Or.inl z))
    · exact Or.inr (Or.inr (Or.inr (Or.inl z)))
    · exact Or.inr (Or.inr (Or.inr (Or.inr (Or.inl z))))
    · exact Or.inr (Or.inr (Or.inr (Or.inr (Or.inr (Or.inl z)))))
    · exact Or.inr (Or.inr (Or.inr (Or.inr (Or.inr (Or.inr z)))))
    · exact absurd z hy2
    · exact absurd z hy3
    · exact absurd z hy4
  unfold sgT1 at hK
  refine k_Writer_part_0 (by omega) ?_
  rw [eM 19 (by decide), eM 20 (by decide), eM 21 (by decide), eM 18 (by decide), c4, c5, c6]
  have h5000 : 0 ≤ n ∧ n < 5000 := by omega
  refine ⟨by constructor <;> omega, fun z => ⟨h5000, ?_⟩, fun z => ⟨h5000, ?_⟩, fun z => ⟨h5000, ?_⟩, fun z => ⟨h5000, fun x hx => ?_⟩, fun z => ?_, fun z => absurd z hy3, fun z => ?_, fun z => ?_⟩
  · rw [if_pos z] at hK
    exact c_codeL ⟨v4, x4⟩ hc.2.2.2 (by omega) (fun M' f o => ⟨rfl, rfl, hK M' (hc.wf f o)⟩)
  · rw [if_neg (by omega), if_pos z] at hK
    exact c_codeL ⟨v5, x5⟩ hc.2.2.2 (by omega) (fun M' f o => ⟨rfl, rfl, hK M' (hc.wf f o)⟩)
  · rw [if_neg (by omega), if_neg (by omega), if_pos z] at hK
    exact c_codeL ⟨v6, x6⟩ hc.2.2.2 (by omega) (fun M' f o => ⟨rfl, rfl, hK M' (hc.wf f o)⟩)
  · rw [if_neg (by omega), if_neg (by omega), if_neg (by omega), if_pos z] at hK
    have k1 : R 0 n = 1 := by omega
    rw [c7 (Or.inl k1)] at hx
    have hxx : x = if R 3 n = 1 then 33 else 32 := by split <;> omega
    rw [← hxx] at hK
    exact c_keywordL (by omega) hkwM hc.2.2.2 (by omega) (fun M' f o => ⟨rfl, rfl, hK M' (hc.wf f o)⟩)
  · rw [if_neg (by omega), if_neg (by omega), if_neg (by omega), if_neg (by omega), if_pos z] at hK
    exact c_signL (by decide) hc.2.2.2 (by omega) (fun M' f o => ⟨rfl, rfl, hK M' (hc.wf f o)⟩)
  · rw [if_neg (by omega), if_neg (by omega), if_neg (by omega), if_neg (by omega), if_neg (by omega), if_pos z] at hK
    have k29 : R 0 n = 29 := by omega
    have hp6 := vp k29
    obtain ⟨p', hq, _⟩ := c9 k29 (by omega)
    refine k_Writer_bounds_0 ⟨h5000, ?_⟩
    rw [eM 18 (by decide)]
    refine l_bounds (d := d - 1) hB hn k29 (by clear hq; omega) (L9 := ltk L ((bl R n (R 6 n).toNat).map numB ++ [[93]])) (fun M' hc' => ⟨rfl, rfl, hK M' hc'⟩) (bl R n (R 6 n).toNat) M L _ 0 hc ⟨p', hq⟩ ?_ (Int.le_refl _) rfl
    have : ∀ c : Nat, (bl R n c).length = 2 * c := by
      intro c
      induction c with
      | zero => rfl
      | succ c ih => show (bl R n c ++ [R (8 + c) n, R (12 + c) n]).length = _; rw [List.length_append, ih]; simp; omega
    rw [this]; clear hq; omega
  · have z116 : y.1 = 116 := by omega
    have k3 : R 0 n = 3 := by omega
    rw [if_neg (by omega), if_neg (by omega), if_neg (by omega), if_neg (by omega), if_neg (by omega), if_neg (by omega), if_pos z116] at hK
    obtain ⟨t1, t2⟩ := vt k3
    refine k_Writer_whenTime_0 (by omega) ?_
    rw [eM 19 (by decide), eM 20 (by decide), c4, c5]
    unfold tmT at hK
    refine ⟨h5000, fun h0 => ?_, fun h0 => ?_⟩
    · rw [if_neg (Decidable.not_not.mpr h0)] at hK
      refine k_Writer_time_0 (by omega) (c_setTime nm_11 v4 (by omega) (by omega) (fun M1 F1 c1' => ⟨rfl, rfl, ?_⟩))
      have hc1 := hc.nf F1 c1'
      exact c_numberL nm_11 (by decide) c1' hc1.2.2.2 (by omega) (fun M2 f2 o2 => ⟨rfl, rfl, rfl, rfl, rfl, rfl, hK M2 (hc1.wf f2 o2)⟩)
    · rw [if_pos h0] at hK
      exact c_namedL ⟨v5, x5⟩ hc.2.2.2 (by omega) (fun M' f o => ⟨rfl, rfl, rfl, rfl, hK M' (hc.wf f o)⟩)
end CPRINT
