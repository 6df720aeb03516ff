/-! THE CLASS reads inputs -/
def shl (u : UInt32) : List Int := (tx u).map Int32.toInt
def SHP (u : UInt32) (s : Int) (sh : List Int) : Prop := (u = 17 ∨ u = 18 ∨ u = 19) ∧ ∃ j : Nat, s = (j : Int) ∧ j ≤ (shl u).length ∧ sh = (shl u).drop j
theorem shl_x {u : UInt32} (h : u = 17 ∨ u = 18 ∨ u = 19) : (shl u).length ≤ 4 ∧ ∀ x ∈ shl u, x = 49 ∨ x = 50 ∨ x = 51 ∨ x = 110 := by
  rcases h with rfl | rfl | rfl
  · rw [show shl 17 = _ from tx_17]; exact ⟨by decide, fun x hx => by cases hx⟩
  · rw [show shl 18 = _ from tx_18]; exact ⟨by decide, fun x hx => by simp at hx; omega⟩
  · rw [show shl 19 = _ from tx_19]; exact ⟨by decide, fun x hx => by simp at hx; omega⟩
/-- what reading inputs leaves as it was -/
def FX (br : Nat) (M0 M : im_M) : Prop := (∀ x, x ≠ 2 → x ≠ 5 → x ≠ 6 → (x < br ∨ br + 86 ≤ x) → M x = M0 x) ∧ (∀ k, k < 3 ∨ 6 < k → M 2 k = M0 2 k)
def CIr (M : im_M) (br : Nat) (I : Ip) : Prop := ∃ k : Nat, I.1 = k ∧ crw M br 40 k I.2.1 I.2.2.1 I.2.2.2.1 I.2.2.2.2.1 I.2.2.2.2.2
theorem FX.ad {br : Nat} {M0 M M' : im_M} {p q ty nm v : Int} (h : FX br M0 M) (ha : adP M M' p q ty nm v) : FX br M0 M' := ⟨fun x a b c d => (ha.1 x a b c).trans (h.1 x a b c d), fun k hk => (ha.2.1 k (by omega) (by omega) (by omega) (by omega)).trans (h.2 k hk)⟩
theorem FX.bf {br : Nat} {M0 M M' : im_M} (h : FX br M0 M) (h2 : 6 < br) (hb : BF br 40 M M') : FX br M0 M' := ⟨fun x a b c d => (hb x (by omega)).trans (h.1 x a b c d), fun k hk => by rw [hb 2 (by omega)]; exact h.2 k hk⟩
theorem crw_A {M : im_M} {b n k : Nat} {T A B C V : Int → Int} {i w : Int} (h : crw M b n k T A B C V) (hi : 0 ≤ i ∧ i < k) : crw (im_u M (b + 2) i w) b n k T (im_up A i w) B C V := by
  obtain ⟨h1, h2, h3, h4, h5⟩ := h
  refine ⟨by rw [im_rdn _ _ _ _ (by omega)]; exact h1, h2, fun j hj => by rw [im_rdn _ _ _ _ (by omega)]; exact h3 j hj, fun j hj => ?_, fun j hj => cn_congr (h5 j hj) (im_u_ne _ _ _ (by omega)) (im_u_ne _ _ _ (by omega))⟩
  obtain ⟨a, b', c, d⟩ := h4 j hj
  refine ⟨by rw [im_rdn _ _ _ _ (by omega)]; exact a, ?_, by rw [im_rdn _ _ _ _ (by omega)]; exact c, by rw [im_rdn _ _ _ _ (by omega)]; exact d⟩
  rw [im_rdx]; unfold im_up; rw [b']
theorem crw_B {M : im_M} {b n k : Nat} {T A B C V : Int → Int} {i w : Int} (h : crw M b n k T A B C V) (hi : 0 ≤ i ∧ i < k) : crw (im_u M (b + 3) i w) b n k T A (im_up B i w) C V := by
  obtain ⟨h1, h2, h3, h4, h5⟩ := h
  refine ⟨by rw [im_rdn _ _ _ _ (by omega)]; exact h1, h2, fun j hj => by rw [im_rdn _ _ _ _ (by omega)]; exact h3 j hj, fun j hj => ?_, fun j hj => cn_congr (h5 j hj) (im_u_ne _ _ _ (by omega)) (im_u_ne _ _ _ (by omega))⟩
  obtain ⟨a, b', c, d⟩ := h4 j hj
  refine ⟨by rw [im_rdn _ _ _ _ (by omega)]; exact a, by rw [im_rdn _ _ _ _ (by omega)]; exact b', ?_, by rw [im_rdn _ _ _ _ (by omega)]; exact d⟩
  rw [im_rdx]; unfold im_up; rw [c]
theorem crw_C {M : im_M} {b n k : Nat} {T A B C V : Int → Int} {i w : Int} (h : crw M b n k T A B C V) (hi : 0 ≤ i ∧ i < k) : crw (im_u M (b + 4) i w) b n k T A B (im_up C i w) V := by
  obtain ⟨h1, h2, h3, h4, h5⟩ := h
  refine ⟨by rw [im_rdn _ _ _ _ (by omega)]; exact h1, h2, fun j hj => by rw [im_rdn _ _ _ _ (by omega)]; exact h3 j hj, fun j hj => ?_, fun j hj => cn_congr (h5 j hj) (im_u_ne _ _ _ (by omega)) (im_u_ne _ _ _ (by omega))⟩
  obtain ⟨a, b', c, d⟩ := h4 j hj
  refine ⟨by rw [im_rdn _ _ _ _ (by omega)]; exact a, by rw [im_rdn _ _ _ _ (by omega)]; exact b', by rw [im_rdn _ _ _ _ (by omega)]; exact c, ?_⟩
  rw [im_rdx]; unfold im_up; rw [d]
theorem crw_V {M M' : im_M} {b n k i : Nat} {T A B C V : Int → Int} {w : Int} (h : crw M b n k T A B C V) (hi : i < n) (hF : NF (b + 6 + 2 * i) M M') (hw : cn M' (b + 6 + 2 * i) w) : crw M' b n k T A B C (im_up V i w) := by
  obtain ⟨h1, h2, h3, h4, h5⟩ := h
  have e : ∀ x, x ≤ b + 5 → M' x = M x := fun x hx => hF x (by omega) (by omega)
  refine ⟨by rw [e b (by omega)]; exact h1, h2, by rw [e (b + 5) (by omega)]; exact h3, by rw [e (b + 1) (by omega), e (b + 2) (by omega), e (b + 3) (by omega), e (b + 4) (by omega)]; exact h4, fun j hj => ?_⟩
  by_cases hji : j = i
  · subst hji; rw [im_up_eq]; exact hw
  · rw [im_up_ne _ _ (by omega)]; exact cn_nf (h5 j hj) hF (by omega) (by omega) (by omega)
section CINP
variable {g : im_g} {d : Nat} {e : im_E} {M M0 : im_M} {K : im_K} {t : Int → Int} {n : Int} {br : Nat}
theorem c_inputBegins {I : Ip} {ty : Int} (hr : rwN e br 40) (hbr : 6 < br) (hc : CIr M br I) (h4 : M 2 4 = ty) (hi : im_i32 ty) (hd : 1 ≤ d)
    (h28 : ¬ (28 ≤ ty ∧ ty ≤ 30) → K (.inl (some (vI 4))) e M) (h40 : 28 ≤ ty ∧ ty ≤ 30 → I.1 = 40 → K (.inl (some (vI 9))) e M)
    (hK : 28 ≤ ty ∧ ty ≤ 30 → I.1 ≠ 40 → ∀ M', BF br 40 M M' → CIr M' br (ipB I ty) → K (.inl (some (vI 0))) e M') : im_T g d 105 0 [some (.ref 2), some (.ref br)] [] e M K := by
  obtain ⟨k, hk, c1, c2, c3, c4, c5⟩ := hc
  refine k_Reader_inputBegins_0 hr.1 hd ?_
  rw [h4, c1]
  refine ⟨fun a b => ⟨fun hlt => ?_, fun hge => h40 ⟨a, b⟩ (by omega)⟩, fun h => h28 (by omega)⟩
  refine k_Row_set_0 hr.1 ⟨by constructor <;> omega, fun _ => ⟨by decide, fun _ => ⟨by constructor <;> omega, hi, by decide, by decide, by decide, rfl, rfl, ?_⟩⟩, fun z => by omega⟩
  generalize hM1 : im_u (im_u (im_u (im_u M (br + 1) k ty) (br + 2) k 0) (br + 3) k 0) (br + 4) k 0 = M1
  have hne : ∀ x, x ≠ br + 1 → x ≠ br + 2 → x ≠ br + 3 → x ≠ br + 4 → M1 x = M x := fun x x1 x2 x3 x4 => by rw [← hM1, im_u_ne _ _ _ x4, im_u_ne _ _ _ x3, im_u_ne _ _ _ x2, im_u_ne _ _ _ x1]
  have f5 : M1 br 5 = k := by rw [hne br (by omega) (by omega) (by omega) (by omega)]; exact c1
  rw [f5]
  refine ⟨by constructor <;> omega, hK ⟨a, b⟩ (by omega) _ (fun x hx => ?_) ⟨k + 1, ?_, ?_, by omega, fun i hi => ?_, fun i hi => ?_, fun i hi => ?_⟩⟩
  · rw [im_u_ne _ _ _ (by omega), hne x (by omega) (by omega) (by omega) (by omega)]
  · show I.1 + 1 = _; omega
  · rw [im_rds]; omega
  · rw [im_rdn _ _ _ _ (by omega), hne _ (by omega) (by omega) (by omega) (by omega)]; exact c3 i hi
  · show _ = im_up I.2.1 I.1 ty i ∧ _ = im_up I.2.2.1 I.1 0 i ∧ _ = im_up I.2.2.2.1 I.1 0 i ∧ _ = im_up I.2.2.2.2.1 I.1 0 i
    rw [hk, im_rdn _ _ _ _ (by omega), im_rdn _ _ _ _ (by omega), im_rdn _ _ _ _ (by omega), im_rdn _ _ _ _ (by omega), ← hM1]
    by_cases hik : i = k
    · subst hik
      rw [im_rdn _ _ _ _ (by omega), im_rdn _ _ _ _ (by omega), im_rdn _ _ _ _ (by omega), im_rds, im_rdn _ _ _ _ (by omega), im_rdn _ _ _ _ (by omega), im_rds, im_rdn _ _ _ _ (by omega), im_rds, im_rds, im_up_eq, im_up_eq, im_up_eq, im_up_eq]
      exact ⟨rfl, rfl, rfl, rfl⟩
    · rw [im_rdn _ _ _ _ (by omega), im_rdn _ _ _ _ (by omega), im_rdn _ _ _ _ (by omega), im_rdk _ _ _ (by omega), im_rdn _ _ _ _ (by omega), im_rdn _ _ _ _ (by omega), im_rdk _ _ _ (by omega), im_rdn _ _ _ _ (by omega), im_rdn _ _ _ _ (by omega), im_rdk _ _ _ (by omega), im_rdn _ _ _ _ (by omega), im_rdn _ _ _ _ (by omega), im_rdk _ _ _ (by omega), im_rdn _ _ _ _ (by omega), im_rdn _ _ _ _ (by omega), im_rdn _ _ _ _ (by omega), im_up_ne _ _ (by omega), im_up_ne _ _ (by omega), im_up_ne _ _ (by omega), im_up_ne _ _ (by omega)]
      exact c4 i (by omega)
  · exact cn_congr (c5 i hi) (by rw [im_u_ne _ _ _ (by omega)]; exact hne _ (by omega) (by omega) (by omega) (by omega)) (by rw [im_u_ne _ _ _ (by omega)]; exact hne _ (by omega) (by omega) (by omega) (by omega))
theorem c_inputPart {I : Ip} {x ty nm v : Int} (hr : rwN e br 40) (hbr : 6 < br) (hc : CIr M br I) (h1 : 1 ≤ I.1) (h4 : M 2 4 = ty) (hx : x = 49 ∨ x = 50 ∨ x = 51 ∨ x = 110) (h6 : ty = 36 → M 2 6 = nm) (h5 : ty = 34 → cn M 5 v) (hd : 1 ≤ d)
    (hKf : ty ≠ (if x = 110 then 34 else 36) → K (.inl (some (vI (if ty = 41 then 3 else 4)))) e M)
    (hK : ty = (if x = 110 then 34 else 36) → ∀ M', BF br 40 M M' → CIr M' br (ipP I x (if x = 110 then v else nm)) → K (.inl (some (vI 0))) e M') : im_T g d 104 0 [some (.ref 2), some (.ref br), some (vI (M br 5 - 1)), some (vI x)] [] e M K := by
  obtain ⟨k, hk, hcr⟩ := hc
  obtain ⟨c1, c2, c3, c4, c5⟩ := id hcr
  have hx32 : im_i32 x := by constructor <;> omega
  rw [c1]
  refine k_Reader_inputPart_0 hr.1 hd ?_
  rw [h4]
  refine ⟨⟨fun _ => hx32, fun z => ?_⟩, fun x6 hx6 => ?_⟩
  · have := hKf (by rw [z]; split <;> decide)
    rw [if_pos z] at this; exact this
  · have e6 : x6 = if x = 110 then 34 else 36 := by
      by_cases h : x = 110
      · rw [if_pos h]; omega
      · rw [if_neg h]; omega
    have h41 : ty ≠ 41 := by omega
    rw [if_neg h41] at hKf
    rw [e6]
    refine ⟨fun hty => ⟨by constructor <;> omega, fun _ => ⟨hx32, fun hh => ⟨⟨by omega, by omega⟩, ?_⟩, fun hh => ⟨⟨by omega, by omega⟩, ?_⟩, fun hh => ⟨⟨by omega, by omega⟩, ?_⟩, fun hh => ⟨⟨by omega, by omega⟩, br + 6 + 2 * (k - 1), ?_, hr.2 (k - 1) (by omega), ?_⟩⟩⟩, fun hh => ?_⟩
    · have hn : x ≠ 110 := by omega
      have hK1 := hK hty
      rw [if_neg hn] at hty hK1
      rw [h6 hty]
      have ep : ipP I x nm = (I.1, I.2.1, im_up I.2.2.1 (I.1 - 1) nm, I.2.2.2.1, I.2.2.2.2.1, I.2.2.2.2.2) := if_pos hh
      rw [ep, hk] at hK1
      exact hK1 _ (fun y hy => im_u_ne _ _ _ (by omega)) ⟨k, rfl, crw_A hcr ⟨by omega, by omega⟩⟩
    · have hn : x ≠ 110 := by omega
      have hK1 := hK hty
      rw [if_neg hn] at hty hK1
      rw [h6 hty]
      have ep : ipP I x nm = (I.1, I.2.1, I.2.2.1, im_up I.2.2.2.1 (I.1 - 1) nm, I.2.2.2.2.1, I.2.2.2.2.2) := (if_neg (by omega)).trans (if_pos hh)
      rw [ep, hk] at hK1
      exact hK1 _ (fun y hy => im_u_ne _ _ _ (by omega)) ⟨k, rfl, crw_B hcr ⟨by omega, by omega⟩⟩
    · have hn : x ≠ 110 := by omega
      have hK1 := hK hty
      rw [if_neg hn] at hty hK1
      rw [h6 hty]
      have ep : ipP I x nm = (I.1, I.2.1, I.2.2.1, I.2.2.2.1, im_up I.2.2.2.2.1 (I.1 - 1) nm, I.2.2.2.2.2) := (if_neg (by omega)).trans ((if_neg (by omega)).trans (if_pos hh))
      rw [ep, hk] at hK1
      exact hK1 _ (fun y hy => im_u_ne _ _ _ (by omega)) ⟨k, rfl, crw_C hcr ⟨by omega, by omega⟩⟩
    · have := c3 (k - 1) (by omega)
      rw [show ((k - 1 : Nat) : Int) = (k : Int) - 1 from by omega] at this
      exact this
    · have hn : x = 110 := by omega
      have hK1 := hK hty
      rw [if_pos hn] at hty hK1
      have ep : ipP I x v = (I.1, I.2.1, I.2.2.1, I.2.2.2.1, I.2.2.2.2.1, im_up I.2.2.2.2.2 (I.1 - 1) v) := (if_neg (by omega)).trans ((if_neg (by omega)).trans (if_neg (by omega)))
      rw [ep, hk, show (k : Int) - 1 = ((k - 1 : Nat) : Int) from by omega] at hK1
      refine c_copy (hr.2 (k - 1) (by omega)) im_num5 (by omega) (h5 hty) (fun M' hF hcn => ⟨rfl, rfl, hK1 M' (fun y hy => hF y (by omega) (by omega)) ⟨k, rfl, crw_V hcr (by omega) hF hcn⟩⟩)
    · refine hKf ?_
      omega
end CINP
