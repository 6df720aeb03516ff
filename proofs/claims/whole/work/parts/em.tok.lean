/-! A CONTRACT'S WORDS, and how the class writes a node's -/
def tmT (R : Rw) (n : Int) : List Int := if R 5 n ≠ 0 then 63 :: nmB (R 5 n) else numB (R 4 n)
def sgT1 (R : Rw) (F : Bool → Int → List (List Int)) (n : Int) (y : Int × Int × Int) : List (List Int) := if y.1 = 49 then [nmB (R 4 n)] else if y.1 = 50 then [nmB (R 5 n)] else if y.1 = 51 then [nmB (R 6 n)] else if y.1 = 100 then [nmB (kwv (if R 3 n = 1 then 33 else 32))] else if y.1 = 91 then [[91]] else if y.1 = 98 then (bl R n (R 6 n).toNat).map numB ++ [[93]] else if y.1 = 116 then [tmT R n] else if y.1 = 107 then F true (R 16 n) ++ [[93]] else F false (R (15 + y.2.1.toNat) n)
def sgT (R : Rw) (F : Bool → Int → List (List Int)) (n : Int) : List (Int × Int × Int) → List (List Int)
  | [] => []
  | y :: l => sgT1 R F n y ++ sgT R F n l
def tX (R : Rw) : Nat → Bool → Int → List (List Int)
  | 0, _, _ => []
  | f + 1, false, n => if R 0 n = 34 then [numB (R 7 n)] else if R 0 n = 35 then [63 :: nmB (R 4 n)] else nmB (kwv (R 0 n)) :: sgT R (tX R f) n (shp (R 0 n))
  | f + 1, true, c => if c = -1 then [] else nmB (kwv 31) :: nmB (kwv (R 0 c)) :: (sgT R (tX R f) c (shp (R 0 c)) ++ tX R f true (R 19 c))
/-- the writer's stack -/
def wst (M : im_M) : List (Int × Int) → Prop
  | [] => True
  | x :: L => M 9 L.length = x.1 ∧ M 10 L.length = x.2 ∧ wst M L
def wSt (M : im_M) (L : List (Int × Int)) : Prop := M 7 5 = L.length ∧ wst M L
theorem wst_congr {M M' : im_M} : ∀ (L : List (Int × Int)), wst M L → (∀ i : Int, 0 ≤ i → i < L.length → M' 9 i = M 9 i ∧ M' 10 i = M 10 i) → wst M' L := by
  intro L
  induction L with
  | nil => intro _ _; trivial
  | cons x L ih =>
    intro h hs
    obtain ⟨h1, h2, h3⟩ := h
    have := hs L.length (by omega) (by rw [List.length_cons]; omega)
    exact ⟨by rw [this.1]; exact h1, by rw [this.2]; exact h2, ih h3 (fun i a b => hs i a (by rw [List.length_cons]; omega))⟩
theorem wSt.wf {M M' : im_M} {L : List (Int × Int)} (h : wSt M L) (hF : wF M M') : wSt M' L := ⟨by rw [hF.2 5 (by decide)]; exact h.1, wst_congr L h.2 (fun i _ _ => ⟨by rw [hF.1 9 (by decide) (by decide)], by rw [hF.1 10 (by decide) (by decide)]⟩)⟩
/-- what printing leaves alone -/
def pW (M M' : im_M) : Prop := (∀ x, x < 7 ∨ 12 < x → M' x = M x) ∧ (∀ k, k ≠ 1 → k ≠ 5 → M' 7 k = M 7 k)
theorem pW.rf (M : im_M) : pW M M := ⟨fun _ _ => rfl, fun _ _ _ => rfl⟩
theorem pW.trans {M M1 M2 : im_M} (h : pW M M1) (h' : pW M1 M2) : pW M M2 := ⟨fun x a => (h'.1 x a).trans (h.1 x a), fun k a b => (h'.2 k a b).trans (h.2 k a b)⟩
theorem wF.pw {M M' : im_M} (h : wF M M') : pW M M' := ⟨fun x a => h.1 x (by omega) (by omega), fun k a _ => h.2 k a⟩
theorem nm_11 {e : im_E} : im_num e 11 := ⟨sf_11, sf_12⟩
section TOKC
variable {g : im_g} {d : Nat} {e : im_E} {M M0 : im_M} {K : im_K} {R : Rw} {m E : Int}
theorem c_pushW {a b : Int} {S : List (Int × Int)} {L : List Int} (hs : wSt M S) (hS : S.length < 1024) (ha : im_i32 a) (hb : im_i32 b) (ho : cOL M L) (hK : ∀ M', pW M M' → (M' 11 = M 11 ∧ M' 12 = M 12) → wSt M' ((a, b) :: S) → cOL M' L → K (.inl none) e M') : im_T g d 175 0 [some (.ref 7), some (vI a), some (vI b)] [] e M K := by
  obtain ⟨h1, h2⟩ := hs
  refine k_Writer_push_0 ?_
  rw [h1]
  refine ⟨fun z => by omega, fun _ => ⟨⟨by omega, by omega⟩, ha, hb, by constructor <;> omega, hK _ ⟨fun x hx => ?_, fun k k1 k5 => ?_⟩ ⟨?_, ?_⟩ ⟨?_, ?_, ?_, ?_⟩ ⟨?_, ?_, ho.2.2⟩⟩⟩
  · rw [im_u_ne _ _ _ (by omega), im_u_ne _ _ _ (by omega), im_u_ne _ _ _ (by omega)]
  · rw [im_rdk _ _ _ k5, im_rdn _ _ _ _ (by decide), im_rdn _ _ _ _ (by decide)]
  · rw [im_u_ne _ _ _ (by decide), im_u_ne _ _ _ (by decide), im_u_ne _ _ _ (by decide)]
  · rw [im_u_ne _ _ _ (by decide), im_u_ne _ _ _ (by decide), im_u_ne _ _ _ (by decide)]
  · rw [im_rds]; rfl
  · rw [im_rdn _ _ _ _ (by decide), im_rdn _ _ _ _ (by decide), im_rds]
  · rw [im_rdn _ _ _ _ (by decide), im_rds]
  · refine wst_congr S h2 (fun i i0 i1 => ⟨?_, ?_⟩)
    · rw [im_rdn _ _ _ _ (by decide), im_rdn _ _ _ _ (by decide), im_rdk _ _ _ (by omega)]
    · rw [im_rdn _ _ _ _ (by decide), im_rdk _ _ _ (by omega), im_rdn _ _ _ _ (by decide)]
  · rw [im_rdk _ _ _ (by decide), im_rdn _ _ _ _ (by decide), im_rdn _ _ _ _ (by decide)]; exact ho.1
  · rw [im_u_ne _ _ _ (by decide), im_u_ne _ _ _ (by decide), im_u_ne _ _ _ (by decide)]; exact ho.2.1
/-- a shape's signs, from its last one on -/
theorem l_nodeW {u : UInt32} {n : Int} {l : List (Int × Int × Int)} {S : List (Int × Int)} {L : List Int} (hu : u.toNat < 20) (ht : (tx u).map Int32.toInt = l.map (fun x => x.1)) (hc : ∀ x ∈ l, 0 ≤ x.1 ∧ x.1 < 256) (hl : l.length ≤ 6) (hS : S.length + 6 < 1024) (hn : im_i32 n) (hd : 4 ≤ d) (hK : ∀ M', pW M0 M' → (M' 11 = M0 11 ∧ M' 12 = M0 12) → wSt M' (ps2 n l ++ S) → cOL M' L → K (.inl none) e M') :
    ∀ (j : Nat) (M : im_M), j ≤ l.length → pW M0 M → (M 11 = M0 11 ∧ M 12 = M0 12) → wSt M (ps2 n (l.drop j) ++ S) → cOL M L → im_T g d 176 78 [some (.ref 7), none, some (vI n), none, some (.float u), some (vI ((j : Int) - 1))] [] e M K := by
  have hub : Nat.blt u.toNat 30 = true := Nat.ble_eq_true_of_le (by omega)
  have htl : (tx u).length = l.length := by have := congrArg List.length ht; simpa using this
  intro j
  induction j with
  | zero =>
    intro M hj hF h11 hs ho
    exact k_Writer_node_78 hub (by omega) ⟨by constructor <;> omega, fun _ => hK M hF h11 hs ho, fun z => absurd z (by omega)⟩
  | succ j ih =>
    intro M hj hF h11 hs ho
    have hjl : j < l.length := by omega
    have hch : ((tx u).getD j 0).toInt = (l[j]).1 := by
      have h1 : ((tx u).map Int32.toInt)[j]? = (l.map (fun x => x.1))[j]? := by rw [ht]
      rw [List.getElem?_map, List.getElem?_map, List.getElem?_eq_getElem hjl, List.getElem?_eq_getElem (by omega)] at h1
      simp only [Option.map_some, Option.some.injEq] at h1
      rw [List.getD_eq_getElem?_getD, List.getElem?_eq_getElem (by omega)]
      exact h1
    have hr := hc l[j] (List.getElem_mem hjl)
    rw [show ((j + 1 : Nat) : Int) - 1 = (j : Int) from by omega]
    refine k_Writer_node_78 hub (by omega) ⟨by constructor <;> omega, fun z => absurd z (by omega), fun _ => ?_⟩
    refine c_char (n := l.length) (i := j) hu htl (by omega) hjl (by rw [hch]; exact hr) (by omega) ⟨_, rfl, rfl, ?_⟩
    rw [hch]
    refine c_pushW hs ?_ (by constructor <;> omega) hn ho (fun M' hF' h11' hs' ho' => ⟨rfl, rfl, ?_⟩)
    · unfold ps2
      rw [List.length_append, List.length_map, List.length_drop]
      omega
    · rw [show (j : Int) + -1 = (j : Int) - 1 from by omega]
      refine ih M' (by omega) (hF.trans hF') ⟨h11'.1.trans h11.1, h11'.2.trans h11.2⟩ ?_ ho'
      rw [List.drop_eq_getElem_cons hjl]
      exact hs'
/-- which text a kind's shape is -/
theorem c_shapeU {k : Int} (hk : 0 ≤ k ∧ k ≤ 36) (go : ∀ (u : UInt32), u.toNat < 20 → (tx u).map Int32.toInt = (shp k).map (fun x => x.1) → K (.inl (some (.float u))) e M) : im_T g d 60 0 [some (vI k)] [] e M K := by
  refine k_P_shape_0 ⟨by constructor <;> omega, fun z => go 1 (by decide) ?_, fun z => go 2 (by decide) ?_, fun z => go 3 (by decide) ?_, fun z => go 4 (by decide) ?_, fun z => go 5 (by decide) ?_, fun z => go 6 (by decide) ?_, fun z => go 7 (by decide) ?_, fun z => go 8 (by decide) ?_, fun z => go 9 (by decide) ?_, fun z => go 10 (by decide) ?_, fun z => go 11 (by decide) ?_, fun z => go 12 (by decide) ?_, fun z => go 12 (by decide) ?_, fun z => go 13 (by decide) ?_, fun z => go 14 (by decide) ?_, fun z => go 15 (by decide) ?_, fun z => go 5 (by decide) ?_, fun z => go 16 (by decide) ?_⟩
  · subst z; exact (by decide +kernel)
  · subst z; exact (by decide +kernel)
  · subst z; exact (by decide +kernel)
  · subst z; exact (by decide +kernel)
  · subst z; exact (by decide +kernel)
  · rcases z with z | z | z <;> subst z <;> exact (by decide +kernel)
  · subst z; exact (by decide +kernel)
  · subst z; exact (by decide +kernel)
  · subst z; exact (by decide +kernel)
  · rcases z with z | z <;> subst z <;> exact (by decide +kernel)
  · subst z; exact (by decide +kernel)
  · rcases z with z | z | z | z <;> subst z <;> exact (by decide +kernel)
  · rcases z with z | z | z | z | z <;> subst z <;> exact (by decide +kernel)
  · subst z; exact (by decide +kernel)
  · subst z; exact (by decide +kernel)
  · subst z; exact (by decide +kernel)
  · subst z; exact (by decide +kernel)
  · have h16 : (tx 16).map Int32.toInt = [] := (by decide +kernel)
    rw [h16]
    have : shp k = [] := by
      have : ∀ q, q = k → shp q = [] := fun q hq => by
        refine shp_ind (P := fun k' l => k' = k → l = []) q (fun a b => ?_) (fun a b => ?_) (fun a b => ?_) (fun a b => ?_) (fun a b => ?_) (fun a b => ?_) (fun a b => ?_) (fun a b => ?_) (fun a b => ?_) (fun a b => ?_) (fun a b => ?_) (fun a b => ?_) (fun a b => ?_) (fun a b => ?_) (fun a b => ?_) (fun a b => rfl) hq <;> (exfalso; omega)
      exact this k rfl
    rw [this]; rfl
/-- the word that a node itself has -/
def owT (R : Rw) (n : Int) : List Int := if R 0 n = 34 then numB (R 7 n) else if R 0 n = 35 then 63 :: nmB (R 4 n) else nmB (kwv (R 0 n))
theorem c_nodeW {n : Int} {S : List (Int × Int)} {L : List Int} (hC : CP M R m E) (hm : m ≤ 5000) (hw : cKw M) (hn : 0 ≤ n ∧ n < m) (hk : (0 ≤ R 0 n ∧ R 0 n < 34) ∨ R 0 n = 34 ∨ R 0 n = 35) (hv4 : 0 ≤ R 4 n ∧ R 4 n ≤ 9223372036854775807) (h11 : ∃ v, cn M 11 v) (hs : wSt M S) (hS : S.length + 6 < 1024) (ho : cOL M L) (hd : 6 ≤ d)
    (hK : ∀ M', pW M M' → (∃ v, cn M' 11 v) → wSt M' (ps2 n (shp (R 0 n)) ++ S) → cOL M' (ltk L [owT R n]) → K (.inl none) e M') : im_T g d 176 0 [some (.ref 7), some (.ref 13), some (vI n), none, none, none] [] e M K := by
  have hk36 : 0 ≤ R 0 n ∧ R 0 n ≤ 36 := by clear h11; omega
  have hk34 : R 0 n ≠ 34 → R 0 n ≠ 35 → 0 ≤ R 0 n ∧ R 0 n < 34 := by clear h11; omega
  obtain ⟨hE, hrow⟩ := hC
  obtain ⟨⟨c1, _, _, c4, _, _, _, c8, _⟩, _⟩ := hrow n hn.1 hn.2
  have go : ∀ (M1 : im_M), pW M M1 → (∃ v, cn M1 11 v) → wSt M1 S → cOL M1 (ltk L [owT R n]) → ∀ (u : UInt32), u.toNat < 20 → (tx u).map Int32.toInt = (shp (R 0 n)).map (fun x => x.1) → im_rf (fun u4 e_ M3 => e = e_ ∧ (Nat.blt u4.toNat 30 = true) ∧ im_T g (d - 1) 3 0 [some (.float u4)] [] e M3 (im_ri (fun x6 e_ M5 => e = e_ ∧ im_T g d 176 78 [some (.ref 7), none, some (vI n), none, some (.float u4), some (vI (x6 - 1))] [] e M5 K))) (.inl (some (.float u))) e M1 := by
    intro M1 F1 h11' hs1 ho1 u hu ht
    have htl : (tx u).length = (shp (R 0 n)).length := by have := congrArg List.length ht; simpa using this
    have h6 := shp_len (R 0 n)
    refine ⟨u, rfl, rfl, Nat.ble_eq_true_of_le (by omega), c_slen hu htl (by omega) (by omega) ⟨_, rfl, rfl, ?_⟩⟩
    refine l_nodeW (M0 := M1) (S := S) hu ht (fun x hx => ?_) h6 hS (by constructor <;> omega) (by omega) (fun M' F' e11 hs' ho' => hK M' (F1.trans F') (by obtain ⟨v, hv⟩ := h11'; exact ⟨v, cn_congr hv e11.1 e11.2⟩) hs' ho') (shp (R 0 n)).length M1 (Nat.le_refl _) (pW.rf M1) ⟨rfl, rfl⟩ (by rw [List.drop_length]; exact hs1) ho1
    have : ∀ x ∈ shp (R 0 n), 0 ≤ x.1 ∧ x.1 < 256 := by
      refine shp_ind (P := fun _ l => ∀ x ∈ l, 0 ≤ x.1 ∧ x.1 < 256) (R 0 n) (fun _ => ?_) (fun _ => ?_) (fun _ => ?_) (fun _ => ?_) (fun _ => ?_) (fun _ => ?_) (fun _ => ?_) (fun _ => ?_) (fun _ => ?_) (fun _ => ?_) (fun _ => ?_) (fun _ => ?_) (fun _ => ?_) (fun _ => ?_) (fun _ => ?_) (fun _ => ?_) <;> decide
    exact this x hx
  have go2 : ∀ (M1 : im_M), pW M M1 → (∃ v, cn M1 11 v) → wSt M1 S → cOL M1 (ltk L [owT R n]) → im_T g (d - 1) 60 0 [some (vI (R 0 n))] [] e M1 (im_rf (fun u4 e_ M3 => e = e_ ∧ (Nat.blt u4.toNat 30 = true) ∧ im_T g (d - 1) 3 0 [some (.float u4)] [] e M3 (im_ri (fun x6 e_ M5 => e = e_ ∧ im_T g d 176 78 [some (.ref 7), none, some (vI n), none, some (.float u4), some (vI (x6 - 1))] [] e M5 K)))) := fun M1 F1 h11' hs1 ho1 => c_shapeU hk36 (go M1 F1 h11' hs1 ho1)
  refine k_Writer_node_0 (by omega) ⟨⟨hn.1, by omega⟩, ?_⟩
  rw [c1]
  refine ⟨fun n34 => ⟨fun n35 => ?_, fun n35 => ?_⟩, fun n34 => ?_⟩
  · refine c_keywordL (hk34 n34 n35) hw ho (by omega) (fun M1 f1 o1 => ⟨rfl, rfl, go2 M1 f1.pw (by obtain ⟨v, hv⟩ := h11; exact ⟨v, cn_congr hv (f1.1 _ (by decide) (by decide)) (f1.1 _ (by decide) (by decide))⟩) (hs.wf f1) ?_⟩)
    unfold owT; rw [if_neg n34, if_neg n35]; exact o1
  · rw [c4]
    refine c_namedL hv4 ho (by omega) (fun M1 f1 o1 => ⟨rfl, rfl, go2 M1 f1.pw (by obtain ⟨v, hv⟩ := h11; exact ⟨v, cn_congr hv (f1.1 _ (by decide) (by decide)) (f1.1 _ (by decide) (by decide))⟩) (hs.wf f1) ?_⟩)
    unfold owT; rw [if_neg n34, if_pos n35]; exact o1
  · obtain ⟨p', hp, _⟩ := c8 n34
    refine c_load (q := 11) nm_11 hp (by omega) (fun M1 F1 c1' => ⟨_, rfl, rfl, ?_⟩)
    have hs1 : wSt M1 S := ⟨by rw [F1 7 (by decide) (by decide)]; exact hs.1, wst_congr S hs.2 (fun i _ _ => ⟨by rw [F1 9 (by decide) (by decide)], by rw [F1 10 (by decide) (by decide)]⟩)⟩
    have ho1 : cOL M1 L := cOut_congr ho (F1 7 (by decide) (by decide)) (F1 8 (by decide) (by decide))
    have P1 : pW M M1 := ⟨fun x hx => F1 x (by omega) (by omega), fun k _ _ => by rw [F1 7 (by decide) (by decide)]⟩
    refine c_numberL nm_11 (by decide) c1' ho1 (by omega) (fun M2 f2 o2 => ⟨rfl, rfl, go2 M2 (P1.trans f2.pw) ⟨_, cn_congr c1' (f2.1 _ (by decide) (by decide)) (f2.1 _ (by decide) (by decide))⟩ (hs1.wf f2) ?_⟩)
    unfold owT; rw [if_pos n34]; exact o2
end TOKC
