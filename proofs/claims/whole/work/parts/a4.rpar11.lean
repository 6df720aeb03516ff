/-- the cases that a when counts -/
def i107 (lo : Int) (S : pS) : Prop := ∀ x ∈ S.1, x.1 = 107 → 0 ≤ S.2.1 3 x.2.1 ∧ S.2.1 3 x.2.1 ≤ 8 ∧ (S.2.1 3 x.2.1 ≠ 0 → lo ≤ S.2.1 18 x.2.1 ∧ S.2.1 18 x.2.1 < S.2.2.1)
theorem shp_107 (k : Int) : ∀ x ∈ shp k, x.1 = 107 → k = 3 := by
  refine shp_ind (P := fun k l => ∀ x ∈ l, x.1 = 107 → k = 3) k (fun _ => ?_) (fun _ => ?_) (fun h _ _ _ => h) (fun _ => ?_) (fun _ => ?_) (fun _ => ?_) (fun _ => ?_) (fun _ => ?_) (fun _ => ?_) (fun _ => ?_) (fun _ => ?_) (fun _ => ?_) (fun _ => ?_) (fun _ => ?_) (fun _ => ?_) (fun _ x hx => by cases hx) <;> (intro x hx h; exfalso; simp only [List.mem_cons, List.not_mem_nil, or_false] at hx; revert h; (repeat' (rcases hx with rfl | hx)) <;> first | (subst hx; decide) | decide)
theorem caseR_v {R : Rw} {m ow : Int} (f : Nat) (i : Int) (hi : i ≠ m) (hf : 16 ≤ f ∧ f ≤ 19) : caseR R m ow f i = if f = 18 ∧ i = ow then m else if f = 16 ∧ i = ow ∧ R 3 ow = 0 then m else if f = 19 ∧ i = R 18 ow ∧ R 3 ow ≠ 0 then m else R f i := by
  have hu : ∀ (Q : Rw) (a : Nat) (j w : Int), im_u Q a j w f i = if f = a ∧ i = j then w else Q f i := fun Q a j w => by
    by_cases h : f = a ∧ i = j
    · rw [if_pos h, h.1, h.2, im_rds]
    · rw [if_neg h]
      by_cases hfa : f = a
      · subst hfa; exact im_rdk _ _ _ (fun z => h ⟨rfl, z⟩)
      · exact im_rdn _ _ _ _ hfa
  have hb : newN (im_u R 3 ow (R 3 ow + 1)) m 31 ow f i = R f i := by
    rw [newN_ne f hi, im_rdn _ _ _ _ (by omega)]
  unfold caseR
  rw [hu]
  by_cases c18 : f = 18 ∧ i = ow
  · rw [if_pos c18, if_pos c18]
  rw [if_neg c18, if_neg c18]
  by_cases c3 : R 3 ow = 0
  · rw [if_pos c3, hu, hb]
    by_cases c16 : f = 16 ∧ i = ow
    · rw [if_pos c16, if_pos ⟨c16.1, c16.2, c3⟩]
    · rw [if_neg c16, if_neg (fun z => c16 ⟨z.1, z.2.1⟩), if_neg (fun z => z.2.2 c3)]
  · rw [if_neg c3, hu, hb]
    by_cases c19 : f = 19 ∧ i = R 18 ow
    · rw [if_pos c19, if_neg (fun z => c3 z.2.2), if_pos ⟨c19.1, c19.2, c3⟩]
    · rw [if_neg c19, if_neg (fun z => c3 z.2.2), if_neg (fun z => c19 ⟨z.1, z.2.1⟩)]
theorem i107_stp {lo ty nm v : Int} {x : en} {r : List en} {R : Rw} {m lw : Int} {S' : pS} (h : stp lo ty nm v (x :: r, R, m, lw) = .inr S') (hw : wfS lo (x :: r, R, m, lw)) (hi : i107 lo (x :: r, R, m, lw)) : i107 lo S' := by
  have hr : ∀ y ∈ r, y.1 = 107 → 0 ≤ R 3 y.2.1 ∧ R 3 y.2.1 ≤ 8 ∧ (R 3 y.2.1 ≠ 0 → lo ≤ R 18 y.2.1 ∧ R 18 y.2.1 < m) := fun y hy => hi y (List.mem_cons_of_mem _ hy)
  have hlo : 0 ≤ lo := hw.1
  have hlm : lo ≤ m := hw.2.1
  have hown : ∀ y ∈ (x :: r), y.1 ≠ 41 → y.1 ≠ 99 → lo ≤ y.2.1 ∧ y.2.1 < m ∧ sgk R y := fun y hy h41 h99 => by
    obtain ⟨_, _, z⟩ := hw.2.2.2.2.2.1 y hy h41
    rcases z with z | z
    · exact absurd z.1 h99
    · exact z
  have hne : (x.1 = 99 ∨ x.1 = 118 ∨ x.1 = 111 ∨ x.1 = 107) → ∀ y ∈ r, y.1 = 107 → y.2.1 ≠ x.2.1 := fun hx y hy h107 z => by
    obtain ⟨c, _, hc⟩ := hw.2.2.2.2.1
    rcases hc with ⟨h1, _⟩ | ⟨_, _, _, h4, h5⟩
    · omega
    · have hlt := chn_lt r h5 y hy (by omega)
      have h3 : y.2.2.2 = 3 := (hown y (List.mem_cons_of_mem _ hy) (by omega) (by omega)).2.2.2.2.2.2.2.2.2.2.2.2.2.2 h107
      have := h4 hx
      unfold phi at hlt
      rw [z, h3] at hlt
      omega
  have hsame : ∀ (R' : Rw) (lw' : Int), (∀ i, R' 3 i = R 3 i ∧ R' 18 i = R 18 i) → i107 lo (r, R', m, lw') := fun R' lw' hs y hy hy1 => by
    show 0 ≤ R' 3 y.2.1 ∧ R' 3 y.2.1 ≤ 8 ∧ (R' 3 y.2.1 ≠ 0 → lo ≤ R' 18 y.2.1 ∧ R' 18 y.2.1 < m)
    rw [(hs _).1, (hs _).2]; exact hr y hy hy1
  refine stp_ind h (fun hx hty e => ?_) (fun hx _ hb _ e => ?_) (fun hx _ e => ?_) (fun hx _ _ h8 e => ?_) (fun hx hb e => ?_) (fun hx _ e => ?_) (fun hx _ _ e => ?_) (fun hx _ _ e => ?_) (fun hx _ _ e => ?_) (fun hx _ _ e => ?_) (fun hx _ e => ?_) (fun hx _ e => ?_) (fun hx _ e => ?_) (fun hx _ _ _ _ _ _ _ _ _ _ _ e => ?_) <;> subst e
  · intro y hy hy1
    rcases List.mem_cons.mp hy with z | hy
    · rw [z] at hy1; omega
    · rcases List.mem_cons.mp hy with z | hy
      · rw [z] at hy1; exact absurd hy1 (by decide)
      · exact hr y hy hy1
  · intro y hy hy1
    have hxo : x.2.1 = -1 ∨ (lo ≤ x.2.1 ∧ x.2.1 < m ∧ (1 ≤ x.2.2.1 ∧ x.2.2.1 ≤ 3)) := by
      obtain ⟨_, _, z⟩ := hw.2.2.2.2.2.1 x List.mem_cons_self (by omega)
      rcases z with z | z
      · exact Or.inl z.2
      · exact Or.inr ⟨z.1, z.2.1, z.2.2.2.2.2.2.2.2.2.2.1 hx⟩
    have hs : x.2.1 = -1 ∨ (1 ≤ x.2.2.1 ∧ x.2.2.1 ≤ 3) := by omega
    rcases List.mem_append.mp hy with hy | hy
    · obtain ⟨z, hz, rfl⟩ := List.mem_map.mp hy
      show 0 ≤ nodR R m ty nm v x.2.1 x.2.2.1 3 m ∧ nodR R m ty nm v x.2.1 x.2.2.1 3 m ≤ 8 ∧ (nodR R m ty nm v x.2.1 x.2.2.1 3 m ≠ 0 → _)
      rw [nodR_m 3 (by omega) (by decide) hs, newN_3]
      exact ⟨by decide, by decide, fun z => absurd rfl z⟩
    · have hyo := hown y (List.mem_cons_of_mem _ hy) (by omega) (by omega)
      have hyx := hne (by omega) y hy hy1
      show 0 ≤ nodR R m ty nm v x.2.1 x.2.2.1 3 y.2.1 ∧ nodR R m ty nm v x.2.1 x.2.2.1 3 y.2.1 ≤ 8 ∧ (nodR R m ty nm v x.2.1 x.2.2.1 3 y.2.1 ≠ 0 → lo ≤ nodR R m ty nm v x.2.1 x.2.2.1 18 y.2.1 ∧ nodR R m ty nm v x.2.1 x.2.2.1 18 y.2.1 < m + 1)
      rw [nodR_ne 3 _ (by omega) (by omega) hs, nodR_ne 18 _ (by omega) (by omega) hs]
      have := hr y hy hy1
      exact ⟨this.1, this.2.1, fun z => by have := this.2.2 z; omega⟩
  · exact hsame _ _ (fun _ => ⟨rfl, rfl⟩)
  · intro y hy hy1
    have hxo := hown x List.mem_cons_self (by omega) (by omega)
    rcases List.mem_cons.mp hy with z | hy
    · rw [z] at hy1; exact absurd (show (97 : Int) = 107 from hy1) (by decide)
    · rcases List.mem_cons.mp hy with z | hy
      · rw [z]
        have h3 : caseR R m x.2.1 3 x.2.1 = R 3 x.2.1 + 1 := by
          show im_u (if R 3 x.2.1 = 0 then im_u (newN (im_u R 3 x.2.1 (R 3 x.2.1 + 1)) m 31 x.2.1) 16 x.2.1 m else im_u (newN (im_u R 3 x.2.1 (R 3 x.2.1 + 1)) m 31 x.2.1) 19 (R 18 x.2.1) m) 18 x.2.1 m 3 x.2.1 = _
          rw [im_rdn _ _ _ _ (by decide)]
          split
          · rw [im_rdn _ _ _ _ (by decide), newN_ne 3 (by omega), im_rds]
          · rw [im_rdn _ _ _ _ (by decide), newN_ne 3 (by omega), im_rds]
        have h18 : caseR R m x.2.1 18 x.2.1 = m := by rw [caseR_v 18 _ (by omega) (by decide), if_pos ⟨rfl, rfl⟩]
        show 0 ≤ caseR R m x.2.1 3 x.2.1 ∧ caseR R m x.2.1 3 x.2.1 ≤ 8 ∧ (caseR R m x.2.1 3 x.2.1 ≠ 0 → lo ≤ caseR R m x.2.1 18 x.2.1 ∧ caseR R m x.2.1 18 x.2.1 < m + 1)
        rw [h3, h18]
        have := hi x List.mem_cons_self hx
        dsimp only at this
        exact ⟨by omega, by omega, fun _ => by omega⟩
      · have hyo := hown y (List.mem_cons_of_mem _ hy) (by omega) (by omega)
        have hyx := hne (by omega) y hy hy1
        show 0 ≤ caseR R m x.2.1 3 y.2.1 ∧ caseR R m x.2.1 3 y.2.1 ≤ 8 ∧ (caseR R m x.2.1 3 y.2.1 ≠ 0 → lo ≤ caseR R m x.2.1 18 y.2.1 ∧ caseR R m x.2.1 18 y.2.1 < m + 1)
        rw [caseR_3 (by omega) hyx, caseR_v 18 _ (by omega) (by decide), if_neg (fun z => hyx z.2), if_neg (fun z => absurd z.1 (by decide)), if_neg (fun z => absurd z.1 (by decide))]
        have := hr y hy hy1
        exact ⟨this.1, this.2.1, fun z => by have := this.2.2 z; omega⟩
  · intro y hy hy1
    rcases List.mem_append.mp hy with hy | hy
    · obtain ⟨z, hz, rfl⟩ := List.mem_map.mp hy
      have := shp_107 ty z hz hy1
      omega
    · show 0 ≤ im_u R 0 x.2.1 ty 3 y.2.1 ∧ im_u R 0 x.2.1 ty 3 y.2.1 ≤ 8 ∧ (im_u R 0 x.2.1 ty 3 y.2.1 ≠ 0 → lo ≤ im_u R 0 x.2.1 ty 18 y.2.1 ∧ im_u R 0 x.2.1 ty 18 y.2.1 < m)
      rw [im_rdn _ _ _ _ (by decide), im_rdn _ _ _ _ (by decide)]
      exact hr y hy hy1
  · exact hsame _ _ (fun _ => ⟨im_rdn _ _ _ _ (by decide), im_rdn _ _ _ _ (by decide)⟩)
  · exact hsame _ _ (fun _ => ⟨im_rdn _ _ _ _ (by decide), im_rdn _ _ _ _ (by decide)⟩)
  · exact hsame _ _ (fun _ => ⟨rfl, rfl⟩)
  · have hk := (hown x List.mem_cons_self (by omega) (by omega)).2.2.2.2.1 (Or.inl hx)
    intro y hy hy1
    rcases List.mem_cons.mp hy with z | hy
    · rw [z] at hy1; exact absurd (show (104 : Int) = 107 from hy1) (by decide)
    · show 0 ≤ im_u R (8 + (R 6 x.2.1).toNat) x.2.1 v 3 y.2.1 ∧ im_u R (8 + (R 6 x.2.1).toNat) x.2.1 v 3 y.2.1 ≤ 8 ∧ (im_u R (8 + (R 6 x.2.1).toNat) x.2.1 v 3 y.2.1 ≠ 0 → lo ≤ im_u R (8 + (R 6 x.2.1).toNat) x.2.1 v 18 y.2.1 ∧ im_u R (8 + (R 6 x.2.1).toNat) x.2.1 v 18 y.2.1 < m)
      rw [im_rdn _ _ _ _ (by omega), im_rdn _ _ _ _ (by omega)]
      exact hi y hy hy1
  · have hk := (hown x List.mem_cons_self (by omega) (by omega)).2.2.2.2.1 (Or.inr hx)
    exact hsame _ _ (fun _ => ⟨by rw [im_rdn _ _ _ _ (by decide), im_rdn _ _ _ _ (by omega)], by rw [im_rdn _ _ _ _ (by decide), im_rdn _ _ _ _ (by omega)]⟩)
  · exact hsame _ _ (fun _ => ⟨rfl, rfl⟩)
  · intro y hy hy1
    have hxo := hown x List.mem_cons_self (by omega) (by omega)
    have hyo := hown y (List.mem_cons_of_mem _ hy) (by omega) (by omega)
    have k1 := hxo.2.2.2.2.2.2.2.1 hx
    have k3 := hyo.2.2.1 hy1
    have go : ∀ w, 0 ≤ im_u R 3 x.2.1 w 3 y.2.1 ∧ im_u R 3 x.2.1 w 3 y.2.1 ≤ 8 ∧ (im_u R 3 x.2.1 w 3 y.2.1 ≠ 0 → lo ≤ im_u R 3 x.2.1 w 18 y.2.1 ∧ im_u R 3 x.2.1 w 18 y.2.1 < m) := fun w => by
      rw [im_rdk _ _ _ (fun z => by rw [z] at k3; omega), im_rdn _ _ _ _ (by decide)]
      exact hr y hy hy1
    exact go _
  · exact hsame _ _ (fun _ => ⟨rfl, rfl⟩)
  · exact hsame _ _ (fun _ => ⟨im_rdn _ _ _ _ (by (repeat' split) <;> decide), im_rdn _ _ _ _ (by (repeat' split) <;> decide)⟩)
section RPAR11
variable {g : im_g} {d : Nat} {e : im_E} {M M0 : im_M} {K : im_K} {lo kp pk a p q ty nm v m lw : Int} {x : en} {r L : List en} {R : Rw}
theorem stp_s9 (h : x.1 = 107) : stp lo ty nm v (x :: r, R, m, lw) = stpK lo ty x r R m lw := by
  show (if _ then _ else _) = _
  rw [if_neg (by omega), if_pos h]
/-- a case laid, linked, its signs pushed -/
theorem case_fin {M5 : im_M} (h : RJ M0 M lo kp pk a (x :: r, R, m, lw) L) (hw : wfS lo (x :: r, R, m, lw)) (hu : u98 (x :: r)) (hi7 : i107 lo (x :: r, R, m, lw)) (hc29 : c29 R lo m) (haq : a ≤ q) (hx : x.1 = 107)
    (g1 : ∀ y, y ≠ 6952 → (y < 6960 ∨ 6972 < y ∨ y = 6968 ∨ y = 6969 ∨ y = 6971) → (y < 6975 ∨ 6978 < y) → M5 y = M y) (gf : ∀ k, k ≠ 14 → k ≠ 39 → k ≠ 45 → M5 6952 k = M 6952 k) (g39 : M5 6952 39 = m + 1)
    (gr : ∀ (y : Nat) (i : Int), 6960 ≤ y → y ≤ 6972 → i ≠ m → y ≠ 6964 → y ≠ 6966 → y ≠ 6967 → M5 y i = M y i)
    (gl : ∀ i, i ≠ m → M5 6964 i = (if i = x.2.1 ∧ R 3 x.2.1 = 0 then m else M 6964 i) ∧ M5 6966 i = (if i = x.2.1 then m else M 6966 i) ∧ M5 6967 i = (if i = R 18 x.2.1 ∧ R 3 x.2.1 ≠ 0 then m else M 6967 i))
    (gk : M5 6960 m = 8) (gb : M5 6961 m = 0 ∧ M5 6962 m = 0 ∧ M5 6963 m = 0) (gn : M5 6964 m = -1 ∧ M5 6965 m = -1 ∧ M5 6966 m = -1 ∧ M5 6967 m = -1) (gz : M5 6972 m = 0)
    (gs : stR M5 (rst (caseR R m x.2.1) false ((97, m, 0, 1) :: x :: r))) : RI M0 M5 lo kp pk q ((97, m, 0, 1) :: x :: r, caseR R m x.2.1, m + 1, lw) := by
  obtain ⟨a1, a2, a3, a4, a5, a6, a7, a8, a9, a10⟩ := h
  dsimp only at a2 a4 a6 a7 a8 a9
  obtain ⟨o1, o2, o3, o4, o5⟩ := ent_x hw (by omega) (by omega)
  have k3 : R 0 x.2.1 = 3 := o5.1 hx
  have hc7 := hi7 x List.mem_cons_self hx
  dsimp only at hc7
  have hno98 : ∀ y ∈ r, y.1 ≠ 98 := fun y hy h98 => by
    have := hu.2 ⟨y, hy, h98⟩
    omega
  have e7 : M5 6952 7 = M 6952 7 := gf 7 (by decide) (by decide) (by decide)
  have e37 : M5 6952 37 = M 6952 37 := gf 37 (by decide) (by decide) (by decide)
  have h01 : h104 (x :: r) = 0 := if_neg (by omega)
  have h00 : h104 ((97, m, 0, 1) :: x :: r) = 0 := rfl
  rw [h01] at a4
  have hX : XR lo kp pk M M5 := ⟨fun y b c d' => g1 y b (by omega) (by omega), fun k _ b _ c _ d' => gf k (by omega) c d', fun i b => by rw [g1 6955 (by decide) (by decide) (by decide)], fun y i b c d' => by
    have hl := gl i (by omega)
    by_cases y1 : y = 6964
    · subst y1; rw [hl.1, if_neg (by omega)]
    · by_cases y2 : y = 6966
      · subst y2; rw [hl.2.1, if_neg (by omega)]
      · by_cases y3 : y = 6967
        · subst y3; rw [hl.2.2, if_neg (by omega)]
        · exact gr y i b c (by omega) y1 y2 y3, fun y i b _ => by rw [g1 y (by omega) (by omega) (by omega)]⟩
  refine ⟨a1.tr hX (gf 20 (by decide) (by decide) (by decide)), g39, by omega, ?_, gs, ?_, fun _ => ?_, fun i i0 i1 => ?_, fun y hy h98 => ?_, fun y r' he hh => ?_⟩
  · dsimp only; rw [e37, h00]; omega
  · have e1 : nq ((97, m, 0, 1) :: x :: r) = nq (x :: r) := by
      show nq (x :: r) + _ = _
      rw [if_neg (show ((97, m, 0, 1) : en).1 ≠ 41 from by show (97 : Int) ≠ 41; decide)]; omega
    dsimp only
    rw [e1]; omega
  · rw [gf 40 (by decide) (by decide) (by decide)]; exact a7 (by omega)
  · dsimp only at i1 ⊢
    rw [e7, e37]
    by_cases hi : i = m
    · subst hi
      have hn : ∀ f : Nat, f < 16 ∨ f = 17 → caseR R i x.2.1 f i = newN (im_u R 3 x.2.1 (R 3 x.2.1 + 1)) i 31 x.2.1 f i := fun f hf => caseR_m f (by omega) (by omega)
      have hl : ∀ f : Nat, 16 ≤ f → f ≤ 19 → caseR R i x.2.1 f i = newN (im_u R 3 x.2.1 (R 3 x.2.1 + 1)) i 31 x.2.1 f i := fun f f0 f1 => by
        unfold caseR
        have hu' : ∀ (Q : Rw) (c : Nat) (j w : Int), i ≠ j → im_u Q c j w f i = Q f i := fun Q c j w hj => by
          by_cases hf : f = c
          · subst hf; exact im_rdk _ _ _ hj
          · exact im_rdn _ _ _ _ hf
        rw [hu' _ _ _ _ (by omega)]
        split
        · rw [hu' _ _ _ _ (by omega)]
        · rename_i hz
          have := hc7.2.2 hz
          rw [hu' _ _ _ _ (by omega)]
      have n16 : ∀ Q : Rw, newN Q i 31 x.2.1 16 i = -1 := fun Q => by
        unfold newN
        repeat rw [im_rdn _ _ _ _ (by decide)]
        exact im_rds _ _ _ _
      have n17 : ∀ Q : Rw, newN Q i 31 x.2.1 17 i = -1 := fun Q => by
        unfold newN
        repeat rw [im_rdn _ _ _ _ (by decide)]
        exact im_rds _ _ _ _
      have n18 : ∀ Q : Rw, newN Q i 31 x.2.1 18 i = -1 := fun Q => by
        unfold newN
        repeat rw [im_rdn _ _ _ _ (by decide)]
        exact im_rds _ _ _ _
      have n19 : ∀ Q : Rw, newN Q i 31 x.2.1 19 i = -1 := fun Q => by
        unfold newN
        exact im_rds _ _ _ _
      unfold rowR
      rw [hn 0 (by decide), hn 3 (by decide), hn 4 (by decide), hn 5 (by decide), hn 6 (by decide), hl 16 (by decide) (by decide), hl 17 (by decide) (by decide), hl 18 (by decide) (by decide), hl 19 (by decide) (by decide), newN_0, newN_3, newN_4, newN_5, newN_6, n16, n17, n18, n19]
      exact ⟨gk, fun _ => ⟨gb.1, gb.2.1⟩, fun _ => ⟨gb.2.2, gz⟩, gn, fun z => absurd z (by decide), fun z => absurd z (by decide), fun z => absurd z (by decide)⟩
    · obtain ⟨b1, b2, b3, b4, b5, b6, b7⟩ := a8 i i0 (by omega)
      have hl := gl i hi
      have hRn : ∀ f : Nat, f < 3 ∨ (3 < f ∧ f < 16) → caseR R m x.2.1 f i = R f i := fun f hf => caseR_ne f i hi (by omega)
      have hpool : ∀ j, j < M 6952 7 → M5 6955 j = M 6955 j := fun j _ => by rw [g1 6955 (by decide) (by decide) (by decide)]
      have hst : (∀ y ∈ ((97, m, 0, 1) :: x :: r : List en), y.1 = 116 → y.2.1 ≠ i) → ∀ y ∈ (x :: r), y.1 = 116 → y.2.1 ≠ i := fun z y hy => z y (List.mem_cons_of_mem _ hy)
      have hk : kR (R 0 i) (caseR R m x.2.1 3 i) = kR (R 0 i) (R 3 i) := by
        by_cases hix : i = x.2.1
        · rw [hix, k3]; rfl
        · rw [caseR_3 hi hix]
      unfold rowR
      rw [hRn 0 (by omega), hk, hRn 4 (by omega), hRn 5 (by omega), hRn 6 (by omega), hRn 7 (by omega), gr 6960 i (by decide) (by decide) hi (by decide) (by decide) (by decide), gr 6961 i (by decide) (by decide) hi (by decide) (by decide) (by decide), gr 6962 i (by decide) (by decide) hi (by decide) (by decide) (by decide), gr 6963 i (by decide) (by decide) hi (by decide) (by decide) (by decide), gr 6965 i (by decide) (by decide) hi (by decide) (by decide) (by decide), gr 6968 i (by decide) (by decide) hi (by decide) (by decide) (by decide), gr 6969 i (by decide) (by decide) hi (by decide) (by decide) (by decide), gr 6970 i (by decide) (by decide) hi (by decide) (by decide) (by decide), gr 6971 i (by decide) (by decide) hi (by decide) (by decide) (by decide), gr 6972 i (by decide) (by decide) hi (by decide) (by decide) (by decide), caseR_v 16 i hi (by decide), caseR_v 17 i hi (by decide), caseR_v 18 i hi (by decide), caseR_v 19 i hi (by decide), hl.1, hl.2.1, hl.2.2, b4.1, b4.2.1, b4.2.2.1, b4.2.2.2]
      refine ⟨b1, b2, b3, ⟨?_, ?_, ?_, ?_⟩, fun z => rnp_congr (b5 z) hpool (Int.le_refl _), fun z => ⟨(b6 z).1, fun z2 => ⟨((b6 z).2 z2).1, fun z3 => ((b6 z).2 z2).2 (hst z3)⟩⟩, fun z => ?_⟩
      · have z1 : ¬ ((16 : Nat) = 18 ∧ i = x.2.1) := fun z => absurd z.1 (by decide)
        have z2 : ¬ ((16 : Nat) = 19 ∧ i = R 18 x.2.1 ∧ R 3 x.2.1 ≠ 0) := fun z => absurd z.1 (by decide)
        by_cases c : i = x.2.1 ∧ R 3 x.2.1 = 0
        · rw [if_pos c, if_neg z1, if_pos (show (16 : Nat) = 16 ∧ i = x.2.1 ∧ R 3 x.2.1 = 0 from ⟨rfl, c⟩)]
        · rw [if_neg c, if_neg z1, if_neg (show ¬ ((16 : Nat) = 16 ∧ i = x.2.1 ∧ R 3 x.2.1 = 0) from fun z => c z.2), if_neg z2]
      · rw [if_neg (show ¬ ((17 : Nat) = 18 ∧ i = x.2.1) from fun z => absurd z.1 (by decide)), if_neg (show ¬ ((17 : Nat) = 16 ∧ i = x.2.1 ∧ R 3 x.2.1 = 0) from fun z => absurd z.1 (by decide)), if_neg (show ¬ ((17 : Nat) = 19 ∧ i = R 18 x.2.1 ∧ R 3 x.2.1 ≠ 0) from fun z => absurd z.1 (by decide))]
      · by_cases c : i = x.2.1
        · rw [if_pos c, if_pos (show (18 : Nat) = 18 ∧ i = x.2.1 from ⟨rfl, c⟩)]
        · rw [if_neg c, if_neg (show ¬ ((18 : Nat) = 18 ∧ i = x.2.1) from fun z => c z.2), if_neg (show ¬ ((18 : Nat) = 16 ∧ i = x.2.1 ∧ R 3 x.2.1 = 0) from fun z => absurd z.1 (by decide)), if_neg (show ¬ ((18 : Nat) = 19 ∧ i = R 18 x.2.1 ∧ R 3 x.2.1 ≠ 0) from fun z => absurd z.1 (by decide))]
      · have z1 : ¬ ((19 : Nat) = 18 ∧ i = x.2.1) := fun z => absurd z.1 (by decide)
        have z2 : ¬ ((19 : Nat) = 16 ∧ i = x.2.1 ∧ R 3 x.2.1 = 0) := fun z => absurd z.1 (by decide)
        by_cases c : i = R 18 x.2.1 ∧ R 3 x.2.1 ≠ 0
        · rw [if_pos c, if_neg z1, if_neg z2, if_pos (show (19 : Nat) = 19 ∧ i = R 18 x.2.1 ∧ R 3 x.2.1 ≠ 0 from ⟨rfl, c⟩)]
        · rw [if_neg c, if_neg z1, if_neg z2, if_neg (show ¬ ((19 : Nat) = 19 ∧ i = R 18 x.2.1 ∧ R 3 x.2.1 ≠ 0) from fun z => c z.2)]
      · obtain ⟨c1, c2, c3, c4⟩ := b7 z
        have h64 := hc29 i i0 (by omega) z
        refine ⟨c1, c2, c3, fun j hj => ?_⟩
        rw [g1 6973 (by decide) (by decide) (by decide), g1 6974 (by decide) (by decide) (by decide), caseR_ne (8 + j) i hi (by omega), caseR_ne (12 + j) i hi (by omega)]
        exact ⟨rnp_congr (c4 j hj).1 hpool (Int.le_refl _), rnp_congr (c4 j hj).2 hpool (Int.le_refl _)⟩
  · dsimp only at hy
    exfalso
    rcases List.mem_cons.mp hy with z | hy
    · rw [z] at h98; exact absurd (show (97 : Int) = 98 from h98) (by decide)
    · rcases List.mem_cons.mp hy with z | hy
      · rw [z] at h98; omega
      · exact hno98 y hy h98
  · dsimp only at he
    rw [← (List.cons.inj he).1] at hh
    exact absurd (show (97 : Int) = 104 from hh) (by decide)
end RPAR11
