/-! THE CLASS mints -/
noncomputable def miO (w : Wd) (ag pa tk' : Int) (t : Int → Int) (n : Int) : Int × Wd :=
  ifq (¬ nmV pa ∨ ¬ nmV tk') (-102, w) <|
  match nuT t n with
  | .inl f => (-1, (w.sFc f.1).sFp f.2)
  | .inr v => if v ≤ 0 then (-5, (w.sFc 0).sFp (-1)) else ifq (¬ sm (hld w.gMi tk' 0 + v)) (-8, (w.sFc 0).sFp (-1)) <|
    if (¬ hs2 w.gWa pa tk' ∧ 60 ≤ w.gWa.1) ∨ (¬ hs2 w.gMi tk' 0 ∧ 60 ≤ w.gMi.1) then (-9, (w.sFc 0).sFp (-1))
    else if (entO ag w.gJr 5 2 pa tk' 0 t n).1 ≠ 0 then ((entO ag w.gJr 5 2 pa tk' 0 t n).1, ((w.sFc 0).sFp (-1)).sJr (entO ag w.gJr 5 2 pa tk' 0 t n).2)
    else match bcre w.gWa 60 pa tk' v with
      | .inl _ => (0, w)
      | .inr β => match bcre w.gMi 60 tk' 0 v with
        | .inl _ => (0, w)
        | .inr γ => (0, ((((w.sFc 0).sFp (-1)).sJr (entO ag w.gJr 5 2 pa tk' 0 t n).2).sWa β).sMi γ)
theorem bcre_no {β : Bk} {n : Nat} {a b v x : Int} {c : Int} (hp : posb β) (h0 : 0 < v) (hx : hld β a b ≤ x) (hs : sm (x + v)) (hr : ¬ (¬ hs2 β a b ∧ n ≤ β.1)) : bcre β n a b v ≠ .inl c := by
  unfold bcre
  obtain ⟨h1, h2⟩ := hld_pos hp (a := a) (b := b)
  by_cases q : hs2 β a b
  · rw [if_pos q]
    obtain ⟨g1, g2⟩ := h1 q
    have hs1 := hs.1
    have hs2' := hs.2
    have hL := LIM_pos
    rw [← g2, if_pos ⟨by omega, by omega⟩]
    intro z; cases z
  · rw [if_neg q, if_pos (by omega)]
    intro z; cases z
section CMINT
variable {g : im_g} {d : Nat} {e : im_E} {M : im_M} {K : im_K} {w : Wd} {ag : Int} {t : Int → Int} {n : Int}
theorem c_mintText {pa tk' : Int} (h : CW M e w ag) (hag : ag = 0 ∨ ag = 1) (hJo : jOk w.gJr) (hdr : w.gJr.2.2.2.2 = 0) (hpw : posb w.gWa) (hpm : posb w.gMi) (hcon : hld w.gWa pa tk' ≤ hld w.gMi tk' 0) (hpa : im_i64 pa) (htk : im_i64 tk') (hn : 0 ≤ n ∧ n ≤ 16384) (ht : txt (M 1) t n) (hd : 8 ≤ d)
    (hK : ∀ M', (∀ x, 6952 ≤ x → M' x = M x) → CW M' e (miO w ag pa tk' t n).2 ag → K (.inl (some (vI (miO w ag pa tk' t n).1))) e M') : im_T g d 94 0 [some (.ref 0), some (vL pa), none, some (vL tk'), none, some (vI n), none, none, none] [] e M K := by
  obtain ⟨⟨_, _, _, t4⟩, _, ⟨_, b2, b3⟩, _, _, j1, ⟨_, m2⟩, a1⟩ := id h
  have ei := entO_i (ag := ag) (J := w.gJr) (kd := 5) (many := 2) (a := pa) (b := tk') (c := 0) (t := t) (n := n)
  unfold miO at hK
  refine k_P_mintText_0 (by omega) (c_isName hpa t4 (by omega) (fun hN => ⟨_, rfl, rfl, by decide, fun z => absurd z (by decide), fun _ => ?_⟩) (fun hN => ⟨_, rfl, rfl, by decide, fun _ => ?_, fun z => absurd rfl z⟩))
  rotate_left
  · rw [ifq_pos (Or.inl hN)] at hK
    exact hK M (fun _ _ => rfl) h
  refine c_isName htk t4 (by omega) (fun hN2 => ⟨_, rfl, rfl, by decide, fun _ => ?_, fun z => absurd z (by decide)⟩) (fun hN2 => ⟨_, rfl, rfl, by decide, fun z => absurd rfl z, fun _ => ?_⟩)
  rotate_left
  · rw [ifq_pos (Or.inr hN2)] at hK
    exact hK M (fun _ _ => rfl) h
  rw [ifq_neg (fun z => z.elim (fun q => q hN) (fun q => q hN2))] at hK
  refine c_numberText (t := t) (n := n) (b := 1) (nb := 16384) sf_1 (by decide) hn.2 hn.1 hn.2 ht t4 (by omega) (fun c p hc c0 M1 F1 F1' hp => ⟨_, rfl, rfl, ?_⟩) (fun v hv M1 F1 F1' hcn => ⟨_, rfl, rfl, ?_⟩)
  · rw [hc] at hK
    dsimp only at hK
    obtain ⟨⟨_, c9⟩, pp0, ppn⟩ := nuT_f hn.1 hc
    refine c_isFaulty (c := c) (p := p) (by constructor <;> omega) (by constructor <;> omega) (fun _ => hp) (fun M2 G1 G2 G8 G9 => ⟨_, rfl, rfl, by split <;> decide, fun z => ?_, fun _ => ?_⟩)
    · rw [if_neg (by omega)] at z; exact absurd z (by decide)
    · rw [if_neg (by omega)] at G9
      exact hK M2 (fun x hx => by rw [G1 x (by omega)]; exact F1 x (by omega) (by omega) (by omega)) (h.fa (fun x a b c => (G1 x a).trans (F1 x a b c)) G8 G9)
  rw [hv] at hK
  dsimp only at hK
  refine c_isFaulty (c := 0) (p := 0) (by decide) (by decide) (fun z => absurd rfl z) (fun M2 G1 G2 G8 G9 => ⟨_, rfl, rfl, by decide, fun _ => ?_, fun z => absurd rfl z⟩)
  rw [if_pos rfl] at G9
  have fr : ∀ x, x ≠ 2 → x ≠ 5 → x ≠ 6 → M2 x = M x := fun x a b c => (G1 x a).trans (F1 x a b c)
  have W2 := h.fa fr G8 G9
  have hc5 : cn M2 5 v := cn_congr hcn (G1 5 (by decide)) (G1 6 (by decide))
  have hsg := cn_sg hc5
  have cw : cb M2 76 60 w.gWa := cb_congr b2 (fun x _ _ => fr x (by omega) (by omega) (by omega))
  have cm : cb M2 202 60 w.gMi := cb_congr b3 (fun x _ _ => fr x (by omega) (by omega) (by omega))
  have hi2 : ∀ x, 6952 ≤ x → M2 x = M x := fun x hx => fr x (by omega) (by omega) (by omega)
  rw [hsg]
  refine ⟨fun hpos => ?_, fun hle => ?_⟩
  rotate_left
  · have : v ≤ 0 := by unfold sg at hle; split at hle; omega; split at hle <;> omega
    rw [if_pos this] at hK
    exact hK M2 hi2 W2
  have hv0 : 0 < v := by unfold sg at hpos; split at hpos; omega; split at hpos <;> omega
  rw [if_neg (by omega)] at hK
  have hmi0 : 0 ≤ hld w.gMi tk' 0 := by
    obtain ⟨q1, q2⟩ := hld_pos hpm (a := tk') (b := 0)
    by_cases q : hs2 w.gMi tk' 0
    · have := (q1 q).1; omega
    · rw [q2 q]; exact Int.le_refl _
  refine c_heldB (p := 0) bk_202 cm htk (by decide) (by omega) (fun c c1 c2 c3 c4 => ⟨_, rfl, rfl, c1, ?_⟩)
  refine c_copy nm_2070 c1 (by omega) c4 (fun M3 F3 c5 => ⟨rfl, rfl, ?_⟩)
  have hc53 : cn M3 5 v := cn_nf hc5 F3 (by decide) (by decide) (by decide)
  have fin3 : ∀ M4, NF 2070 M3 M4 → (∃ v, cn M4 2070 v) → CW M4 e ((w.sFc 0).sFp (-1)) ag ∧ (∀ x, x ≠ 2070 → x ≠ 2071 → M4 x = M2 x) := fun M4 F4 c4' => by
    have e4 : ∀ x, x ≠ 2070 → x ≠ 2071 → M4 x = M2 x := fun x a b => (F4 x a b).trans (F3 x a b)
    exact ⟨W2.sm (fun x hx => e4 x (by omega) (by omega)) c4', e4⟩
  refine c_grow nm_2070 im_num5 (by decide) c5 hc53 hmi0 (by omega) (by omega) (fun hsm M4 F4 c6 => ⟨_, rfl, rfl, by decide, fun _ => ?_, fun z => absurd z (by decide)⟩) (fun hsm M4 F4 c6 => ⟨_, rfl, rfl, by decide, fun z => absurd rfl z, fun _ => ?_⟩)
  rotate_left
  · rw [ifq_pos hsm] at hK
    obtain ⟨W4, e4⟩ := fin3 M4 F4 ⟨_, c6⟩
    exact hK M4 (fun x hx => (e4 x (by omega) (by omega)).trans (hi2 x hx)) W4
  rw [ifq_neg (Classical.not_not.mpr hsm)] at hK
  obtain ⟨W4, e4⟩ := fin3 M4 F4 ⟨_, c6⟩
  have cw4 : cb M4 76 60 w.gWa := cb_congr cw (fun x _ _ => e4 x (by omega) (by omega))
  have cm4 : cb M4 202 60 w.gMi := cb_congr cm (fun x _ _ => e4 x (by omega) (by omega))
  have hi4 : ∀ x, 6952 ≤ x → M4 x = M x := fun x hx => (e4 x (by omega) (by omega)).trans (hi2 x hx)
  have w4 : M4 76 4 = w.gWa.1 := by obtain ⟨π, ⟨q, _⟩, _⟩ := cw4; exact q
  have w5 : M4 202 4 = w.gMi.1 := by obtain ⟨π, ⟨q, _⟩, _⟩ := cm4; exact q
  refine c_findB bk_76 cw4 hpa htk (fun x hx hh => ⟨_, rfl, rfl, hx, ?_⟩)
  rw [w4]
  refine ⟨fun hlt hge => c_findB bk_202 cm4 htk (by decide) (fun y hy hh2 => ⟨_, rfl, rfl, hy, ?_⟩), fun hor => c_findB bk_202 cm4 htk (by decide) (fun y hy hh2 => ⟨_, rfl, rfl, hy, ?_⟩)⟩
  · have hno : (¬ hs2 w.gWa pa tk' ∧ 60 ≤ w.gWa.1) ∨ (¬ hs2 w.gMi tk' 0 ∧ 60 ≤ w.gMi.1) := Or.inl ⟨fun z => by have := hh.mpr z; omega, by omega⟩
    rw [if_pos hno] at hK
    exact ⟨fun _ _ => hK M4 hi4 W4, fun _ => hK M4 hi4 W4⟩
  · rw [w5]
    have n1 : ¬ (¬ hs2 w.gWa pa tk' ∧ 60 ≤ w.gWa.1) := by
      intro ⟨q1, q2⟩
      rcases hor with z | ⟨z, z2⟩
      · exact q1 (hh.mp z)
      · omega
    refine ⟨fun hlt2 hge2 => ?_, fun hor2 => ?_⟩
    · have hno : (¬ hs2 w.gWa pa tk' ∧ 60 ≤ w.gWa.1) ∨ (¬ hs2 w.gMi tk' 0 ∧ 60 ≤ w.gMi.1) := Or.inr ⟨fun z => by have := hh2.mpr z; omega, by omega⟩
      rw [if_pos hno] at hK
      exact hK M4 hi4 W4
    · have n2 : ¬ (¬ hs2 w.gMi tk' 0 ∧ 60 ≤ w.gMi.1) := by
        intro ⟨q1, q2⟩
        rcases hor2 with z | ⟨z, z2⟩
        · exact q1 (hh2.mp z)
        · omega
      rw [if_neg (fun z => z.elim n1 n2)] at hK
      obtain ⟨_, _, _, _, _, j4, _, a4⟩ := id W4
      refine c_enter (ag := ag) (J := w.gJr) (t := t) (kd := 5) (many := 2) (n := n) a4 hag j4 hJo hdr (by decide) (by decide) (by decide) hn (by rw [e4 1 (by decide) (by decide), fr 1 (by decide) (by decide) (by decide)]; exact ht) hpa htk (by decide) (by omega) (fun M5 F5 J5 => ⟨_, rfl, rfl, by constructor <;> omega, fun z => ?_, fun z => ?_⟩)
      · rw [if_pos z] at hK
        exact hK M5 (fun x hx => by rw [F5 x (by omega) (by omega)]; exact hi4 x hx) (W4.jr (fun x hx => F5 x (by omega) (by omega)) J5)
      · rw [if_neg (Decidable.not_not.mpr z)] at hK
        have W5 := W4.jr (fun x hx => F5 x (by omega) (by omega)) J5
        have hc55 : cn M5 5 v := by
          have h4 : cn M4 5 v := cn_nf hc53 F4 (by decide) (by decide) (by decide)
          exact cn_congr h4 (F5 _ (by decide) (by decide)) (F5 _ (by decide) (by decide))
        refine c_creditB bk_76 (cb_congr cw4 (fun x _ _ => F5 x (by omega) (by omega))) im_num5 (by omega) hc55 (by omega) hpw hpa htk (by omega) (fun β hβ M6 B6 c6' => ⟨_, rfl, rfl, ?_⟩) (fun cc hcc _ _ _ _ _ => absurd hcc (bcre_no hpw hv0 hcon hsm (by omega)))
        have W6 := W5.wa (fun x hx => B6 x (by omega)) c6'
        refine c_creditB bk_202 (cb_congr cm4 (fun x _ _ => by rw [B6 x (by omega)]; exact F5 x (by omega) (by omega))) im_num5 (by omega) (cn_congr hc55 (B6 _ (by omega)) (B6 _ (by omega))) (by omega) hpm htk (by decide) (by omega) (fun γ hγ M7 B7 c7 => ⟨_, rfl, rfl, ?_⟩) (fun cc hcc _ _ _ _ _ => absurd hcc (bcre_no hpm hv0 (Int.le_refl _) hsm (by omega)))
        have W7 := W6.mi (fun x hx => B7 x (by omega)) c7
        rw [hβ] at hK
        dsimp only at hK
        rw [hγ] at hK
        dsimp only at hK
        rw [z]
        exact hK M7 (fun x hx => by rw [B7 x (by omega), B6 x (by omega), F5 x (by omega) (by omega)]; exact hi4 x hx) W7
end CMINT
