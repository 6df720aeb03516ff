/-! THE CLASS begins an instance -/
theorem ends_u {D : Int → Int} {m i e e' : Int} (h : ends D m i e) (h' : ends D m i e') : e = e' := by
  obtain ⟨a1, a2, a3, a4⟩ := h
  obtain ⟨b1, b2, b3, b4⟩ := h'
  by_cases c : e < e'
  · have := b3 e a1 c; have := a4 (by omega); omega
  · by_cases c2 : e' < e
    · have := a3 e' b1 c2; have := b4 (by omega); omega
    · omega
theorem eN_ex (R : Rw) (m i : Int) : ∃ e, (∃ x, ends (R 1) m i x) → ends (R 1) m i e := by
  by_cases h : ∃ x, ends (R 1) m i x
  · obtain ⟨x, hx⟩ := h
    exact ⟨x, fun _ => hx⟩
  · exact ⟨0, fun z => absurd z h⟩
noncomputable def eN (R : Rw) (m i : Int) : Int := Classical.choose (eN_ex R m i)
theorem eN_eq {R : Rw} {m i e : Int} (h : ends (R 1) m i e) : eN R m i = e := ends_u (Classical.choose_spec (eN_ex R m i) ⟨e, h⟩) h
/-- the parameter that a node has, or 0 -/
def pnm (R : Rw) (n : Int) : Int := if R 0 n = 35 then R 4 n else if R 0 n = 3 then R 5 n else 0
/-- a parameter is none, or stands as a time and can't be one -/
def lkN (R : Rw) (pm : Bk) (n : Int) : Prop := pnm R n ≠ 0 ∧ (¬ hs2 pm (pnm R n) 0 ∨ (R 0 n = 3 ∧ asT (hld pm (pnm R n) 0) = -1))
def lks' (R : Rw) (lo hi : Int) (pm : Bk) : Prop := ∃ n, lo ≤ n ∧ n < hi ∧ lkN R pm n
noncomputable def beO (w : Wd) (ag i k tm : Int) : Int × Wd :=
  if ¬ (0 ≤ i ∧ i < 16 ∧ 0 ≤ k ∧ k < 16) then (-101, w) else if ¬ (0 ≤ tm ∧ tm ≤ 1000000000000000) then (-102, w)
  else if (w.gIn i).1 ≠ 0 ∨ w.gRt k = -1 then (-103, w)
  else ifq (lks' w.gRw (w.gRt k) (eN w.gRw w.gM (w.gRt k)) w.gPm) (-11, w) <|
  if (entO ag w.gJr 3 3 i k tm z0 0).1 ≠ 0 then ((entO ag w.gJr 3 3 i k tm z0 0).1, w.sJr (entO ag w.gJr 3 3 i k tm z0 0).2)
  else (0, (w.sJr (entO ag w.gJr 3 3 i k tm z0 0).2).sIn (upI w.gIn i (1, w.gRt k, tm, (0, (w.gIn i).2.2.2.1.2), (0, (w.gIn i).2.2.2.2.1.2), (0, (w.gIn i).2.2.2.2.2.1.2), w.gPm)))
section CBEGIN
variable {g : im_g} {d : Nat} {e : im_E} {M : im_M} {K : im_K} {w : Wd} {ag : Int} {R : Rw} {m E : Int}
theorem c_pAt {n : Int} (hC : CP M R m E) (hm : m ≤ 5000) (n0 : 0 ≤ n) (n1 : n < m) (hK : K (.inl (some (vL (pnm R n)))) e M) : im_T g d 87 0 [some (.ref 13), some (vI n)] [] e M K := by
  obtain ⟨⟨r1, r2, r3, r4, r5, _⟩, _⟩ := hC.2 n n0 n1
  refine k_Pool_parameterAt_0 ⟨⟨n0, by omega⟩, fun x hx => ?_⟩
  rw [r1, r4, r5] at hx
  have : x = pnm R n := by
    unfold pnm
    split
    · omega
    · split <;> omega
  rw [this]; exact hK
theorem l_lacks {pm : Bk} {b nb : Nat} {root ee : Int} (hb : bkN e b nb) (hc : cb M b nb pm) (hC : CP M R m E) (hW : WFP R m) (r0 : 0 ≤ root) (r1 : root < m) (he : M 15 root = ee) (hem : ee ≤ m) (hd : 2 ≤ d)
    (hK1 : lks' R root ee pm → K (.inl (some (vI 1))) e M) (hK0 : ¬ lks' R root ee pm → K (.inl (some (vI 0))) e M) :
    ∀ (j : Nat) (n : Int), n + j = ee → root ≤ n → (∀ i, root ≤ i → i < n → ¬ lkN R pm i) → im_T g d 86 2 [some (.ref 13), some (vI root), some (.ref b), some (vI n), none, none] [] e M K := by
  have hm := hW.2.1
  intro j
  induction j with
  | zero =>
    intro n hn hr hno
    refine k_Pool_lacks_2 hb.1 (by omega) ⟨⟨r0, by omega⟩, by constructor <;> omega, fun _ => hK0 ?_, fun z => by omega⟩
    intro ⟨i, i0, i1, i2⟩
    exact hno i i0 (by omega) i2
  | succ j ih =>
    intro n hn hr hno
    have n1 : n < m := by omega
    obtain ⟨⟨q1, _⟩, _⟩ := hC.2 n (by omega) n1
    have hnm := (hW.2.2 n (by omega) n1).2.1
    have go : ¬ lkN R pm n → im_T g d 86 2 [some (.ref 13), some (vI root), some (.ref b), some (vI (n + 1)), none, none] [] e M K := fun hz => by
      refine ih (n + 1) (by omega) (by omega) (fun i i0 i1 => ?_)
      by_cases hi : i = n
      · rw [hi]; exact hz
      · exact hno i i0 (by omega)
    refine im_rng (j := n) sf_19 (by omega) (by show n < 5000; omega) (fun ra => im_rng (j := n) sf_20 (by omega) (by show n < 5000; omega) (fun rb => ?_))
    have ra : im_i64 (M 19 n) := ra
    have rb : im_i64 (M 20 n) := rb
    obtain ⟨⟨s1, s2, s3, s4, s5, _⟩, _⟩ := hC.2 n (by omega) n1
    have h64 : im_i64 (pnm R n) := by
      unfold pnm
      rw [← s4, ← s5]
      split
      · exact ra
      · split
        · exact rb
        · decide
    refine k_Pool_lacks_2 hb.1 (by omega) ⟨⟨r0, by omega⟩, by constructor <;> omega, fun z => by omega, fun _ => ?_⟩
    refine c_pAt hC hm (by omega) n1 ⟨_, rfl, rfl, h64, fun hz => ⟨fun z => absurd hz z, fun _ => go (fun z => z.1 hz)⟩, fun hnz => ?_⟩
    refine c_findB hb hc h64 (by decide) (fun x hx hh => ⟨_, rfl, rfl, hx, fun hge => ⟨fun _ => ⟨⟨by omega, by omega⟩, fun h3 => ?_⟩, fun hor => go ?_⟩, fun hlt => hK1 ⟨n, hr, by omega, hnz, Or.inl (fun z => by have := hh.mpr z; omega)⟩⟩)
    · rw [q1] at h3
      refine c_heldB (p := 0) hb hc h64 (by decide) (by omega) (fun c c1 c2 c3 c4 => ⟨_, rfl, rfl, c1, ?_⟩)
      refine c_asTime c1 c4 ⟨_, rfl, rfl, by unfold asT; split <;> (constructor <;> omega), fun hne => go ?_, fun heq => hK1 ⟨n, hr, by omega, hnz, Or.inr ⟨h3, heq⟩⟩⟩
      intro ⟨z1, z2⟩
      rcases z2 with z2 | z2
      · exact z2 (hh.mp hge)
      · exact hne z2.2
    · intro ⟨z1, z2⟩
      rcases hor with z | ⟨_, z⟩
      · exact z1 z
      · rw [q1] at z
        rcases z2 with z2 | z2
        · exact z2 (hh.mp hge)
        · exact z z2.1
theorem c_lacks {pm : Bk} {b nb : Nat} {root : Int} (hb : bkN e b nb) (hc : cb M b nb pm) (hC : CP M R m E) (hW : WFP R m) (r0 : 0 ≤ root) (r1 : root < m) (hd : 2 ≤ d)
    (hK1 : lks' R root (eN R m root) pm → K (.inl (some (vI 1))) e M) (hK0 : ¬ lks' R root (eN R m root) pm → K (.inl (some (vI 0))) e M) : im_T g d 86 0 [some (.ref 13), some (vI root), some (.ref b), none, none, none] [] e M K := by
  have hE := (hC.2 root r0 r1).2
  rw [eN_eq hE] at hK1 hK0
  exact k_Pool_lacks_0 hb.1 (l_lacks hb hc hC hW r0 r1 rfl hE.2.1 hd hK1 hK0 (M 15 root - root).toNat root (by have := hE.1; omega) (Int.le_refl _) (fun i a b => by omega))
theorem c_beginInstance {i k tm : Int} (h : CW M e w ag) (hag : ag = 0 ∨ ag = 1) (hJo : jOk w.gJr) (hdr : w.gJr.2.2.2.2 = 0) (hW : WFP w.gRw w.gM) (hb01 : 0 ≤ i ∧ i < 16 → (w.gIn i).1 = 0 ∨ (w.gIn i).1 = 1) (hrt : 0 ≤ k ∧ k < 16 → w.gRt k = -1 ∨ (0 ≤ w.gRt k ∧ w.gRt k < w.gM)) (hi : im_i64 i) (hk : im_i64 k) (htm : im_i64 tm) (hd : 6 ≤ d)
    (hK : ∀ M', (∀ x, 6952 ≤ x → M' x = M x) → CW M' e (beO w ag i k tm).2 ag → K (.inl (some (vI (beO w ag i k tm).1))) e M') : im_T g d 85 0 [some (.ref 0), some (vL i), none, some (vL k), none, some (vL tm), none, none, none, none] [] e M K := by
  obtain ⟨_, ⟨⟨p1, _⟩, p2, p3⟩, ⟨b1, _, _⟩, _, _, j1, _, a1⟩ := id h
  have ei := entO_i (ag := ag) (J := w.gJr) (kd := 3) (many := 3) (a := i) (b := k) (c := tm) (t := z0) (n := 0)
  unfold beO at hK
  refine k_P_beginInstance_0 (by omega) ⟨hi, fun i0 i1 => ⟨hk, fun k0 k1 => ⟨htm, fun t0 t1 => ⟨⟨i0, i1⟩, ?_⟩⟩⟩, fun hh => ?_, fun hh => ?_⟩
  · rw [if_neg (Decidable.not_not.mpr ⟨i0, i1, k0, k1⟩), if_neg (Decidable.not_not.mpr ⟨t0, t1⟩)] at hK
    have hiN : ((i.toNat : Nat) : Int) = i := by omega
    obtain ⟨q1, q2⟩ := p3 i.toNat (by omega)
    have hst := st_inst (e := e) i.toNat (by omega)
    have f6 : M (2072 + 305 * i.toNat) 6 = (w.gIn i).1 := by have := q2.1.1; rw [hiN] at this; exact this
    refine ⟨2072 + 305 * i.toNat, by rw [← hiN]; exact q1, hst.1, ⟨k0, k1⟩, ?_, ?_⟩
    · rw [f6, p2 k k0 k1]
      intro hb0 hne
      have hr := (hrt ⟨k0, k1⟩).resolve_left hne
      rw [if_neg (fun z => z.elim (fun q => q hb0) hne)] at hK
      refine c_lacks bk_params b1 p1 hW hr.1 hr.2 (by omega) (fun hl => ⟨_, rfl, rfl, by decide, fun z => absurd z (by decide), fun _ => ?_⟩) (fun hl => ⟨_, rfl, rfl, by decide, fun _ => ?_, fun z => absurd rfl z⟩)
      · rw [ifq_pos hl] at hK
        exact hK M (fun _ _ => rfl) h
      · rw [ifq_neg hl] at hK
        refine c_enter (ag := ag) (J := w.gJr) (t := z0) (kd := 3) (many := 3) (n := 0) a1 hag j1 hJo hdr (by decide) (by decide) (by decide) (by decide) (fun i i0 i1 => by omega) hi hk htm (by omega) (fun M1 F1 J1 => ⟨_, rfl, rfl, by constructor <;> omega, fun z => ?_, fun z => ?_⟩)
        · rw [if_pos z] at hK
          exact hK M1 (fun x hx => F1 x (by omega) (by omega)) (h.jr (fun x hx => F1 x (by omega) (by omega)) J1)
        · rw [if_neg (Decidable.not_not.mpr z)] at hK
          have W1 := h.jr (fun x hx => F1 x (by omega) (by omega)) J1
          have hm5 := hW.2.1
          have c0 := cInB_congr q2 (M' := M1) (fun x _ _ => F1 x (by omega) (by omega))
          rw [hiN] at c0
          generalize hb8 : 2072 + 305 * i.toNat = b8 at c0 hst q1 f6
          have hbr : 2072 ≤ b8 ∧ b8 + 305 ≤ 6952 := by omega
          obtain ⟨⟨u6, u5, u4⟩, ua, uc, ul, ug⟩ := c0
          refine k_State_restart_0 hst.1 ⟨htm, by constructor <;> omega, rfl, rfl, 20, hst.2.2.2.2.1, ?_⟩
          generalize hM2 : im_u (im_u (im_u (im_u (im_u (im_u M1 (b8 + 1) 4 0) (b8 + 87) 4 0) (b8 + 173) 4 0) b8 4 tm) b8 5 (w.gRt k)) b8 6 1 = M2
          have e2 : ∀ x, x ≠ b8 → x ≠ b8 + 1 → x ≠ b8 + 87 → x ≠ b8 + 173 → M2 x = M1 x := fun x a b c d => by rw [← hM2, im_u_ne _ _ _ a, im_u_ne _ _ _ a, im_u_ne _ _ _ a, im_u_ne _ _ _ d, im_u_ne _ _ _ c, im_u_ne _ _ _ b]
          have ca : cb M2 (b8 + 1) 40 (0, (w.gIn i).2.2.2.1.2) := cb_congr (cb_0 ua) (fun x x1 x2 => by
            rw [← hM2, im_u_ne _ _ _ (by omega), im_u_ne _ _ _ (by omega), im_u_ne _ _ _ (by omega), im_u_ne _ _ _ (by omega), im_u_ne _ _ _ (by omega)])
          have cc : cb M2 (b8 + 87) 40 (0, (w.gIn i).2.2.2.2.1.2) := cb_congr (cb_0 uc) (fun x x1 x2 => by
            rw [← hM2, im_u_ne _ _ _ (by omega), im_u_ne _ _ _ (by omega), im_u_ne _ _ _ (by omega), im_u_ne _ _ _ (by omega)]
            by_cases hx : x = b8 + 87
            · rw [hx, im_u_eq, im_u_eq, im_u_ne _ _ _ (by omega)]
            · rw [im_u_ne _ _ _ hx, im_u_ne _ _ _ hx, im_u_ne _ _ _ (by omega)])
          have cl : cb M2 (b8 + 173) 40 (0, (w.gIn i).2.2.2.2.2.1.2) := cb_congr (cb_0 ul) (fun x x1 x2 => by
            rw [← hM2, im_u_ne _ _ _ (by omega), im_u_ne _ _ _ (by omega), im_u_ne _ _ _ (by omega)]
            by_cases hx : x = b8 + 173
            · rw [hx, im_u_eq, im_u_eq, im_u_ne _ _ _ (by omega), im_u_ne _ _ _ (by omega)]
            · rw [im_u_ne _ _ _ hx, im_u_ne _ _ _ hx, im_u_ne _ _ _ (by omega), im_u_ne _ _ _ (by omega)])
          have v6 : M2 b8 6 = 1 := by rw [← hM2, im_rds]
          have v5 : M2 b8 5 = w.gRt k := by rw [← hM2, im_rdk _ _ _ (by decide), im_rds]
          have v4 : M2 b8 4 = tm := by rw [← hM2, im_rdk _ _ _ (by decide), im_rdk _ _ _ (by decide), im_rds]
          clear hM2
          refine c_bcp hst.2.2.2.2 ⟨_, cb_congr ug (fun x _ _ => e2 x (by omega) (by omega) (by omega) (by omega))⟩ bk_params (cb_congr b1 (fun x _ _ => by rw [e2 x (by omega) (by omega) (by omega) (by omega)]; exact F1 x (by omega) (by omega))) (cb_le b1) (by omega) (by omega) (fun M3 B3 c3 => ⟨rfl, rfl, ?_⟩)
          have W3 := W1.ins (M' := M3) (i := i.toNat) (I := (1, w.gRt k, tm, (0, (w.gIn i).2.2.2.1.2), (0, (w.gIn i).2.2.2.2.1.2), (0, (w.gIn i).2.2.2.2.2.1.2), w.gPm)) (by omega) (fun x hx => by rw [B3 x (by omega)]; exact e2 x (by omega) (by omega) (by omega) (by omega)) (by
            rw [hb8]
            refine ⟨⟨?_, ?_, ?_⟩, cb_congr ca (fun x _ _ => B3 x (by omega)), cb_congr cc (fun x _ _ => B3 x (by omega)), cb_congr cl (fun x _ _ => B3 x (by omega)), c3⟩
            · rw [B3 b8 (by omega)]; exact v6
            · rw [B3 b8 (by omega)]; exact v5
            · rw [B3 b8 (by omega)]; exact v4)
          rw [hiN] at W3
          rw [z]
          exact hK M3 (fun x hx => by rw [B3 x (by omega), e2 x (by omega) (by omega) (by omega) (by omega)]; exact F1 x (by omega) (by omega)) W3
    · rw [f6, p2 k k0 k1]
      intro hor
      rw [if_pos (by omega)] at hK
      exact hK M (fun _ _ => rfl) h
  · rw [if_pos (by omega)] at hK
    exact hK M (fun _ _ => rfl) h
  · rw [if_neg (by omega), if_pos (by omega)] at hK
    exact hK M (fun _ _ => rfl) h
end CBEGIN
