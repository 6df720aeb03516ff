/-! THE CLASS drops, forgets, ends, takes a parameter -/
noncomputable def drO (w : Wd) (ag k : Int) : Int × Wd :=
  if ¬ (0 ≤ k ∧ k < 16) then (-101, w) else if w.gRt k = -1 then (-103, w)
  else if (entO ag w.gJr 2 1 k 0 0 z0 0).1 ≠ 0 then ((entO ag w.gJr 2 1 k 0 0 z0 0).1, w.sJr (entO ag w.gJr 2 1 k 0 0 z0 0).2)
  else (0, (w.sJr (entO ag w.gJr 2 1 k 0 0 z0 0).2).sRt (im_up w.gRt k (-1)))
def fgO (w : Wd) (ag : Int) : Int × Wd :=
  if (entO ag w.gJr 8 0 0 0 0 z0 0).1 ≠ 0 then ((entO ag w.gJr 8 0 0 0 0 z0 0).1, w.sJr (entO ag w.gJr 8 0 0 0 0 z0 0).2)
  else (w.gPm.1, (w.sJr (entO ag w.gJr 8 0 0 0 0 z0 0).2).sPm (0, w.gPm.2))
abbrev ovr (w : Wd) (i : Int) : Prop := w.gRw 0 (w.gIn i).2.1 = 0 ∧ (w.gIn i).2.2.2.1.1 = 0
def enO (w : Wd) (ag i : Int) : Int × Wd :=
  if ¬ (0 ≤ i ∧ i < 16) then (-101, w) else if (w.gIn i).1 = 0 then (-103, w) else if ¬ ovr w i then (-103, w)
  else if (entO ag w.gJr 4 1 i 0 0 z0 0).1 ≠ 0 then ((entO ag w.gJr 4 1 i 0 0 z0 0).1, w.sJr (entO ag w.gJr 4 1 i 0 0 z0 0).2)
  else (0, (w.sJr (entO ag w.gJr 4 1 i 0 0 z0 0).2).sIn (upI w.gIn i (0, (w.gIn i).2)))
/-- one of two, by a question that none need decide -/
noncomputable def ifq {α : Type} (p : Prop) (a b : α) : α := @ite α p (Classical.propDecidable p) a b
theorem ifq_pos {α : Type} {p : Prop} {a b : α} (h : p) : ifq p a b = a := @if_pos p (Classical.propDecidable p) h α a b
theorem ifq_neg {α : Type} {p : Prop} {a b : α} (h : ¬ p) : ifq p a b = b := @if_neg p (Classical.propDecidable p) h α a b
noncomputable def paO (w : Wd) (ag nm : Int) (t : Int → Int) (n : Int) : Int × Wd :=
  ifq (¬ nmV nm) (-102, w) <|
  match nuT t n with
  | .inl f => (-1, (w.sFc f.1).sFp f.2)
  | .inr v => if ¬ hs2 w.gPm nm 0 ∧ 20 ≤ w.gPm.1 then (-9, (w.sFc 0).sFp (-1))
    else if (entO ag w.gJr 7 1 nm 0 0 t n).1 ≠ 0 then ((entO ag w.gJr 7 1 nm 0 0 t n).1, ((w.sFc 0).sFp (-1)).sJr (entO ag w.gJr 7 1 nm 0 0 t n).2)
    else match bput w.gPm 20 nm 0 v with
      | none => (0, w)
      | some β => (β.1, (((w.sFc 0).sFp (-1)).sJr (entO ag w.gJr 7 1 nm 0 0 t n).2).sPm β)
theorem cb_0 {M : im_M} {b n : Nat} {β : Bk} (h : cb M b n β) : cb (im_u M b 4 0) b n (0, β.2) := by
  obtain ⟨π, ⟨h1, h2, h3, h4, h5⟩, h6, h7⟩ := h
  have e : ∀ x, x ≠ b → im_u M b 4 0 x = M x := fun x hx => im_u_ne _ _ _ hx
  refine ⟨π, ⟨im_rds _ _ _ _, Nat.zero_le _, fun i hi => by rw [e (b + 5) (by omega)]; exact h3 i hi, h4, fun i hi => absurd hi (Nat.not_lt_zero i)⟩, fun i hi => absurd hi (Nat.not_lt_zero i), cn_congr h7 (e _ (by omega)) (e _ (by omega))⟩
theorem nuT_f {t : Int → Int} {n c p : Int} (hn : 0 ≤ n) (h : nuT t n = .inl (c, p)) : (0 < c ∧ c ≤ 9) ∧ (0 ≤ p ∧ p ≤ n) := by
  unfold nuT at h
  have hk := tk_ok (t := t) hn
  have k1 := hk.1
  have k2 := hk.2.1
  have hft := ftk_pos (tk t n 0).2.2.1
  by_cases c1 : (tk t n 0).2.2.1 ≠ 34
  · rw [if_pos c1] at h; cases h; exact ⟨⟨hft.1, by omega⟩, k1, k2⟩
  · rw [if_neg c1] at h
    have kq := tkn_q hk (by omega)
    have hk' := tk_ok (t := t) kq.2.2.1
    have k1' := hk'.1
    have k2' := hk'.2.1
    by_cases c2 : (tk t n (tk t n 0).2.1).2.2.1 ≠ 41
    · rw [if_pos c2] at h; cases h
      exact ⟨by unfold fte; (repeat' split) <;> decide, by omega, k2'⟩
    · rw [if_neg c2] at h; cases h
section CCALLS
variable {g : im_g} {d : Nat} {e : im_E} {M : im_M} {K : im_K} {w : Wd} {ag : Int} {t : Int → Int} {n : Int}
theorem c_findB {b n : Nat} {β : Bk} {a a' : Int} (hb : bkN e b n) (hc : cb M b n β) (ha : im_i64 a) (ha' : im_i64 a') (hK : ∀ x, im_i32 x → (0 ≤ x ↔ hs2 β a a') → K (.inl (some (vI x))) e M) : im_T g d 88 0 [some (.ref b), some (vL a), none, some (vL a'), none, none] [] e M K := by
  obtain ⟨π, h1, h2, h3⟩ := hc
  have hp := ps_ok β a a'
  have hn60 := hb.1.2.2.2.2.2
  have hk := h1.2.1
  have p0 := hp.1
  have p1 := hp.2.1
  refine c_find hb.1 h1 ha ha' hp (fun h => hK _ (by constructor <;> omega) ⟨fun _ => h, fun _ => p0⟩) (fun h => hK _ (by constructor <;> omega) ⟨fun z => by omega, fun z => absurd z h⟩)
theorem c_dropContract {k : Int} (h : CW M e w ag) (hag : ag = 0 ∨ ag = 1) (hJo : jOk w.gJr) (hdr : w.gJr.2.2.2.2 = 0) (hk : im_i64 k) (hd : 6 ≤ d)
    (hK : ∀ M', (∀ x, 6952 ≤ x → M' x = M x) → CW M' e (drO w ag k).2 ag → K (.inl (some (vI (drO w ag k).1))) e M') : im_T g d 84 0 [some (.ref 0), some (vL k), none, none] [] e M K := by
  obtain ⟨_, ⟨_, p2, _⟩, _, _, _, j1, _, a1⟩ := id h
  have ei := entO_i (ag := ag) (J := w.gJr) (kd := 2) (many := 1) (a := k) (b := 0) (c := 0) (t := z0) (n := 0)
  unfold drO at hK
  refine k_P_dropContract_0 (by omega) ⟨hk, fun k0 k1 => ⟨⟨k0, k1⟩, ?_⟩, fun hh => ?_⟩
  · rw [if_neg (Decidable.not_not.mpr ⟨k0, k1⟩)] at hK
    have hr := p2 k k0 k1
    rw [hr]
    refine ⟨fun hne => ?_, fun heq => ?_⟩
    · rw [if_neg hne] at hK
      refine c_enter (ag := ag) (J := w.gJr) (t := z0) (kd := 2) (many := 1) (n := 0) a1 hag j1 hJo hdr (by decide) (by decide) (by decide) (by decide) (fun i i0 i1 => by omega) hk (by decide) (by decide) (by omega) (fun M1 F1 J1 => ⟨_, rfl, rfl, by constructor <;> omega, fun z => ?_, fun z => ?_⟩)
      · rw [if_pos z] at hK
        exact hK M1 (fun x hx => F1 x (by omega) (by omega)) (h.jr (fun x hx => F1 x (by omega) (by omega)) J1)
      · rw [if_neg (Decidable.not_not.mpr z)] at hK
        have W1 := h.jr (fun x hx => F1 x (by omega) (by omega)) J1
        rw [z]
        refine hK _ (fun x hx => by rw [im_u_ne _ _ _ (by omega)]; exact F1 x (by omega) (by omega)) (W1.rt (fun x hx => im_u_ne _ _ _ hx) (fun i i0 i1 => ?_))
        rw [im_rdx]; unfold im_up
        split
        · rfl
        · rw [F1 28 (by decide) (by decide)]; exact p2 i i0 i1
    · rw [if_pos heq] at hK
      exact hK M (fun _ _ => rfl) h
  · rw [if_pos (by omega)] at hK
    exact hK M (fun _ _ => rfl) h
theorem c_forgetParameters (h : CW M e w ag) (hag : ag = 0 ∨ ag = 1) (hJo : jOk w.gJr) (hdr : w.gJr.2.2.2.2 = 0) (hd : 6 ≤ d)
    (hK : ∀ M', (∀ x, 6952 ≤ x → M' x = M x) → CW M' e (fgO w ag).2 ag → K (.inl (some (vI (fgO w ag).1))) e M') : im_T g d 148 0 [some (.ref 0), none, none] [] e M K := by
  obtain ⟨_, _, ⟨b1, _, _⟩, _, _, j1, _, a1⟩ := id h
  have ei := entO_i (ag := ag) (J := w.gJr) (kd := 8) (many := 0) (a := 0) (b := 0) (c := 0) (t := z0) (n := 0)
  unfold fgO at hK
  refine k_P_forgetParameters_0 (by omega) (c_enter (ag := ag) (J := w.gJr) (t := z0) (kd := 8) (many := 0) (n := 0) a1 hag j1 hJo hdr (by decide) (by decide) (by decide) (by decide) (fun i i0 i1 => by omega) (by decide) (by decide) (by decide) (by omega) (fun M1 F1 J1 => ⟨_, rfl, rfl, by constructor <;> omega, fun z => ?_, fun z => ?_⟩))
  · rw [if_neg (Decidable.not_not.mpr z)] at hK
    have W1 := h.jr (fun x hx => F1 x (by omega) (by omega)) J1
    have c1 : cb M1 30 20 w.gPm := cb_congr b1 (fun x _ _ => F1 x (by omega) (by omega))
    have e4 : M1 30 4 = w.gPm.1 := by obtain ⟨π, ⟨q, _⟩, _⟩ := c1; exact q
    rw [e4]
    exact hK _ (fun x hx => by rw [im_u_ne _ _ _ (by omega)]; exact F1 x (by omega) (by omega)) (W1.pm (fun x hx => im_u_ne _ _ _ (by omega)) (cb_0 c1))
  · rw [if_pos z] at hK
    exact hK M1 (fun x hx => F1 x (by omega) (by omega)) (h.jr (fun x hx => F1 x (by omega) (by omega)) J1)
theorem c_isOver {i : Nat} (hi : i < 16) (h : CW M e w ag) (hW : WFP w.gRw w.gM) (hv : 0 ≤ (w.gIn i).2.1 ∧ (w.gIn i).2.1 < w.gM) (hK : K (.inl (some (vI (if ovr w i then 1 else 0)))) e M) : im_T g d 93 0 [some (.ref 0), some (.ref (2072 + 305 * i))] [] e M K := by
  obtain ⟨_, ⟨⟨p1, _⟩, _, p3⟩, _⟩ := id h
  obtain ⟨_, ⟨_, f5, _⟩, ca, _⟩ := p3 i hi
  have e4 : M (2072 + 305 * i + 1) 4 = (w.gIn i).2.2.2.1.1 := by obtain ⟨π, ⟨q, _⟩, _⟩ := ca; exact q
  have hm := hW.2.1
  have hrow := (p1.2 _ hv.1 hv.2).1.1
  refine k_P_isOver_0 (st_inst i hi).1 ?_
  rw [f5, hrow, e4]
  refine ⟨⟨hv.1, by omega⟩, fun a b => ?_, fun hh => ?_⟩
  · rw [if_pos (⟨a, by omega⟩ : ovr w i)] at hK; exact hK
  · have : ¬ ovr w i := by
      intro ⟨a, b⟩
      rw [a, b] at hh
      omega
    rw [if_neg this] at hK; exact hK
theorem c_endInstance {i : Int} (h : CW M e w ag) (hag : ag = 0 ∨ ag = 1) (hJo : jOk w.gJr) (hdr : w.gJr.2.2.2.2 = 0) (hW : WFP w.gRw w.gM) (hio : 0 ≤ i ∧ i < 16 → insOk w.gRw w.gM w.gWa (w.gIn i)) (hi : im_i64 i) (hd : 6 ≤ d)
    (hK : ∀ M', (∀ x, 6952 ≤ x → M' x = M x) → CW M' e (enO w ag i).2 ag → K (.inl (some (vI (enO w ag i).1))) e M') : im_T g d 92 0 [some (.ref 0), some (vL i), none, none, none] [] e M K := by
  obtain ⟨_, ⟨_, _, p3⟩, _, _, _, j1, _, a1⟩ := id h
  have ei := entO_i (ag := ag) (J := w.gJr) (kd := 4) (many := 1) (a := i) (b := 0) (c := 0) (t := z0) (n := 0)
  unfold enO at hK
  refine k_P_endInstance_0 (by omega) ⟨hi, fun i0 i1 => ⟨⟨i0, i1⟩, ?_⟩, fun hh => ?_⟩
  · rw [if_neg (Decidable.not_not.mpr ⟨i0, i1⟩)] at hK
    have hiN : ((i.toNat : Nat) : Int) = i := by omega
    obtain ⟨q1, q2⟩ := p3 i.toNat (by omega)
    have hio := hio ⟨i0, i1⟩
    have hst := st_inst (e := e) i.toNat (by omega)
    have f6 : M (2072 + 305 * i.toNat) 6 = (w.gIn i).1 := by have := q2.1.1; rw [hiN] at this; exact this
    refine ⟨2072 + 305 * i.toNat, by rw [← hiN]; exact q1, hst.1, fun hz => ?_, fun hne => ?_⟩
    · rw [f6] at hz
      rw [if_pos hz] at hK
      exact hK M (fun _ _ => rfl) h
    · rw [f6] at hne
      rw [if_neg hne] at hK
      have ov := (hio.2 (by have := hio.1; omega)).2.2.2.2.1
      refine c_isOver (i := i.toNat) (by omega) h hW (by rw [hiN]; exact ⟨ov.1, ov.2.1⟩) ⟨_, rfl, rfl, by split <;> decide, fun ho => ?_, fun ho => ?_⟩
      · have ho' : ovr w i := by
          rw [hiN] at ho
          by_cases z : ovr w i
          · exact z
          · rw [if_neg z] at ho; exact absurd rfl ho
        rw [if_neg (Decidable.not_not.mpr ho')] at hK
        refine c_enter (ag := ag) (J := w.gJr) (t := z0) (kd := 4) (many := 1) (n := 0) a1 hag j1 hJo hdr (by decide) (by decide) (by decide) (by decide) (fun i i0 i1 => by omega) hi (by decide) (by decide) (by omega) (fun M1 F1 J1 => ⟨_, rfl, rfl, by constructor <;> omega, fun z => ?_, fun z => ?_⟩)
        · rw [if_pos z] at hK
          exact hK M1 (fun x hx => F1 x (by omega) (by omega)) (h.jr (fun x hx => F1 x (by omega) (by omega)) J1)
        · rw [if_neg (Decidable.not_not.mpr z)] at hK
          have W1 := h.jr (fun x hx => F1 x (by omega) (by omega)) J1
          have W2 := W1.ins (M' := im_u M1 (2072 + 305 * i.toNat) 6 0) (i := i.toNat) (I := (0, (w.gIn i).2)) (by omega) (fun x hx => im_u_ne _ _ _ (by omega)) (by
            have c0 := cInB_congr q2 (M' := M1) (fun x _ _ => F1 x (by omega) (by omega))
            rw [hiN] at c0
            obtain ⟨⟨u6, u5, u4⟩, ua, uc, ul, ug⟩ := c0
            refine ⟨⟨im_rds _ _ _ _, ?_, ?_⟩, cb_congr ua (fun x _ _ => im_u_ne _ _ _ (by omega)), cb_congr uc (fun x _ _ => im_u_ne _ _ _ (by omega)), cb_congr ul (fun x _ _ => im_u_ne _ _ _ (by omega)), cb_congr ug (fun x _ _ => im_u_ne _ _ _ (by omega))⟩
            · rw [im_rdk _ _ _ (by decide)]; exact u5
            · rw [im_rdk _ _ _ (by decide)]; exact u4)
          rw [hiN] at W2
          rw [z]
          exact hK _ (fun x hx => by rw [im_u_ne _ _ _ (by omega)]; exact F1 x (by omega) (by omega)) W2
      · have ho' : ¬ ovr w i := fun z => by
          rw [hiN, if_pos z] at ho; exact absurd ho (by decide)
        rw [if_pos ho'] at hK
        exact hK M (fun _ _ => rfl) h
  · rw [if_pos (by omega)] at hK
    exact hK M (fun _ _ => rfl) h
theorem CW.fa {M' : im_M} {c p : Int} (h : CW M e w ag) (hs : ∀ x, x ≠ 2 → x ≠ 5 → x ≠ 6 → M' x = M x) (h8 : M' 2 8 = c) (h9 : M' 2 9 = p) : CW M' e ((w.sFc c).sFp p) ag := by
  obtain ⟨_, _, _, _, _, _, ⟨m1, m2⟩, _⟩ := id h
  exact h.rd (fun x a b c _ _ _ => hs x a b c) ⟨h8, h9⟩ (cMach_congr m1 (fun x _ _ => hs x (by omega) (by omega) (by omega))) (cScr_congr m2 (fun x _ => hs x (by omega) (by omega) (by omega)))
theorem c_parameterText {nm : Int} (h : CW M e w ag) (hag : ag = 0 ∨ ag = 1) (hJo : jOk w.gJr) (hdr : w.gJr.2.2.2.2 = 0) (hnm : im_i64 nm) (hn : 0 ≤ n ∧ n ≤ 16384) (ht : txt (M 1) t n) (hd : 8 ≤ d)
    (hK : ∀ M', (∀ x, 6952 ≤ x → M' x = M x) → CW M' e (paO w ag nm t n).2 ag → K (.inl (some (vI (paO w ag nm t n).1))) e M') : im_T g d 147 0 [some (.ref 0), some (vL nm), none, some (vI n), none] [] e M K := by
  obtain ⟨⟨_, _, _, t4⟩, _, ⟨b1, _, _⟩, _, _, j1, _, a1⟩ := id h
  have ei := entO_i (ag := ag) (J := w.gJr) (kd := 7) (many := 1) (a := nm) (b := 0) (c := 0) (t := t) (n := n)
  unfold paO at hK
  refine k_P_parameterText_0 (by omega) (c_isName hnm t4 (by omega) (fun hN => ⟨_, rfl, rfl, by decide, fun _ => ?_, fun z => absurd z (by decide)⟩) (fun hN => ⟨_, rfl, rfl, by decide, fun z => absurd rfl z, fun _ => ?_⟩))
  · rw [ifq_neg (Classical.not_not.mpr hN)] at hK
    refine c_numberText (t := t) (n := n) (b := 1) (nb := 16384) sf_1 (by decide) hn.2 hn.1 hn.2 ht t4 (by omega) (fun c p hc c0 M1 F1 F1' hp => ⟨_, rfl, rfl, ?_⟩) (fun v hv M1 F1 F1' hcn => ⟨_, rfl, rfl, ?_⟩)
    · rw [hc] at hK
      dsimp only at hK
      obtain ⟨⟨_, c9⟩, pp0, ppn⟩ := nuT_f hn.1 hc
      refine c_isFaulty (c := c) (p := p) (by constructor <;> omega) (by constructor <;> omega) (fun _ => hp) (fun M2 G1 G2 G8 G9 => ⟨_, rfl, rfl, by split <;> decide, fun z => ?_, fun _ => ?_⟩)
      · rw [if_neg (by omega)] at z; exact absurd z (by decide)
      · rw [if_neg (by omega)] at G9
        exact hK M2 (fun x hx => by rw [G1 x (by omega)]; exact F1 x (by omega) (by omega) (by omega)) (h.fa (fun x a b c => (G1 x a).trans (F1 x a b c)) G8 G9)
    · rw [hv] at hK
      dsimp only at hK
      refine c_isFaulty (c := 0) (p := 0) (by decide) (by decide) (fun z => absurd rfl z) (fun M2 G1 G2 G8 G9 => ⟨_, rfl, rfl, by decide, fun _ => ?_, fun z => absurd rfl z⟩)
      rw [if_pos rfl] at G9
      have fr : ∀ x, x ≠ 2 → x ≠ 5 → x ≠ 6 → M2 x = M x := fun x a b c => (G1 x a).trans (F1 x a b c)
      have W2 := h.fa fr G8 G9
      have cb2 : cb M2 30 20 w.gPm := cb_congr b1 (fun x _ _ => fr x (by omega) (by omega) (by omega))
      have e4 : M2 30 4 = w.gPm.1 := by obtain ⟨π, ⟨q, _⟩, _⟩ := cb2; exact q
      refine c_findB bk_params cb2 hnm (by decide) (fun x hx hh => ⟨_, rfl, rfl, hx, ?_⟩)
      rw [e4]
      have go : ¬ (¬ hs2 w.gPm nm 0 ∧ 20 ≤ w.gPm.1) → im_T g (d - 1) 77 0 [some (.ref 0), some (vI 7), some (vL nm), none, some (vL 0), none, some (vL 0), none, some (vI n)] [] e M2 (im_ri (fun x21 e_ M20 => e = e_ ∧ (im_i32 x21) ∧ ((x21 = 0 → im_T g (d - 1) 141 0 [some (.ref 30), some (vL nm), none, some (vL 0), none, some (.ref 5), none] [] e M20 (im_ri (fun x25 e_ M24 => e = e_ ∧ K (.inl (some (vI (M24 30 4)))) e M24))) ∧ (¬ x21 = 0 → K (.inl (some (vI x21))) e M20)))) := by
        intro hno
        rw [if_neg hno] at hK
        obtain ⟨_, _, _, _, _, j2, _, a2⟩ := id W2
        refine c_enter (ag := ag) (J := w.gJr) (t := t) (kd := 7) (many := 1) (n := n) a2 hag j2 hJo hdr (by decide) (by decide) (by decide) hn (by rw [fr 1 (by decide) (by decide) (by decide)]; exact ht) hnm (by decide) (by decide) (by omega) (fun M3 F3 J3 => ⟨_, rfl, rfl, by constructor <;> omega, fun z => ?_, fun z => ?_⟩)
        · rw [if_neg (Decidable.not_not.mpr z)] at hK
          have W3 := W2.jr (fun x hx => F3 x (by omega) (by omega)) J3
          refine c_putB bk_params (cb_congr cb2 (fun x _ _ => F3 x (by omega) (by omega))) im_num5 (by omega) (cn_congr hcn (by rw [F3 5 (by decide) (by decide)]; exact G1 5 (by decide)) (by rw [F3 6 (by decide) (by decide)]; exact G1 6 (by decide))) hnm (by decide) (by omega) (fun β hβ M4 B4 c4 => ⟨_, rfl, rfl, ?_⟩) (fun hβ => ?_)
          · rw [hβ] at hK
            dsimp only at hK
            have e5 : M4 30 4 = β.1 := by obtain ⟨π, ⟨q, _⟩, _⟩ := c4; exact q
            rw [e5]
            exact hK M4 (fun x hx => by rw [B4 x (by omega), F3 x (by omega) (by omega)]; exact fr x (by omega) (by omega) (by omega)) (W3.pm (fun x hx => B4 x (by omega)) c4)
          · exfalso
            unfold bput at hβ
            by_cases q : hs2 w.gPm nm 0
            · rw [if_pos q] at hβ; cases hβ
            · rw [if_neg q] at hβ
              by_cases q2 : w.gPm.1 < 20
              · rw [if_pos q2] at hβ; cases hβ
              · exact hno ⟨q, by omega⟩
        · rw [if_pos z] at hK
          exact hK M3 (fun x hx => by rw [F3 x (by omega) (by omega)]; exact fr x (by omega) (by omega) (by omega)) (W2.jr (fun x hx => F3 x (by omega) (by omega)) J3)
      refine ⟨fun hlt hge => ?_, fun hor => go ?_⟩
      · rw [if_pos (⟨fun z => by have := hh.mpr z; omega, by omega⟩ : ¬ hs2 w.gPm nm 0 ∧ 20 ≤ w.gPm.1)] at hK
        exact hK M2 (fun x hx => fr x (by omega) (by omega) (by omega)) W2
      · intro ⟨q1, q2⟩
        rcases hor with z | ⟨z, z2⟩
        · exact q1 (hh.mp z)
        · omega
  · rw [ifq_pos hN] at hK
    exact hK M (fun _ _ => rfl) h
end CCALLS
