/-! THE CALLS KEEP IT -/
def OKw (b b' : Int) (w : Wd) (ag : Int) (r : Int × Wd) : Prop := (im_i32 r.1 ∧ r.2.gTn = w.gTn) ∧ (jOk r.2.gJr ∧ w.gJr.2.1 ≤ r.2.gJr.2.1 ∧ (ag = 1 → r.2.gJr = w.gJr)) ∧ (r.1 < 0 → WN b r.2) ∧ (0 ≤ r.1 → WN b' r.2 ∧ (ag = 0 → b' - b ≤ r.2.gJr.2.1 - w.gJr.2.1))
theorem OK_no {b b' ag z : Int} {w w' : Wd} (hz : -103 ≤ z ∧ z < 0) (ht : w'.gTn = w.gTn) (hw : WN b w') (hj : jOk w'.gJr ∧ w.gJr.2.1 ≤ w'.gJr.2.1 ∧ (ag = 1 → w'.gJr = w.gJr)) : OKw b b' w ag (z, w') :=
  ⟨⟨⟨by show -2147483648 ≤ z; omega, by show z ≤ 2147483647; omega⟩, ht⟩, hj, fun _ => hw, fun q => by have q : 0 ≤ z := q; omega⟩
theorem OK_ys {b b' ag z : Int} {w w' : Wd} (hz : 0 ≤ z ∧ z ≤ 5000) (ht : w'.gTn = w.gTn) (hw : WN b' w') (hj : jOk w'.gJr ∧ w.gJr.2.1 ≤ w'.gJr.2.1 ∧ (ag = 1 → w'.gJr = w.gJr)) (hb : ag = 0 → b' - b ≤ w'.gJr.2.1 - w.gJr.2.1) : OKw b b' w ag (z, w') :=
  ⟨⟨⟨by show -2147483648 ≤ z; omega, by show z ≤ 2147483647; omega⟩, ht⟩, hj, fun q => by have q : z < 0 := q; omega, fun _ => ⟨hw, hb⟩⟩
theorem OK_y2 {b b' ag z : Int} {w w' : Wd} {J : Jw} {R : Rw} {m de : Int} {rt : Int → Int} {In : Int → Ins} {pm wa mi : Bk} {py wr : Rl} (hz : 0 ≤ z ∧ z ≤ 5000) (hN : WNp b' R m de rt In pm wa mi py wr) (hj : jOk J ∧ w.gJr.2.1 ≤ J.2.1 ∧ (ag = 1 → J = w.gJr)) (hb : ag = 0 → b' - b ≤ J.2.1 - w.gJr.2.1) (q0 : w'.gTn = w.gTn) (qJ : w'.gJr = J) (q1 : w'.gRw = R) (q2 : w'.gM = m) (q3 : w'.gDe = de) (q4 : w'.gRt = rt) (q5 : w'.gIn = In) (q6 : w'.gPm = pm) (q7 : w'.gWa = wa) (q8 : w'.gMi = mi) (q9 : w'.gPy = py) (q10 : w'.gWr = wr) : OKw b b' w ag (z, w') := by
  subst qJ q1 q2 q3 q4 q5 q6 q7 q8 q9 q10
  exact OK_ys hz q0 hN hj hb
theorem fld3 {w : Wd} {J : Jw} (W : Wd) (hW : W = (((w.sFc 0).sFp (-1)).sJr J)) : W.gTn = w.gTn ∧ W.gJr = J ∧ W.gRw = w.gRw ∧ W.gM = w.gM ∧ W.gDe = w.gDe ∧ W.gRt = w.gRt ∧ W.gIn = w.gIn ∧ W.gPm = w.gPm ∧ W.gWa = w.gWa ∧ W.gMi = w.gMi ∧ W.gPy = w.gPy ∧ W.gWr = w.gWr := by
  subst hW
  exact ⟨rfl, rfl, rfl, rfl, rfl, rfl, rfl, rfl, rfl, rfl, rfl, rfl⟩
theorem fldp0 {u : Wd} {β : Bk} (W : Wd) (hW : W = (u.sPm β)) : W.gTn = u.gTn ∧ W.gJr = u.gJr ∧ W.gRw = u.gRw ∧ W.gM = u.gM ∧ W.gDe = u.gDe ∧ W.gRt = u.gRt ∧ W.gIn = u.gIn ∧ W.gPm = β ∧ W.gWa = u.gWa ∧ W.gMi = u.gMi ∧ W.gPy = u.gPy ∧ W.gWr = u.gWr := by
  subst hW
  exact ⟨rfl, rfl, rfl, rfl, rfl, rfl, rfl, rfl, rfl, rfl, rfl, rfl⟩
theorem fldm0 {u : Wd} {β γ : Bk} (W : Wd) (hW : W = ((u.sWa β).sMi γ)) : W.gTn = u.gTn ∧ W.gJr = u.gJr ∧ W.gRw = u.gRw ∧ W.gM = u.gM ∧ W.gDe = u.gDe ∧ W.gRt = u.gRt ∧ W.gIn = u.gIn ∧ W.gPm = u.gPm ∧ W.gWa = β ∧ W.gMi = γ ∧ W.gPy = u.gPy ∧ W.gWr = u.gWr := by
  subst hW
  exact ⟨rfl, rfl, rfl, rfl, rfl, rfl, rfl, rfl, rfl, rfl, rfl, rfl⟩
theorem fldk0 {u : Wd} {rt : Int → Int} {R : Rw} {m de : Int} (W : Wd) (hW : W = ((((u.sRt rt).sRw R).sM m).sDe de)) : W.gTn = u.gTn ∧ W.gJr = u.gJr ∧ W.gRw = R ∧ W.gM = m ∧ W.gDe = de ∧ W.gRt = rt ∧ W.gIn = u.gIn ∧ W.gPm = u.gPm ∧ W.gWa = u.gWa ∧ W.gMi = u.gMi ∧ W.gPy = u.gPy ∧ W.gWr = u.gWr := by
  subst hW
  exact ⟨rfl, rfl, rfl, rfl, rfl, rfl, rfl, rfl, rfl, rfl, rfl, rfl⟩
theorem fldt0 {u : Wd} {In : Int → Ins} {wa : Bk} {py wr : Rl} (W : Wd) (hW : W = ((((u.sIn In).sWa wa).sPy py).sWr wr)) : W.gTn = u.gTn ∧ W.gJr = u.gJr ∧ W.gRw = u.gRw ∧ W.gM = u.gM ∧ W.gDe = u.gDe ∧ W.gRt = u.gRt ∧ W.gIn = In ∧ W.gPm = u.gPm ∧ W.gWa = wa ∧ W.gMi = u.gMi ∧ W.gPy = py ∧ W.gWr = wr := by
  subst hW
  exact ⟨rfl, rfl, rfl, rfl, rfl, rfl, rfl, rfl, rfl, rfl, rfl, rfl⟩
theorem fldp {w : Wd} {J : Jw} {β : Bk} (W : Wd) (hW : W = ((((w.sFc 0).sFp (-1)).sJr J).sPm β)) : W.gTn = w.gTn ∧ W.gJr = J ∧ W.gRw = w.gRw ∧ W.gM = w.gM ∧ W.gDe = w.gDe ∧ W.gRt = w.gRt ∧ W.gIn = w.gIn ∧ W.gPm = β ∧ W.gWa = w.gWa ∧ W.gMi = w.gMi ∧ W.gPy = w.gPy ∧ W.gWr = w.gWr := by
  obtain ⟨u, hu⟩ : ∃ u, u = (((w.sFc 0).sFp (-1)).sJr J) := ⟨_, rfl⟩
  rw [← hu] at hW
  obtain ⟨q0, q1, q2, q3, q4, q5, q6, q7, q8, q9, q10, q11⟩ := fld3 u hu
  obtain ⟨p0, p1, p2, p3, p4, p5, p6, p7, p8, p9, p10, p11⟩ := fldp0 W hW
  exact ⟨p0.trans q0, p1.trans q1, p2.trans q2, p3.trans q3, p4.trans q4, p5.trans q5, p6.trans q6, p7, p8.trans q8, p9.trans q9, p10.trans q10, p11.trans q11⟩
theorem fldm {w : Wd} {J : Jw} {β γ : Bk} (W : Wd) (hW : W = (((((w.sFc 0).sFp (-1)).sJr J).sWa β).sMi γ)) : W.gTn = w.gTn ∧ W.gJr = J ∧ W.gRw = w.gRw ∧ W.gM = w.gM ∧ W.gDe = w.gDe ∧ W.gRt = w.gRt ∧ W.gIn = w.gIn ∧ W.gPm = w.gPm ∧ W.gWa = β ∧ W.gMi = γ ∧ W.gPy = w.gPy ∧ W.gWr = w.gWr := by
  obtain ⟨u, hu⟩ : ∃ u, u = (((w.sFc 0).sFp (-1)).sJr J) := ⟨_, rfl⟩
  rw [← hu] at hW
  obtain ⟨q0, q1, q2, q3, q4, q5, q6, q7, q8, q9, q10, q11⟩ := fld3 u hu
  obtain ⟨p0, p1, p2, p3, p4, p5, p6, p7, p8, p9, p10, p11⟩ := fldm0 W hW
  exact ⟨p0.trans q0, p1.trans q1, p2.trans q2, p3.trans q3, p4.trans q4, p5.trans q5, p6.trans q6, p7.trans q7, p8, p9, p10.trans q10, p11.trans q11⟩
theorem fldk {w : Wd} {J : Jw} {rt : Int → Int} {R : Rw} {m de : Int} (W : Wd) (hW : W = (((((((w.sFc 0).sFp (-1)).sJr J).sRt rt).sRw R).sM m).sDe de)) : W.gTn = w.gTn ∧ W.gJr = J ∧ W.gRw = R ∧ W.gM = m ∧ W.gDe = de ∧ W.gRt = rt ∧ W.gIn = w.gIn ∧ W.gPm = w.gPm ∧ W.gWa = w.gWa ∧ W.gMi = w.gMi ∧ W.gPy = w.gPy ∧ W.gWr = w.gWr := by
  obtain ⟨u, hu⟩ : ∃ u, u = (((w.sFc 0).sFp (-1)).sJr J) := ⟨_, rfl⟩
  rw [← hu] at hW
  obtain ⟨q0, q1, q2, q3, q4, q5, q6, q7, q8, q9, q10, q11⟩ := fld3 u hu
  obtain ⟨p0, p1, p2, p3, p4, p5, p6, p7, p8, p9, p10, p11⟩ := fldk0 W hW
  exact ⟨p0.trans q0, p1.trans q1, p2, p3, p4, p5, p6.trans q6, p7.trans q7, p8.trans q8, p9.trans q9, p10.trans q10, p11.trans q11⟩
theorem fldt {w : Wd} {J : Jw} {In : Int → Ins} {wa : Bk} {py wr : Rl} (W : Wd) (hW : W = (((((((w.sFc 0).sFp (-1)).sJr J).sIn In).sWa wa).sPy py).sWr wr)) : W.gTn = w.gTn ∧ W.gJr = J ∧ W.gRw = w.gRw ∧ W.gM = w.gM ∧ W.gDe = w.gDe ∧ W.gRt = w.gRt ∧ W.gIn = In ∧ W.gPm = w.gPm ∧ W.gWa = wa ∧ W.gMi = w.gMi ∧ W.gPy = py ∧ W.gWr = wr := by
  obtain ⟨u, hu⟩ : ∃ u, u = (((w.sFc 0).sFp (-1)).sJr J) := ⟨_, rfl⟩
  rw [← hu] at hW
  obtain ⟨q0, q1, q2, q3, q4, q5, q6, q7, q8, q9, q10, q11⟩ := fld3 u hu
  obtain ⟨p0, p1, p2, p3, p4, p5, p6, p7, p8, p9, p10, p11⟩ := fldt0 W hW
  exact ⟨p0.trans q0, p1.trans q1, p2.trans q2, p3.trans q3, p4.trans q4, p5.trans q5, p6, p7.trans q7, p8, p9.trans q9, p10, p11⟩
theorem OK_id {b b' ag z : Int} {w w' : Wd} (h : WN b w') (hJ : jOk w.gJr) (ht : w'.gTn = w.gTn) (e : w'.gJr = w.gJr) (hz : -103 ≤ z ∧ z < 0) : OKw b b' w ag (z, w') := OK_no hz ht h ⟨by rw [e]; exact hJ, by rw [e]; exact Int.le_refl _, fun _ => e⟩
theorem entO_n {ag : Int} {J : Jw} {kd many a b c n : Int} {t : Int → Int} (h : (entO ag J kd many a b c t n).1 ≠ 0) : -103 ≤ (entO ag J kd many a b c t n).1 ∧ (entO ag J kd many a b c t n).1 < 0 := by
  have := entO_i (ag := ag) (J := J) (kd := kd) (many := many) (a := a) (b := b) (c := c) (t := t) (n := n)
  omega
/-- drop, forget, end -/
theorem drO_w {b ag k : Int} {w : Wd} (hJ : jOk w.gJr) (h : WN b w) : OKw b b w ag (drO w ag k) := by
  obtain ⟨e1, e2, e3, e4⟩ := entO_w (ag := ag) (kd := 2) (many := 1) (a := k) (b := 0) (c := 0) (t := z0) (n := 0) hJ (by decide) (by decide)
  unfold drO
  by_cases c1 : ¬ (0 ≤ k ∧ k < 16)
  · rw [if_pos c1]; exact OK_id h hJ rfl rfl (by decide)
  rw [if_neg c1]
  by_cases c2 : w.gRt k = -1
  · rw [if_pos c2]; exact OK_id h hJ rfl rfl (by decide)
  rw [if_neg c2]
  by_cases c3 : (entO ag w.gJr 2 1 k 0 0 z0 0).1 ≠ 0
  · rw [if_pos c3]; exact OK_no (entO_n c3) rfl h ⟨e1, e2, e4⟩
  rw [if_neg c3]
  refine OK_ys (by decide) rfl ?_ ⟨e1, e2, e4⟩ (fun _ => by show b - b ≤ (entO ag w.gJr 2 1 k 0 0 z0 0).2.2.1 - w.gJr.2.1; omega)
  obtain ⟨a1, a2, a3⟩ := h
  refine ⟨a1, fun k' k0 k1 => ?_, a3⟩
  show im_up w.gRt k (-1) k' = -1 ∨ rtO w.gRw w.gM (im_up w.gRt k (-1) k')
  unfold im_up
  by_cases c : k' = k
  · rw [if_pos c]; exact Or.inl rfl
  · rw [if_neg c]; exact a2 k' k0 k1
theorem fgO_w {b ag : Int} {w : Wd} (hJ : jOk w.gJr) (h : WN b w) : OKw b b w ag (fgO w ag) := by
  obtain ⟨e1, e2, e3, e4⟩ := entO_w (ag := ag) (kd := 8) (many := 0) (a := 0) (b := 0) (c := 0) (t := z0) (n := 0) hJ (by decide) (by decide)
  unfold fgO
  by_cases c3 : (entO ag w.gJr 8 0 0 0 0 z0 0).1 ≠ 0
  · rw [if_pos c3]; exact OK_no (entO_n c3) rfl h ⟨e1, e2, e4⟩
  rw [if_neg c3]
  obtain ⟨a1, a2, a3, ⟨⟨_, a4⟩, a5⟩, a6⟩ := h
  refine OK_ys (by omega) rfl ?_ ⟨e1, e2, e4⟩ (fun _ => by show b - b ≤ (entO ag w.gJr 8 0 0 0 0 z0 0).2.2.1 - w.gJr.2.1; omega)
  refine ⟨a1, a2, a3, ⟨⟨fun i j i0 i1 j1 => ?_, Nat.zero_le _⟩, a5⟩, a6⟩
  have j1 : j < ((0 : Nat) : Int) := j1
  omega
theorem upI_s {In : Int → Ins} {i : Int} {I : Ins} : upI In i I i = I := if_pos rfl
theorem upI_n {In : Int → Ins} {i j : Int} {I : Ins} (h : j ≠ i) : upI In i I j = In j := if_neg h
theorem inS_up {In : Int → Ins} {i : Int} {I : Ins} (hi : 0 ≤ i ∧ i < 16) (t : Int) : inS (upI In i I) t 16 = inS In t 16 + ((if I.1 = 0 then 0 else tkS I.2.2.2.1 t) - (if (In i).1 = 0 then 0 else tkS (In i).2.2.2.1 t)) := by
  obtain ⟨p, hp⟩ : ∃ p : Nat, (p : Int) = i := ⟨i.toNat, by omega⟩
  have hs := suN_set (F := inF In t) (G := inF (upI In i I) t) (p := p) (fun j hj => by
    show (if (upI In i I (j : Int)).1 = 0 then 0 else tkS (upI In i I (j : Int)).2.2.2.1 t) = _
    rw [upI_n (by omega)]; rfl) 16 (by omega)
  have e1 : inF (upI In i I) t p = if I.1 = 0 then 0 else tkS I.2.2.2.1 t := by
    show (if (upI In i I (p : Int)).1 = 0 then 0 else tkS (upI In i I (p : Int)).2.2.2.1 t) = _
    rw [hp, upI_s]
  have e2 : inF In t p = if (In i).1 = 0 then 0 else tkS (In i).2.2.2.1 t := by
    unfold inF; rw [hp]
  rw [e1, e2] at hs
  exact hs
theorem enO_w {b ag i : Int} {w : Wd} (hJ : jOk w.gJr) (h : WN b w) : OKw b b w ag (enO w ag i) := by
  obtain ⟨e1, e2, e3, e4⟩ := entO_w (ag := ag) (kd := 4) (many := 1) (a := i) (b := 0) (c := 0) (t := z0) (n := 0) hJ (by decide) (by decide)
  unfold enO
  by_cases c1 : ¬ (0 ≤ i ∧ i < 16)
  · rw [if_pos c1]; exact OK_id h hJ rfl rfl (by decide)
  rw [if_neg c1]
  by_cases c2 : (w.gIn i).1 = 0
  · rw [if_pos c2]; exact OK_id h hJ rfl rfl (by decide)
  rw [if_neg c2]
  by_cases c4 : ¬ ovr w i
  · rw [if_pos c4]; exact OK_id h hJ rfl rfl (by decide)
  rw [if_neg c4]
  by_cases c3 : (entO ag w.gJr 4 1 i 0 0 z0 0).1 ≠ 0
  · rw [if_pos c3]; exact OK_no (entO_n c3) rfl h ⟨e1, e2, e4⟩
  rw [if_neg c3]
  refine OK_ys (by decide) rfl ?_ ⟨e1, e2, e4⟩ (fun _ => by show b - b ≤ (entO ag w.gJr 4 1 i 0 0 z0 0).2.2.1 - w.gJr.2.1; omega)
  have hi : 0 ≤ i ∧ i < 16 := by omega
  obtain ⟨a1, a2, a3, a4, a5, a6⟩ := h
  refine ⟨a1, a2, fun j j0 j1 => ?_, a4, fun t => ?_, a6⟩
  · show inO w.gRw w.gM (upI w.gIn i (0, (w.gIn i).2) j)
    by_cases c : j = i
    · rw [c, upI_s]; exact ⟨Or.inl rfl, (a3 i hi.1 hi.2).2.1, fun z => absurd (show (0 : Int) = 1 from z) (by decide)⟩
    · rw [upI_n c]; exact a3 j j0 j1
  · show tkS w.gWa t + inS (upI w.gIn i (0, (w.gIn i).2)) t 16 = hld w.gMi t 0 ∧ hld w.gMi t 0 < LIM
    have hz : tkS (w.gIn i).2.2.2.1 t = 0 := by
      have c5 : (w.gIn i).2.2.2.1.1 = 0 := by
        have := Classical.not_not.mp c4; exact this.2
      unfold tkS; rw [c5]; rfl
    rw [inS_up hi, if_pos rfl, if_neg c2, hz]
    have := a5 t
    omega
/-- begin -/
theorem beO_w {b ag i k tm : Int} {w : Wd} (hJ : jOk w.gJr) (h : WN b w) : OKw b b w ag (beO w ag i k tm) := by
  obtain ⟨e1, e2, e3, e4⟩ := entO_w (ag := ag) (kd := 3) (many := 3) (a := i) (b := k) (c := tm) (t := z0) (n := 0) hJ (by decide) (by decide)
  unfold beO
  by_cases c1 : ¬ (0 ≤ i ∧ i < 16 ∧ 0 ≤ k ∧ k < 16)
  · rw [if_pos c1]; exact OK_id h hJ rfl rfl (by decide)
  rw [if_neg c1]
  by_cases c2 : ¬ (0 ≤ tm ∧ tm ≤ 1000000000000000)
  · rw [if_pos c2]; exact OK_id h hJ rfl rfl (by decide)
  rw [if_neg c2]
  by_cases c4 : (w.gIn i).1 ≠ 0 ∨ w.gRt k = -1
  · rw [if_pos c4]; exact OK_id h hJ rfl rfl (by decide)
  rw [if_neg c4]
  by_cases c5 : lks' w.gRw (w.gRt k) (eN w.gRw w.gM (w.gRt k)) w.gPm
  · rw [ifq_pos c5]; exact OK_id h hJ rfl rfl (by decide)
  rw [ifq_neg c5]
  by_cases c3 : (entO ag w.gJr 3 3 i k tm z0 0).1 ≠ 0
  · rw [if_pos c3]; exact OK_no (entO_n c3) rfl h ⟨e1, e2, e4⟩
  rw [if_neg c3]
  refine OK_ys (by decide) rfl ?_ ⟨e1, e2, e4⟩ (fun _ => by show b - b ≤ (entO ag w.gJr 3 3 i k tm z0 0).2.2.1 - w.gJr.2.1; omega)
  have hi : 0 ≤ i ∧ i < 16 := by omega
  obtain ⟨a1, a2, a3, a4, a5, a6⟩ := h
  have hr : rtO w.gRw w.gM (w.gRt k) := by
    rcases a2 k (by omega) (by omega) with z | z
    · exact absurd (Or.inr z) c4
    · exact z
  have e0 : ∀ (β : Bk), sbk ((0, β.2) : Bk) ∧ posb ((0, β.2) : Bk) := fun β => ⟨fun p q _ _ q1 => by have q1 : q < ((0 : Nat) : Int) := q1; omega, fun p _ p1 => by have p1 : p < ((0 : Nat) : Int) := p1; omega⟩
  have hin : inO w.gRw w.gM (1, w.gRt k, tm, (0, (w.gIn i).2.2.2.1.2), (0, (w.gIn i).2.2.2.2.1.2), (0, (w.gIn i).2.2.2.2.2.1.2), w.gPm) := by
    refine ⟨Or.inr rfl, (a3 i hi.1 hi.2).2.1, fun _ => ⟨⟨e0 _, (e0 _).1, (e0 _).1⟩, ⟨hr.1.1, hr.1.2, hr.2.2.1⟩, (by show 0 ≤ tm ∧ tm ≤ 1000000000000000; omega), a4.1.1, ?_⟩⟩
    have he := ends_eN (R := w.gRw) hr.1.2
    refine ⟨eN w.gRw w.gM (w.gRt k), w.gRt k, he.2.1, ⟨⟨hr.1.1, he.1⟩, hr.2.1, hr.2.2.2⟩, ⟨⟨_, he, Int.le_refl _⟩, fun j j1 j2 => ?_⟩, fun n n0 n1 k3 k4 k5 k6 => ?_⟩
    · have := he.2.2.1 j j1 j2
      have := hr.2.1
      omega
    · have hge : w.gRt k ≤ n := by
        by_cases c : n < w.gRt k
        · exact absurd hr.2.1 (k5 _ c he.1)
        · omega
      have hno : ¬ lkN w.gRw w.gPm n := fun z => c5 ⟨n, hge, k4, z⟩
      have hp : pnm w.gRw n = w.gRw 5 n := by unfold pnm; rw [if_neg (by omega), if_pos k3]
      unfold lkN at hno
      rw [hp] at hno
      show 0 ≤ hld w.gPm (w.gRw 5 n) 0 ∧ hld w.gPm (w.gRw 5 n) 0 ≤ 1000000000000000
      by_cases c : 0 ≤ hld w.gPm (w.gRw 5 n) 0 ∧ hld w.gPm (w.gRw 5 n) 0 ≤ 1000000000000000
      · exact c
      · exact absurd ⟨k6, Or.inr ⟨k3, by unfold asT; rw [if_neg c]⟩⟩ hno
  refine ⟨a1, a2, fun j j0 j1 => ?_, a4, fun t => ?_, a6⟩
  · show inO w.gRw w.gM (upI w.gIn i (1, w.gRt k, tm, (0, (w.gIn i).2.2.2.1.2), (0, (w.gIn i).2.2.2.2.1.2), (0, (w.gIn i).2.2.2.2.2.1.2), w.gPm) j)
    by_cases c : j = i
    · rw [c, upI_s]; exact hin
    · rw [upI_n c]; exact a3 j j0 j1
  · show tkS w.gWa t + inS (upI w.gIn i (1, w.gRt k, tm, (0, (w.gIn i).2.2.2.1.2), (0, (w.gIn i).2.2.2.2.1.2), (0, (w.gIn i).2.2.2.2.2.1.2), w.gPm)) t 16 = hld w.gMi t 0 ∧ hld w.gMi t 0 < LIM
    have hb0 : (w.gIn i).1 = 0 := by
      by_cases c : (w.gIn i).1 = 0
      · exact c
      · exact absurd (Or.inl c) c4
    have hz : tkS ((0, (w.gIn i).2.2.2.1.2) : Bk) t = 0 := rfl
    rw [inS_up hi, if_neg (show ¬ (1 : Int) = 0 by decide), if_pos hb0]
    have := a5 t
    show tkS w.gWa t + (inS w.gIn t 16 + (tkS ((0, (w.gIn i).2.2.2.1.2) : Bk) t - 0)) = _ ∧ _
    rw [hz]
    omega
/-- parameter, mint -/
theorem paO_w {b ag nm n : Int} {t : Int → Int} {w : Wd} (hJ : jOk w.gJr) (h : WN b w) (hn : 0 ≤ n) : OKw b b w ag (paO w ag nm t n) := by
  obtain ⟨e1, e2, e3, e4⟩ := entO_w (ag := ag) (kd := 7) (many := 1) (a := nm) (b := 0) (c := 0) (t := t) (n := n) hJ (by decide) hn
  unfold paO
  by_cases c1 : ¬ nmV nm
  · rw [ifq_pos c1]; exact OK_id h hJ rfl rfl (by decide)
  rw [ifq_neg c1]
  cases hv : nuT t n with
  | inl f => exact OK_id h hJ rfl rfl (by decide)
  | inr v =>
    dsimp only
    by_cases c2 : ¬ hs2 w.gPm nm 0 ∧ 20 ≤ w.gPm.1
    · rw [if_pos c2]; exact OK_id h hJ rfl rfl (by decide)
    rw [if_neg c2]
    by_cases c3 : (entO ag w.gJr 7 1 nm 0 0 t n).1 ≠ 0
    · rw [if_pos c3]; exact OK_no (entO_n c3) rfl h ⟨e1, e2, e4⟩
    rw [if_neg c3]
    cases hb : bput w.gPm 20 nm 0 v with
    | none => exact OK_ys (by decide) rfl h ⟨hJ, Int.le_refl _, fun _ => rfl⟩ (fun _ => by omega)
    | some β =>
      obtain ⟨a1, a2, a3, ⟨⟨a4, a4'⟩, a5⟩, a6⟩ := h
      have hc : β.1 ≤ 20 := by
        unfold bput at hb
        by_cases d1 : hs2 w.gPm nm 0
        · rw [if_pos d1] at hb; cases hb; exact a4'
        · rw [if_neg d1] at hb
          by_cases d2 : w.gPm.1 < 20
          · rw [if_pos d2] at hb; cases hb; exact d2
          · rw [if_neg d2] at hb; cases hb
      have hN : WNp b w.gRw w.gM w.gDe w.gRt w.gIn β w.gWa w.gMi w.gPy w.gWr := ⟨a1, a2, a3, ⟨⟨bput_ok a4 hb, hc⟩, a5⟩, a6⟩
      show OKw b b w ag ((β.1 : Int), ((((w.sFc 0).sFp (-1)).sJr (entO ag w.gJr 7 1 nm 0 0 t n).2).sPm β))
      obtain ⟨W, hW⟩ : ∃ W, W = ((((w.sFc 0).sFp (-1)).sJr (entO ag w.gJr 7 1 nm 0 0 t n).2).sPm β) := ⟨_, rfl⟩
      rw [← hW]
      obtain ⟨q0, q1, q2, q3, q4, q5, q6, q7, q8, q9, q10, q11⟩ := fldp W hW
      exact OK_y2 (by omega) hN ⟨e1, e2, e4⟩ (fun _ => by omega) q0 q1 q2 q3 q4 q5 q6 q7 q8 q9 q10 q11
theorem miO_w {b ag pa tk' n : Int} {t : Int → Int} {w : Wd} (hJ : jOk w.gJr) (h : WN b w) (hn : 0 ≤ n) : OKw b b w ag (miO w ag pa tk' t n) := by
  obtain ⟨e1, e2, e3, e4⟩ := entO_w (ag := ag) (kd := 5) (many := 2) (a := pa) (b := tk') (c := 0) (t := t) (n := n) hJ (by decide) hn
  unfold miO
  by_cases c1 : ¬ nmV pa ∨ ¬ nmV tk'
  · rw [ifq_pos c1]; exact OK_id h hJ rfl rfl (by decide)
  rw [ifq_neg c1]
  cases hv : nuT t n with
  | inl f => exact OK_id h hJ rfl rfl (by decide)
  | inr v =>
    dsimp only
    by_cases c2 : v ≤ 0
    · rw [if_pos c2]; exact OK_id h hJ rfl rfl (by decide)
    rw [if_neg c2]
    by_cases c5 : ¬ sm (hld w.gMi tk' 0 + v)
    · rw [ifq_pos c5]; exact OK_id h hJ rfl rfl (by decide)
    rw [ifq_neg c5]
    by_cases c4 : (¬ hs2 w.gWa pa tk' ∧ 60 ≤ w.gWa.1) ∨ (¬ hs2 w.gMi tk' 0 ∧ 60 ≤ w.gMi.1)
    · rw [if_pos c4]; exact OK_id h hJ rfl rfl (by decide)
    rw [if_neg c4]
    by_cases c3 : (entO ag w.gJr 5 2 pa tk' 0 t n).1 ≠ 0
    · rw [if_pos c3]; exact OK_no (entO_n c3) rfl h ⟨e1, e2, e4⟩
    rw [if_neg c3]
    have ys : OKw b b w ag (0, w) := OK_ys (by decide) rfl h ⟨hJ, Int.le_refl _, fun _ => rfl⟩ (fun _ => by omega)
    cases hb : bcre w.gWa 60 pa tk' v with
    | inl z => exact ys
    | inr β =>
      dsimp only
      cases hc : bcre w.gMi 60 tk' 0 v with
      | inl z => exact ys
      | inr γ =>
        obtain ⟨a1, a2, a3, ⟨a4, a5, a6⟩, a7, a8⟩ := h
        have hN : WNp b w.gRw w.gM w.gDe w.gRt w.gIn w.gPm β γ w.gPy w.gWr := by
          refine ⟨a1, a2, a3, ⟨a4, bcre_ok a5.1 a5.2 (by omega) hb, bcre_ok a6.1 a6.2 (by omega) hc⟩, fun u => ?_, a8⟩
          show tkS β u + inS w.gIn u 16 = hld γ u 0 ∧ hld γ u 0 < LIM
          rw [tkS_bcre hb, hld_bcre a6.1 hc]
          have h5 := Classical.not_not.mp c5
          unfold sm at h5
          have := a7 u
          by_cases c6 : tk' = u
          · subst c6
            rw [if_pos rfl, if_pos ⟨rfl, rfl⟩]; omega
          · rw [if_neg c6, if_neg (fun z => c6 z.1.symm)]; omega
        show OKw b b w ag (0, (((((w.sFc 0).sFp (-1)).sJr (entO ag w.gJr 5 2 pa tk' 0 t n).2).sWa β).sMi γ))
        obtain ⟨W, hW⟩ : ∃ W, W = (((((w.sFc 0).sFp (-1)).sJr (entO ag w.gJr 5 2 pa tk' 0 t n).2).sWa β).sMi γ) := ⟨_, rfl⟩
        rw [← hW]
        obtain ⟨q0, q1, q2, q3, q4, q5, q6, q7, q8, q9, q10, q11⟩ := fldm W hW
        exact OK_y2 (by decide) hN ⟨e1, e2, e4⟩ (fun _ => by omega) q0 q1 q2 q3 q4 q5 q6 q7 q8 q9 q10 q11
/-- keep -/
theorem keO_w {b ag k n w0 : Int} {t : Int → Int} {w : Wd} (hJ : jOk w.gJr) (h : WN b w) (hn : 0 ≤ n) : OKw b (b + n + 1) w ag (keO w ag k t n w0) := by
  obtain ⟨e1, e2, e3, e4⟩ := entO_w (ag := ag) (kd := 1) (many := 1) (a := k) (b := 0) (c := 0) (t := t) (n := n) hJ (by decide) hn
  unfold keO
  by_cases c1 : ¬ (0 ≤ k ∧ k < 16)
  · rw [if_pos c1]; exact OK_id h hJ rfl rfl (by decide)
  rw [if_neg c1]
  by_cases c2 : w.gRt k ≠ -1
  · rw [if_pos c2]; exact OK_id h hJ rfl rfl (by decide)
  rw [if_neg c2]
  cases hS : prsT t n w.gM w0 with
  | inl f => exact OK_id h hJ rfl rfl (by decide)
  | inr S =>
    dsimp only
    by_cases c4 : 4000 < S.2.2.1
    · rw [if_pos c4]; exact OK_id h hJ rfl rfl (by decide)
    rw [if_neg c4]
    by_cases c3 : (entO ag w.gJr 1 1 k 0 0 t n).1 ≠ 0
    · rw [if_pos c3]; exact OK_no (entO_n c3) rfl h ⟨e1, e2, e4⟩
    rw [if_neg c3]
    obtain ⟨⟨a1, a1', a1''⟩, a2, a3, a4⟩ := h
    have hW := a1.1
    have hgx := prsT_gx hS hn hW.1 hW.2.1
    have hG : ∀ (f : Nat) (j : Int), j < w.gM → glR w.gRw w.gM S.2.1 f j = w.gRw f j := fun f j hj => glR_lt hj
    have hgg := GX_glue (R := w.gRw) hgx hW.1
    have hr := GX_root hgg
    have hm := hgg.1
    have h1 : w.gM < S.2.2.1 → glR w.gRw w.gM S.2.1 1 w.gM = 0 := fun _ => hr.2
    have hN : WNp (b + n + 1) (glR w.gRw w.gM S.2.1) S.2.2.1 (w.gDe + n + 1) (im_up w.gRt k w.gM) w.gIn w.gPm w.gWa w.gMi w.gPy w.gWr := by
      refine ⟨⟨PW_add a1 hgg (by omega) hG, by omega, by omega⟩, fun k' k0 k1 => ?_, fun i i0 i1 => inO_add hW (a3 i i0 i1) hG (by omega) h1, a4⟩
      unfold im_up
      by_cases c : k' = k
      · rw [if_pos c]
        refine Or.inr ⟨⟨hW.1, hm.1⟩, hr.2, hgg.2.1.2, ?_⟩
        rw [eN_eq hr.1]; omega
      · rw [if_neg c]
        rcases a2 k' k0 k1 with z | z
        · exact Or.inl z
        · exact Or.inr (rtO_add z hG (by omega) h1)
    show OKw b (b + n + 1) w ag (S.2.2.1 - w.gM, (((((((w.sFc 0).sFp (-1)).sJr (entO ag w.gJr 1 1 k 0 0 t n).2).sRt (im_up w.gRt k w.gM)).sRw (glR w.gRw w.gM S.2.1)).sM S.2.2.1).sDe (w.gDe + n + 1)))
    obtain ⟨W, hW⟩ : ∃ W, W = (((((((w.sFc 0).sFp (-1)).sJr (entO ag w.gJr 1 1 k 0 0 t n).2).sRt (im_up w.gRt k w.gM)).sRw (glR w.gRw w.gM S.2.1)).sM S.2.2.1).sDe (w.gDe + n + 1)) := ⟨_, rfl⟩
    rw [← hW]
    obtain ⟨q0, q1, q2, q3, q4, q5, q6, q7, q8, q9, q10, q11⟩ := fldk W hW
    exact OK_y2 (by omega) hN ⟨e1, e2, e4⟩ (fun z => by rw [e3 (Classical.not_not.mp c3) z]; omega) q0 q1 q2 q3 q4 q5 q6 q7 q8 q9 q10 q11
/-- transact -/
theorem trO_w {b ag i fr to n cp : Int} {t : Int → Int} {J0 : Ip} {ρ ρ' : Rl} {w : Wd} (hJ : jOk w.gJr) (h : WN b w) (hn : 0 ≤ n) : OKw b b w ag (trO w ag i fr to t n J0 ρ ρ' cp) := by
  obtain ⟨e1, e2, e3, e4⟩ := entO_w (ag := ag) (kd := 6) (many := 3) (a := i) (b := fr) (c := to) (t := t) (n := n) hJ (by decide) hn
  unfold trO
  by_cases c1 : ¬ (0 ≤ i ∧ i < 16)
  · rw [if_pos c1]; exact OK_id h hJ rfl rfl (by decide)
  rw [if_neg c1]
  by_cases c2 : (w.gIn i).1 = 0
  · rw [if_pos c2]; exact OK_id h hJ rfl rfl (by decide)
  rw [if_neg c2]
  cases hI : inpT t n J0 with
  | inl f => exact OK_id h hJ rfl rfl (by decide)
  | inr J =>
    dsimp only
    cases hR : trR w i fr to J ρ ρ' cp with
    | inl z => exact OK_id h hJ rfl rfl (by have := runO_rng hR; omega)
    | inr s =>
      dsimp only
      by_cases c3 : (entO ag w.gJr 6 3 i fr to t n).1 ≠ 0
      · rw [if_pos c3]; exact OK_no (entO_n c3) rfl h ⟨e1, e2, e4⟩
      rw [if_neg c3]
      have hi : 0 ≤ i ∧ i < 16 := by omega
      have hio := h.ins hi
      have hb1 : (w.gIn i).1 = 1 := by have := hio.1; omega
      obtain ⟨o1, o2, o3, o4, o5, o6⟩ := hio.2 hb1
      obtain ⟨a1, a2, a3, a4, a5, a6⟩ := h
      have hOT : OT (trS (w.gIn i) w.gWa ρ ρ' cp) := ⟨o1, o2, o3, o4⟩
      have hVN : VN w.gRw w.gM (trS (w.gIn i) w.gWa ρ ρ' cp) := o5
      obtain ⟨s1, s2, s3⟩ := runO_inv a1.1.1 hOT hVN hR
      obtain ⟨⟨s4, s5⟩, s6⟩ := runO_ci a1.1.1 hOT hVN hR
      obtain ⟨b1, b2, b3, b4, e0, r0, b5, b6, b7, b8⟩ := (a3 i hi.1 hi.2).2.2 hb1
      have s7 := runO_eb a1.1.1 hOT hVN b7 hR
      have hin : inO w.gRw w.gM (trI (w.gIn i) (max fr (w.gIn i).2.2.1) s) := by
        refine ⟨Or.inr hb1, s1.2.2.1.2, fun _ => ⟨⟨s1.1, s1.2.1, s1.2.2.1.1⟩, s2, ?_, b4, e0, r0, b5, b6, s7, b8⟩⟩
        show 0 ≤ max fr (w.gIn i).2.2.1 ∧ max fr (w.gIn i).2.2.1 ≤ 1000000000000000
        omega
      have hN : WNp b w.gRw w.gM w.gDe w.gRt (upI w.gIn i (trI (w.gIn i) (max fr (w.gIn i).2.2.1) s)) w.gPm s.wal w.gMi s.pay s.wrn := by
        refine ⟨a1, a2, fun j j0 j1 => ?_, ⟨a4.1, s1.2.2.2, a4.2.2⟩, fun u => ?_, s3, s5⟩
        · by_cases c : j = i
          · rw [c, upI_s]; exact hin
          · rw [upI_n c]; exact a3 j j0 j1
        · rw [inS_up hi, if_neg c2, if_neg (show ¬ (trI (w.gIn i) (max fr (w.gIn i).2.2.1) s).1 = 0 from c2)]
          have h4 : tkS s.acc u + tkS s.wal u = tkS (w.gIn i).2.2.2.1 u + tkS w.gWa u := s4 u
          have := a5 u
          show tkS s.wal u + (inS w.gIn u 16 + (tkS s.acc u - tkS (w.gIn i).2.2.2.1 u)) = _ ∧ _
          omega
      show OKw b b w ag (0, (((((((w.sFc 0).sFp (-1)).sJr (entO ag w.gJr 6 3 i fr to t n).2).sIn (upI w.gIn i (trI (w.gIn i) (max fr (w.gIn i).2.2.1) s))).sWa s.wal).sPy s.pay).sWr s.wrn))
      obtain ⟨W, hW⟩ : ∃ W, W = (((((((w.sFc 0).sFp (-1)).sJr (entO ag w.gJr 6 3 i fr to t n).2).sIn (upI w.gIn i (trI (w.gIn i) (max fr (w.gIn i).2.2.1) s))).sWa s.wal).sPy s.pay).sWr s.wrn) := ⟨_, rfl⟩
      rw [← hW]
      obtain ⟨q0, q1, q2, q3, q4, q5, q6, q7, q8, q9, q10, q11⟩ := fldt W hW
      exact OK_y2 (by decide) hN ⟨e1, e2, e4⟩ (fun _ => by omega) q0 q1 q2 q3 q4 q5 q6 q7 q8 q9 q10 q11
