/-! THE WORLD: what both sides hold between calls -/
/-- an instance: begun, node, least, accounts, choices, lets, givens -/
abbrev Ins : Type := Int × Int × Int × Bk × Bk × Bk × Bk
/-- the journal: disk, how much of it is used, records, fuse, dark -/
abbrev Jw : Type := (Int → Int) × Int × Int × Int × Int
def Wd : Type := (Int → Int) × Int × (Int → Int) × Int × Int × Int × Rw × Int × (Int → Int) × (Int → Ins) × Bk × Bk × Bk × Rl × Rl × Int × Int × Jw
def Wd.gTp (w : Wd) : Int → Int := w.1
def Wd.gTn (w : Wd) : Int := w.2.1
def Wd.gOb (w : Wd) : Int → Int := w.2.2.1
def Wd.gOn (w : Wd) : Int := w.2.2.2.1
def Wd.gFc (w : Wd) : Int := w.2.2.2.2.1
def Wd.gFp (w : Wd) : Int := w.2.2.2.2.2.1
def Wd.gRw (w : Wd) : Rw := w.2.2.2.2.2.2.1
def Wd.gM (w : Wd) : Int := w.2.2.2.2.2.2.2.1
def Wd.gRt (w : Wd) : Int → Int := w.2.2.2.2.2.2.2.2.1
def Wd.gIn (w : Wd) : Int → Ins := w.2.2.2.2.2.2.2.2.2.1
def Wd.gPm (w : Wd) : Bk := w.2.2.2.2.2.2.2.2.2.2.1
def Wd.gWa (w : Wd) : Bk := w.2.2.2.2.2.2.2.2.2.2.2.1
def Wd.gMi (w : Wd) : Bk := w.2.2.2.2.2.2.2.2.2.2.2.2.1
def Wd.gPy (w : Wd) : Rl := w.2.2.2.2.2.2.2.2.2.2.2.2.2.1
def Wd.gWr (w : Wd) : Rl := w.2.2.2.2.2.2.2.2.2.2.2.2.2.2.1
def Wd.gMd (w : Wd) : Int := w.2.2.2.2.2.2.2.2.2.2.2.2.2.2.2.1
def Wd.gDe (w : Wd) : Int := w.2.2.2.2.2.2.2.2.2.2.2.2.2.2.2.2.1
def Wd.gJr (w : Wd) : Jw := w.2.2.2.2.2.2.2.2.2.2.2.2.2.2.2.2.2
def Wd.sTp (w : Wd) (x : Int → Int) : Wd := (x, w.gTn, w.gOb, w.gOn, w.gFc, w.gFp, w.gRw, w.gM, w.gRt, w.gIn, w.gPm, w.gWa, w.gMi, w.gPy, w.gWr, w.gMd, w.gDe, w.gJr)
def Wd.sTn (w : Wd) (x : Int) : Wd := (w.gTp, x, w.gOb, w.gOn, w.gFc, w.gFp, w.gRw, w.gM, w.gRt, w.gIn, w.gPm, w.gWa, w.gMi, w.gPy, w.gWr, w.gMd, w.gDe, w.gJr)
def Wd.sOb (w : Wd) (x : Int → Int) : Wd := (w.gTp, w.gTn, x, w.gOn, w.gFc, w.gFp, w.gRw, w.gM, w.gRt, w.gIn, w.gPm, w.gWa, w.gMi, w.gPy, w.gWr, w.gMd, w.gDe, w.gJr)
def Wd.sOn (w : Wd) (x : Int) : Wd := (w.gTp, w.gTn, w.gOb, x, w.gFc, w.gFp, w.gRw, w.gM, w.gRt, w.gIn, w.gPm, w.gWa, w.gMi, w.gPy, w.gWr, w.gMd, w.gDe, w.gJr)
def Wd.sFc (w : Wd) (x : Int) : Wd := (w.gTp, w.gTn, w.gOb, w.gOn, x, w.gFp, w.gRw, w.gM, w.gRt, w.gIn, w.gPm, w.gWa, w.gMi, w.gPy, w.gWr, w.gMd, w.gDe, w.gJr)
def Wd.sFp (w : Wd) (x : Int) : Wd := (w.gTp, w.gTn, w.gOb, w.gOn, w.gFc, x, w.gRw, w.gM, w.gRt, w.gIn, w.gPm, w.gWa, w.gMi, w.gPy, w.gWr, w.gMd, w.gDe, w.gJr)
def Wd.sRw (w : Wd) (x : Rw) : Wd := (w.gTp, w.gTn, w.gOb, w.gOn, w.gFc, w.gFp, x, w.gM, w.gRt, w.gIn, w.gPm, w.gWa, w.gMi, w.gPy, w.gWr, w.gMd, w.gDe, w.gJr)
def Wd.sM (w : Wd) (x : Int) : Wd := (w.gTp, w.gTn, w.gOb, w.gOn, w.gFc, w.gFp, w.gRw, x, w.gRt, w.gIn, w.gPm, w.gWa, w.gMi, w.gPy, w.gWr, w.gMd, w.gDe, w.gJr)
def Wd.sRt (w : Wd) (x : Int → Int) : Wd := (w.gTp, w.gTn, w.gOb, w.gOn, w.gFc, w.gFp, w.gRw, w.gM, x, w.gIn, w.gPm, w.gWa, w.gMi, w.gPy, w.gWr, w.gMd, w.gDe, w.gJr)
def Wd.sIn (w : Wd) (x : Int → Ins) : Wd := (w.gTp, w.gTn, w.gOb, w.gOn, w.gFc, w.gFp, w.gRw, w.gM, w.gRt, x, w.gPm, w.gWa, w.gMi, w.gPy, w.gWr, w.gMd, w.gDe, w.gJr)
def Wd.sPm (w : Wd) (x : Bk) : Wd := (w.gTp, w.gTn, w.gOb, w.gOn, w.gFc, w.gFp, w.gRw, w.gM, w.gRt, w.gIn, x, w.gWa, w.gMi, w.gPy, w.gWr, w.gMd, w.gDe, w.gJr)
def Wd.sWa (w : Wd) (x : Bk) : Wd := (w.gTp, w.gTn, w.gOb, w.gOn, w.gFc, w.gFp, w.gRw, w.gM, w.gRt, w.gIn, w.gPm, x, w.gMi, w.gPy, w.gWr, w.gMd, w.gDe, w.gJr)
def Wd.sMi (w : Wd) (x : Bk) : Wd := (w.gTp, w.gTn, w.gOb, w.gOn, w.gFc, w.gFp, w.gRw, w.gM, w.gRt, w.gIn, w.gPm, w.gWa, x, w.gPy, w.gWr, w.gMd, w.gDe, w.gJr)
def Wd.sPy (w : Wd) (x : Rl) : Wd := (w.gTp, w.gTn, w.gOb, w.gOn, w.gFc, w.gFp, w.gRw, w.gM, w.gRt, w.gIn, w.gPm, w.gWa, w.gMi, x, w.gWr, w.gMd, w.gDe, w.gJr)
def Wd.sWr (w : Wd) (x : Rl) : Wd := (w.gTp, w.gTn, w.gOb, w.gOn, w.gFc, w.gFp, w.gRw, w.gM, w.gRt, w.gIn, w.gPm, w.gWa, w.gMi, w.gPy, x, w.gMd, w.gDe, w.gJr)
def Wd.sMd (w : Wd) (x : Int) : Wd := (w.gTp, w.gTn, w.gOb, w.gOn, w.gFc, w.gFp, w.gRw, w.gM, w.gRt, w.gIn, w.gPm, w.gWa, w.gMi, w.gPy, w.gWr, x, w.gDe, w.gJr)
def Wd.sDe (w : Wd) (x : Int) : Wd := (w.gTp, w.gTn, w.gOb, w.gOn, w.gFc, w.gFp, w.gRw, w.gM, w.gRt, w.gIn, w.gPm, w.gWa, w.gMi, w.gPy, w.gWr, w.gMd, x, w.gJr)
def Wd.sJr (w : Wd) (x : Jw) : Wd := (w.gTp, w.gTn, w.gOb, w.gOn, w.gFc, w.gFp, w.gRw, w.gM, w.gRt, w.gIn, w.gPm, w.gWa, w.gMi, w.gPy, w.gWr, w.gMd, w.gDe, x)
/-- a record is written -/
def jwO (J : Jw) (kd many a b c : Int) (t : Int → Int) (n : Int) : Int × Jw :=
  if 16384 < J.2.1 + (7 + 8 * many + n) then (-10, J)
  else if J.2.2.2.1 < 0 ∨ 7 + 8 * many + n ≤ J.2.2.2.1 then (0, wrD (dk0 J.1 (J.2.1 + (7 + 8 * many + n) + 2)) J.2.1 (rby kd many (7 + 8 * many + n) a b c t J.2.1) (7 + 8 * many + n), J.2.1 + (7 + 8 * many + n), J.2.2.1 + 1, (if J.2.2.2.1 < 0 then J.2.2.2.1 else J.2.2.2.1 - (7 + 8 * many + n)), 0)
  else (-103, fun x => if x = J.2.1 + 2 then 0 else wrD (dk0 J.1 (J.2.1 + (7 + 8 * many + n) + 2)) J.2.1 (rby kd many (7 + 8 * many + n) a b c t J.2.1) J.2.2.2.1 x, J.2.1, J.2.2.1, 0, 1)
/-- unless it is a record that is done again -/
def entO (ag : Int) (J : Jw) (kd many a b c : Int) (t : Int → Int) (n : Int) : Int × Jw := if ag = 0 then jwO J kd many a b c t n else (0, J)
def jOk (J : Jw) : Prop := (0 ≤ J.2.1 ∧ J.2.1 ≤ 16384) ∧ (0 ≤ J.2.2.1 ∧ 7 * J.2.2.1 ≤ J.2.1) ∧ (-1 ≤ J.2.2.2.1 ∧ J.2.2.2.1 ≤ 2147483647) ∧ (J.2.2.2.2 = 0 ∨ J.2.2.2.2 = 1)
def cJr (M : im_M) (J : Jw) : Prop := txt (M 2069) J.1 16384 ∧ M 2068 1 = J.2.1 ∧ M 2068 2 = J.2.2.1 ∧ M 2068 3 = J.2.2.2.1 ∧ M 2068 4 = J.2.2.2.2
def rJr (M : im_M) (J : Jw) : Prop := RDk M J.1 ∧ M 6952 177 = J.2.1 ∧ M 6952 178 = J.2.2.1 ∧ M 6952 179 = J.2.2.2.1 ∧ M 6952 180 = J.2.2.2.2
theorem jwO_ok {J : Jw} {kd many a b c n : Int} {t : Int → Int} (h : jOk J) (hm : 0 ≤ many) (hn : 0 ≤ n) : jOk (jwO J kd many a b c t n).2 ∧ J.2.1 ≤ (jwO J kd many a b c t n).2.2.1 ∧ ((jwO J kd many a b c t n).1 = 0 → (jwO J kd many a b c t n).2.2.1 = J.2.1 + (7 + 8 * many + n)) := by
  obtain ⟨h1, h2, h3, h4⟩ := h
  unfold jwO
  by_cases c1 : 16384 < J.2.1 + (7 + 8 * many + n)
  · rw [if_pos c1]; exact ⟨⟨h1, h2, h3, h4⟩, Int.le_refl _, fun z => absurd z (show (-10 : Int) ≠ 0 by decide)⟩
  · rw [if_neg c1]
    by_cases c2 : J.2.2.2.1 < 0 ∨ 7 + 8 * many + n ≤ J.2.2.2.1
    · rw [if_pos c2]
      refine ⟨⟨⟨by show 0 ≤ J.2.1 + (7 + 8 * many + n); omega, by show J.2.1 + (7 + 8 * many + n) ≤ _; omega⟩, ⟨by show 0 ≤ J.2.2.1 + 1; omega, by show 7 * (J.2.2.1 + 1) ≤ J.2.1 + (7 + 8 * many + n); omega⟩, ?_, Or.inl rfl⟩, by show J.2.1 ≤ J.2.1 + (7 + 8 * many + n); omega, fun _ => rfl⟩
      show -1 ≤ (if J.2.2.2.1 < 0 then J.2.2.2.1 else J.2.2.2.1 - (7 + 8 * many + n)) ∧ (if J.2.2.2.1 < 0 then J.2.2.2.1 else J.2.2.2.1 - (7 + 8 * many + n)) ≤ _
      split <;> omega
    · rw [if_neg c2]
      exact ⟨⟨h1, h2, ⟨show (-1 : Int) ≤ 0 by decide, show (0 : Int) ≤ 2147483647 by decide⟩, Or.inr rfl⟩, Int.le_refl _, fun z => absurd z (show (-103 : Int) ≠ 0 by decide)⟩
section ENTER
variable {g : im_g} {d : Nat} {e : im_E} {M : im_M} {K : im_K} {t : Int → Int} {kd many a b c n ag : Int} {J : Jw}
theorem c_hasRoom {u : Int} (h1 : M 2068 1 = u) (hu : 0 ≤ u ∧ u ≤ 16384) (hkd : 0 ≤ kd ∧ kd < 9) (hmany : xrec kd = many) (hm : 0 ≤ many ∧ many ≤ 3) (hn : 0 ≤ n ∧ n ≤ 16384) (hd : 1 ≤ d) (hK : K (.inl (some (vI (if 16384 < u + (7 + 8 * many + n) then 0 else 1)))) e M) : im_T g d 78 0 [some (.ref 2068), some (vI kd), some (vI n)] [] e M K := by
  refine k_Journal_hasRoom_0 hd (k_Journal_lengthOf_0 ⟨hkd, _, rfl, rfl, ?_⟩)
  rw [hmany, h1]
  refine ⟨by constructor <;> omega, fun x hx => ?_⟩
  have : x = if 16384 < u + (7 + 8 * many + n) then 0 else 1 := by split <;> omega
  rw [this]; exact hK
theorem c_enter (h19 : M 0 19 = ag) (hag : ag = 0 ∨ ag = 1) (hJ : cJr M J) (hO : jOk J) (hdr : J.2.2.2.2 = 0) (hkd : 0 ≤ kd ∧ kd < 9) (hmany : xrec kd = many) (hm : 0 ≤ many ∧ many ≤ 3) (hn : 0 ≤ n ∧ n ≤ 16384) (ht : txt (M 1) t n) (ha : im_i64 a) (hb : im_i64 b) (hc : im_i64 c) (hd : 5 ≤ d)
    (hK : ∀ M', (∀ x, x ≠ 2068 → x ≠ 2069 → M' x = M x) → cJr M' (entO ag J kd many a b c t n).2 → K (.inl (some (vI (entO ag J kd many a b c t n).1))) e M') :
    im_T g d 77 0 [some (.ref 0), some (vI kd), some (vL a), none, some (vL b), none, some (vL c), none, some (vI n)] [] e M K := by
  obtain ⟨o1, o2, o3, o4⟩ := hO
  obtain ⟨j1, j2, j3, j4, j5⟩ := id hJ
  refine k_P_enter_0 (by omega) ?_
  rw [h19]
  refine ⟨fun h0 => ?_, fun h0 => ?_⟩
  · have he : entO ag J kd many a b c t n = jwO J kd many a b c t n := if_pos h0
    rw [he] at hK
    unfold jwO at hK
    refine c_hasRoom j2 o1 hkd hmany hm hn (by omega) ⟨_, rfl, rfl, by split <;> decide, fun h1 => ?_, fun h1 => ?_⟩
    · have c1 : ¬ 16384 < J.2.1 + (7 + 8 * many + n) := fun z => by rw [if_pos z] at h1; exact h1 rfl
      rw [if_neg c1] at hK
      refine c_jwrite (q := 1) (nq := 16384) (t := t) (n := n) (u := J.2.1) (lf := J.2.2.2.1) (dk := J.1) sf_1 (by decide) ⟨by decide, by decide⟩ hkd hmany hm rfl ⟨hn.1, hn.2⟩ ⟨o1.1, by omega⟩ j2 j4 o3 (j5.trans hdr) j1 ht (by rw [j3]; omega) ha hb hc (by omega) (fun h2 M' f1 f2 f3 f4 f5 f6 => ⟨_, rfl, rfl, by decide, fun x hx => ?_⟩) (fun h2 M' f1 f2 f3 f4 f5 f6 => ⟨_, rfl, rfl, by decide, fun x hx => ?_⟩)
      · rw [if_pos h2] at hK
        have : x = 0 := by omega
        rw [this]
        exact hK M' f1 ⟨f2, f3, by rw [f4, j3], f5, f6⟩
      · rw [if_neg (by omega)] at hK
        have : x = -103 := by omega
        rw [this]
        exact hK M' f1 ⟨f2, f3, by rw [f4, j3], f5, f6⟩
    · have c1 : 16384 < J.2.1 + (7 + 8 * many + n) := by
        by_cases z : 16384 < J.2.1 + (7 + 8 * many + n)
        · exact z
        · rw [if_neg z] at h1; exact absurd h1 (by decide)
      rw [if_pos c1] at hK
      exact hK M (fun _ _ _ => rfl) hJ
  · have he : entO ag J kd many a b c t n = (0, J) := if_neg h0
    rw [he] at hK
    exact hK M (fun _ _ _ => rfl) hJ
/-- the reference's record: -100 where the class says -103 -/
theorem c_rwr {wt : Int} (hJ : rJr M J) (hO : jOk J) (hdr : J.2.2.2.2 = 0) (hkd : 1 ≤ kd ∧ kd ≤ 8) (hm : 0 ≤ many ∧ many ≤ 3) (hn : (wt = 0 ∧ n = 0) ∨ (wt = 1 ∧ n = M 6952 13)) (hn0 : 0 ≤ n ∧ n ≤ 16384) (ht : ∀ i, 0 ≤ i → i < n → M 6959 i = t i ∧ 0 ≤ t i ∧ t i < 256) (ha : im_i64 a) (hb : im_i64 b) (hc : im_i64 c) (hd : 4 ≤ d)
    (hK : ∀ M', (∀ x, x ≠ 6952 → x ≠ 7080 → M' x = M x) → (∀ k, k < 177 ∨ 181 < k → M' 6952 k = M 6952 k) → rJr M' (jwO J kd many a b c t n).2 → K (.inl (some (vI (if (jwO J kd many a b c t n).1 = -103 then -100 else (jwO J kd many a b c t n).1)))) e M') :
    im_T g d 307 0 [some (.ref 6952), some (vI kd), some (vI many), some (vL a), none, some (vL b), none, some (vL c), none, some (vI wt), none, none, none, none] [] e M K := by
  obtain ⟨o1, o2, o3, o4⟩ := hO
  obtain ⟨j1, j2, j3, j4, j5⟩ := id hJ
  unfold jwO at hK
  refine c_rwrite (t := t) (n := n) (u := J.2.1) (lf := J.2.2.2.1) (dk := J.1) (len := 7 + 8 * many + n) hkd hm (by omega) hn hn0 ht o1 j2 (by rw [j3]; omega) j4 o3 (j5.trans hdr) j1 ha hb hc hd (fun h1 => ?_) (fun h1 h2 M' f1 f2 f3 f4 f5 f6 f7 => ?_) (fun h1 h2 M' f1 f2 f3 f4 f5 f6 f7 => ?_)
  · rw [if_pos h1] at hK
    exact hK M (fun _ _ _ => rfl) (fun _ _ => rfl) hJ
  · rw [if_neg (by omega), if_pos h2] at hK
    exact hK M' f1 f2 ⟨f3, f4, by rw [f5, j3], f6, f7⟩
  · rw [if_neg (by omega), if_neg (by omega)] at hK
    exact hK M' f1 f2 ⟨f3, f4, by rw [f5, j3], f6, f7⟩
end ENTER
