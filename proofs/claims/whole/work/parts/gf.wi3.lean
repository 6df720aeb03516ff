/-! what the calls leave is a world that keeps it -/
theorem WI_ok {b' : Int} {w : Wd} {r : Int × Wd} (h : OKw w.gJr.2.1 b' w 0 r) : WI r.2 := by
  obtain ⟨_, ⟨h1, h2, _⟩, h3, h4⟩ := h
  refine ⟨h1, ?_⟩
  by_cases c : r.1 < 0
  · exact WN_mono (h3 c) h2
  · obtain ⟨h5, h6⟩ := h4 (by omega)
    have := h6 rfl
    exact WN_mono h5 (by omega)
theorem WI_tk {w : Wd} (h : WI w) : WI w.tk := h
theorem WI_tn {w : Wd} {n : Int} (h : WI w) : WI ((w.sTp w.gTp).sTn n) := h
theorem WI_fe {w : Wd} {a b c d e : Int} (h : WI w) : WI (feW w a b c d e) := h
theorem WI_ou {w : Wd} {L : List Int} (h : WI w) : WI (ouW w L) := h
theorem WI_sh {w : Wd} (h : WI w) : WI ((w.sOb w.gTp).sOn w.gTn) := h
theorem WI_ff {w : Wd} {a b : Int} (h : WI w) : WI ((w.sFc a).sFp b) := h
theorem WI_lk {w : Wd} {o : Int × Int × (Nat → Pe) × Nat} (h : WI w) : WI (lkW w o) := h
theorem WI_fu {w : Wd} {b : Int} (h : WI w) (hb : -1 ≤ b ∧ b ≤ 2147483647) : WI (fuW w b) := ⟨⟨h.1.1, h.1.2.1, hb, h.1.2.2.2⟩, h.2⟩
theorem WI_cu {w : Wd} (h : WI w) : WI (cuW w) := ⟨⟨h.1.1, h.1.2.1, h.1.2.2.1, Or.inr rfl⟩, h.2⟩
theorem WI_po {w : Wd} {i b : Int} (h : WI w) : WI (poW w i b) := ⟨h.1, h.2⟩
theorem tkS_0 {β : Bk} (t : Int) : tkS ((0, β.2) : Bk) t = 0 := rfl
theorem bk_0 (β : Bk) : sbk ((0, β.2) : Bk) ∧ posb ((0, β.2) : Bk) := ⟨fun p q _ _ q1 => by have q1 : q < ((0 : Nat) : Int) := q1; omega, fun p _ p1 => by have p1 : p < ((0 : Nat) : Int) := p1; omega⟩
theorem WI_rw {w : Wd} (h : WI w) : WI (rwW w) := by
  obtain ⟨_, _, _, h3, _⟩ := h
  have hN : WNp 0 w.gRw 0 0 (fun _ => -1) (fun i => (0, (w.gIn i).2)) (0, w.gPm.2) (0, w.gWa.2) (0, w.gMi.2) (0, w.gPy.2) (0, w.gWr.2) := by
    refine ⟨⟨PW_0 _, Int.le_refl _, Int.le_refl _⟩, fun k _ _ => Or.inl rfl, fun i i0 i1 => ⟨Or.inl rfl, (h3 i i0 i1).2.1, fun z => absurd (show (0 : Int) = 1 from z) (by decide)⟩, ⟨⟨(bk_0 _).1, Nat.zero_le _⟩, bk_0 _, bk_0 _⟩, fun t => ?_, fun i hi => absurd hi (Nat.not_lt_zero i), fun i hi => absurd hi (Nat.not_lt_zero i)⟩
    have e1 : inS (fun i => ((0, (w.gIn i).2) : Ins)) t 16 = 0 := by
      have : inF (fun i => ((0, (w.gIn i).2) : Ins)) t = fun _ => 0 := funext (fun i => if_pos rfl)
      unfold inS; rw [this]; exact suN_zero
    have e2 : hld ((0, w.gMi.2) : Bk) t 0 = 0 := if_neg hs2_0
    rw [tkS_0, e1, e2]
    exact ⟨rfl, LIM_pos⟩
  exact ⟨⟨⟨Int.le_refl _, (by decide : (0 : Int) ≤ 16384)⟩, ⟨Int.le_refl _, Int.le_refl _⟩, ⟨Int.le_refl _, (by decide : (-1 : Int) ≤ 2147483647)⟩, Or.inl rfl⟩, hN⟩
/-! recover -/
def byt (D : Int → Int) : Prop := ∀ i, 0 ≤ i → i < 16384 → 0 ≤ D i ∧ D i < 256
def WR (w : Wd) : Prop := WI w ∧ w.gTn = 0 ∧ w.gJr.2.2.2.2 = 0 ∧ byt w.gJr.1
theorem WR_Q {w : Wd} (h : WR w) : RcQ w := by
  obtain ⟨⟨h1, h2⟩, h3, h4, h5⟩ := h
  have hi := @WN.ins _ _ h2
  have hc := h2.con
  obtain ⟨⟨a1, a2, a3⟩, a4, _, ⟨_, a5, a6⟩, _⟩ := h2
  have := h1.1
  refine ⟨⟨h1, h4, h3⟩, ⟨a1.1, a1.2.1, by omega⟩, fun i z => hi z, ⟨a5.2, a6.2, fun a b => hc a b⟩, fun k z => ?_, h5⟩
  rcases a4 k z.1 z.2 with y | y
  · exact Or.inl y
  · exact Or.inr y.1
theorem WR_R {w : Wd} (h : WR w) : RcR w := by
  obtain ⟨⟨h1, h2⟩, h3, h4, h5⟩ := h
  have hi := @WN.insR _ _ h2
  obtain ⟨⟨a1, a2, a3⟩, a4, _, ⟨_, a5, a6⟩, _⟩ := h2
  exact ⟨⟨a5.1, a6.1⟩, fun i z z1 => hi z z1, fun i _ i1 => ends_ex _ i1, fun t n w0 S hn hS => GX_root (prsT_gx hS hn.1 a1.1.1 a1.1.2.1)⟩
theorem xrec_0 (k : Int) (h : 1 ≤ k ∧ k ≤ 8) : 0 ≤ xrec k ∧ (k = 1 → xrec k = 1) := by
  have hc : k = 1 ∨ k = 2 ∨ k = 3 ∨ k = 4 ∨ k = 5 ∨ k = 6 ∨ k = 7 ∨ k = 8 := by omega
  rcases hc with rfl | rfl | rfl | rfl | rfl | rfl | rfl | rfl <;> exact ⟨by decide, by decide⟩
theorem rd_ok {w : Wd} {σ : Sg} (h : WR w) (hr : isRw w) : OKw w.gJr.2.1 (w.gJr.2.1 + szW w) w 1 (rdO σ w) := by
  obtain ⟨⟨h1, h2⟩, h3, h4, h5⟩ := h
  obtain ⟨k1, k2, k3, k4, _⟩ := hr
  have hx := xrec_0 _ k1
  have up : ∀ {b' : Int} {r : Int × Wd}, OKw w.gJr.2.1 b' w 1 r → b' ≤ w.gJr.2.1 + szW w → OKw w.gJr.2.1 (w.gJr.2.1 + szW w) w 1 r := fun {b' r} ho hb => by
    obtain ⟨o1, o2, o3, o4⟩ := ho
    exact ⟨o1, o2, o3, fun z => ⟨WN_mono (o4 z).1 hb, fun z1 => absurd z1 (by decide)⟩⟩
  have hsz : szW w = szR w.gJr.1 w.gJr.2.1 := rfl
  have hrn : rtN w.gJr.1 w.gJr.2.1 = szR w.gJr.1 w.gJr.2.1 - 7 - 8 * xrec (knR w.gJr.1 w.gJr.2.1) := rfl
  have hge : 7 + 8 * xrec (knR w.gJr.1 w.gJr.2.1) ≤ szR w.gJr.1 w.gJr.2.1 := by
    by_cases c : txK (knR w.gJr.1 w.gJr.2.1)
    · exact k3 c
    · have := k4 c; omega
  have hn0 : 0 ≤ rtN w.gJr.1 w.gJr.2.1 := by omega
  have hb0 : w.gJr.2.1 ≤ w.gJr.2.1 + szW w := by omega
  unfold rdO redoO
  generalize hk : knR w.gJr.1 w.gJr.2.1 = kn at *
  by_cases c1 : kn = 1
  · rw [if_pos c1]
    have := hx.2 c1
    exact up (keO_w h1 h2 hn0) (by omega)
  rw [if_neg c1]
  by_cases c2 : kn = 2
  · rw [if_pos c2]; exact up (drO_w h1 h2) hb0
  rw [if_neg c2]
  by_cases c3 : kn = 3
  · rw [if_pos c3]; exact up (beO_w h1 h2) hb0
  rw [if_neg c3]
  by_cases c4 : kn = 4
  · rw [if_pos c4]; exact up (enO_w h1 h2) hb0
  rw [if_neg c4]
  by_cases c5 : kn = 5
  · rw [if_pos c5]; exact up (miO_w h1 h2 hn0) hb0
  rw [if_neg c5]
  by_cases c6 : kn = 6
  · rw [if_pos c6]; exact up (trO_w h1 h2 hn0) hb0
  rw [if_neg c6]
  by_cases c7 : kn = 7
  · rw [if_pos c7]; exact up (paO_w h1 h2 hn0) hb0
  rw [if_neg c7]
  exact up (fgO_w h1 h2) hb0
theorem rd_sz {w : Wd} (hr : isRw w) : 7 ≤ szW w ∧ w.gJr.2.1 + szW w ≤ 16384 := by
  obtain ⟨k1, k2, k3, k4, _⟩ := hr
  have hx := xrec_0 _ k1
  refine ⟨?_, k2⟩
  show 7 ≤ szR w.gJr.1 w.gJr.2.1
  by_cases c : txK (knR w.gJr.1 w.gJr.2.1)
  · have := k3 c; omega
  · have := k4 c; omega
theorem WR_S : RcS WR := by
  intro w h
  refine ⟨WR_Q h, fun hr σ => ?_⟩
  obtain ⟨⟨o1, o2⟩, ⟨o3, o4, o5⟩, o6, o7⟩ := rd_ok (σ := σ) h hr
  obtain ⟨z1, z2⟩ := rd_sz hr
  obtain ⟨⟨h1, h2⟩, h3, h4, h5⟩ := h
  have eJ := o5 rfl
  refine ⟨o2.trans h3, eJ, o1, fun hge => ?_⟩
  obtain ⟨n1, _⟩ := o7 hge
  generalize (rdO σ w).2 = u at *
  obtain ⟨⟨j1, j2⟩, ⟨j3, j4⟩, j5, j6⟩ := h1
  refine ⟨⟨⟨⟨?_, ?_⟩, ⟨?_, ?_⟩, ?_, ?_⟩, ?_⟩, o2.trans h3, ?_, ?_⟩
  · show 0 ≤ u.gJr.2.1 + szW w; rw [eJ]; omega
  · show u.gJr.2.1 + szW w ≤ 16384; rw [eJ]; omega
  · show 0 ≤ u.gJr.2.2.1 + 1; rw [eJ]; omega
  · show 7 * (u.gJr.2.2.1 + 1) ≤ u.gJr.2.1 + szW w; rw [eJ]; omega
  · show -1 ≤ u.gJr.2.2.2.1 ∧ u.gJr.2.2.2.1 ≤ 2147483647; rw [eJ]; exact j5
  · show u.gJr.2.2.2.2 = 0 ∨ u.gJr.2.2.2.2 = 1; rw [eJ]; exact j6
  · show WN (u.gJr.2.1 + szW w) u; rw [eJ]; exact n1
  · show u.gJr.2.2.2.2 = 0; rw [eJ]; exact h4
  · show byt u.gJr.1; rw [eJ]; exact h5
theorem reS_w : ∀ (f : Nat) {w wE : Wd}, WR w → reS f w wE → WI wE := by
  intro f
  induction f with
  | zero => intro w wE _ h; exact absurd h (fun z => z)
  | succ f ih =>
    intro w wE h hr
    rcases hr with ⟨_, e⟩ | ⟨hi, σ, ⟨hlt, e⟩ | ⟨hge, hr⟩⟩
    · rw [e]; exact h.1
    · rw [e]
      obtain ⟨_, ⟨o3, o4, o5⟩, o6, _⟩ := rd_ok (σ := σ) h hi
      exact ⟨o3, WN_mono (o6 hlt) o4⟩
    · exact ih (((WR_S w h).2 hi σ).2.2.2 hge) hr
theorem WR_rw {w : Wd} (h : WI w) (hb : byt w.gJr.1) : WR (rwW w) := ⟨WI_rw h, rfl, rfl, hb⟩
/-! look -/
theorem WN.lk {b : Int} {w : Wd} (h : WN b w) {k fr : Int} (hc : lkC w k fr) (hac : fr = 0 → (w.gIn k).2.2.2.1.1 ≤ 40) (hl : ¬ fr = 0 → ¬ lks' w.gRw (w.gRt k) (eN w.gRw w.gM (w.gRt k)) w.gPm) : ∃ e0, lkH w k fr e0 := by
  obtain ⟨⟨c1, c2⟩, c3, c4⟩ := hc
  by_cases c : fr = 0
  · obtain ⟨e0, r1, r2, r3, r4⟩ := h.insR (i := k) ⟨c1, by omega⟩ (c3 c)
    obtain ⟨_, i2⟩ := h.ins (i := k) ⟨c1, by omega⟩
    obtain ⟨i3, i4, i5, i6, i7, i8⟩ := i2 (c3 c)
    refine ⟨e0, ?_⟩
    have eG : lkG w k fr = (w.gIn k).2.2.2.2.2.2 := if_pos c
    have eL : lkL w k fr = ((w.gIn k).2.1, (w.gIn k).2.2.1, (w.gIn k).2.2.2.1, (w.gIn k).2.2.2.2.1, (w.gIn k).2.2.2.2.2.1) := if_pos c
    unfold lkH
    rw [eG, eL]
    exact ⟨r1, r4, r3, ⟨i3, i4, i5⟩, i7, i8, hac c, r2, fun p hp => by cases hp⟩
  · have hr := h.2.1 k c1 (by omega)
    have hr : rtO w.gRw w.gM (w.gRt k) := by
      rcases hr with z | z
      · exact absurd z (c4 c)
      · exact z
    have he := ends_eN (R := w.gRw) hr.1.2
    have c5 := hl c
    refine ⟨eN w.gRw w.gM (w.gRt k), ?_⟩
    have eG : lkG w k fr = w.gPm := if_neg c
    have eL : lkL w k fr = (w.gRt k, 0, bE, bE, bE) := if_neg c
    have hEB : EB w.gRw w.gM (eN w.gRw w.gM (w.gRt k)) (w.gRt k) := ⟨⟨_, he, Int.le_refl _⟩, fun j j1 j2 => by
      have := he.2.2.1 j j1 j2
      have := hr.2.1
      omega⟩
    have hTP : TP w.gRw w.gM (eN w.gRw w.gM (w.gRt k)) w.gPm := fun n n0 n1 k3 k4 k5 k6 => by
      have hge : w.gRt k ≤ n := by
        by_cases c : n < w.gRt k
        · exact absurd hr.2.1 (k5 _ c he.1)
        · omega
      have hno : ¬ lkN w.gRw w.gPm n := fun z => c5 ⟨n, hge, k4, z⟩
      have hp : pnm w.gRw n = w.gRw 5 n := by unfold pnm; rw [if_neg (by omega), if_pos k3]
      unfold lkN at hno
      rw [hp] at hno
      by_cases c : 0 ≤ hld w.gPm (w.gRw 5 n) 0 ∧ hld w.gPm (w.gRw 5 n) 0 ≤ 1000000000000000
      · exact c
      · exact absurd ⟨k6, Or.inr ⟨k3, by unfold asT; rw [if_neg c]⟩⟩ hno
    unfold lkH
    rw [eG, eL]
    have b0 := bk_0 bE
    exact ⟨h.2.2.2.1.1.1, hTP, hr.2.2.2, ⟨b0, b0.1, b0.1, rfl⟩, ⟨hr.1.1, hr.1.2, hr.2.2.1⟩, ⟨Int.le_refl _, (by decide : (0 : Int) ≤ 1000000000000000)⟩, Nat.zero_le _, hEB, fun p hp => by cases hp⟩
