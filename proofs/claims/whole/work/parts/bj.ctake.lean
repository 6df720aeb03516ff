/-! THE CLASS takes an input -/
noncomputable def takeO (lk : Int) (s : TS) (t a b c v : Int) : Sum Int TS :=
  if t = 29 then (match bput s.cho 40 a b v with
    | none => .inl (-9)
    | some β => .inr (s.sCho β))
  else if t = 30 then .inr s
  else if v ≤ 0 then warnO s 1 a b c v
  else if lk = 0 then (if hld s.wal b c < v then .inl (-7) else (match bcre s.acc 40 a c v with
    | .inl k => .inl k
    | .inr β => .inr ((s.sWal (bdeb s.wal b c v)).sAcc β)))
  else (match bcre s.acc 40 a c v with
    | .inl k => .inl k
    | .inr β => .inr (s.sAcc β))
theorem bput_ok {β β' : Bk} {n : Nat} {a b v : Int} (h : sbk β) (hc : bput β n a b v = some β') : sbk β' := by
  unfold bput at hc
  by_cases c : hs2 β a b
  · rw [if_pos c] at hc; injection hc with hc; rw [← hc]; exact sbk_bset h
  · rw [if_neg c] at hc
    by_cases c2 : β.1 < n
    · rw [if_pos c2] at hc; injection hc with hc; rw [← hc]; exact sbk_bins h c
    · rw [if_neg c2] at hc; cases hc
theorem hld_le {β : Bk} {a b v : Int} (h : ¬ hld β a b < v) : hs2 β a b → v ≤ β.2.2.2 (ps β a b) := fun z => by
  unfold hld at h; rw [if_pos z] at h; omega
theorem takeO_ok {lk : Int} {s s' : TS} {t a b c v : Int} (h : OT s) (ht : takeO lk s t a b c v = .inr s') : OT s' ∧ s'.nd = s.nd := by
  obtain ⟨⟨a1, a2⟩, a3, a4, ⟨a5, a6⟩⟩ := id h
  unfold takeO at ht
  by_cases c1 : t = 29
  · rw [if_pos c1] at ht
    cases hb : bput s.cho 40 a b v with
    | none => rw [hb] at ht; cases ht
    | some β => rw [hb] at ht; cases ht; exact ⟨⟨⟨a1, a2⟩, bput_ok a3 hb, a4, a5, a6⟩, rfl⟩
  rw [if_neg c1] at ht
  by_cases c2 : t = 30
  · rw [if_pos c2] at ht; cases ht; exact ⟨h, rfl⟩
  rw [if_neg c2] at ht
  by_cases c3 : v ≤ 0
  · rw [if_pos c3] at ht
    obtain ⟨o1, o2, _⟩ := warnO_ok h ht
    exact ⟨o1, o2⟩
  rw [if_neg c3] at ht
  by_cases c4 : lk = 0
  · rw [if_pos c4] at ht
    by_cases c5 : hld s.wal b c < v
    · rw [if_pos c5] at ht; cases ht
    · rw [if_neg c5] at ht
      cases hb : bcre s.acc 40 a c v with
      | inl k => rw [hb] at ht; cases ht
      | inr β => rw [hb] at ht; cases ht; exact ⟨⟨bcre_ok a1 a2 (by omega) hb, a3, a4, bdeb_ok a5 a6 (hld_le c5)⟩, rfl⟩
  · rw [if_neg c4] at ht
    cases hb : bcre s.acc 40 a c v with
    | inl k => rw [hb] at ht; cases ht
    | inr β => rw [hb] at ht; cases ht; exact ⟨⟨bcre_ok a1 a2 (by omega) hb, a3, a4, a5, a6⟩, rfl⟩
/-- an input of a row -/
def IN (M : im_M) (e : im_E) (bs br nr : Nat) (i t a b c v : Int) : Prop := rwN e br nr ∧ (0 ≤ i ∧ i < nr) ∧ ((br + 6 + 2 * nr ≤ 931 ∨ 1793 ≤ br) ∧ (br + 6 + 2 * nr ≤ bs ∨ bs + 259 ≤ br)) ∧ (M (br + 1) i = t ∧ M (br + 2) i = a ∧ M (br + 3) i = b ∧ M (br + 4) i = c) ∧ M (br + 5) i = ((br + 6 + 2 * i.toNat : Nat) : Int) ∧ cn M (br + 6 + 2 * i.toNat) v
theorem IN.xt {M M' : im_M} {e : im_E} {bs br nr : Nat} {i t a b c v : Int} (h : IN M e bs br nr i t a b c v) (hX : XT bs M M') : IN M' e bs br nr i t a b c v := by
  obtain ⟨h1, h2, ⟨h3, h3'⟩, ⟨h4, h5, h6, h7⟩, h8, h9⟩ := h
  have hs : ∀ x, br ≤ x → x < br + 6 + 2 * nr → M' x = M x := fun x x1 x2 => hX.1 x (by clear h3; omega) (by clear h3'; omega) (by clear h3'; omega) (by clear h3'; omega) (by clear h3'; omega) (by clear h3'; omega) (by clear h3'; omega)
  have hnr : 0 < nr := by omega
  exact ⟨h1, h2, ⟨h3, h3'⟩, ⟨by rw [hs _ (by omega) (by omega)]; exact h4, by rw [hs _ (by omega) (by omega)]; exact h5, by rw [hs _ (by omega) (by omega)]; exact h6, by rw [hs _ (by omega) (by omega)]; exact h7⟩, by rw [hs _ (by omega) (by omega)]; exact h8, cn_congr h9 (hs _ (by omega) (by omega)) (hs _ (by omega) (by omega))⟩
section CTAKE
variable {g : im_g} {d : Nat} {e : im_E} {M : im_M} {K : im_K} {R : Rw} {m E : Int} {giv : Bk} {st en lk fl : Int} {s : TS} {bs bp np br nr : Nat} {i t a b c v : Int}
theorem IN.rg (hI : IN M e bs br nr i t a b c v) {m' pc : Nat} {L : im_L} {st' : List Value} (k : im_i64 a → im_i64 b → im_i64 c → im_T g d m' pc L st' e M K) : im_T g d m' pc L st' e M K := by
  obtain ⟨h1, ⟨h2, h2'⟩, h3, ⟨h4, h5, h6, h7⟩, h8, h9⟩ := hI
  refine im_rng (j := i) h1.1.2.2.1 h2 h2' (fun r1 => im_rng (j := i) h1.1.2.2.2.1 h2 h2' (fun r2 => im_rng (j := i) h1.1.2.2.2.2.1 h2 h2' (fun r3 => ?_)))
  have r1 : im_i64 (M (br + 2) i) := r1
  have r2 : im_i64 (M (br + 3) i) := r2
  have r3 : im_i64 (M (br + 4) i) := r3
  rw [h5] at r1
  rw [h6] at r2
  rw [h7] at r3
  exact k r1 r2 r3
theorem c_takeI (hC : CT M e R m E giv st en lk fl s bs bp np) (hO : OT s) (hI : IN M e bs br nr i t a b c v) (hd : 4 ≤ d)
    (hKs : ∀ s', takeO lk s t a b c v = .inr s' → ∀ M', XT bs M M' → CT M' e R m E giv st en lk fl s' bs bp np → K (.inl (some (vI 0))) e M')
    (hKe : ∀ k, takeO lk s t a b c v = .inl k → k ≠ 0 → im_i32 k → ∀ M', XT bs M M' → CX M' e R m E giv st en lk bs bp np → K (.inl (some (vI k))) e M') : im_T g d 145 0 [some (.ref 931), some (.ref br), some (vI i), none, none, none, none, none, none, none] [] e M K := by
  refine hI.rg (fun ha hb hc => ?_)
  obtain ⟨h1, ⟨h2, h2'⟩, ⟨h3, h3'⟩, ⟨h4, h5, h6, h7⟩, h8, h9⟩ := id hI
  obtain ⟨⟨o1, o2⟩, o3, o4, ⟨o5, o6⟩⟩ := id hO
  have hbs3 := hC.1.2.2.1
  obtain ⟨t1, t2, t3, t4, t5⟩ := hC.1.2.1
  have hq := h1.2 i.toNat (by omega)
  have hsg := cn_sg h9
  have e6 : M 931 6 = lk := hC.2.2.2.1.2.1
  generalize hqq : br + 6 + 2 * i.toNat = q at h8 h9 hq hsg
  have hqb : (q + 1 < 931 ∨ 1793 ≤ q) ∧ (q + 1 < bs ∨ bs + 259 ≤ q) := by
    clear hbs3
    constructor
    · clear h3'; omega
    · clear h3; omega
  obtain ⟨hq1, hq2⟩ := hqb
  clear h3 h3'
  unfold takeO at hKs hKe
  refine k_Machine_take_0 h1.1 (by omega) ⟨⟨h2, h2'⟩, q, h8, hq, ?_⟩
  rw [h4, h5, h6, h7, hsg, e6]
  refine ⟨fun h29 => ?_, fun h29 => ⟨bs, hC.1.1.1, t1, ?_⟩⟩
  · rw [if_neg h29] at hKs hKe
    refine ⟨fun h30 => ?_, fun h30 => ?_⟩
    · rw [if_neg h30] at hKs hKe
      refine ⟨fun hp => ?_, fun hp => ?_⟩
      · have hv0 : ¬ v ≤ 0 := fun z => by have := sg_le.mpr z; omega
        rw [if_neg hv0] at hKs hKe
        refine ⟨fun hl => ⟨bs, hC.1.1.1, t1, ?_⟩, fun hl => ?_⟩
        · rw [if_neg hl] at hKs hKe
          refine c_creditB t2 hC.1.2.2.2.2.1.1 hq (by omega) h9 (by omega) o2 ha hc (by omega) (fun β hβ M3 f5 f6 => ⟨_, rfl, rfl, ?_⟩) (fun k hk' k0 ki M3 f5 f6 => ⟨_, rfl, rfl, ?_⟩)
          · have hβ : bcre s.acc 40 a c v = .inr β := hβ
            rw [hβ] at hKs
            obtain ⟨C3, X3⟩ := hC.acc (fun x hx => f5 x (by omega)) f6
            exact hKs _ rfl M3 X3 C3
          · have hk' : bcre s.acc 40 a c v = .inl k := hk'
            rw [hk'] at hKe
            obtain ⟨β, f7⟩ := f6
            obtain ⟨C3, X3⟩ := hC.acc (fun x hx => f5 x (by omega)) f7
            exact hKe k rfl k0 ki M3 X3 ⟨_, _, C3⟩
        · rw [if_pos hl] at hKs hKe
          refine c_heldB (p := 0) bk_1207 (hC.2.2.2.2.1.1 hl) hb hc (by omega) (fun c' q1 q2 q3 q4 => ⟨_, rfl, rfl, q1, c_compare q1 hq q4 h9 (by omega) ⟨_, rfl, rfl, by unfold cmpI; (repeat' split) <;> decide, fun hge => ?_, fun hlt => ?_⟩⟩)
          · have hnl : ¬ hld s.wal b c < v := fun z => by
              unfold cmpI at hge; rw [if_pos z] at hge; omega
            rw [if_neg hnl] at hKs hKe
            refine c_debitB bk_1207 (hC.2.2.2.2.1.1 hl) hq (by omega) h9 (by omega) hb hc (hld_le hnl) (by omega) (fun M2 f3 f4 => ⟨rfl, rfl, ?_⟩)
            obtain ⟨C2, X2⟩ := hC.wal (fun x hx => f3 x (by omega)) f4
            refine ⟨bs, C2.1.1.1, t1, c_creditB t2 C2.1.2.2.2.2.1.1 hq (by omega) (cn_congr h9 (f3 _ (by omega)) (f3 _ (by omega))) (by omega) o2 ha hc (by omega) (fun β hβ M3 f5 f6 => ⟨_, rfl, rfl, ?_⟩) (fun k hk' k0 ki M3 f5 f6 => ⟨_, rfl, rfl, ?_⟩)⟩
            · have hβ : bcre s.acc 40 a c v = .inr β := hβ
              rw [hβ] at hKs
              obtain ⟨C3, X3⟩ := C2.acc (fun x hx => f5 x (by omega)) f6
              exact hKs _ rfl M3 (X2.trans X3) C3
            · have hk' : bcre s.acc 40 a c v = .inl k := hk'
              rw [hk'] at hKe
              obtain ⟨β, f7⟩ := f6
              obtain ⟨C3, X3⟩ := C2.acc (fun x hx => f5 x (by omega)) f7
              exact hKe k rfl k0 ki M3 (X2.trans X3) ⟨_, _, C3⟩
          · have hnl : hld s.wal b c < v := by
              apply Decidable.byContradiction
              intro z
              unfold cmpI at hlt; rw [if_neg z] at hlt
              (repeat' split at hlt) <;> omega
            rw [if_pos hnl] at hKe
            exact hKe (-7) rfl (by decide) (by decide) M (XT.rf _ _) ⟨_, _, hC⟩
      · have hv0 : v ≤ 0 := sg_le.mp hp
        rw [if_pos hv0] at hKs hKe
        refine c_warn hC hq (by omega) h9 (fun _ => rfl) (by decide) ha hb hc (by omega) (fun s2 hs2' M3 X3 f3 C3 => ⟨_, rfl, rfl, by decide, fun w hw => ?_⟩) (fun hw' => ⟨_, rfl, rfl, by decide, fun w hw => ?_⟩)
        · have : w = 0 := by omega
          rw [this]; exact hKs s2 hs2' M3 X3 C3
        · have : w = -9 := by omega
          rw [this]; exact hKe (-9) hw' (by decide) (by decide) M (XT.rf _ _) ⟨_, _, hC⟩
    · rw [if_pos h30] at hKs
      exact hKs s rfl M (XT.rf _ _) hC
  · rw [if_pos h29] at hKs hKe
    refine c_putB t3 hC.1.2.2.2.2.1.2.1 hq (by omega) h9 ha hb (by omega) (fun β hβ M2 f3 f4 => ⟨_, rfl, rfl, by decide, fun w hw => ?_⟩) (fun hβ => ⟨_, rfl, rfl, by decide, fun w hw => ?_⟩)
    · have hβ : bput s.cho 40 a b v = some β := hβ
      rw [hβ] at hKs
      have : w = 0 := by omega
      rw [this]
      obtain ⟨C2, X2⟩ := hC.cho (fun y hy => f3 y (by omega)) f4
      exact hKs _ rfl M2 X2 C2
    · have hβ : bput s.cho 40 a b v = none := hβ
      rw [hβ] at hKe
      have : w = -9 := by omega
      rw [this]
      exact hKe (-9) rfl (by decide) (by decide) M (XT.rf _ _) ⟨_, _, hC⟩
end CTAKE
