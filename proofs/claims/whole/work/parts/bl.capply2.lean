section CAPPLY2
variable {g : im_g} {d : Nat} {e : im_E} {K : im_K} {R : Rw} {m E : Int} {giv : Bk} {st en lk : Int} {s : TS} {bs bp np br nr : Nat} {i t a b c v : Int}
theorem c_lastPartK {M : im_M} {n : Int} (hC : CP M R m E) (hW : WFP R m) (n0 : 0 ≤ n) (n1 : n < m) (hk : R 0 n = 28 ∨ R 0 n = 29 ∨ R 0 n = 30) (hK : K (.inl (some (vI (R 17 n)))) e M) : im_T g d 138 0 [some (.ref 13), some (vI n)] [] e M K := by
  have hm := hW.2.1
  obtain ⟨⟨h1, h2⟩, h3, h4, _⟩ := kids_k (hW.2.2 n n0 n1).1 hk
  by_cases h29 : R 0 n = 29
  · have r1 : M 14 n = R 0 n := (hC.2 n n0 n1).1.1
    refine k_Pool_lastPart_0 ?_
    rw [r1]
    refine ⟨by constructor <;> omega, fun z => absurd h29 z, fun x hx => ?_⟩
    have : x = R 17 n := by have := h2 h29; omega
    rw [this]; exact hK
  · obtain ⟨a1, a2, a3, a4, _⟩ := h1 h29
    exact c_lastPart hC hW n0 n1 h29 a2 a4 h4 hK
theorem l_apply (hW : WFP R m) (hd : 112 ≤ d) {M0 : im_M} {q0 : Int} (hO : OT s) (hk3 : nxt R s.nd q0 (R 17 s.nd)) (hb17 : bgn 99 (R 0 (R 17 s.nd))) (h17 : R 17 s.nd < m) (n0 : 0 ≤ s.nd) :
    ∀ (cs : List Int) (p l k : Int) (f : Nat) (M : im_M), chc R m s.nd p l cs q0 → s.nd ≤ p → 0 ≤ k → k + cs.length ≤ 8 → cs.length < f → CT M e R m E giv st en lk 0 s bs bp np → IN M e bs br nr i t a b c v → XT bs M0 M →
    (∀ s', appC R giv st en lk s t a b c v f l = .inr s' → ∀ M', XT bs M0 M' → CT M' e R m E giv st en lk 0 s' bs bp np → OT s' → VN R m s' → K (.inl (some (vI 0))) e M') →
    (∀ z, appC R giv st en lk s t a b c v f l = .inl z → z ≠ 0 → im_i32 z → ∀ M', XT bs M0 M' → CX M' e R m E giv st en lk bs bp np → K (.inl (some (vI z))) e M') →
    im_T g d 142 32 [some (.ref 931), some (.ref br), some (vI i), none, some (vI (hdc cs (R 17 s.nd))), some (vI k), none] [] e M K := by
  have hm := hW.2.1
  intro cs
  induction cs with
  | nil =>
    intro p l k f M hch hp k0 hk hf hC hI hX hKs hKe
    have h0 := (nxt_lt hk3).1
    have hk : k + 0 ≤ 8 := hk
    have hl : l = -1 := hch.2
    have hap : appC R giv st en lk s t a b c v f l = .inl (-5) := by
      cases f with
      | zero => rfl
      | succ f => rw [appC, if_pos hl]
    have fin : K (.inl (some (vI (-5)))) e M := hKe (-5) hap (by decide) (by decide) M hX ⟨_, _, hC⟩
    refine k_Machine_apply_32 hI.1.1 (by omega) ⟨by constructor <;> omega, fun _ => fin, fun _ => c_isCase hC.2.1 hm (by show 0 ≤ R 17 s.nd; omega) h17 (fun z => ?_) (fun z => ⟨_, rfl, rfl, by decide, fun _ => fin, fun w => absurd rfl w⟩)⟩
    have z : 28 ≤ R 0 (R 17 s.nd) ∧ R 0 (R 17 s.nd) ≤ 30 := z
    unfold bgn at hb17; omega
  | cons cc cs ih =>
    intro p l k f M hch hp k0 hk hf hC hI hX hKs hKe
    have hll : (cc :: cs).length = cs.length + 1 := rfl
    obtain ⟨a1, a2, a3, a4, a5, a6⟩ := hch
    have hlt := nxt_lt a2
    have cn0 : 0 ≤ cc := by omega
    have h31 := (hW.2.2 cc cn0 a5).1.1.2
    have hkk : R 0 cc = 28 ∨ R 0 cc = 29 ∨ R 0 cc = 30 := by omega
    obtain ⟨⟨g1, g2⟩, g3, g4, g5, g6⟩ := kids_k (hW.2.2 cc cn0 a5).1 hkk
    have hDc := (hW.2.2 cc cn0 a5).2.2.1
    cases f with
    | zero => omega
    | succ f =>
      rw [a1] at hKs hKe
      have happ : appC R giv st en lk s t a b c v (f + 1) cc = (if nmd R cc t a b c then (match tkn' R (s.env giv st en) cc t v with
        | none => Sum.inl (-8)
        | some true => takeO lk (s.sNd (R 17 cc)) t a b c v
        | some false => appC R giv st en lk s t a b c v f (R 19 cc)) else appC R giv st en lk s t a b c v f (R 19 cc)) := by
        rw [appC, if_neg (by omega)]
        rfl
      rw [happ] at hKs hKe
      -- the next case
      have next : ∀ {M1 : im_M}, CT M1 e R m E giv st en lk 0 s bs bp np → IN M1 e bs br nr i t a b c v → XT bs M0 M1 → (∀ s', appC R giv st en lk s t a b c v f (R 19 cc) = .inr s' → ∀ M', XT bs M0 M' → CT M' e R m E giv st en lk 0 s' bs bp np → OT s' → VN R m s' → K (.inl (some (vI 0))) e M') → (∀ z, appC R giv st en lk s t a b c v f (R 19 cc) = .inl z → z ≠ 0 → im_i32 z → ∀ M', XT bs M0 M' → CX M' e R m E giv st en lk bs bp np → K (.inl (some (vI z))) e M') → im_T g d 142 32 [some (.ref 931), some (.ref br), some (vI i), none, some (vI (M1 15 cc)), some (vI (k + 1)), none] [] e M1 K := fun {M1} C1 I1 X1 hks hke => by
        have hn := nxt_1 (hdc_nx a6 hk3) (by omega)
        have hlt2 : hdc cs (R 17 s.nd) < m := by
          cases cs with
          | nil => exact h17
          | cons b cs => exact a6.2.2.2.2.1
        have e15 : M1 15 cc = hdc cs (R 17 s.nd) := ends_nx hn hlt2 (C1.2.1.2 cc cn0 a5).2
        rw [e15]
        exact ih cc _ (k + 1) f M1 a6 (by omega) (by omega) (by omega) (by omega) C1 I1 X1 hks hke
      -- the input is taken
      have taken : ∀ {M1 : im_M}, CT M1 e R m E giv st en lk 0 s bs bp np → IN M1 e bs br nr i t a b c v → XT bs M0 M1 → (∀ s', takeO lk (s.sNd (R 17 cc)) t a b c v = .inr s' → ∀ M', XT bs M0 M' → CT M' e R m E giv st en lk 0 s' bs bp np → OT s' → VN R m s' → K (.inl (some (vI 0))) e M') → (∀ z, takeO lk (s.sNd (R 17 cc)) t a b c v = .inl z → z ≠ 0 → im_i32 z → ∀ M', XT bs M0 M' → CX M' e R m E giv st en lk bs bp np → K (.inl (some (vI z))) e M') → ∃ b78 : Nat, (M1 931 4 = (b78 : Int)) ∧ im_state e b78 ∧ im_T g (d - 1) 138 0 [some (.ref 13), some (vI cc)] [] e M1 (im_ri (fun x82 e_ M81 => e = e_ ∧ im_i32 x82 ∧ im_T g (d - 1) 145 0 [some (.ref 931), some (.ref br), some (vI i), none, none, none, none, none, none, none] [] e (im_u M81 b78 5 x82) (im_ri (fun x85 e_ M84 => e = e_ ∧ K (.inl (some (vI x85))) e M84)))) := fun {M1} C1 I1 X1 hks hke => by
        refine ⟨bs, C1.1.1.1, C1.1.2.1.1, c_lastPartK C1.2.1 hW cn0 a5 hkk ⟨_, rfl, rfl, by constructor <;> omega, ?_⟩⟩
        obtain ⟨C2, X2⟩ := C1.node (R 17 cc)
        refine c_takeI C2 hO (I1.xt X2) (by omega) (fun s' hs' M' X' C' => ⟨_, rfl, rfl, ?_⟩) (fun z hz z0 zi M' X' C' => ⟨_, rfl, rfl, hke z hz z0 zi M' ((X1.trans X2).trans X') C'⟩)
        obtain ⟨O', nd'⟩ := takeO_ok (s := s.sNd (R 17 cc)) hO hs'
        have nd' : s'.nd = R 17 cc := nd'
        refine hks s' hs' M' ((X1.trans X2).trans X') C' O' ?_
        unfold VN
        rw [nd']
        exact ⟨by omega, g4, by unfold bgn at g6; omega⟩
      have hbs := hC.1.2.2.1
      have hIb := hI.2.2.1
      show im_T g d 142 32 [some (.ref 931), some (.ref br), some (vI i), none, some (vI cc), some (vI k), none] [] e M K
      refine k_Machine_apply_32 hI.1.1 (by omega) ⟨by constructor <;> omega, fun z => by omega, fun _ => c_isCase hC.2.1 hm cn0 a5 (fun z => ⟨_, rfl, rfl, by decide, fun w => absurd w (by decide), fun _ => ?_⟩) (fun z => ?_)⟩
      · refine c_isNamed hC.2.1 hm cn0 a5 hI (fun hnm => ⟨_, rfl, rfl, by decide, fun w => absurd w (by decide), fun _ => ⟨hI.2.1, ?_⟩⟩) (fun hnm => ⟨_, rfl, rfl, by decide, fun _ => ⟨by constructor <;> omega, ?_⟩, fun w => absurd rfl w⟩)
        · rw [if_pos hnm] at hKs hKe
          have htk := hnm.1
          rw [hI.2.2.2.1.1]
          refine ⟨fun h29 => ?_, fun h29 => ?_⟩
          · have hc29 : R 0 cc ≠ 29 := by omega
            obtain ⟨b1, b2, b3, b4, b5, b6⟩ := g1 hc29
            have hvo : vkd (R 0 (cc + 1)) ∨ okd (R 0 (cc + 1)) := by
              rcases hkk with w | w | w
              · exact Or.inl (b5 w)
              · exact absurd w hc29
              · exact Or.inr (b6 w)
            have h12 : M 931 12 = 0 := hC.2.2.2.1.1
            refine c_work hW 101 (cc + 1) 0 0 (d - 1) M rfl (by omega) b2 hvo hC.2.1 hC.1 hC.2.2.1 (Or.inl h12) (by omega) (by omega) (by omega) (fun M1 τ W1 f1 hr => ⟨_, rfl, rfl, ?_⟩)
            obtain ⟨u1, u2, u3, u4, u5⟩ := hr
            have X1 := hX.trans (XT.wd W1 hbs)
            have I1 := hI.xt (XT.wd W1 hbs)
            unfold tkn' at hKs hKe
            rw [if_neg h29] at hKs hKe
            cases hev : ev R (s.env giv st en) 101 (cc + 1) with
            | none =>
              rw [hev] at hKe
              have h1 := u5 hev
              exact ⟨fun w => by omega, fun _ => hKe (-8) rfl (by decide) (by decide) M1 X1 ⟨_, _, hC.wd W1 rfl⟩⟩
            | some x =>
              rw [hev] at hKs hKe
              have h1 : M1 931 12 = 0 := (u4 x hev).trans h12
              have C1 := hC.wd (fl' := 0) W1 h1
              refine ⟨fun _ => ?_, fun w => absurd h1 w⟩
              rw [I1.2.2.2.1.1]
              refine ⟨fun h28 => ⟨by constructor <;> omega, fun w0 => ⟨by constructor <;> omega, ?_⟩, fun w1 => ?_⟩, fun h28 => ?_⟩
              · have h30 : R 0 cc = 30 := by
                  rcases hkk with w | w | w
                  · exact absurd (htk.symm.trans w) h28
                  · exact absurd w hc29
                  · exact w
                have hx : τ = x := u3 (b6 h30) x hev
                clear u2 u3
                have hd1 : (if t = 28 then decide (x = v) else decide (x = 1)) = false := by rw [if_neg h28]; exact decide_eq_false (by omega)
                simp only [Option.bind_some, hd1] at hKs hKe
                exact next C1 I1 X1 hKs hKe
              · have h30 : R 0 cc = 30 := by
                  rcases hkk with w | w | w
                  · exact absurd (htk.symm.trans w) h28
                  · exact absurd w hc29
                  · exact w
                have hx : τ = x := u3 (b6 h30) x hev
                clear u2 u3
                have hd1 : (if t = 28 then decide (x = v) else decide (x = 1)) = true := by rw [if_neg h28]; exact decide_eq_true (by omega)
                simp only [Option.bind_some, hd1] at hKs hKe
                exact taken C1 I1 X1 hKs hKe
              · obtain ⟨c0, w, e1, e2, e3⟩ := u2 (b5 (by omega))
                have hw := e3 x hev
                subst hw
                have hn0 := C1.n0 e1
                refine ⟨c0, e1, hn0.1, _, I1.2.2.2.2.1, I1.1.2 _ (by have := I1.2.1; omega), c_compare hn0.1 (I1.1.2 _ (by have := I1.2.1; omega)) e2 I1.2.2.2.2.2 (by omega) ⟨_, rfl, rfl, by unfold cmpI; (repeat' split) <;> decide, fun y hy => ⟨fun w0 => ⟨by constructor <;> omega, ?_⟩, fun w1 => ?_⟩⟩⟩
                · have hne : ¬ w = v := fun z => by
                    have : cmpI w v = 0 := by unfold cmpI; rw [if_neg (by omega), if_pos z]
                    omega
                  have hd1 : (if t = 28 then decide (w = v) else decide (w = 1)) = false := by rw [if_pos h28]; exact decide_eq_false hne
                  simp only [Option.bind_some, hd1] at hKs hKe
                  exact next C1 I1 X1 hKs hKe
                · have heq : w = v := by
                    have h0 : cmpI w v = 0 := by omega
                    unfold cmpI at h0
                    (repeat' split at h0) <;> omega
                  have hd1 : (if t = 28 then decide (w = v) else decide (w = 1)) = true := by rw [if_pos h28]; exact decide_eq_true heq
                  simp only [Option.bind_some, hd1] at hKs hKe
                  exact taken C1 I1 X1 hKs hKe
          · have hc29 : R 0 cc = 29 := by omega
            obtain ⟨h6a, h6b⟩ := (hW.2.2 cc cn0 a5).2.2.2 hc29
            obtain ⟨p', ds, _⟩ := (hC.2.1.2 cc cn0 a5).1.2.2.2.2.2.2.2.2 hc29 (by omega)
            have hq := hI.1.2 i.toNat (by have := hI.2.1; omega)
            unfold tkn' at hKs hKe
            rw [if_pos h29] at hKs hKe
            have I5 := hI.2.2.2.2.1
            have I6 := hI.2.2.2.2.2
            have I7 := hI.2.1
            refine ⟨_, I5, hq, k_Machine_isBounded_0 hq ⟨by constructor <;> omega, l_isBounded (M0 := M) (q := br + 6 + 2 * i.toNat) hq (by have := hIb.1; omega) hC.2.1 hm cn0 a5 hc29 ⟨h6a, h6b⟩ I6 ds (by omega) (fun hb M1 W1 F1 => ⟨_, rfl, rfl, ?_⟩) (fun hb M1 W1 F1 => ⟨_, rfl, rfl, ?_⟩) (R 6 cc).toNat 0 _ M (by omega) (WD.rf hC.2.2.1) (fun _ => rfl) rfl id⟩⟩
            · have h1 : M1 931 12 = 0 := (F1 12).trans hC.2.2.2.1.1
              have C1 := hC.wd (fl' := 0) W1 h1
              have X1 := hX.trans (XT.wd W1 hbs)
              have I1 := hI.xt (XT.wd W1 hbs)
              rw [@decide_eq_true _ (Classical.propDecidable _) hb] at hKs hKe
              rw [I1.2.2.2.1.1]
              exact ⟨fun _ => ⟨fun h28 => ⟨by decide, fun z => absurd z (by decide), fun _ => taken C1 I1 X1 hKs hKe⟩, fun h28 => by omega⟩, fun w => absurd h1 w⟩
            · have h1 : M1 931 12 = 0 := (F1 12).trans hC.2.2.2.1.1
              have C1 := hC.wd (fl' := 0) W1 h1
              have X1 := hX.trans (XT.wd W1 hbs)
              have I1 := hI.xt (XT.wd W1 hbs)
              rw [@decide_eq_false _ (Classical.propDecidable _) hb] at hKs hKe
              rw [I1.2.2.2.1.1]
              exact ⟨fun _ => ⟨fun h28 => ⟨by decide, fun _ => ⟨by constructor <;> omega, next C1 I1 X1 hKs hKe⟩, fun z => absurd rfl z⟩, fun h28 => by omega⟩, fun w => absurd h1 w⟩
        · rw [if_neg hnm] at hKs hKe
          exact next hC hI hX hKs hKe
      · have z : ¬ (28 ≤ R 0 cc ∧ R 0 cc ≤ 30) := z
        omega
theorem c_apply {M : im_M} (hW : WFP R m) (hd : 112 ≤ d) (hC : CT M e R m E giv st en lk 0 s bs bp np) (hO : OT s) (hV : VN R m s) (hI : IN M e bs br nr i t a b c v)
    (hKs : ∀ s', appO R giv st en lk s t a b c v = .inr s' → ∀ M', XT bs M M' → CT M' e R m E giv st en lk 0 s' bs bp np → OT s' → VN R m s' → K (.inl (some (vI 0))) e M')
    (hKe : ∀ z, appO R giv st en lk s t a b c v = .inl z → z ≠ 0 → im_i32 z → ∀ M', XT bs M M' → CX M' e R m E giv st en lk bs bp np → K (.inl (some (vI z))) e M') : im_T g d 142 0 [some (.ref 931), some (.ref br), some (vI i), none, none, none, none] [] e M K := by
  obtain ⟨n0, n1, k0, k5⟩ := id hV
  have hm := hW.2.1
  have h5 : M bs 5 = s.nd := hC.2.2.2.1.2.2.2
  have r1 : M 14 s.nd = R 0 s.nd := (hC.2.1.2 _ n0 n1).1.1
  unfold appO at hKs hKe
  refine k_Machine_apply_0 hI.1.1 ⟨bs, hC.1.1.1, hC.1.2.1.1, ?_⟩
  rw [h5, r1]
  refine ⟨by constructor <;> omega, fun h3 => ?_, fun h3 => ?_⟩
  · rw [if_pos h3] at hKs hKe
    obtain ⟨cs, q0, c1, c2, c3, c4, c5, c6, c7⟩ := kids_w (hW.2.2 _ n0 n1).1 h3
    have h := l_apply (g := g) (d := d) (K := K) (M0 := M) (br := br) (nr := nr) (i := i) (t := t) (a := a) (b := b) (c := c) (v := v) hW hd hO c3 c7 c5 n0 cs s.nd (R 16 s.nd) 0 9 M c1 (Int.le_refl _) (Int.le_refl _) (by omega) (by omega) hC hI (XT.rf _ _) hKs hKe
    have hh := nxt_0 (hdc_nx c1 c3)
    rw [hh] at h
    exact h
  · rw [if_neg h3] at hKe
    exact hKe (-5) rfl (by decide) (by decide) M (XT.rf _ _) ⟨_, _, hC⟩
end CAPPLY2
