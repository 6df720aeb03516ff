section RTAKE2
variable {g : im_g} {d : Nat} {e : im_E} {M : im_M} {K : im_K} {R : Rw} {m : Int} {giv : Bk} {st en lk : Int} {s : TS}
theorem c_rtakes {n i t a b c v T e0 : Int} (h : RT M R m giv st en lk s) (hW : WFP R m) (n0 : 0 ≤ n) (n1 : n < m) (hkk : R 0 n = 28 ∨ R 0 n = 29 ∨ R 0 n = 30) (hI : IR M i t a b c v T) (hT : T ≤ M 6952 7) (h36 : M 6952 36 ≤ 20400) (hE : EB R m e0 n) (h7 : M 6952 7 + 660 * (e0 - n) ≤ 1100000) (hd : 12 ≤ d)
    (hK1 : nmd R n t a b c → tkn' R (s.env giv st en) n t v = some true → ∀ M', WX M M' → M' 6952 7 = M 6952 7 → RT M' R m giv st en lk s → K (.inl (some (vI 1))) e M')
    (hK0 : (nmd R n t a b c → tkn' R (s.env giv st en) n t v = some false) → ∀ M', WX M M' → M' 6952 7 = M 6952 7 → RT M' R m giv st en lk s → K (.inl (some (vI 0))) e M')
    (hKe : nmd R n t a b c → tkn' R (s.env giv st en) n t v = none → ∀ M', RZ M M' R m giv lk (-8) → K (.inl (some (vI 0))) e M') : im_T g d 409 0 [some (.ref 6952), some (vI n), some (vI i), none, none, none, none] [] e M K := by
  have hm := hW.2.1
  have hlt := hE.lt
  obtain ⟨⟨i0, i1⟩, it, i3, i4, i5⟩ := id hI
  have hr0 : M 6960 n = R 0 n - 20 := by
    rw [(h.1 n n0 n1).1]
    unfold kR
    rw [if_neg (by omega), if_neg (by omega), if_neg (by omega), if_neg (by omega), if_neg (by omega), if_pos (by omega)]
  obtain ⟨q1, q2⟩ := (h.1 n n0 n1).2.1 (by omega)
  have h70 := h.2.2.1
  obtain ⟨⟨g1, g2⟩, g3⟩ := kids_k (hW.2.2 n n0 n1).1 hkk
  have kid : R 0 n ≠ 29 → ∃ e1, ends (R 1) m (n + 1) e1 ∧ e1 ≤ e0 := fun z => by
    obtain ⟨b1, b2, b3, _⟩ := g1 z
    exact (hE.kid (by omega) b2 (fun j a b => by
      have : j = n + 1 := by omega
      rw [this]; omega)).1
  replace g1 : Wr _ := g1
  replace g2 : Wr _ := g2
  replace g3 : Wr _ := g3
  replace kid : Wr _ := kid
  have hno : ¬ nmd R n t a b c → K (.inl (some (vI 0))) e M := fun z => hK0 (fun w => absurd w z) M (WX.rf M) rfl h
  refine b_takes_0 (by omega) ?_
  rw [hr0, q1, q2, i3]
  refine ⟨by constructor <;> omega, ⟨i0, i1⟩, ⟨fun heq => ⟨fun h10 => ?_, fun h10 => ?_⟩, fun hne => hno (fun w => hne (by have := w.1; omega))⟩, fun hor => ?_⟩
  · have htk : R 0 n = t := by omega
    have ht30 : t ≠ 30 := by omega
    obtain ⟨n4, n5, hv⟩ := i4 ht30
    rw [n4, n5]
    have hv7 : rnp M 0 (M 6952 7) (M 6983 i) v := rnp_congr hv (fun _ _ => rfl) hT
    intro e4 e5
    refine ⟨fun h9 => ⟨fun e6 => ?_, fun e6 => ?_⟩, fun h9 => ?_⟩
    · -- deposit
      have h28 : t = 28 := by omega
      have hn29 : R 0 n ≠ 29 := by omega
      rw [i5 h28, ((h.1 n n0 n1).2.2.1 hn29).1] at e6
      have hnm : nmd R n t a b c := ⟨htk, Or.inr ⟨e4, e5, Or.inr e6⟩⟩
      have hK1 := hK1 hnm
      have hKe := hKe hnm
      have hK0 : tkn' R (s.env giv st en) n t v = some false → ∀ M', WX M M' → M' 6952 7 = M 6952 7 → RT M' R m giv st en lk s → K (.inl (some (vI 0))) e M' := fun z => hK0 (fun _ => z)
      obtain ⟨b1, b2, b3, b4, b5, b6⟩ := g1 hn29
      obtain ⟨e1, he1, he10⟩ := kid hn29
      have hvk := b5 (by omega)
      replace hvk : Wr (vkd (R 0 (n + 1))) := hvk
      clear b5 b6
      have q4 : M 6964 n = n + 1 := by rw [(h.1 n n0 n1).2.2.2.1.1]; exact b1
      have htn : tkn' R (s.env giv st en) n t v = (ev R (s.env giv st en) 101 (n + 1)).bind (fun x => some (decide (x = v))) := by
        unfold tkn'; rw [if_neg (by omega)]; refine congrArg (Option.bind _) (funext fun x => ?_); rw [if_pos h28]
      rw [htn] at hK1 hK0 hKe
      rw [q4]
      refine c_worked h hW (by omega) b2 (Or.inl hvk) he1 (by omega) (by omega) (fun M1 r x hx X1 t1 C1 u1 _ => ⟨_, rfl, rfl, fun z => absurd C1.2.2.2.1.2.1 z, fun _ => ?_⟩) (fun hx M1 Z1 => ⟨_, rfl, rfl, fun _ => ?_, fun z => ?_⟩)
      · have hr := u1 hvk
        rw [hx] at hK1 hK0
        obtain ⟨B, W⟩ := h.back X1 C1
        have e83 : M1 6983 = M 6983 := X1.1 6983 (by decide) (by decide) (by decide)
        rw [e83]
        have hv1 : rnp M1 0 (M1 6952 7) (M 6983 i) v := rnp_congr hv7 (fun j hj => X1.2.2.1 j hj) X1.2.2.2
        obtain ⟨ka, u1, u2, u3, u4⟩ := hr
        obtain ⟨kb, w1, w2, w3, w4⟩ := hv1
        refine c_order u1 w1 u2 w2 (by omega) (by omega) (by omega) (by omega) (by omega) ⟨_, rfl, rfl, by unfold cmpI; (repeat' split) <;> decide, fun hne => ?_, fun h0 => ?_⟩
        · have hne2 : ¬ x = v := fun z => hne (by unfold cmpI; rw [if_neg (by omega), if_pos z])
          exact hK0 (by rw [Option.bind_some, decide_eq_false hne2]) _ W (im_rds _ _ _ _) B
        · have heq : x = v := by
            unfold cmpI at h0
            (repeat' split at h0) <;> omega
          exact hK1 (by rw [Option.bind_some, decide_eq_true heq]) _ W (im_rds _ _ _ _) B
      · rw [hx] at hKe
        exact hKe rfl _ Z1.back
      · rw [Z1.2.1] at z
        exact absurd z (by decide)
    · have hn29 : R 0 n ≠ 29 := by omega
      refine hno (fun w => ?_)
      have h28 : t = 28 := by omega
      rw [i5 h28, ((h.1 n n0 n1).2.2.1 hn29).1] at e6
      have := w.2
      omega
    · -- choice
      have h29 : t = 29 := by omega
      have hc29 : R 0 n = 29 := by omega
      have hnm : nmd R n t a b c := ⟨htk, Or.inr ⟨e4, e5, Or.inl h29⟩⟩
      have h6 := (hW.2.2 n n0 n1).2.2.2 hc29
      obtain ⟨p1, p2, p3, p4⟩ := (h.1 n n0 n1).2.2.2.2.2.2 hc29
      unfold tkn' at hK1 hK0
      rw [if_pos h29] at hK1 hK0
      have base := l_between (g := g) (d := d - 1) (e := e) (n := n) (r := M 6983 i) (v := v) (T := T) (K := im_ri (fun x44 e_ M43 => e = e_ ∧ (im_i32 x44) ∧ ((x44 = 0 → K (.inl (some (vI 0))) e M43) ∧ (¬ x44 = 0 → K (.inl (some (vI 1))) e M43)))) h.1 hm n0 n1 hc29 h6 hv (by omega) (by omega) h36 (by omega) (fun hb => ⟨_, rfl, rfl, by decide, fun z => absurd z (by decide), fun _ => hK1 hnm (by rw [@decide_eq_true _ (Classical.propDecidable _) hb]) M (WX.rf M) rfl h⟩) (fun hb => ⟨_, rfl, rfl, by decide, fun _ => hK0 (fun _ => by rw [@decide_eq_false _ (Classical.propDecidable _) hb]) M (WX.rf M) rfl h, fun z => absurd rfl z⟩) (R 6 n).toNat 0 (by omega) 0 (Or.inr ⟨rfl, fun z => z⟩)
      refine b_isBetween_0 ⟨by constructor <;> omega, ?_⟩
      rw [show M 6971 n + ((0 : Nat) : Int) = M 6971 n by omega] at base
      exact base
  · -- notify
    have htk : R 0 n = t := by omega
    have h30 : t = 30 := by omega
    have hn29 : R 0 n ≠ 29 := by omega
    have hnm : nmd R n t a b c := ⟨htk, Or.inl h30⟩
    have hK1 := hK1 hnm
    have hKe := hKe hnm
    have hK0 : tkn' R (s.env giv st en) n t v = some false → ∀ M', WX M M' → M' 6952 7 = M 6952 7 → RT M' R m giv st en lk s → K (.inl (some (vI 0))) e M' := fun z => hK0 (fun _ => z)
    obtain ⟨b1, b2, b3, b4, b5, b6⟩ := g1 hn29
    obtain ⟨e1, he1, he10⟩ := kid hn29
    have hok := b6 (by omega)
    replace hok : Wr (okd (R 0 (n + 1))) := hok
    clear b5 b6
    have q4 : M 6964 n = n + 1 := by rw [(h.1 n n0 n1).2.2.2.1.1]; exact b1
    have htn : tkn' R (s.env giv st en) n t v = (ev R (s.env giv st en) 101 (n + 1)).bind (fun x => some (decide (x = 1))) := by
      unfold tkn'; rw [if_neg (by omega)]; refine congrArg (Option.bind _) (funext fun x => ?_); rw [if_neg (by omega)]
    rw [htn] at hK1 hK0 hKe
    rw [q4]
    refine c_worked h hW (by omega) b2 (Or.inr hok) he1 (by omega) (by omega) (fun M1 r x hx X1 t1 C1 _ o1 => ⟨_, rfl, rfl, ?_⟩) (fun hx M1 Z1 => ⟨_, rfl, rfl, by decide, fun y hy => ?_⟩)
    · have hr := o1 hok
      subst hr
      have h01 := ev_01 hW 101 (n + 1) r (by omega) b2 hok hx
      rw [hx] at hK1 hK0
      obtain ⟨B, W⟩ := h.back X1 C1
      rw [C1.2.2.2.1.2.1]
      refine ⟨by constructor <;> omega, fun y hy => ⟨fun hy0 _ => ?_, fun hor => ?_⟩⟩
      · have h1 : r = 1 := by omega
        exact hK1 (by rw [Option.bind_some, decide_eq_true h1]) _ W (im_rds _ _ _ _) B
      · have h1 : ¬ r = 1 := by
          rcases hor with w | w
          · omega
          · exact absurd rfl w.2
        exact hK0 (by rw [Option.bind_some, decide_eq_false h1]) _ W (im_rds _ _ _ _) B
    · have hy0 : y = 0 := by
        rcases hy with w | w
        · exact w.2
        · exact absurd w.1 (by decide)
      rw [hx] at hKe
      exact ⟨fun z => absurd hy0 z, fun _ => hKe rfl _ Z1.back⟩
  · have hn : K (.inl (some (vI 0))) e M := by
      have ht30 : t ≠ 30 := by omega
      obtain ⟨n4, n5, _⟩ := i4 ht30
      rw [n4, n5] at hor
      refine hno (fun w => ?_)
      have := w.2
      omega
    exact ⟨fun _ => hn, fun _ => hn⟩
end RTAKE2
