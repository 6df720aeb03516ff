/-! THE REFERENCE keeps a parameter -/
theorem insF_zz (p : Int) : insF z0 p 0 = z0 := by
  funext i; unfold insF z0; split; rfl; split <;> rfl
theorem bput_z0 {β β' : Bk} {n : Nat} {a v : Int} (h : β.2.2.1 = z0) (hp : bput β n a 0 v = some β') : β'.2.2.1 = z0 := by
  unfold bput at hp
  by_cases c : hs2 β a 0
  · rw [if_pos c] at hp; cases hp; exact h
  · rw [if_neg c] at hp
    by_cases c2 : β.1 < n
    · rw [if_pos c2] at hp; cases hp
      show insF β.2.2.1 (ps β a 0) 0 = z0
      rw [h]; exact insF_zz _
    · rw [if_neg c2] at hp; cases hp
section RPARAM2
variable {g : im_g} {d : Nat} {e : im_E} {M : im_M} {K : im_K} {w : Wd}
theorem l_dp {M0 : im_M} {nm p r v T : Int} {k0 : Nat} {A V : Int → Int} (hnm : im_i64 nm) (hk : k0 < 20) (hp : 0 ≤ p ∧ p ≤ k0) (h62 : M0 6952 62 = k0) (h65 : M0 6952 65 = r) (hr : rnp M0 0 T r v) (hT : T ≤ 1100000) (hd : 1 ≤ d)
    (hK : ∀ M', (∀ x, x ≠ 6952 → x ≠ 6992 → x ≠ 6993 → M' x = M0 x) → (∀ q, q ≠ 62 → M' 6952 q = M0 6952 q) → M' 6952 62 = (k0 : Int) + 1 → (∀ i : Int, 0 ≤ i → i ≤ k0 → M' 6992 i = insF A p nm i ∧ sn M' 6993 i (insF V p v i)) → K (.inl (some (vI ((k0 : Int) + 1)))) e M') :
    ∀ (m : Nat) (j : Int) (M : im_M), j = p + m → j ≤ k0 → (∀ x, x ≠ 6992 → x ≠ 6993 → M x = M0 x) → (∀ i, 0 ≤ i → i < j → M 6992 i = A i ∧ sn M 6993 i (V i)) → (∀ i, j < i → i ≤ k0 → M 6992 i = A (i - 1) ∧ sn M 6993 i (V (i - 1))) → im_T g d 338 20 [some (.ref 6952), some (vL nm), none, some (vI p), some (vI j)] [] e M K := by
  intro m
  induction m with
  | zero =>
    intro j M hj hjk hx h1 h2
    have hjp : j = p := by omega
    subst hjp
    refine b_doParameter_20 hd ⟨by constructor <;> omega, by constructor <;> omega, fun _ => ?_, fun z => by omega⟩
    rw [hx 6952 (by decide) (by decide), h62, h65]
    refine ⟨by constructor <;> omega, ⟨by omega, by omega⟩, hnm, ?_⟩
    generalize hN : im_u (im_u M 6952 62 ((k0 : Int) + 1)) 6992 j nm = N
    have n1 : ∀ x, x ≠ 6952 → x ≠ 6992 → N x = M x := fun x a b => by rw [← hN, im_u_ne _ _ _ b, im_u_ne _ _ _ a]
    have n2 : ∀ q, q ≠ 62 → N 6952 q = M 6952 q := fun q a => by rw [← hN, im_rdn _ _ _ _ (by decide), im_rdk _ _ _ a]
    have n3 : N 6952 62 = (k0 : Int) + 1 := by rw [← hN, im_rdn _ _ _ _ (by decide), im_rds]
    have n4 : ∀ q, N 6992 q = if q = j then nm else M 6992 q := fun q => by rw [← hN, im_rdx, im_rdn _ _ _ _ (by decide)]
    clear hN
    refine c_save (c := 6993) (n1 := 6342) (x := v) (T := T) sf_6993 (by decide) (by decide) hp.1 (by omega) (rnp_congr hr (fun q _ => by rw [n1 6955 (by decide) (by decide), hx 6955 (by decide) (by decide)]) (Int.le_refl _)) hT (fun M' s1 s2 s3 => ⟨rfl, rfl, ?_⟩)
    rw [s1 6952 (by decide), n3]
    refine hK M' (fun x a b c => by rw [s1 x c, n1 x a b]; exact hx x b c) (fun q hq => by rw [s1 6952 (by decide), n2 q hq, hx 6952 (by decide) (by decide)]) (by rw [s1 6952 (by decide)]; exact n3) (fun i i0 i1 => ?_)
    rw [s1 6992 (by decide), n4]
    unfold insF
    by_cases c1 : i < j
    · rw [if_neg (by omega), if_pos c1, if_pos c1]
      exact ⟨(h1 i i0 c1).1, sn_congr (h1 i i0 c1).2 (fun q q1 q2 => by rw [s2 q (by omega), n1 6993 (by decide) (by decide)])⟩
    · by_cases c2 : i = j
      · rw [if_pos c2, if_neg c1, if_pos c2, if_neg c1, if_pos c2]
        rw [c2]; exact ⟨rfl, s3⟩
      · rw [if_neg c2, if_neg c1, if_neg c2, if_neg c1, if_neg c2]
        obtain ⟨q1, q2⟩ := h2 i (by omega) i1
        exact ⟨q1, sn_congr q2 (fun q a b => by rw [s2 q (by omega), n1 6993 (by decide) (by decide)])⟩
  | succ m ih =>
    intro j M hj hjk hx h1 h2
    refine b_doParameter_20 hd ⟨by constructor <;> omega, by constructor <;> omega, fun z => by omega, fun _ => ⟨⟨by omega, by omega⟩, ⟨by omega, by omega⟩, ?_⟩⟩
    generalize hN : im_u M 6992 j (M 6992 (j - 1)) = N
    have n1 : ∀ x, x ≠ 6992 → N x = M x := fun x a => by rw [← hN, im_u_ne _ _ _ a]
    have n4 : ∀ q, N 6992 q = if q = j then M 6992 (j - 1) else M 6992 q := fun q => by rw [← hN, im_rdx]
    clear hN
    refine c_moveNumber (c := 6993) (n1 := 6342) sf_6993 (by decide) ⟨by omega, by omega⟩ ⟨by omega, by omega⟩ (by omega) (fun M' s1 s2 s3 => ⟨rfl, rfl, ?_⟩)
    rw [show j + -1 = j - 1 from by omega]
    refine ih (j - 1) M' (by omega) (by omega) (fun x a b => by rw [s1 x b, n1 x a]; exact hx x a b) (fun i i0 i1 => ?_) (fun i i0 i1 => ?_)
    · obtain ⟨q1, q2⟩ := h1 i i0 (by omega)
      rw [s1 6992 (by decide), n4, if_neg (by omega)]
      exact ⟨q1, sn_congr q2 (fun q a b => by rw [s2 q (by omega), n1 6993 (by decide)])⟩
    · rw [s1 6992 (by decide), n4]
      by_cases c : i = j
      · rw [if_pos c, c]
        obtain ⟨q1, q2⟩ := h1 (j - 1) (by omega) (by omega)
        have q2' : sn N 6993 (j - 1) (V (j - 1)) := sn_congr q2 (fun q _ _ => by rw [n1 6993 (by decide)])
        exact ⟨q1, sn_move q2' s3⟩
      · rw [if_neg c]
        obtain ⟨q1, q2⟩ := h2 i (by omega) i1
        exact ⟨q1, sn_congr q2 (fun q a b => by rw [s2 q (by omega), n1 6993 (by decide)])⟩
theorem c_doParameter {nm r v T : Int} {β : Bk} (h : RW M w) (hnm : im_i64 nm) (h65 : M 6952 65 = r) (hr : rnp M 0 T r v) (hT : T ≤ 1100000) (hβ : bput w.gPm 20 nm 0 v = some β) (hd : 3 ≤ d)
    (hK : ∀ M', (∀ x, x < 6952 ∨ 7080 < x → M' x = M x) → M' 6952 0 = M 6952 0 → RW M' (w.sPm β) → K (.inl (some (vI β.1))) e M') : im_T g d 338 0 [some (.ref 6952), some (vL nm), none, none, none] [] e M K := by
  obtain ⟨_, _, ⟨⟨b1, b2, b3, b4⟩, _, _⟩, _⟩ := id h
  have hps := ps_ok w.gPm nm 0
  rw [b3] at hps
  have p0 := hps.1
  have p1 := hps.2.1
  have hz := bput_z0 b3 hβ
  refine b_doParameter_0 (by omega) (c_parameterAt b1 b2 (fun i hi => (b4 i hi).1) hnm hps ⟨_, rfl, rfl, c_hasParameter b1 b2 (fun i hi => (b4 i hi).1) hnm hps (by omega) (fun hh => ⟨_, rfl, rfl, by decide, fun _ => ?_, fun z => absurd z (by decide)⟩) (fun hh => ⟨_, rfl, rfl, by decide, fun z => absurd rfl z, fun _ => ?_⟩)⟩)
  · have hs : hs2 w.gPm nm 0 := ⟨hh.1, hh.2.1, by rw [b3]; rfl⟩
    unfold bput at hβ
    rw [if_pos hs] at hβ
    cases hβ
    have hlt := hh.1
    refine ⟨⟨p0, by omega⟩, hnm, ?_⟩
    rw [h65]
    generalize hN : im_u M 6992 (ps w.gPm nm 0) nm = N
    have n1 : ∀ x, x ≠ 6992 → N x = M x := fun x a => by rw [← hN, im_u_ne _ _ _ a]
    have n4 : ∀ q, N 6992 q = if q = ps w.gPm nm 0 then nm else M 6992 q := fun q => by rw [← hN, im_rdx]
    clear hN
    refine c_save (c := 6993) (n1 := 6342) (x := v) (T := T) sf_6993 (by decide) (by decide) p0 (by omega) (rnp_congr hr (fun q _ => by rw [n1 6955 (by decide)]) (Int.le_refl _)) hT (fun M' s1 s2 s3 => ⟨rfl, rfl, ?_⟩)
    have e0 : M' 6952 = M 6952 := by rw [s1 6952 (by decide), n1 6952 (by decide)]
    have W' := h.pm (M' := M') (β := bset w.gPm nm 0 v) (fun x a b => by rw [s1 x (by omega)]; exact n1 x (by omega)) (fun q _ => by rw [e0]) ⟨by rw [e0]; exact b1, b2, b3, fun i hi => ?_⟩
    · rw [e0, b1]
      exact hK M' (fun x hx => by rw [s1 x (by omega)]; exact n1 x (by omega)) (by rw [e0]) W'
    · show M' 6992 i = w.gPm.2.1 i ∧ sn M' 6993 i (im_up w.gPm.2.2.2 (ps w.gPm nm 0) v i)
      rw [s1 6992 (by decide), n4]
      obtain ⟨q1, q2⟩ := b4 i hi
      unfold im_up
      by_cases c : (i : Int) = ps w.gPm nm 0
      · rw [if_pos c, if_pos c, c]; exact ⟨hh.2.1.symm, s3⟩
      · rw [if_neg c, if_neg c]
        exact ⟨q1, sn_congr q2 (fun q a b => by rw [s2 q (by omega), n1 6993 (by decide)])⟩
  · have hs : ¬ hs2 w.gPm nm 0 := fun z => hh ⟨z.1, z.2.1, rfl⟩
    unfold bput at hβ
    rw [if_neg hs] at hβ
    by_cases c20 : w.gPm.1 < 20
    · rw [if_pos c20] at hβ
      cases hβ
      rw [b1]
      refine l_dp (M0 := M) (A := w.gPm.2.1) (V := w.gPm.2.2.2) (v := v) (r := r) (T := T) hnm c20 ⟨p0, p1⟩ b1 h65 hr hT (by omega) (fun M' s1 s2 s3 s4 => ?_) (w.gPm.1 - (ps w.gPm nm 0).toNat) w.gPm.1 M (by omega) (Int.le_refl _) (fun _ _ _ => rfl) (fun i i0 i1 => ?_) (fun i i0 i1 => by omega)
      · have W' := h.pm (M' := M') (β := bins w.gPm nm 0 v) (fun x a b => s1 x a (by omega) (by omega)) s2 ⟨by rw [s3]; show _ = ((w.gPm.1 + 1 : Nat) : Int); omega, by show w.gPm.1 + 1 ≤ 20; omega, hz, fun i hi => ?_⟩
        · have := hK M' (fun x hx => s1 x (by omega) (by omega) (by omega)) (s2 0 (by decide)) W'
          have e1 : ((bins w.gPm nm 0 v).1 : Int) = (w.gPm.1 : Int) + 1 := by show ((w.gPm.1 + 1 : Nat) : Int) = _; omega
          rw [e1] at this
          exact this
        · have hi : i < w.gPm.1 + 1 := hi
          exact s4 i (by omega) (by omega)
      · have := b4 i.toNat (by omega)
        rw [show ((i.toNat : Nat) : Int) = i from by omega] at this
        exact this
    · rw [if_neg c20] at hβ; cases hβ
end RPARAM2
