/-! THE REFERENCE: what a contract wants is told; an instance begins -/
theorem kR_5 {k a : Int} (h : knd k) (ha : k = 1 → a = 0 ∨ a = 1) : (kR k a = 5 ↔ k = 3) ∧ (kR k a = 21 ↔ k = 35) := by
  unfold kR
  (repeat' split) <;> omega
def AXF (M0 M : im_M) : Prop := (∀ x, x ≠ 6952 → x ≠ 6955 → M x = M0 x) ∧ M 6952 = M0 6952 ∧ (∀ i, i < M0 6952 7 → M 6955 i = M0 6955 i)
section RBEG
variable {g : im_g} {d : Nat} {e : im_E} {M : im_M} {K : im_K} {R : Rw} {m : Int} {pm : Bk}
theorem l_areTold {M0 : im_M} {k root ee : Int} (hW : WFP R m) (hRP : RP M0 R m) (hpm : rPm M0 pm) (hk : 0 ≤ k ∧ k < 16) (h85 : M0 6985 k = root) (h86 : M0 6986 k = ee - root) (r0 : 0 ≤ root) (hem : ee ≤ m) (h67 : M0 6952 6 ≤ M0 6952 7) (h70 : 0 ≤ M0 6952 7) (h7 : M0 6952 7 + 302 ≤ 1100000) (hd : 3 ≤ d)
    (hK : ∀ M' x, AXF M0 M' → (x = 0 ∨ x = 1) → (x = 0 ↔ lks' R root ee pm) → K (.inl (some (vI x))) e M') :
    ∀ (j : Nat) (a n : Int) (M : im_M), n + j = ee → root ≤ n → AXF M0 M → (a = 0 ∨ a = 1) → (a = 1 → ∀ i, root ≤ i → i < n → ¬ lkN R pm i) → (a = 0 → lks' R root ee pm) → im_T g d 344 9 [some (.ref 6952), some (vI k), some (vI a), some (vI n), none, none] [] e M K := by
  obtain ⟨b1, b2, b3, b4⟩ := hpm
  have hm := hW.2.1
  intro j
  induction j with
  | zero =>
    intro a n M hn hr hF ha h1 h0
    refine b_areTold_9 (by omega) ?_
    rw [hF.1 6985 (by decide) (by decide), hF.1 6986 (by decide) (by decide), h85, h86]
    refine ⟨hk, by constructor <;> omega, by constructor <;> omega, fun z => by omega, fun z => by omega, fun _ => ⟨by omega, hK M a hF ha ⟨h0, fun ⟨i, i0, i1, i2⟩ => ?_⟩⟩⟩
    rcases ha with z | z
    · exact z
    · exact absurd i2 (h1 z i i0 (by omega))
  | succ j ih =>
    intro a n M hn hr hF ha h1 h0
    have n1 : n < m := by omega
    have n0 : 0 ≤ n := by omega
    by_cases ha0 : a = 0
    · refine b_areTold_9 (by omega) ?_
      rw [hF.1 6985 (by decide) (by decide), hF.1 6986 (by decide) (by decide), h85, h86]
      refine ⟨hk, by constructor <;> omega, by constructor <;> omega, fun _ => ⟨by constructor <;> omega, fun z => absurd ha0 z⟩, fun z => by omega, fun _ => ⟨by omega, hK M a hF ha ⟨h0, fun _ => ha0⟩⟩⟩
    have ha1 : a = 1 := by omega
    have hRP' : RP M R m := RP_congr hRP (by rw [hF.2.1]) (by rw [hF.2.1]) (fun x p q => hF.1 x (by omega) (by omega)) (fun i hi => hF.2.2 i (by omega))
    obtain ⟨q1, q2, q3, q4, q5, q6, q7⟩ := hRP' n n0 n1
    obtain ⟨⟨⟨hkn, hk31⟩, _⟩, hnm, _⟩ := hW.2.2 n n0 n1
    obtain ⟨k5, k21⟩ := kR_5 (k := R 0 n) (a := R 3 n) hkn hnm.2.2.2
    obtain ⟨nm1, nm2, nm3, nm4⟩ := hnm
    have go1 : ∀ M', AXF M0 M' → ¬ lkN R pm n → im_T g d 344 9 [some (.ref 6952), some (vI k), some (vI 1), some (vI (n + 1)), none, none] [] e M' K := fun M' F' hno => by
      refine ih 1 (n + 1) M' (by omega) (by omega) F' (Or.inr rfl) (fun _ i i0 i1 => ?_) (fun z => absurd z (by decide))
      by_cases hi : i = n
      · rw [hi]; exact hno
      · exact h1 ha1 i i0 (by omega)
    have go0 : ∀ M', AXF M0 M' → lkN R pm n → im_T g d 344 9 [some (.ref 6952), some (vI k), some (vI 0), some (vI (n + 1)), none, none] [] e M' K := fun M' F' hb =>
      ih 0 (n + 1) M' (by omega) (by omega) F' (Or.inl rfl) (fun z => absurd z (by decide)) (fun _ => ⟨n, hr, by omega, hb⟩)
    refine im_rng (j := n) sf_6961 n0 (by show n < 5100; omega) (fun ra => ?_)
    have ra : im_i64 (M 6961 n) := ra
    have e62 : M 6952 62 = pm.1 := by rw [hF.2.1]; exact b1
    have e92 : ∀ i : Nat, i < pm.1 → M 6992 i = pm.2.1 i := fun i hi => by rw [hF.1 6992 (by decide) (by decide)]; exact (b4 i hi).1
    refine b_areTold_9 (by omega) ?_
    rw [hF.1 6985 (by decide) (by decide), hF.1 6986 (by decide) (by decide), h85, h86, q1, k5, k21]
    refine ⟨hk, by constructor <;> omega, by constructor <;> omega, fun _ => ⟨by constructor <;> omega, fun _ => ⟨⟨n0, by omega⟩, fun h3 hask => ?_⟩⟩, fun hor => ⟨⟨n0, by omega⟩, fun h35 => ?_, fun h35 => ?_⟩, fun z => by omega⟩
    · have h5 : R 5 n ≠ 0 := fun z => hask (((q6 h3).2 z).1)
      have e61 := ((q6 h3).1 h5).2
      have hpn : pnm R n = R 5 n := by unfold pnm; rw [if_neg (by omega), if_pos h3]
      rw [e61] at ra ⊢
      have hps := ps_ok pm (R 5 n) 0
      rw [b3] at hps
      refine c_hasParameter e62 b2 e92 ra hps (by omega) (fun hh => ⟨_, rfl, rfl, by decide, fun z => absurd z (by decide), fun _ => ?_⟩) (fun hh => ⟨_, rfl, rfl, by decide, fun _ => go0 M hF ⟨by rw [hpn]; exact h5, Or.inl (by rw [hpn]; exact fun z => hh ⟨z.1, z.2.1, rfl⟩)⟩, fun z => absurd rfl z⟩)
      rw [e61]
      have hs : hs2 pm (R 5 n) 0 := ⟨hh.1, hh.2.1, by rw [b3]; rfl⟩
      have hlt := hh.1
      have p0 := hps.1
      refine c_parameterAt e62 b2 e92 ra hps ⟨_, rfl, rfl, ?_⟩
      have hsn : sn M 6993 (ps pm (R 5 n) 0) (hld pm (R 5 n) 0) := by
        have := (b4 (ps pm (R 5 n) 0).toNat (by omega)).2
        rw [show (((ps pm (R 5 n) 0).toNat : Nat) : Int) = ps pm (R 5 n) 0 from by omega] at this
        unfold hld
        rw [if_pos hs]
        exact sn_congr this (fun i _ _ => by rw [hF.1 6993 (by decide) (by decide)])
      refine c_rload (c := 6993) (n1 := 6342) sf_6993 (by decide) (by decide) (by decide) p0 (by omega) hsn (by rw [hF.2.1]; exact h70) (by rw [hF.2.1]; exact h7) (fun M2 F2 h72 hr2 => ⟨_, rfl, rfl, ?_⟩)
      obtain ⟨f1, f2, f3⟩ := F2
      obtain ⟨kk, hrn, hr0, hrT, hk300⟩ := hr2
      have e7 : M 6952 7 = M0 6952 7 := by rw [hF.2.1]
      refine c_toLong hrn hr0 (by omega) (fun tt htt => ⟨_, rfl, rfl, ?_⟩)
      obtain ⟨t1, t2, t3⟩ := htt
      have hF' : AXF M0 (im_u M2 6952 7 (M 6952 7)) := by
        refine ⟨fun x a b => ?_, ?_, fun i hi => ?_⟩
        · rw [im_u_ne _ _ _ a, f1 x (fun z => by cases z) b a]; exact hF.1 x a b
        · funext q
          by_cases hq : q = 7
          · rw [hq, im_rds]; exact e7
          · rw [im_rdk _ _ _ hq, f2 q (by simp [hq]), hF.2.1]
        · rw [im_rdn _ _ _ _ (by decide), f3 i (by omega)]; exact hF.2.2 i hi
      have hno0 : asT (hld pm (R 5 n) 0) = -1 ↔ ¬ (0 ≤ hld pm (R 5 n) 0 ∧ hld pm (R 5 n) 0 ≤ 1000000000000000) := by
        unfold asT
        split
        · omega
        · exact ⟨fun _ => ‹_›, fun _ => rfl⟩
      refine c_isIn t1 (by decide) (by decide) (fun hI => ⟨_, rfl, rfl, go1 _ hF' ?_⟩) (fun hI => ⟨_, rfl, rfl, go0 _ hF' ⟨by rw [hpn]; exact h5, Or.inr ⟨h3, ?_⟩⟩⟩)
      · intro ⟨z1, z2⟩
        rw [hpn] at z2
        rcases z2 with z | z
        · exact z hs
        · exact t3 (hno0.mp z.2) hI
      · rw [hpn]
        refine hno0.mpr (fun z => ?_)
        have := t2 z
        omega
    · refine go1 M hF (fun z => z.1 ?_)
      unfold pnm
      rw [if_neg h35]
      by_cases h3 : R 0 n = 3
      · rw [if_pos h3]
        by_cases z5 : R 5 n = 0
        · exact z5
        · have := ((q6 h3).1 z5).1
          rcases hor with w | w
          · exact absurd h3 w.2.2
          · omega
      · rw [if_neg h3]
    · have hpn : pnm R n = R 4 n := by unfold pnm; rw [if_pos h35]
      have e61 := (q2 (by omega)).1
      have hne : R 4 n ≠ 0 := by have := nm2 h35; omega
      rw [e61] at ra ⊢
      have hps := ps_ok pm (R 4 n) 0
      rw [b3] at hps
      refine c_hasParameter e62 b2 e92 ra hps (by omega) (fun hh => ⟨_, rfl, rfl, by decide, fun z => absurd z (by decide), fun _ => go1 M hF ?_⟩) (fun hh => ⟨_, rfl, rfl, by decide, fun _ => go0 M hF ⟨by rw [hpn]; exact hne, Or.inl (by rw [hpn]; exact fun z => hh ⟨z.1, z.2.1, rfl⟩)⟩, fun z => absurd rfl z⟩)
      intro ⟨z1, z2⟩
      rw [hpn] at z2
      rcases z2 with z | z
      · exact z ⟨hh.1, hh.2.1, by rw [b3]; rfl⟩
      · omega
theorem c_areTold {k root ee : Int} (hW : WFP R m) (hRP : RP M R m) (hpm : rPm M pm) (hk : 0 ≤ k ∧ k < 16) (h85 : M 6985 k = root) (h86 : M 6986 k = ee - root) (r0 : 0 ≤ root) (hre : root ≤ ee) (hem : ee ≤ m) (h67 : M 6952 6 ≤ M 6952 7) (h70 : 0 ≤ M 6952 7) (h7 : M 6952 7 + 302 ≤ 1100000) (hd : 3 ≤ d)
    (hK : ∀ M' x, AXF M M' → (x = 0 ∨ x = 1) → (x = 0 ↔ lks' R root ee pm) → K (.inl (some (vI x))) e M') : im_T g d 344 0 [some (.ref 6952), some (vI k), none, none, none, none] [] e M K := by
  refine b_areTold_0 ⟨hk, ?_⟩
  rw [h85]
  exact l_areTold hW hRP hpm hk h85 h86 r0 hem h67 h70 h7 hd hK (ee - root).toNat 1 root M (by omega) (Int.le_refl _) ⟨fun _ _ _ => rfl, rfl, fun _ _ => rfl⟩ (Or.inr rfl) (fun _ i a b => by omega) (fun z => absurd z (by decide))
end RBEG
