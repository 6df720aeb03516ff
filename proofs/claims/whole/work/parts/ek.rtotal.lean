/-! TOTAL on the reference -/
/-- numbers are added in the pool, from its kept top on -/
def tF (M M' : im_M) : Prop := (∀ x, x ≠ 6952 → x ≠ 6955 → M' x = M x) ∧ (∀ k, k ≠ 7 → k ≠ 8 → M' 6952 k = M 6952 k) ∧ (M' 6952 8 = 0 ∨ M' 6952 8 = 1) ∧ (∀ i, i < M 6952 6 → M' 6955 i = M 6955 i)
theorem tF.rw {M M' : im_M} {w : Wd} (h : RW M w) (hF : tF M M') : RW M' w := h.tops hF.1 hF.2.1 hF.2.2.1 hF.2.2.2
/-- the wallets' sum, in the order in which they are kept -/
theorem swl_sum {M : im_M} {wa : Bk} (h : swl M wa) (hs : sbk wa) (tk' : Int) : suN (fun i => if M 7043 i = tk' then hld wa (M 7042 i) (M 7043 i) else 0) wa.1 = tkS wa tk' := by
  obtain ⟨m1, m2, m3, m4, m5⟩ := h
  have e1 : suN (fun i => if M 7043 i = tk' then hld wa (M 7042 i) (M 7043 i) else 0) wa.1 = suN (fun i : Nat => tkF wa tk' (ps wa (M 7042 i) (M 7043 i)).toNat) wa.1 := suN_congr (fun i hi => by
    obtain ⟨y1, _⟩ := m3 i hi
    have p0 := (ps_ok wa (M 7042 i) (M 7043 i)).1
    have ep : (((ps wa (M 7042 i) (M 7043 i)).toNat : Nat) : Int) = ps wa (M 7042 i) (M 7043 i) := by omega
    show (if M 7043 i = tk' then hld wa (M 7042 i) (M 7043 i) else 0) = tkF wa tk' (ps wa (M 7042 i) (M 7043 i)).toNat
    unfold tkF
    rw [ep, y1.2.2]
    unfold hld
    rw [if_pos y1])
  rw [e1]
  refine suN_perm (g' := tkF wa tk') (σ := fun i => (ps wa (M 7042 i) (M 7043 i)).toNat) (fun i hi => ?_) (fun j hj => ?_) (fun i i' hi hi' hij => ?_)
  · have y1 := (m3 i hi).1
    have := y1.1
    have p0 := (ps_ok wa (M 7042 i) (M 7043 i)).1
    show (ps wa (M 7042 i) (M 7043 i)).toNat < wa.1
    omega
  · obtain ⟨q1, q2⟩ := hs2_eq hs (i := (j : Int)) (by omega) (by omega) rfl rfl
    obtain ⟨i, i1, i2, i3⟩ := m5 _ _ q2
    refine ⟨i, i1, ?_⟩
    show (ps wa (M 7042 i) (M 7043 i)).toNat = j
    rw [i2, i3, q1]; omega
  · have y1 := (m3 i hi).1
    have y2 := (m3 i' hi').1
    have p0 := (ps_ok wa (M 7042 i) (M 7043 i)).1
    have p1 := (ps_ok wa (M 7042 i') (M 7043 i')).1
    have hij : (ps wa (M 7042 i) (M 7043 i)).toNat = (ps wa (M 7042 i') (M 7043 i')).toNat := hij
    have ee : ps wa (M 7042 i) (M 7043 i) = ps wa (M 7042 i') (M 7043 i') := by omega
    exact m4 i i' hi hi' (by rw [← y1.2.1, ← y2.2.1, ee]) (by rw [← y1.2.2, ← y2.2.2, ee])
section TOTALR
variable {g : im_g} {d : Nat} {e : im_E} {M : im_M} {K : im_K} {w : Wd}
theorem c_tadd {c n1 : Nat} {j r v x : Int} {X : Int → im_M → Prop} (hs : (im_sh0 ++ e)[c]? = some (1, n1, [])) (hn1 : n1 ≤ 2147483647) (hc : c ≠ 6955) (hc2 : c ≠ 6952) (hj : 0 ≤ j ∧ 302 * j + 302 ≤ n1) (hx : sn M c j x) (hv : rnp M 0 (M 6952 7) r v) (h7 : 0 ≤ M 6952 6 ∧ M 6952 6 ≤ M 6952 7 ∧ M 6952 7 + 700 ≤ 1100000) (h8 : M 6952 8 = 0 ∨ M 6952 8 = 1) (hsm : sm (v + x)) (hd : 4 ≤ d)
    (hK : ∀ M' r', tF M M' → (M 6952 7 ≤ M' 6952 7 ∧ M' 6952 7 ≤ M 6952 7 + 605) → rnp M' 0 (M' 6952 7) r' (v + x) → X r' M') :
    im_T g d 345 0 [some (.ref 6952), some (.ref c), some (vI j), none, none, none] [] e M (im_ri (fun x15 e_ M14 => e = e_ ∧ im_T g d 372 0 [some (.ref 6952), some (vI r), some (vI x15), some (vI 1), none, none, none, none, none, none, none, none, none] [] e M14 (im_ri (fun x17 e_ M16 => e = e_ ∧ X x17 M16)))) := by
  refine c_rload hs hn1 hc hc2 hj.1 hj.2 hx (by omega) (by omega) (fun M1 f1 f2 f3 => ⟨_, rfl, rfl, ?_⟩)
  obtain ⟨n2, b1, b2, b3, b4⟩ := rnp_congr (T' := M1 6952 7) hv (fun i hi => f1.2.2 i hi) f2.1
  obtain ⟨n3, c1, c2, c3, c4⟩ := f3
  have k8 : M1 6952 8 = M 6952 8 := f1.2.1 8 (by simp)
  refine c_plus (na := n2) (nb := n3) (va := v) (vb := x) b1 c1 b2 c2 b3 c3 b4 c4 (Or.inl rfl) (by omega) (by rw [k8]; exact h8) (by omega) (fun M2 n' g1 g2 g3 g4 g5 => ⟨_, rfl, rfl, ?_⟩)
  rw [Int.one_mul] at g2
  have hn' : n' ≤ 300 := (rn_small g2).mpr hsm
  refine hK M2 _ ⟨fun x a b => (g1.1 x (fun z => by cases z) b a).trans (f1.1 x (fun z => by cases z) b a), fun k a b => (g1.2.1 k (by simp [a, b])).trans (f1.2.1 k (by simp [a])), ?_, fun i hi => (g1.2.2 i (by omega)).trans (f1.2.2 i (by omega))⟩ (by omega) ⟨n', g2, by omega, by omega, hn'⟩
  rw [g5]
  split
  · exact Or.inl rfl
  · exact Or.inr rfl
theorem tF.trans {M1 M2 : im_M} (h : tF M M1) (h' : tF M1 M2) : tF M M2 := by
  have e6 := h.2.1 6 (by decide) (by decide)
  exact ⟨fun x a b => (h'.1 x a b).trans (h.1 x a b), fun k a b => (h'.2.1 k a b).trans (h.2.1 k a b), h'.2.2.1, fun i hi => (h'.2.2.2 i (by omega)).trans (h.2.2.2 i hi)⟩
/-- the accounts of one instance -/
theorem l_rtot137 {i : Nat} {tk' q : Int} (h : RW M w) (hi : i < 16) (hT : smT w tk') (hb : (w.gIn i).1 = 0 ∨ (w.gIn i).1 = 1) (htk : im_i64 tk') (hd : 5 ≤ d) {v : Int} {T : Int} (v0 : 0 ≤ v) (hlim : v + inF w.gIn tk' i < LIM) (hT6 : M 6952 6 ≤ T ∧ T + 40 * 605 + 700 ≤ 1100000)
    (hK : ∀ M' r, tF M M' → (M 6952 6 ≤ M' 6952 7 ∧ M' 6952 7 ≤ T + 40 * 605) → rnp M' 0 (M' 6952 7) r (v + inF w.gIn tk' i) → im_T g d 426 113 [some (.ref 6952), some (vL tk'), none, some (vI q), some (vI r), some (vI ((i : Int) + 1)), none] [] e M' K) :
    ∀ (j k : Nat) (M1 : im_M) (r : Int), k + j = 40 → ((w.gIn i).1 = 0 → k = 0) → ((w.gIn i).1 ≠ 0 → k ≤ (w.gIn i).2.2.2.1.1) → tF M M1 → (M 6952 6 ≤ M1 6952 7 ∧ M1 6952 7 ≤ T + k * 605) → rnp M1 0 (M1 6952 7) r (v + (if (w.gIn i).1 = 0 then 0 else suN (tkF (w.gIn i).2.2.2.1 tk') k)) → im_T g d 426 137 [some (.ref 6952), some (vL tk'), none, some (vI q), some (vI r), some (vI i), some (vI (40 * (i : Int) + k))] [] e M1 K := by
  obtain ⟨⟨u1, _, _⟩, ⟨s1, s2, s3⟩, _⟩ := h.2.1.2.2 (i : Int) (by omega) (by omega)
  have p3 := h.2.1.1.2.2.1
  have fin : ∀ (k : Nat) (M1 : im_M) (r : Int), k ≤ 40 → ((w.gIn i).1 ≠ 0 → k = (w.gIn i).2.2.2.1.1) → tF M M1 → (M 6952 6 ≤ M1 6952 7 ∧ M1 6952 7 ≤ T + k * 605) → rnp M1 0 (M1 6952 7) r (v + (if (w.gIn i).1 = 0 then 0 else suN (tkF (w.gIn i).2.2.2.1 tk') k)) → im_T g d 426 137 [some (.ref 6952), some (vL tk'), none, some (vI q), some (vI r), some (vI i), some (vI (40 * (i : Int) + k))] [] e M1 K := by
    intro k M1 r hk hkk hF hM7 hr
    have e94 : M1 6994 i = (w.gIn i).1 := by rw [hF.1 6994 (by decide) (by decide)]; exact u1
    have e97 : M1 6997 i = (w.gIn i).2.2.2.1.1 := by rw [hF.1 6997 (by decide) (by decide)]; exact s1
    have hr' : rnp M1 0 (M1 6952 7) r (v + inF w.gIn tk' i) := by
      unfold inF tkS
      by_cases c : (w.gIn i).1 = 0
      · rw [if_pos c] at hr ⊢; exact hr
      · rw [if_neg c] at hr ⊢; rw [← hkk c]; exact hr
    refine b_total_137 (by omega) ⟨⟨by omega, by omega⟩, ?_, fun _ => hK M1 r hF ⟨hM7.1, by omega⟩ hr'⟩
    rw [e94, e97]
    exact fun hne => ⟨by constructor <;> omega, by constructor <;> omega, fun z => by have := hkk hne; omega⟩
  intro j
  induction j with
  | zero =>
    intro k M1 r hk hk0 hkk hF hM7 hr
    refine fin k M1 r (by omega) (fun hne => ?_) hF hM7 hr
    have := hkk hne
    omega
  | succ j ih =>
    intro k M1 r hk hk0 hkk hF hM7 hr
    by_cases c0 : (w.gIn i).1 = 0
    · exact fin k M1 r (by omega) (fun hne => absurd c0 hne) hF hM7 hr
    by_cases ck : k = (w.gIn i).2.2.2.1.1
    · exact fin k M1 r (by omega) (fun _ => ck) hF hM7 hr
    have hkk' := hkk c0
    rw [if_neg c0] at hr
    have hpos := hT.2.1 i hi c0
    have mono := suN_mono (tkF_pos hpos tk') (show k + 1 ≤ (w.gIn i).2.2.2.1.1 by omega)
    have mono0 := suN_mono (tkF_pos hpos tk') (show k ≤ (w.gIn i).2.2.2.1.1 by omega)
    have es : suN (tkF (w.gIn i).2.2.2.1 tk') (k + 1) = suN (tkF (w.gIn i).2.2.2.1 tk') k + tkF (w.gIn i).2.2.2.1 tk' k := rfl
    have eF : inF w.gIn tk' i = suN (tkF (w.gIn i).2.2.2.1 tk') (w.gIn i).2.2.2.1.1 := by unfold inF tkS; rw [if_neg c0]
    have e94 : M1 6994 i = (w.gIn i).1 := by rw [hF.1 6994 (by decide) (by decide)]; exact u1
    have e97 : M1 6997 i = (w.gIn i).2.2.2.1.1 := by rw [hF.1 6997 (by decide) (by decide)]; exact s1
    obtain ⟨_, y2, y3⟩ := s3 k (by omega)
    have y2' : M1 6999 (40 * (i : Int) + k) = (w.gIn i).2.2.2.1.2.2.1 k := by rw [hF.1 6999 (by decide) (by decide)]; exact y2
    have y3' : sn M1 7000 (40 * (i : Int) + k) ((w.gIn i).2.2.2.1.2.2.2 k) := sn_congr y3 (fun q _ _ => by rw [hF.1 7000 (by decide) (by decide)])
    refine b_total_137 (by omega) ⟨⟨by omega, by omega⟩, ?_, fun hor => ?_⟩
    · rw [e97]
      refine fun _ => ⟨by constructor <;> omega, by constructor <;> omega, fun _ => ⟨⟨by omega, by omega⟩, htk, ?_⟩⟩
      rw [y2']
      refine ⟨fun hne => ?_, fun heq => ?_⟩
      · have e0 : tkF (w.gIn i).2.2.2.1 tk' k = 0 := by unfold tkF; rw [if_neg hne]
        have := ih (k + 1) M1 r (by omega) (fun z => absurd z c0) (fun _ => by omega) hF ⟨hM7.1, by omega⟩ (by rw [if_neg c0, es, e0, Int.add_zero]; exact hr)
        rw [show (40 * (i : Int) + ((k + 1 : Nat) : Int)) = 40 * (i : Int) + k + 1 by omega] at this
        exact this
      · have e0 : tkF (w.gIn i).2.2.2.1 tk' k = (w.gIn i).2.2.2.1.2.2.2 k := by unfold tkF; rw [if_pos heq]
        have hpk := hpos k (by omega) (by omega)
        have hL0 := LIM_pos
        have e6 := hF.2.1 6 (by decide) (by decide)
        refine c_tadd (c := 7000) sf_7000 (by decide) (by decide) (by decide) ⟨by omega, by omega⟩ y3' hr (by rw [e6]; omega) hF.2.2.1 ⟨by omega, by omega⟩ (by omega) (fun M2 r2 F2 g7 hr2 => ?_)
        have := ih (k + 1) M2 r2 (by omega) (fun z => absurd z c0) (fun _ => by omega) (hF.trans F2) ⟨by omega, by omega⟩ (by rw [if_neg c0, es, e0, ← Int.add_assoc]; exact hr2)
        rw [show (40 * (i : Int) + ((k + 1 : Nat) : Int)) = 40 * (i : Int) + k + 1 by omega] at this
        exact this
    · rw [e94, e97] at hor
      exfalso
      rcases hor with z | z
      · exact c0 z
      · have := z.2; omega
/-- the end: what was added up is told -/
theorem l_rtotE {tk' q r v : Int} {M0 : im_M} (h : RW M0 w) (hF : tF M0 M) (hr : rnp M 0 (M 6952 7) r v) (h7 : M 6952 7 ≤ 1100000) (hd : 2 ≤ d) (hK : ∀ M', (∀ z, z < 6952 ∨ 7080 < z → M' z = M0 z) → RW M' (ouW w (nuL v)) → M' 6952 0 = M0 6952 0 → K (.inl (some (vI ((nuL v).length : Int)))) e M') :
    im_T g (d - 1) 324 0 [some (.ref 6952), some (vI r), none] [] e (im_u M 6952 4 0) (im_r0 (fun e_ M14 => e = e_ ∧ K (.inl (some (vI (M14 6952 4)))) e M14)) :=
  c_rtellN (hF.rw h) hr h7 (by omega) (fun M' f W c => hK M' (fun z hz => (f z hz).trans (hF.1 z (by omega) (by omega))) W (c.trans (hF.2.1 0 (by decide) (by decide))))
theorem l_rtot113 {tk' q v T : Int} (h : RW M w) (hT : smT w tk') (hb : ∀ i : Nat, i < 16 → (w.gIn i).1 = 0 ∨ (w.gIn i).1 = 1) (htk : im_i64 tk') (hq : q = 1 ∨ q = 2) (hd : 5 ≤ d) (v0 : 0 ≤ v) (hlim : v + inS w.gIn tk' 16 < LIM) (hT6 : M 6952 6 ≤ T ∧ T + 16 * 24200 + 700 ≤ 1100000)
    (hK : ∀ M', (∀ z, z < 6952 ∨ 7080 < z → M' z = M z) → RW M' (ouW w (nuL (v + inS w.gIn tk' 16))) → M' 6952 0 = M 6952 0 → K (.inl (some (vI ((nuL (v + inS w.gIn tk' 16)).length : Int)))) e M') :
    ∀ (j i : Nat) (M1 : im_M) (r : Int), i + j = 16 → tF M M1 → (M 6952 6 ≤ M1 6952 7 ∧ M1 6952 7 ≤ T + i * 24200) → rnp M1 0 (M1 6952 7) r (v + inS w.gIn tk' i) → im_T g d 426 113 [some (.ref 6952), some (vL tk'), none, some (vI q), some (vI r), some (vI i), none] [] e M1 K := by
  intro j
  induction j with
  | zero =>
    intro i M1 r hi hF h7 hr
    have : i = 16 := by omega
    subst this
    exact b_total_113 (by omega) ⟨by decide, fun z => absurd z (by decide), fun z => by omega, fun _ => ⟨by constructor <;> omega, fun _ => l_rtotE (tk' := 0) (q := 0) h hF hr (by omega) (by omega) hK, fun z => by omega⟩⟩
  | succ j ih =>
    intro i M1 r hi hF h7 hr
    refine b_total_113 (by omega) ⟨by constructor <;> omega, fun _ => by constructor <;> omega, fun _ => ?_, fun z => by omega⟩
    have W1 := hF.rw h
    have e6 := hF.2.1 6 (by decide) (by decide)
    have es : inS w.gIn tk' (i + 1) = inS w.gIn tk' i + inF w.gIn tk' i := rfl
    have mono := suN_mono (inF_pos hT) (show i + 1 ≤ 16 by omega)
    have mono0 := suN_mono (inF_pos hT) (show i ≤ 16 by omega)
    have e1 : inS w.gIn tk' 16 = suN (inF w.gIn tk') 16 := rfl
    have e2 : inS w.gIn tk' i = suN (inF w.gIn tk') i := rfl
    have e3 : inS w.gIn tk' (i + 1) = suN (inF w.gIn tk') (i + 1) := rfl
    have := l_rtot137 (g := g) (d := d) (e := e) (K := K) (M := M1) (w := w) (i := i) (tk' := tk') (q := q) (v := v + inS w.gIn tk' i) (T := M1 6952 7) W1 (by omega) hT (hb i (by omega)) htk hd (by omega) (by omega) ⟨by omega, by omega⟩ (fun M2 r2 F2 g7 hr2 => by
      have := ih (i + 1) M2 r2 (by omega) (hF.trans F2) ⟨by omega, by omega⟩ (by rw [es, ← Int.add_assoc]; exact hr2)
      rw [show ((i + 1 : Nat) : Int) = (i : Int) + 1 by omega] at this
      exact this) 40 0 M1 r rfl (fun _ => rfl) (fun _ => by omega) ⟨fun _ _ _ => rfl, fun _ _ _ => rfl, W1.2.2.2.2.2.2.1, fun _ _ => rfl⟩ ⟨by omega, by omega⟩ (by
        have : (if (w.gIn i).1 = 0 then (0 : Int) else suN (tkF (w.gIn i).2.2.2.1 tk') 0) = 0 := by split <;> rfl
        rw [this, Int.add_zero]; exact hr)
    rw [show (40 * (i : Int) + ((0 : Nat) : Int)) = 40 * (i : Int) by omega] at this
    exact this
theorem l_rtot53 {tk' q T : Int} (h : RW M w) (hs : sbk w.gWa) (hT : smT w tk') (htk : im_i64 tk') (hq : q = 0 ∨ q = 2) (hd : 5 ≤ d) (hT6 : M 6952 6 ≤ T ∧ T + 60 * 605 + 700 ≤ 1100000)
    (hK : ∀ M' r, tF M M' → (M 6952 6 ≤ M' 6952 7 ∧ M' 6952 7 ≤ T + 60 * 605) → rnp M' 0 (M' 6952 7) r (tkS w.gWa tk') → im_T g d 426 113 [some (.ref 6952), some (vL tk'), none, some (vI q), some (vI r), some (vI 0), none] [] e M' K) :
    ∀ (j k : Nat) (M1 : im_M) (r : Int), k + j = w.gWa.1 → tF M M1 → (M 6952 6 ≤ M1 6952 7 ∧ M1 6952 7 ≤ T + k * 605) → rnp M1 0 (M1 6952 7) r (suN (fun i => if M 7043 i = tk' then hld w.gWa (M 7042 i) (M 7043 i) else 0) k) → im_T g d 426 53 [some (.ref 6952), some (vL tk'), none, some (vI q), some (vI r), some (vI k), none] [] e M1 K := by
  have hsw := h.2.2.1.2.1
  have hsum := swl_sum hsw hs tk'
  obtain ⟨m1, m2, m3, _, _⟩ := id hsw
  have p3 := h.2.1.1.2.2.1
  have hmod : q.tmod 2 = 0 := by rcases hq with z | z <;> rw [z] <;> decide
  have fpos : ∀ i : Nat, i < w.gWa.1 → 0 ≤ (fun i : Nat => if M 7043 i = tk' then hld w.gWa (M 7042 i) (M 7043 i) else 0) i := fun i hi => by
    dsimp only
    split
    · have := ((hld_pos hT.1).1 (m3 i hi).1).1; omega
    · exact Int.le_refl _
  have hi0 := (suN_mono (inF_pos hT) (Nat.le_refl 16)).2
  have e16 : inS w.gIn tk' 16 = suN (inF w.gIn tk') 16 := rfl
  have hlim := hT.2.2
  intro j
  induction j with
  | zero =>
    intro k M1 r hk hF h7 hr
    have : k = w.gWa.1 := by omega
    subst this
    rw [hsum] at hr
    refine b_total_53 (by omega) ⟨by constructor <;> omega, fun z => ?_, fun _ => hK M1 r hF ⟨h7.1, by omega⟩ hr⟩
    rw [hF.2.1 130 (by decide) (by decide), m1] at z; omega
  | succ j ih =>
    intro k M1 r hk hF h7 hr
    have mono := suN_mono fpos (show k + 1 ≤ w.gWa.1 by omega)
    have mono0 := suN_mono fpos (show k ≤ w.gWa.1 by omega)
    rw [hsum] at mono mono0
    have y := (m3 k (by omega)).2
    have y' : sn M1 7044 k (hld w.gWa (M 7042 k) (M 7043 k)) := sn_congr y (fun q _ _ => by rw [hF.1 7044 (by decide) (by decide)])
    have e6 := hF.2.1 6 (by decide) (by decide)
    have hh := ((hld_pos hT.1).1 (m3 k (by omega)).1).1
    have es : suN (fun i : Nat => if M 7043 i = tk' then hld w.gWa (M 7042 i) (M 7043 i) else 0) (k + 1) = suN (fun i : Nat => if M 7043 i = tk' then hld w.gWa (M 7042 i) (M 7043 i) else 0) k + (if M 7043 k = tk' then hld w.gWa (M 7042 k) (M 7043 k) else 0) := rfl
    refine b_total_53 (by omega) ⟨by constructor <;> omega, fun _ => ⟨by constructor <;> omega, by rw [hmod]; decide, fun _ => ⟨⟨by omega, by omega⟩, htk, ?_⟩⟩, fun hor => ?_⟩
    · rw [hF.1 7043 (by decide) (by decide)]
      refine ⟨fun hne => ?_, fun heq => ?_⟩
      · have := ih (k + 1) M1 r (by omega) hF ⟨h7.1, by omega⟩ (by rw [es, if_neg hne, Int.add_zero]; exact hr)
        rw [show ((k + 1 : Nat) : Int) = (k : Int) + 1 by omega] at this
        exact this
      · rw [if_pos heq] at es
        refine c_tadd (c := 7044) sf_7044 (by decide) (by decide) (by decide) ⟨by omega, by omega⟩ y' hr (by rw [e6]; omega) hF.2.2.1 ⟨by have := LIM_pos; omega, by omega⟩ (by omega) (fun M2 r2 F2 g7 hr2 => ?_)
        have := ih (k + 1) M2 r2 (by omega) (hF.trans F2) ⟨by omega, by omega⟩ (by rw [es]; exact hr2)
        rw [show ((k + 1 : Nat) : Int) = (k : Int) + 1 by omega] at this
        exact this
    · rw [hF.2.1 130 (by decide) (by decide), m1, hmod] at hor
      exfalso
      rcases hor with z | z
      · omega
      · exact z.2 rfl
theorem c_R_total {tk' q : Int} (h : RW M w) (hde : w.gDe ≤ 16384) (hs : sbk w.gWa) (hT : smT w tk') (hb : ∀ i : Nat, i < 16 → (w.gIn i).1 = 0 ∨ (w.gIn i).1 = 1) (htk : im_i64 tk') (hq : im_i32 q) (hd : 6 ≤ d)
    (hKt : mco 2 w.gJr.2.2.2.2 (nmV tk' ∧ 0 ≤ q ∧ q ≤ 3) True True ≠ 0 → ∀ M', (∀ z, z < 6952 ∨ 7080 < z → M' z = M z) → RW M' w → M' 6952 0 = mco 2 w.gJr.2.2.2.2 (nmV tk' ∧ 0 ≤ q ∧ q ≤ 3) True True → K (.inl (some (vI 0))) e M')
    (hK : w.gJr.2.2.2.2 = 0 → nmV tk' ∧ 0 ≤ q ∧ q ≤ 3 → ∀ M', (∀ z, z < 6952 ∨ 7080 < z → M' z = M z) → RW M' (ouW w (nuL (toS w tk' q))) → M' 6952 0 = 0 → K (.inl (some (vI ((nuL (toS w tk' q)).length : Int)))) e M') : im_T g d 426 0 [some (.ref 6952), some (vL tk'), none, some (vI q), none, none, none] [] e M K := by
  have bad : ¬ (nmV tk' ∧ 0 ≤ q ∧ q ≤ 3) → ∀ (X : Int → im_M → Prop), im_T g (d - 1) 264 0 [some (.ref 6952), some (vI 2), some (vI 0), some (vI 1), some (vI 1)] [] e M (im_ri (fun x6 e_ M5 => e = e_ ∧ (im_i32 x6) ∧ ((¬ x6 = 0 → X x6 M5) ∧ (x6 = 0 → K (.inl (some (vI 0))) e M5)))) := fun hn X =>
    c_mayQ (A := nmV tk' ∧ 0 ≤ q ∧ q ≤ 3) (B := True) (C := True) h (by decide) (by decide) (Or.inr ⟨rfl, hn⟩) (Or.inl ⟨rfl, trivial⟩) (Or.inl ⟨rfl, trivial⟩) (fun hm M1 W1 e0 ez ek => ⟨_, rfl, rfl, by decide, fun z => absurd rfl z, fun _ => hKt hm M1 (fun z hz => ez z (by omega)) W1 e0⟩) (fun _ hA _ _ _ _ _ _ _ => absurd hA hn)
  refine b_total_0 (by omega) (c_isNameR htk (by omega) (fun hN => ⟨_, rfl, rfl, by decide, fun z => absurd z (by decide), fun _ => ⟨hq, c_isIn (by constructor <;> omega) (by decide) (by decide) (fun hq2 => ⟨_, rfl, rfl, by decide, fun z => absurd z (by decide), fun _ => ?_⟩) (fun hq2 => ⟨_, rfl, rfl, by decide, fun _ => bad (fun z => hq2 z.2) _, fun z => absurd rfl z⟩)⟩⟩) (fun hN => ⟨_, rfl, rfl, by decide, fun _ => bad (fun z => hN z.1) _, fun z => absurd rfl z⟩))
  clear bad
  refine c_mayQ (A := nmV tk' ∧ 0 ≤ q ∧ q ≤ 3) (B := True) (C := True) h (by decide) (by decide) (Or.inl ⟨rfl, hN, hq2⟩) (Or.inl ⟨rfl, trivial⟩) (Or.inl ⟨rfl, trivial⟩) (fun hm M1 W1 e0 ez ek => ⟨_, rfl, rfl, by decide, fun z => absurd rfl z, fun _ => hKt hm M1 (fun z hz => ez z (by omega)) W1 e0⟩) (fun hz hA _ _ M1 W1 e0 ez ek => ⟨_, rfl, rfl, by decide, fun _ => ?_, fun z => absurd z (by decide)⟩)
  have hK := hK hz hA
  have p3 := W1.2.1.1.2.2.1
  have s8 := W1.2.2.2.2.2.2.1
  have e7 : im_u M1 6952 7 (M1 6952 6) 6952 7 = M1 6952 6 := im_rds _ _ _ _
  have fr1 : ∀ z, z < 6952 ∨ 7080 < z → M1 z = M z := fun z hz => ez z (by omega)
  refine c_zero (by rw [e7]; omega) (by rw [e7]; omega) (fun M2 g1 g2 g3 => ⟨_, rfl, rfl, ?_⟩)
  rw [e7] at g1 g2 g3 ⊢
  have F2 : tF M1 M2 := ⟨fun x a b => (g1.1 x (fun z => by cases z) b a).trans (im_u_ne _ _ _ a), fun k a b => (g1.2.1 k (by simp [a])).trans (im_rdk _ _ _ a), by rw [g1.2.1 8 (by simp), im_rdk _ _ _ (by decide)]; exact s8, fun i hi => by rw [g1.2.2 i hi, im_u_ne _ _ _ (by decide)]⟩
  have hr2 : rnp M2 0 (M2 6952 7) (M1 6952 6) 0 := ⟨0, g2, by omega, by omega, by decide⟩
  have hmi2 : rMi M2 w.gMi := rMi_congr W1.2.2.1.2.2 (F2.2.1 134 (by decide) (by decide)) (F2.1 _ (by decide) (by decide)) (F2.1 _ (by decide) (by decide))
  have e6 := F2.2.1 6 (by decide) (by decide)
  have h130 : M2 6952 130 = w.gWa.1 := (F2.2.1 130 (by decide) (by decide)).trans W1.2.2.1.2.1.1
  have hw60 : w.gWa.1 ≤ 60 := W1.2.2.1.2.1.2.1
  have hi0 := (suN_mono (inF_pos hT) (Nat.le_refl 16)).2
  have e16 : inS w.gIn tk' 16 = suN (inF w.gIn tk') 16 := rfl
  have tw0 := tkS_pos hT.1 tk'
  have hlim := hT.2.2
  unfold toS at hK
  by_cases q1 : q = 1
  · rw [if_neg (by omega), if_pos q1, if_neg (by omega), Int.zero_add] at hK
    have hmod : q.tmod 2 = 1 := by rw [q1]; decide
    refine b_total_53 (by omega) ⟨by decide, fun _ => ⟨hq, by rw [hmod]; decide, fun z => by rw [hmod] at z; exact absurd z (by decide)⟩, fun _ => ?_⟩
    refine l_rtot113 (M := M1) (v := 0) (T := M2 6952 7) W1 hT hb htk (Or.inl q1) (by omega) (Int.le_refl _) (by omega) ⟨by omega, by omega⟩ (fun M' f W c => ?_) 16 0 M2 _ rfl F2 ⟨by omega, by omega⟩ (by show rnp M2 0 (M2 6952 7) (M1 6952 6) (0 + 0); exact hr2)
    rw [Int.zero_add] at W ⊢
    exact hK M' (fun z hz => (f z hz).trans (fr1 z hz)) W (c.trans e0)
  by_cases q3 : q = 3
  · rw [if_pos q3] at hK
    have hmod : q.tmod 2 = 1 := by rw [q3]; decide
    refine b_total_53 (by omega) ⟨by decide, fun _ => ⟨hq, by rw [hmod]; decide, fun z => by rw [hmod] at z; exact absurd z (by decide)⟩, fun _ => b_total_113 (by omega) ⟨by decide, fun _ => hq, fun z => by omega, fun _ => ⟨hq, fun z => absurd q3 z, fun _ => ?_⟩⟩⟩
    refine c_mintedAt hmi2 htk (fun qm hqm hqa hh => ⟨_, rfl, rfl, by have := hmi2.2.1; constructor <;> omega, fun z => by omega, fun _ => ?_⟩) (fun hh => ⟨_, rfl, rfl, by decide, fun _ => ?_, fun z => absurd rfl z⟩)
    · refine c_mintedAt hmi2 htk (fun qn hqn hqb _ => ⟨_, rfl, rfl, ?_⟩) (fun hh2 => absurd hh hh2)
      have y := (hmi2.2.2.1 qn hqn).2
      rw [hqb] at y
      have m60 := hmi2.2.1
      refine c_rload (c := 7046) sf_7046 (by decide) (by decide) (by decide) (by omega) (by omega) y (by omega) (by omega) (fun M3 f1 f2 f3 => ⟨_, rfl, rfl, ?_⟩)
      have F3 : tF M1 M3 := F2.trans ⟨fun x a b => f1.1 x (fun z => by cases z) b a, fun k a b => f1.2.1 k (by simp [a]), by rw [f1.2.1 8 (by simp)]; exact F2.2.2.1, fun i hi => f1.2.2 i (by omega)⟩
      exact l_rtotE (tk' := 0) (q := 0) W1 F3 f3 (by omega) (by omega) (fun M' f W c => hK M' (fun z hz => (f z hz).trans (fr1 z hz)) W (c.trans e0))
    · have h0 : hld w.gMi tk' 0 = 0 := by unfold hld; rw [if_neg hh]
      rw [h0] at hK
      exact l_rtotE (tk' := 0) (q := 0) W1 F2 hr2 (by omega) (by omega) (fun M' f W c => hK M' (fun z hz => (f z hz).trans (fr1 z hz)) W (c.trans e0))
  · rw [if_neg q3, if_neg q1] at hK
    have hq02 : q = 0 ∨ q = 2 := by omega
    refine l_rtot53 (M := M1) (T := M2 6952 7) W1 hs hT htk hq02 (by omega) ⟨by omega, by omega⟩ (fun M3 r F3 g7 hr3 => ?_) w.gWa.1 0 M2 _ (by omega) F2 ⟨by omega, by omega⟩ (by show rnp M2 0 (M2 6952 7) (M1 6952 6) 0; exact hr2)
    by_cases q0 : q = 0
    · rw [if_pos q0, Int.add_zero] at hK
      exact b_total_113 (by omega) ⟨by decide, fun _ => hq, fun z => by omega, fun _ => ⟨hq, fun _ => l_rtotE (tk' := 0) (q := 0) W1 F3 hr3 (by omega) (by omega) (fun M' f W c => hK M' (fun z hz => (f z hz).trans (fr1 z hz)) W (c.trans e0)), fun z => absurd z q3⟩⟩
    · rw [if_neg q0] at hK
      exact l_rtot113 (M := M1) (v := tkS w.gWa tk') (T := M3 6952 7) W1 hT hb htk (by omega) (by omega) tw0 (by omega) ⟨by omega, by omega⟩ (fun M' f W c => hK M' (fun z hz => (f z hz).trans (fr1 z hz)) W (c.trans e0)) 16 0 M3 _ rfl F3 ⟨by omega, by omega⟩ (by show rnp M3 0 (M3 6952 7) r (tkS w.gWa tk' + 0); rw [Int.add_zero]; exact hr3)
end TOTALR
