/-! THE CLASS runs a transaction -/
noncomputable def insO (R : Rw) (giv : Bk) (st en lk : Int) (t a b c v : Int → Int) : Nat → Int → TS → Sum Int TS
  | 0, _, s => .inr s
  | n + 1, i, s => match appO R giv st en lk s (t i) (a i) (b i) (c i) (v i) with
    | .inl z => .inl z
    | .inr s1 => match redO R giv st en lk 142 s1 with
      | .inl z => .inl z
      | .inr s2 => insO R giv st en lk t a b c v n (i + 1) s2
def TS.fresh (s : TS) : TS := ((s.sPay (0, s.pay.2)).sWrn (0, s.wrn.2)).sCp 0
/-- what a transaction does: why it is refused, or what is then -/
noncomputable def runO (R : Rw) (giv : Bk) (lk fr to least : Int) (t a b c v : Int → Int) (n : Nat) (i : Int) (s : TS) : Sum Int TS :=
  if to < fr ∨ fr < 0 ∨ 1000000000000000 < to then .inl (-2) else if to < least then .inl (-3) else
  match redO R giv (max fr least) to lk 142 s.fresh with
  | .inl z => .inl z
  | .inr s1 => match insO R giv (max fr least) to lk t a b c v n i s1 with
    | .inl z => .inl z
    | .inr s2 => if n = 0 ∧ s2.nd = s.nd ∧ s2.cp = 0 then .inl (-6) else .inr s2
def XU (bs : Nat) (M M' : im_M) : Prop := (∀ x, (x < bs ∨ bs + 259 ≤ x) → x ≠ 931 → x ≠ 932 → x ≠ 933 → x ≠ 934 → x ≠ 935 → (x < 1207 ∨ 1793 ≤ x) → M' x = M x) ∧ (∀ k, (k < 10 ∨ 13 < k) → M' 931 k = M 931 k) ∧ (∀ k, k ≠ 4 → k ≠ 5 → M' bs k = M bs k)
theorem XT.u {bs : Nat} {M M' : im_M} (h : XT bs M M') : XU bs M M' := ⟨h.1, fun k hk => h.2.1 k (by omega) (by omega), fun k _ hk => h.2.2 k hk⟩
theorem XU.trans {bs : Nat} {M M1 M2 : im_M} (h : XU bs M M1) (h' : XU bs M1 M2) : XU bs M M2 := ⟨fun x a b c d f i j => (h'.1 x a b c d f i j).trans (h.1 x a b c d f i j), fun k a => (h'.2.1 k a).trans (h.2.1 k a), fun k a b => (h'.2.2 k a b).trans (h.2.2 k a b)⟩
theorem IN.fr {M M' : im_M} {e : im_E} {bs br nr : Nat} {i t a b c v : Int} (h : IN M e bs br nr i t a b c v) (hX : ∀ x, (x < bs ∨ bs + 259 ≤ x) → x ≠ 931 → x ≠ 932 → x ≠ 933 → x ≠ 934 → x ≠ 935 → (x < 1207 ∨ 1793 ≤ x) → M' x = M x) : IN M' e bs br nr i t a b c v := by
  obtain ⟨h1, h2, ⟨h3, h3'⟩, ⟨h4, h5, h6, h7⟩, h8, h9⟩ := h
  have hs : ∀ x, br ≤ x → x < br + 6 + 2 * nr → M' x = M x := fun x x1 x2 => hX x (by clear h3; omega) (by clear h3'; omega) (by clear h3'; omega) (by clear h3'; omega) (by clear h3'; omega) (by clear h3'; omega) (by clear h3'; omega)
  have hnr : 0 < nr := by omega
  exact ⟨h1, h2, ⟨h3, h3'⟩, ⟨by rw [hs _ (by omega) (by omega)]; exact h4, by rw [hs _ (by omega) (by omega)]; exact h5, by rw [hs _ (by omega) (by omega)]; exact h6, by rw [hs _ (by omega) (by omega)]; exact h7⟩, by rw [hs _ (by omega) (by omega)]; exact h8, cn_congr h9 (hs _ (by omega) (by omega)) (hs _ (by omega) (by omega))⟩
theorem rw6_0 {M : im_M} {b : Nat} {ρ : Rl} (h : rw6 M b ρ) : rw6 (im_u M b 5 0) b (0, ρ.2) := by
  obtain ⟨V', ⟨c1, c2, c3, c4, c5⟩, h2⟩ := h
  refine ⟨V', ⟨im_rds _ _ _ _, Nat.zero_le _, fun i hi => ?_, fun i hi => by omega, fun i hi => ?_⟩, fun i hi => absurd hi (Nat.not_lt_zero _)⟩
  · rw [im_rdn _ _ _ _ (by omega)]; exact c3 i hi
  · exact cn_congr (c5 i hi) (im_u_ne _ _ _ (by omega)) (im_u_ne _ _ _ (by omega))
theorem CT.pay0 {M : im_M} {e : im_E} {R : Rw} {m E : Int} {giv : Bk} {st en lk fl : Int} {s : TS} {bs bp np : Nat} (h : CT M e R m E giv st en lk fl s bs bp np) : CT (im_u (im_u M 1333 5 0) 1459 5 0) e R m E giv st en lk fl ((s.sPay (0, s.pay.2)).sWrn (0, s.wrn.2)) bs bp np ∧ XT bs M (im_u (im_u M 1333 5 0) 1459 5 0) := by
  obtain ⟨C1, X1⟩ := h.pay (M' := im_u M 1333 5 0) (fun x hx => im_u_ne _ _ _ (by omega)) (rw6_0 h.2.2.2.2.2.1)
  obtain ⟨C2, X2⟩ := C1.wrn (M' := im_u (im_u M 1333 5 0) 1459 5 0) (fun x hx => im_u_ne _ _ _ (by omega)) (rw6_0 C1.2.2.2.2.2.2.1)
  exact ⟨C2, X1.trans X2⟩
/-- the machine stands at another time -/
theorem CT.std {M : im_M} {e : im_E} {R : Rw} {m E : Int} {giv : Bk} {st en lk fl st' en' : Int} {s : TS} {bs bp np : Nat} (h : CT M e R m E giv st en lk fl s bs bp np) (h1 : 0 ≤ st' ∧ st' ≤ 1000000000000000) (h2 : 0 ≤ en' ∧ en' ≤ 1000000000000000) : CT (im_u (im_u (im_u M 931 10 st') 931 11 en') 931 12 0) e R m E giv st' en' lk 0 s bs bp np ∧ XU bs M (im_u (im_u (im_u M 931 10 st') 931 11 en') 931 12 0) := by
  obtain ⟨⟨a1, a2, a3, a4, ⟨b1, b2, b3, b4⟩, a6, a7⟩, c2, c3, ⟨c4, c5, c6, c7⟩, c8, c9, c10, ⟨w, c11⟩, ⟨c12, c13, c14⟩⟩ := h
  have hs : ∀ y, y ≠ 931 → im_u (im_u (im_u M 931 10 st') 931 11 en') 931 12 0 y = M y := fun y hy => by rw [im_u_ne _ _ _ hy, im_u_ne _ _ _ hy, im_u_ne _ _ _ hy]
  have hf : ∀ k, k ≠ 10 → k ≠ 11 → k ≠ 12 → im_u (im_u (im_u M 931 10 st') 931 11 en') 931 12 0 931 k = M 931 k := fun k x y z => by rw [im_rdk _ _ _ z, im_rdk _ _ _ y, im_rdk _ _ _ x]
  have f10 : im_u (im_u (im_u M 931 10 st') 931 11 en') 931 12 0 931 10 = st' := by rw [im_rdk _ _ _ (by decide), im_rdk _ _ _ (by decide), im_rds]
  have f11 : im_u (im_u (im_u M 931 10 st') 931 11 en') 931 12 0 931 11 = en' := by rw [im_rdk _ _ _ (by decide), im_rds]
  have f12 : im_u (im_u (im_u M 931 10 st') 931 11 en') 931 12 0 931 12 = 0 := im_rds _ _ _ _
  generalize im_u (im_u (im_u M 931 10 st') 931 11 en') 931 12 0 = M' at hs hf f10 f11 f12 ⊢
  have fbs : M' bs = M bs := hs bs (by omega)
  refine ⟨⟨⟨by rw [hf 4 (by decide) (by decide) (by decide), hf 5 (by decide) (by decide) (by decide)]; exact a1, a2, a3, a4, ⟨cbk_congr b1 (fun y y1 y2 => hs y (by omega)), cbk_congr b2 (fun y y1 y2 => hs y (by omega)), cbk_congr b3 (fun y y1 y2 => hs y (by omega)), cbk_congr b4 (fun y y1 y2 => hs y (by omega))⟩, ⟨f10, f11⟩, h1, h2⟩, CP_congr c2 (fun y y1 y2 => hs y (by omega)), c3.congr (hs 932 (by omega)) (fun y y1 y2 => hs y (by omega)), ⟨f12, by rw [hf 6 (by decide) (by decide) (by decide)]; exact c5, by rw [hf 13 (by decide) (by decide) (by decide)]; exact c6, by rw [fbs]; exact c7⟩, cwb_congr c8 (fun y y1 y2 => hs y (by omega)), rw6_congr c9 (fun y y1 y2 => hs y (by omega)), rw6_congr c10 (fun y y1 y2 => hs y (by omega)), ⟨w, cn_congr c11 (hs _ (by omega)) (hs _ (by omega))⟩, ⟨c12, c13, c14⟩⟩, ⟨fun y _ y1 _ _ _ _ _ => hs y y1, fun k hk => hf k (by omega) (by omega) (by omega), fun k _ _ => by rw [fbs]⟩⟩
section CRUN
variable {g : im_g} {d : Nat} {e : im_E} {K : im_K} {R : Rw} {m E : Int} {giv : Bk} {st en lk : Int} {bs bp np br nr : Nat} {t a b c v : Int → Int}
theorem CT.lst {M : im_M} {fl : Int} {s : TS} (h : CT M e R m E giv st en lk fl s bs bp np) (x : Int) : CT (im_u M bs 4 x) e R m E giv st en lk fl s bs bp np ∧ XU bs M (im_u M bs 4 x) := by
  obtain ⟨⟨a1, a2, a3, a4, ⟨b1, b2, b3, b4⟩, a6, a7⟩, c2, c3, ⟨c4, c5, c6, c7⟩, c8, c9, c10, ⟨w, c11⟩, ⟨c12, c13, c14⟩⟩ := h
  have hs : ∀ y, y ≠ bs → im_u M bs 4 x y = M y := fun y hy => im_u_ne _ _ _ hy
  have f931 : im_u M bs 4 x 931 = M 931 := hs 931 (by omega)
  refine ⟨⟨⟨by rw [f931]; exact a1, a2, a3, a4, ⟨cbk_congr b1 (fun y y1 y2 => hs y (by omega)), cbk_congr b2 (fun y y1 y2 => hs y (by omega)), cbk_congr b3 (fun y y1 y2 => hs y (by omega)), cbk_congr b4 (fun y y1 y2 => hs y (by clear c13; omega))⟩, by rw [f931]; exact a6, a7⟩, CP_congr c2 (fun y y1 y2 => hs y (by omega)), c3.congr (hs 932 (by omega)) (fun y y1 y2 => hs y (by omega)), ⟨by rw [f931]; exact c4, by rw [f931]; exact c5, by rw [f931]; exact c6, by rw [im_rdk _ _ _ (by decide)]; exact c7⟩, cwb_congr c8 (fun y y1 y2 => hs y (by omega)), rw6_congr c9 (fun y y1 y2 => hs y (by omega)), rw6_congr c10 (fun y y1 y2 => hs y (by omega)), ⟨w, cn_congr c11 (hs _ (by omega)) (hs _ (by omega))⟩, ⟨c12, c13, c14⟩⟩, ⟨fun y y0 _ _ _ _ _ _ => hs y (by omega), fun k _ => by rw [f931], fun k hk _ => im_rdk _ _ _ hk⟩⟩
theorem l_runE {M : im_M} {p6 p7 p8 z j : Int} (hrw : rwN e br nr) (hd : 1 ≤ d) (hz : z ≠ 0) (hzi : im_i32 z) (hj : im_i32 j) (h67 : im_i32 (p6 + p7)) (hK : K (.inl (some (vI z))) e M) : im_T g d 109 94 [some (.ref 931), none, none, none, none, some (.ref br), some (vI p6), some (vI p7), some (vI p8), some (vI z), some (vI j)] [] e M K :=
  k_Machine_run_94 hrw.1 hd ⟨hj, h67, fun _ => ⟨hzi, fun w => absurd w hz⟩, fun _ => ⟨hzi, fun w => absurd w hz, fun _ => ⟨fun _ => hK, fun w => absurd w hz⟩⟩⟩
/-- all inputs -/
theorem l_run {M0 : im_M} {n0 : Nat} {i0 nd0 : Int} (hW : WFP R m) (hd : 114 ≤ d) (hn0 : n0 ≤ 1000) (hi0 : 0 ≤ i0 ∧ i0 ≤ 1000) (hnd : im_i32 nd0) (hrw : rwN e br nr) : ∀ (n : Nat) (j : Int) (s : TS) (M : im_M), j + n = i0 + n0 → i0 ≤ j → CT M e R m E giv st en lk 0 s bs bp np → OT s → VN R m s → (∀ k, j ≤ k → k < i0 + n0 → IN M e bs br nr k (t k) (a k) (b k) (c k) (v k)) → XU bs M0 M →
    (∀ s', insO R giv st en lk t a b c v n j s = .inr s' → ¬ (n0 = 0 ∧ s'.nd = nd0 ∧ s'.cp = 0) → ∀ M', XU bs M0 M' → M' bs 4 = st → CT M' e R m E giv st en lk 0 s' bs bp np → OT s' → VN R m s' → K (.inl (some (vI 0))) e M') →
    (∀ s', insO R giv st en lk t a b c v n j s = .inr s' → (n0 = 0 ∧ s'.nd = nd0 ∧ s'.cp = 0) → ∀ M', XU bs M0 M' → CX M' e R m E giv st en lk bs bp np → K (.inl (some (vI (-6)))) e M') →
    (∀ z, insO R giv st en lk t a b c v n j s = .inl z → z ≠ 0 → im_i32 z → ∀ M', XU bs M0 M' → CX M' e R m E giv st en lk bs bp np → K (.inl (some (vI z))) e M') →
    im_T g d 109 94 [some (.ref 931), none, none, none, none, some (.ref br), some (vI i0), some (vI n0), some (vI nd0), some (vI 0), some (vI j)] [] e M K := by
  intro n
  induction n with
  | zero =>
    intro j s M hj hij hC hO hV hI hX hKs hKu hKe
    have hins : insO R giv st en lk t a b c v 0 j s = .inr s := rfl
    have h5 : M bs 5 = s.nd := hC.2.2.2.1.2.2.2
    have h13 : M 931 13 = s.cp := hC.2.2.2.1.2.2.1
    have h10 : M 931 10 = st := hC.1.2.2.2.2.2.1.1
    obtain ⟨C1, X1⟩ := hC.lst st
    have ok : ¬ (n0 = 0 ∧ s.nd = nd0 ∧ s.cp = 0) → K (.inl (some (vI 0))) e (im_u M bs 4 st) := fun h => hKs s hins h _ (hX.trans X1) (im_rds _ _ _ _) C1 hO hV
    refine k_Machine_run_94 hrw.1 (by omega) ⟨by constructor <;> omega, by constructor <;> omega, fun z => by omega, fun _ => ⟨by decide, fun _ => ⟨by constructor <;> omega, fun h7 => ⟨bs, hC.1.1.1, hC.1.2.1.1, hnd, ?_⟩⟩, fun hor => ⟨fun z => absurd rfl z, fun _ => ⟨bs, hC.1.1.1, hC.1.2.1.1, ?_⟩⟩⟩⟩
    · rw [h5, h13, h10]
      exact ⟨fun e1 e2 => hKu s hins ⟨by omega, e1, e2⟩ M hX ⟨_, _, hC⟩, fun hor => ⟨fun z => absurd rfl z, fun _ => ⟨bs, hC.1.1.1, hC.1.2.1.1, ok (fun w => by omega)⟩⟩⟩
    · rw [h10]
      exact ok (fun w => by omega)
  | succ n ih =>
    intro j s M hj hij hC hO hV hI hX hKs hKu hKe
    have hins : insO R giv st en lk t a b c v (n + 1) j s = (match appO R giv st en lk s (t j) (a j) (b j) (c j) (v j) with
      | .inl z => Sum.inl z
      | .inr s1 => match redO R giv st en lk 142 s1 with
        | .inl z => Sum.inl z
        | .inr s2 => insO R giv st en lk t a b c v n (j + 1) s2) := rfl
    rw [hins] at hKs hKu hKe
    refine k_Machine_run_94 hrw.1 (by omega) ⟨by constructor <;> omega, by constructor <;> omega, fun _ => ⟨by decide, fun _ => ?_⟩, fun z => by omega⟩
    refine c_apply hW (by omega) hC hO hV (hI j (by omega) (by omega)) (fun s1 hs1 M1 X1 C1 O1 V1 => ⟨_, rfl, rfl, by decide, fun z => absurd rfl z, fun _ => ?_⟩) (fun z hz z0 zi M1 X1 C1 => ⟨_, rfl, rfl, zi, fun _ => ?_, fun w => absurd w z0⟩)
    · rw [hs1] at hKs hKu hKe
      dsimp only at hKs hKu hKe
      refine c_reduce hW (by omega) C1 O1 V1 (fun s2 hs2' M2 X2 C2 O2 V2 => ⟨_, rfl, rfl, ?_⟩) (fun z hz z0 zi M2 X2 C2 => ⟨_, rfl, rfl, ?_⟩)
      · rw [hs2'] at hKs hKu hKe
        dsimp only at hKs hKu hKe
        exact ih (j + 1) s2 M2 (by omega) (by omega) C2 O2 V2 (fun k k1 k2 => ((hI k (by omega) k2).xt X1).xt X2) (hX.trans (X1.trans X2).u) hKs hKu hKe
      · rw [hz] at hKe
        exact l_runE hrw (by omega) z0 zi (by constructor <;> omega) (by constructor <;> omega) (hKe z rfl z0 zi M2 (hX.trans (X1.trans X2).u) C2)
    · rw [hz] at hKe
      exact l_runE hrw (by omega) z0 zi (by constructor <;> omega) (by constructor <;> omega) (hKe z rfl z0 zi M1 (hX.trans X1.u) C1)
theorem c_run {M : im_M} {n0 : Nat} {i0 fr to least fl st0 en0 : Int} {s : TS} (hW : WFP R m) (hd : 116 ≤ d) (hn0 : n0 ≤ 1000) (hi0 : 0 ≤ i0 ∧ i0 ≤ 1000) (hrw : rwN e br nr) (hC : CT M e R m E giv st0 en0 lk fl s bs bp np) (hO : OT s) (hV : VN R m s) (hl : M bs 4 = least) (hl0 : 0 ≤ least ∧ least ≤ 1000000000000000) (hfi : im_i64 fr) (hti : im_i64 to) (hI : ∀ k, i0 ≤ k → k < i0 + n0 → IN M e bs br nr k (t k) (a k) (b k) (c k) (v k))
    (hKs : ∀ s', runO R giv lk fr to least t a b c v n0 i0 s = .inr s' → ∀ M', XU bs M M' → M' bs 4 = max fr least → CT M' e R m E giv (max fr least) to lk 0 s' bs bp np → OT s' → VN R m s' → K (.inl (some (vI 0))) e M')
    (hKe : ∀ z, runO R giv lk fr to least t a b c v n0 i0 s = .inl z → z ≠ 0 → im_i32 z → ∀ M' st' en', XU bs M M' → CX M' e R m E giv st' en' lk bs bp np → K (.inl (some (vI z))) e M') :
    im_T g d 109 0 [some (.ref 931), some (vL fr), none, some (vL to), none, some (.ref br), some (vI i0), some (vI n0), none, none, none] [] e M K := by
  obtain ⟨C1, X1⟩ := hC.pay0
  have hbs := hC.1.2.2.1
  have e4 : im_u (im_u M 1333 5 0) 1459 5 0 bs 4 = least := by rw [im_rdn _ _ _ _ (by omega), im_rdn _ _ _ _ (by omega)]; exact hl
  unfold runO at hKs hKe
  refine k_Machine_run_0 hrw.1 (by omega) ⟨hfi, hti, fun h1 h2 h3 => ⟨bs, hC.1.1.1, hC.1.2.1.1, ?_⟩, fun h => ?_⟩
  · rw [if_neg (by omega)] at hKs hKe
    rw [e4]
    refine ⟨fun hle => ⟨bs, hC.1.1.1, hC.1.2.1.1, ?_⟩, fun hlt => ?_⟩
    · rw [if_neg (by omega)] at hKs hKe
      have hmx : 0 ≤ max fr least ∧ max fr least ≤ 1000000000000000 := by omega
      generalize hst : max fr least = st at hKs hKe hmx ⊢
      obtain ⟨C2, X2⟩ := C1.std hmx (show 0 ≤ to ∧ to ≤ 1000000000000000 by omega)
      rw [e4, hst]
      refine k_Machine_stand_0 ⟨by constructor <;> omega, hti, rfl, rfl, ?_⟩
      refine ⟨bs, C2.1.1.1, C2.1.2.1.1, ?_⟩
      obtain ⟨C3, X3⟩ := C2.cpd 0
      have X03 := (X1.u.trans X2).trans X3.u
      have h5 : M bs 5 = s.nd := hC.2.2.2.1.2.2.2
      generalize im_u (im_u (im_u (im_u (im_u (im_u M 1333 5 0) 1459 5 0) 931 10 st) 931 11 to) 931 12 0) 931 13 0 = M3 at C3 X3 X03 ⊢
      have hO3 : OT s.fresh := hO
      have hV3 : VN R m s.fresh := hV
      have C3 : CT M3 e R m E giv st to lk 0 s.fresh bs bp np := C3
      have e5 : M3 bs 5 = s.nd := C3.2.2.2.1.2.2.2
      rw [e5]
      have hndi : im_i32 s.nd := by have := hV.1; have := hV.2.1; have := hW.2.1; constructor <;> omega
      refine c_reduce hW (by omega) C3 hO3 hV3 (fun s1 hs1 M4 X4 C4 O4 V4 => ⟨_, rfl, rfl, ?_⟩) (fun z hz z0 zi M4 X4 C4 => ⟨_, rfl, rfl, ?_⟩)
      · rw [hs1] at hKs hKe
        dsimp only at hKs hKe
        have X04 := X03.trans X4.u
        refine l_run (M0 := M) hW (by omega) hn0 hi0 hndi hrw n0 i0 s1 M4 rfl (Int.le_refl _) C4 O4 V4 (fun k k1 k2 => (hI k k1 k2).fr X04.1) X04 (fun s' hs' hu M' X' h4 C' O' V' => ?_) (fun s' hs' hu M' X' C' => ?_) (fun z hz z0 zi M' X' C' => ?_)
        · rw [hs'] at hKs
          dsimp only at hKs
          rw [if_neg hu] at hKs
          exact hKs s' rfl M' X' h4 C' O' V'
        · rw [hs'] at hKe
          dsimp only at hKe
          rw [if_pos hu] at hKe
          exact hKe (-6) rfl (by decide) (by decide) M' _ _ X' C'
        · rw [hz] at hKe
          exact hKe z rfl z0 zi M' _ _ X' C'
      · rw [hz] at hKe
        exact l_runE hrw (by omega) z0 zi (by constructor <;> omega) (by constructor <;> omega) (hKe z rfl z0 zi M4 _ _ (X03.trans X4.u) C4)
    · rw [if_pos (by omega)] at hKe
      exact hKe (-3) rfl (by decide) (by decide) _ _ _ X1.u ⟨_, _, C1⟩
  · rw [if_pos (by omega)] at hKe
    exact hKe (-2) rfl (by decide) (by decide) _ _ _ X1.u ⟨_, _, C1⟩
end CRUN
